/-! PURE PART: until a goal -/
def a_un (p : St → Bool) (d : Nat) : Nat → Nat → St → Nat
  | 0, _, _ => 61
  | k + 1, m, σ => if p σ = true then m else a_un p d k (m + 1) (a_go false d σ)
theorem a_un_s {p : St → Bool} {d k m : Nat} {σ : St} : a_un p d (k + 1) m σ = if p σ = true then m else a_un p d k (m + 1) (a_go false d σ) := rfl
theorem a_un_never {p : St → Bool} {d : Nat} : ∀ (k m : Nat) (σ : St), (∀ i, i < k → p (a_it d σ i) = false) → a_un p d k m σ = 61 := by
  intro k
  induction k with
  | zero => intro m σ _; rfl
  | succ k ih =>
    intro m σ h
    have h0 : p σ = false := h 0 (by omega)
    rw [a_un_s, h0]
    simp only [Bool.false_eq_true, if_false]
    exact ih (m + 1) _ (fun i hi => by rw [← a_it_s]; exact h (i + 1) (by omega))
theorem a_un_le {p : St → Bool} {d : Nat} : ∀ (k m : Nat) (σ : St), m + k ≤ 61 → a_un p d k m σ ≤ 61 := by
  intro k
  induction k with
  | zero => intro m σ _; exact Nat.le_refl _
  | succ k ih =>
    intro m σ h
    rw [a_un_s]
    split
    · omega
    · exact ih _ _ (by omega)
/-- a goal looks at kinds and at what is shown alone -/
def GP (p : St → Bool) : Prop := ∀ σ τ : St, τ 0 = σ 0 → σ 0 ≤ 9 → (∀ r, r < 9 → τ (6 + 6 * r) = σ (6 + 6 * r)) → (∀ r, r < 9 → τ (6 + 6 * r + 2) = σ (6 + 6 * r + 2)) → p τ = p σ
theorem a_tr_st {σ τ : St} {r : Nat} (e : τ (6 + 6 * r) = σ (6 + 6 * r)) : a_tr τ r = a_tr σ r := by unfold a_tr; rw [e]
theorem GP_dn {but : Nat → Bool} : GP (a_dn but) := by
  intro σ τ e0 hn ek es
  unfold a_dn
  rw [e0]
  congr 2
  apply pc_cg
  intro r hr
  rw [a_tr_st (ek r (by omega)), es r (by omega)]
theorem GP_ul : GP a_ul := by
  intro σ τ e0 hn ek es
  have e : ∀ c, a_sc c τ (σ 0) = a_sc c σ (σ 0) := by
    intro c
    unfold a_sc
    apply pc_cg
    intro r hr
    rw [a_tr_st (ek r (by omega)), es r (by omega)]
  unfold a_ul
  rw [e0, e 0, e 1]
theorem a_it_1 {d : Nat} {σ : St} (w : WF σ) (hm : σ 1 ≤ 2000) : ∀ m, m ≤ 1000 → WF (a_it d σ m) ∧ a_it d σ m 1 = σ 1 + m ∧ a_it d σ m 0 = σ 0 := by
  intro m
  induction m with
  | zero => intro _; exact ⟨w, rfl, rfl⟩
  | succ m ih =>
    intro h
    obtain ⟨g1, g2, g3⟩ := ih (by omega)
    refine ⟨a_go_w g1 (by omega), ?_, ?_⟩
    · show a_go false d (a_it d σ m) 1 = _
      rw [a_go_1 g1.n, g2]
      omega
    · show a_go false d (a_it d σ m) 0 = _
      rw [a_go_0 g1.n, g3]
theorem a_it_k {d : Nat} {σ : St} (w : WF σ) (hm : σ 1 ≤ 2000) {j : Nat} (h1 : j ≠ 1) (h2 : j ≠ 2) (hj : KA j) (hj2 : j < 141 ∨ 1761 ≤ j) : ∀ m, m ≤ 1000 → a_it d σ m j = σ j := by
  intro m
  induction m with
  | zero => intro _; rfl
  | succ m ih =>
    intro h
    show a_go false d (a_it d σ m) j = _
    rw [a_go_n (a_it_1 w hm m (by omega)).1.n h1 h2 hj hj2, ih (by omega)]
theorem a_it_z {d : Nat} {σ : St} (w : WF σ) (z : ZR σ) (hm : σ 1 ≤ 2000) : ∀ m, m ≤ 1000 → ZR (a_it d σ m) := by
  intro m
  induction m with
  | zero => intro _; exact z
  | succ m ih => intro h; exact a_go_z (ih (by omega)) (a_it_1 w hm m (by omega)).1.n
theorem NL.it {μ : Mem} {k d : Nat} {σ : St} (c : NL μ k σ) (w : WF σ) (hm : σ 1 ≤ 2000) {m : Nat} (h : m ≤ 1000) : NL μ k (a_it d σ m) :=
  c.st w.ru (a_it_k w hm (by omega) (by omega) KA3 (by omega) m h) (fun j h1 h2 => a_it_k w hm (by omega) (by omega) (by unfold KA; omega) (by omega) m h)
/-- once all true ones show, and alike, they never come apart -/
theorem done_stay {d : Nat} {σ : St} (w : WF σ) (hm : σ 1 ≤ 2000) (h : a_dn (fun _ => false) σ = true) : ∀ m, m ≤ 1000 → a_ul (a_it d σ m) = a_ul σ := by
  have hn := w.n
  have hd : ∀ r, r < σ 0 → a_tr σ r = true → σ (6 + 6 * r + 2) ≠ 2 := by
    intro r hr ht e
    unfold a_dn at h
    rw [decide_eq_true_eq] at h
    have := pc_0.mp h r hr
    rw [ht, e] at this
    simp at this
  intro m hm9
  have w1 := (a_it_1 (d := d) w hm m hm9).2.2
  have ek : ∀ r, r < 9 → a_it d σ m (6 + 6 * r) = σ (6 + 6 * r) := fun r hr => a_it_k w hm (by omega) (by omega) (by unfold KA; omega) (by omega) m hm9
  have es : ∀ r, r < σ 0 → a_tr σ r = true → a_it d σ m (6 + 6 * r + 2) = σ (6 + 6 * r + 2) := by
    intro r hr ht
    have : ∀ m, m ≤ 1000 → a_it d σ m (6 + 6 * r + 2) = σ (6 + 6 * r + 2) := by
      intro m
      induction m with
      | zero => intro _; rfl
      | succ m ih =>
        intro h9
        show a_go false d (a_it d σ m) _ = _
        rw [a_go_sh (a_it_1 w hm m (by omega)).1.n (by omega) (by rw [ih (by omega)]; exact hd r hr ht), ih (by omega)]
    exact this m hm9
  have e : ∀ c, a_sc c (a_it d σ m) (σ 0) = a_sc c σ (σ 0) := by
    intro c
    unfold a_sc
    apply pc_cg
    intro r hr
    rw [a_tr_st (ek r (by omega))]
    by_cases q : a_tr σ r = true
    · rw [es r hr q]
    · simp [q]
  unfold a_ul
  rw [w1, e 0, e 1]
/-- what is unlike stays so -/
theorem ul_stay {d : Nat} {σ : St} (w : WF σ) (h : a_ul σ = true) : a_ul (a_go false d σ) = true := by
  have hn := w.n
  have e : ∀ c, c < 2 → 0 < a_sc c σ (σ 0) → 0 < a_sc c (a_go false d σ) (σ 0) := by
    intro c hc q
    apply Nat.pos_of_ne_zero
    intro z
    have z' := pc_0.mp z
    have : a_sc c σ (σ 0) = 0 := by
      apply pc_0.mpr
      intro r hr
      have q2 := z' r hr
      rw [a_tr_st (a_go_k hn (by omega))] at q2
      by_cases e2 : σ (6 + 6 * r + 2) = c
      · rw [a_go_sh hn (by omega) (by omega)] at q2
        exact q2
      · simp [e2]
    omega
  unfold a_ul at h ⊢
  rw [Bool.and_eq_true, decide_eq_true_eq, decide_eq_true_eq] at h
  rw [Bool.and_eq_true, decide_eq_true_eq, decide_eq_true_eq, a_go_0 hn]
  exact ⟨e 0 (by omega) h.1, e 1 (by omega) h.2⟩
theorem ul_it {d : Nat} {σ : St} (w : WF σ) (hm : σ 1 ≤ 2000) {i : Nat} (h : a_ul (a_it d σ i) = true) : ∀ m, i ≤ m → m ≤ 1000 → a_ul (a_it d σ m) = true := by
  intro m
  induction m with
  | zero => intro h1 _; rw [show i = 0 by omega] at h; exact h
  | succ m ih =>
    intro h1 h2
    by_cases e : i = m + 1
    · rw [e] at h; exact h
    · exact ul_stay (a_it_1 w hm m (by omega)).1 (ih (by omega) (by omega))
theorem un_ul {d : Nat} {σ : St} (w : WF σ) (hm : σ 1 ≤ 2000) : (a_un a_ul d 61 0 σ = 61) ↔ a_ul (a_it d σ 60) = false := by
  have key : ∀ (k m : Nat), m + k = 61 → ((a_un a_ul d k m (a_it d σ m) = 61) ↔ (k = 0 ∨ a_ul (a_it d σ 60) = false)) := by
    intro k
    induction k with
    | zero => intro m _; simp [a_un]
    | succ k ih =>
      intro m hk
      rw [a_un_s]
      by_cases q : a_ul (a_it d σ m) = true
      · rw [if_pos q]
        have := ul_it w hm q 60 (by omega) (by omega)
        rw [this]
        simp
        omega
      · rw [if_neg q]
        have := ih (m + 1) (by omega)
        have e : a_go false d (a_it d σ m) = a_it d σ (m + 1) := rfl
        rw [e, this]
        by_cases k0 : k = 0
        · have : m = 60 := by omega
          subst this
          simp [k0, q]
        · simp [k0]
  have := key 61 0 (by omega)
  simpa [a_it] using this
/-! the class until a goal -/
theorem n6_until {μ : Mem} {k1 d h0 : Nat} {a2 a3 : Int32} {p : St → Bool} {σ : St} (gp : GP p) (c : NN μ 66 σ h0 d) (w : WF σ) (z : ZR σ) (hm : σ 1 ≤ 1000) (cl : NL μ k1 σ) (hk1 : k1 + 5 ≤ 66 ∨ 88 ≤ k1) (at_ : ∀ μ' h' τ, NN μ' 66 τ h' d → WF τ → FB 66 μ μ' → τ 0 = σ 0 → f_X6_isAt a2 a3 μ' = some (nI (if p τ = true then 1 else 0), μ')) (ul : a2 = nI 1 → p = a_ul) : ∃ μ', f_X6_until k1 a2 a3 μ = some (nI (a_un p d 61 0 σ), μ') ∧ FB 66 μ μ' := by
  unfold f_X6_until
  have L := lp_rel (fun n m (x : Mem) => f_X6_until_3 k1 a2 a3 n (nI m) x) (fun m x => (∃ h, NN x 66 (a_it d σ m) h d) ∧ FB 66 μ x ∧ a_un p d 61 0 σ = a_un p d (61 - m) m (a_it d σ m)) 61 (fun ρ : Int32 × Mem => ρ.1 = nI (a_un p d 61 0 σ) ∧ FB 66 μ ρ.2) ?_ ?_ zfu 0 μ (by omega) (by unfold zfu; omega) ⟨⟨h0, c⟩, FB.r, rfl⟩
  · obtain ⟨ρ, g1, g2, g3⟩ := L
    refine ⟨ρ.2, ?_, g3⟩
    rw [← g2]
    exact g1
  · intro n x ⟨_, g2, g3⟩
    refine ⟨(nI 61, x), ?_, by rw [g3]; rfl, g2⟩
    simp (disch := omega) only [f_X6_until_3, nI_add, pk_mul, nI_clamp, nI_eqE, nI_leE, nI_ltE, nI_eq0, nI_le0, nI_lt0, nI_ge0, nI_gt0, pk_rem, pk_sub, inb_t, gd_y, zl_e, bd_y, isB_n0, isB_n1, n0_eq, n1_eq, if_n0, if_n1, isB_if, not_true_eq_false, not_false_eq_true, ite_true, ite_false, Nat.le_refl, Nat.lt_irrefl]
    rw [if_pos (by omega)]
  · intro n m x hm61 ⟨⟨h, g1⟩, g2, g3⟩
    obtain ⟨wm, e1, e0⟩ := a_it_1 (d := d) w (by omega) m (by omega)
    have zm := a_it_z (d := d) w z (by omega) m (by omega)
    have ia := at_ x h _ g1 wm g2 e0
    have qe : ¬ 60 < m := by omega
    rw [show 61 - m = (60 - m) + 1 by omega, a_un_s (k := 60 - m) (m := m)] at g3
    by_cases q : p (a_it d σ m) = true
    · right
      refine ⟨(nI m, x), ?_, by rw [g3, if_pos q], g2⟩
      simp (disch := omega) only [f_X6_until_3, nI_add, pk_mul, nI_clamp, nI_eqE, nI_leE, nI_ltE, nI_eq0, nI_le0, nI_lt0, nI_ge0, nI_gt0, pk_rem, pk_sub, inb_t, gd_y, zl_e, bd_y, isB_n0, isB_n1, n0_eq, n1_eq, if_n0, if_n1, isB_if, not_true_eq_false, not_false_eq_true, ite_true, ite_false, Nat.le_refl, Nat.lt_irrefl, qe, ia, q, Nat.one_ne_zero]
    · rw [if_neg q] at g3
      obtain ⟨x1, p1, p2, p3, p4⟩ := n2_pass (lot := false) g1 wm zm (by omega) ((cl.fb g2 (by omega)).it w (by omega) (by omega)) (by omega)
      obtain ⟨v, s1, s2⟩ := n2_isStill p2 (a_go_w wm (by omega))
      simp only [Bool.false_eq_true, if_false] at p1
      -- behind the minute
      have fin : (∃ s', ((∃ h, NN s' 66 (a_it d σ (m + 1)) h d) ∧ FB 66 μ s' ∧ a_un p d 61 0 σ = a_un p d (61 - (m + 1)) (m + 1) (a_it d σ (m + 1))) ∧ f_X6_until_41 k1 a2 a3 (fun x4 μ => f_X6_until_3 k1 a2 a3 n x4 μ) (nI m) x = f_X6_until_3 k1 a2 a3 n (nI (m + 1)) s') ∨ (∃ r : Int32 × Mem, f_X6_until_41 k1 a2 a3 (fun x4 μ => f_X6_until_3 k1 a2 a3 n x4 μ) (nI m) x = some r ∧ (r.1 = nI (a_un p d 61 0 σ) ∧ FB 66 μ r.2)) := by
        rcases s2 with s2 | ⟨s2, s3, s4, s5⟩
        · left
          refine ⟨x1, ⟨⟨_, p2⟩, g2.t p3, ?_⟩, ?_⟩
          · rw [show 61 - (m + 1) = 60 - m by omega]; exact g3
          · subst s2
            simp (disch := omega) only [f_X6_until_41, nI_add, pk_mul, nI_clamp, nI_eqE, nI_leE, nI_ltE, nI_eq0, nI_le0, nI_lt0, nI_ge0, nI_gt0, pk_rem, pk_sub, inb_t, gd_y, zl_e, bd_y, isB_n0, isB_n1, n0_eq, n1_eq, if_n0, if_n1, isB_if, not_true_eq_false, not_false_eq_true, ite_true, ite_false, Nat.le_refl, Nat.lt_irrefl, p1, s1]
        · right
          refine ⟨(nI 61, x1), ?_, ?_, g2.t p3⟩
          · subst s2
            simp (disch := omega) only [f_X6_until_41, nI_add, pk_mul, nI_clamp, nI_eqE, nI_leE, nI_ltE, nI_eq0, nI_le0, nI_lt0, nI_ge0, nI_gt0, pk_rem, pk_sub, inb_t, gd_y, zl_e, bd_y, isB_n0, isB_n1, n0_eq, n1_eq, if_n0, if_n1, isB_if, not_true_eq_false, not_false_eq_true, ite_true, ite_false, Nat.le_refl, Nat.lt_irrefl, p1, s1, Nat.one_ne_zero]
          · have hn9 := wm.n
            rcases p4 with p4 | ⟨p4, p5, p6⟩
            · rw [p4] at s3
              exact absurd s3 (by rw [n1_eq]; exact id)
            · have qt := quiet wm (by omega) p6 p5 (by
                intro r hr
                have := s4 r (by rw [a_go_0 wm.n]; exact hr)
                rw [a_go_n wm.n (by omega) (by omega) (by unfold KA; omega) (by omega), a_go_n wm.n (by omega) (by omega) (by unfold KA; omega) (by omega), a_go_1 wm.n] at this
                exact this) s5
              show nI 61 = _
              rw [g3, a_un_never]
              intro i hi
              have hp : ∀ τ : St, (∀ j, j ≠ 1 → τ j = a_go false d (a_it d σ m) j) → p τ = false := by
                intro τ ht
                have hs : ∀ r, r < 9 → a_go false d (a_it d σ m) (6 + 6 * r + 2) = a_it d σ m (6 + 6 * r + 2) := by
                  intro r hr
                  rw [a_go_a (by omega) (by omega), p6]
                  exact a_hr_o (by omega)
                have := gp (a_it d σ m) τ (by rw [ht 0 (by omega), a_go_0 wm.n]) wm.n (fun r hr => by rw [ht _ (by omega), a_go_k wm.n hr]) (fun r hr => by rw [ht _ (by omega), hs r hr])
                rw [this]
                simpa using q
              rw [qt i (by omega)]
              exact hp _ (fun j hj => nu_n hj)
      by_cases u : a2 = nI 1
      · have dn := n2_isDone (y := nI 0) g1 wm
        have be : bt (nI 0) = fun _ => false := funext (fun f => bt_0 f)
        rw [be] at dn
        rw [u] at ia
        by_cases dd : a_dn (fun _ => false) (a_it d σ m) = true
        · right
          refine ⟨(nI 61, x), ?_, ?_, g2⟩
          · simp (disch := omega) only [f_X6_until_3, nI_add, pk_mul, nI_clamp, nI_eqE, nI_leE, nI_ltE, nI_eq0, nI_le0, nI_lt0, nI_ge0, nI_gt0, pk_rem, pk_sub, inb_t, gd_y, zl_e, bd_y, isB_n0, isB_n1, n0_eq, n1_eq, if_n0, if_n1, isB_if, not_true_eq_false, not_false_eq_true, ite_true, ite_false, Nat.le_refl, Nat.lt_irrefl, qe, ia, q, Bool.false_eq_true, u, dn, dd, Nat.one_ne_zero]
          · show nI 61 = _
            rw [g3, a_un_never]
            intro i hi
            have pu := ul u
            subst pu
            have st := done_stay (d := d) wm (by omega) dd (i + 1) (by omega)
            rw [a_it_s] at st
            rw [st]
            simpa using q
        · simp (disch := omega) only [f_X6_until_3, nI_add, pk_mul, nI_clamp, nI_eqE, nI_leE, nI_ltE, nI_eq0, nI_le0, nI_lt0, nI_ge0, nI_gt0, pk_rem, pk_sub, inb_t, gd_y, zl_e, bd_y, isB_n0, isB_n1, n0_eq, n1_eq, if_n0, if_n1, isB_if, not_true_eq_false, not_false_eq_true, ite_true, ite_false, Nat.le_refl, Nat.lt_irrefl, qe, ia, q, Bool.false_eq_true, u, dn, dd]
          rw [u] at fin
          exact fin
      · simp (disch := omega) only [f_X6_until_3, nI_add, pk_mul, nI_clamp, nI_eqE, nI_leE, nI_ltE, nI_eq0, nI_le0, nI_lt0, nI_ge0, nI_gt0, pk_rem, pk_sub, inb_t, gd_y, zl_e, bd_y, isB_n0, isB_n1, n0_eq, n1_eq, if_n0, if_n1, isB_if, not_true_eq_false, not_false_eq_true, ite_true, ite_false, Nat.le_refl, Nat.lt_irrefl, qe, ia, q, Bool.false_eq_true, u]
        exact fin
