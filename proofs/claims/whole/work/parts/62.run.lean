/-! PURE PART: runs of the class; the reference's trials -/
theorem n6_run {μ : Mem} {k1 h0 n : Nat} {σ : St} (c : NN μ 2 σ h0 9) (w : WF σ) (z : ZR σ) (hb : isB (μ.1 2 6) = true) (hm : σ 1 ≤ 1000) (cl : NL μ k1 σ) (hk1 : k1 + 5 ≤ 66 ∨ 88 ≤ k1) (hn60 : n ≤ 60) : ∃ μ' τ h, f_X6_run k1 (nI n) μ = some μ' ∧ NN μ' 66 τ h 9 ∧ (∀ j, j ≠ 1 → τ j = a_it 9 σ n j) ∧ WF τ ∧ FB 66 μ μ' := by
  obtain ⟨x0, g1, g2, g3, g4⟩ := n6_begin (x := nI 0) c w hb
  rw [a_lr_z] at g2
  unfold f_X6_run
  rw [g1, bd_y]
  have L := lp_rel (fun f m (x : Mem) => f_X6_run_7 k1 (nI n) f (nI m) x) (fun m x => (∃ h, NN x 66 (a_it 9 σ m) h 9) ∧ FB 66 μ x) n (fun x => ∃ τ h, NN x 66 τ h 9 ∧ (∀ j, j ≠ 1 → τ j = a_it 9 σ n j) ∧ WF τ ∧ FB 66 μ x) ?_ ?_ zfu 0 x0 (by omega) (by unfold zfu; omega) ⟨⟨_, g2⟩, g3⟩
  · obtain ⟨x, q1, τ, h, q2, q3, q4, q5⟩ := L
    exact ⟨x, τ, h, q1, q2, q3, q4, q5⟩
  · intro f x ⟨⟨h, q1⟩, q2⟩
    refine ⟨x, ?_, _, h, q1, fun _ _ => rfl, (a_it_1 w (by omega) n (by omega)).1, q2⟩
    simp (disch := omega) only [f_X6_run_7, nI_add, pk_mul, nI_clamp, nI_eqE, nI_leE, nI_ltE, nI_eq0, nI_le0, nI_lt0, nI_ge0, nI_gt0, pk_rem, pk_sub, inb_t, gd_y, zl_e, bd_y, isB_n0, isB_n1, n0_eq, n1_eq, if_n0, if_n1, isB_if, not_true_eq_false, not_false_eq_true, ite_true, ite_false, Nat.le_refl, Nat.lt_irrefl]
  · intro f m x hmn ⟨⟨h, q1⟩, q2⟩
    obtain ⟨wm, e1, e0⟩ := a_it_1 (d := 9) w (by omega) m (by omega)
    have zm := a_it_z (d := 9) w z (by omega) m (by omega)
    have qe : ¬ n ≤ m := by omega
    obtain ⟨x1, p1, p2, p3, p4⟩ := n2_pass (lot := false) q1 wm zm (by omega) ((cl.fb q2 (by omega)).it w (by omega) (by omega)) (by omega)
    obtain ⟨v, s1, s2⟩ := n2_isStill p2 (a_go_w wm (by omega))
    simp only [Bool.false_eq_true, if_false] at p1
    rcases s2 with s2 | ⟨s2, s3, s4, s5⟩
    · left
      refine ⟨x1, ⟨⟨_, p2⟩, q2.t p3⟩, ?_⟩
      subst s2
      simp (disch := omega) only [f_X6_run_7, nI_add, pk_mul, nI_clamp, nI_eqE, nI_leE, nI_ltE, nI_eq0, nI_le0, nI_lt0, nI_ge0, nI_gt0, pk_rem, pk_sub, inb_t, gd_y, zl_e, bd_y, isB_n0, isB_n1, n0_eq, n1_eq, if_n0, if_n1, isB_if, not_true_eq_false, not_false_eq_true, ite_true, ite_false, Nat.le_refl, Nat.lt_irrefl, qe, p1, s1]
    · right
      refine ⟨x1, ?_, a_go false 9 (a_it 9 σ m), _, p2, ?_, a_go_w wm (by omega), q2.t p3⟩
      · subst s2
        simp (disch := omega) only [f_X6_run_7, nI_add, pk_mul, nI_clamp, nI_eqE, nI_leE, nI_ltE, nI_eq0, nI_le0, nI_lt0, nI_ge0, nI_gt0, pk_rem, pk_sub, inb_t, gd_y, zl_e, bd_y, isB_n0, isB_n1, n0_eq, n1_eq, if_n0, if_n1, isB_if, not_true_eq_false, not_false_eq_true, ite_true, ite_false, Nat.le_refl, Nat.lt_irrefl, qe, p1, s1, Nat.one_ne_zero]
      · have hn9 := wm.n
        rcases p4 with p4 | ⟨p4, p5, p6⟩
        · rw [p4] at s3
          exact absurd s3 (by rw [n1_eq]; exact id)
        · have qt := quiet wm (by omega) p6 p5 (by
            intro r hr
            have := s4 r (by rw [a_go_0 wm.n]; exact hr)
            rw [a_go_n wm.n (by omega) (by omega) (by unfold KA; omega) (by omega), a_go_n wm.n (by omega) (by omega) (by unfold KA; omega) (by omega), a_go_1 wm.n] at this
            exact this) s5
          have e : ∀ i, a_it 9 σ (m + 1 + i) = a_it 9 (a_go false 9 (a_it 9 σ m)) i := by
            intro i
            induction i with
            | zero => rfl
            | succ i ih => show a_go false 9 (a_it 9 σ (m + 1 + i)) = a_go false 9 (a_it 9 (a_go false 9 (a_it 9 σ m)) i); rw [ih]
          intro j hj
          rw [show n = m + 1 + (n - (m + 1)) by omega, e, qt _ (by omega), nu_n hj]
/-! goals of the class -/
theorem at_done {μ : Mem} {h d : Nat} {y : Int32} {τ : St} (c : NN μ 66 τ h d) (w : WF τ) : f_X6_isAt (nI 0) y μ = some (nI (if a_dn (bt y) τ = true then 1 else 0), μ) := by
  unfold f_X6_isAt
  rw [if_pos rfl, n2_isDone c w, bd_y, isB_if, gd_y]
theorem at_ul {μ : Mem} {h d : Nat} {y : Int32} {τ : St} (c : NN μ 66 τ h d) (w : WF τ) : f_X6_isAt (nI 1) y μ = some (nI (if a_ul τ = true then 1 else 0), μ) := by
  unfold f_X6_isAt
  rw [if_neg (by rw [nI_eqE (by omega) (by omega)]; omega), if_pos rfl, n2_isUnlike c w, bd_y, isB_if, gd_y]
def a_sa (it : Nat → Int64) (σ : St) : Bool := decide (pc (fun r => !decide (it r = (nI (σ (6 + 6 * r + 2))).toInt64)) (σ 0) = 0)
theorem GP_sa {it : Nat → Int64} : GP (a_sa it) := by
  intro σ τ e0 hn ek es
  unfold a_sa
  rw [e0]
  congr 2
  apply pc_cg
  intro r hr
  rw [es r (by omega)]
theorem lg_0 {x y : Int64} : (lg_cmp x y = 0) = (x = y) := propext (lg_cmp_eq x y)
theorem n2_showsAs {μ : Mem} {b k h d from_ : Nat} {σ : St} (c : NN μ b σ h d) (w : WF σ) (hf : from_ + σ 0 ≤ 24) : f_X2_showsAs b k (nI from_) μ = some (nI (if a_sa (fun r => μ.2 k (from_ + r)) σ = true then 1 else 0), μ) := by
  have hn := w.n
  unfold f_X2_showsAs
  have L := lp_rel (fun n i (_ : Unit) => f_X2_showsAs_2 b k (nI from_) n (nI i) μ) (fun i _ => ∀ r, r < i → μ.2 k (from_ + r) = (nI (σ (6 + 6 * r + 2))).toInt64) (σ 0) (fun ρ : Int32 × Mem => ρ = (nI (if a_sa (fun r => μ.2 k (from_ + r)) σ = true then 1 else 0), μ)) ?_ ?_ zfu 0 () (by omega) (by unfold zfu; omega) (fun r hr => absurd hr (by omega))
  · obtain ⟨ρ, g1, g2⟩ := L
    rw [g1, g2]
  · intro n _ g
    refine ⟨_, ?_, rfl⟩
    have e : a_sa (fun r => μ.2 k (from_ + r)) σ = true := by
      unfold a_sa
      rw [decide_eq_true_eq]
      exact pc_0.mpr (fun r hr => by simp [g r hr])
    rw [e]
    simp (disch := omega) only [f_X2_showsAs_2, nI_add, pk_mul, nI_clamp, nI_eqE, nI_leE, nI_ltE, nI_eq0, nI_le0, nI_lt0, nI_ge0, nI_gt0, pk_rem, pk_sub, inb_t, gd_y, zl_e, bd_y, isB_n0, isB_n1, n0_eq, n1_eq, if_n0, if_n1, isB_if, not_true_eq_false, not_false_eq_true, ite_true, ite_false, Nat.le_refl, Nat.lt_irrefl, c.n]
  · intro n i _ hi g
    have qe : ¬ σ 0 ≤ i := by omega
    by_cases e : μ.2 k (from_ + i) = (nI (σ (6 + 6 * i + 2))).toInt64
    · left
      refine ⟨(), fun r hr => ?_, ?_⟩
      · by_cases er : r < i
        · exact g r er
        · rw [show r = i by omega]; exact e
      · simp (disch := omega) only [f_X2_showsAs_2, nI_add, pk_mul, nI_clamp, nI_eqE, nI_leE, nI_ltE, nI_eq0, nI_le0, nI_lt0, nI_ge0, nI_gt0, pk_rem, pk_sub, inb_t, gd_y, zl_e, bd_y, isB_n0, isB_n1, n0_eq, n1_eq, if_n0, if_n1, isB_if, not_true_eq_false, not_false_eq_true, ite_true, ite_false, Nat.le_refl, Nat.lt_irrefl, c.n, qe, c.2.1.2.1 i hi, lg_0, e]
    · right
      refine ⟨_, ?_, rfl⟩
      have q : a_sa (fun r => μ.2 k (from_ + r)) σ = false := by
        unfold a_sa
        rw [decide_eq_false_iff_not]
        intro z
        have := pc_0.mp z i hi
        simp at this
        exact e this
      rw [q]
      simp (disch := omega) only [f_X2_showsAs_2, nI_add, pk_mul, nI_clamp, nI_eqE, nI_leE, nI_ltE, nI_eq0, nI_le0, nI_lt0, nI_ge0, nI_gt0, pk_rem, pk_sub, inb_t, gd_y, zl_e, bd_y, isB_n0, isB_n1, n0_eq, n1_eq, if_n0, if_n1, isB_if, not_true_eq_false, not_false_eq_true, ite_true, ite_false, Nat.le_refl, Nat.lt_irrefl, c.n, qe, c.2.1.2.1 i hi, lg_0, e, Bool.false_eq_true]
/-! the reference's trials -/
theorem sI_sA {μ : Mem} {k j : Nat} {f : Nat → Int32} {v : Int32} : sI (sA μ k f) k j v = sA μ k (upd f j v) := by
  unfold sI
  rw [rdA_s]
  unfold sA
  refine Prod.ext ?_ rfl
  funext a b
  by_cases ha : a = k <;> simp [va_up, ha]
theorem sA_self {μ : Mem} {k : Nat} : sA μ k (μ.1 k) = μ := by
  unfold sA
  refine Prod.ext ?_ rfl
  funext a b
  by_cases ha : a = k <;> simp [va_up, ha]
theorem e8_copies {μ : Mem} {k0 k1 : Nat} {σ : St} (h : RR μ k0 σ) (hne : k0 ≠ k1) : f_X8_copies k0 k1 μ = some (rM μ k1 σ) := by
  unfold f_X8_copies
  refine Eq.trans ?_ (lp_eq (fun n i => f_X8_copies_2 k0 k1 n (nI i) (sA μ k1 (fun j => if j < i then nI (σ j) else μ.1 k1 j))) 1829 _ ?_ ?_ zfu 0 (by omega) (by unfold zfu; omega))
  · have : (fun j => if j < 0 then nI (σ j) else μ.1 k1 j) = μ.1 k1 := by funext j; simp
    simp only [this, sA_self]
  · intro n
    simp (disch := omega) only [f_X8_copies_2, nI_add, pk_mul, nI_clamp, nI_eqE, nI_leE, nI_ltE, nI_eq0, nI_le0, nI_lt0, nI_ge0, nI_gt0, pk_rem, pk_sub, inb_t, gd_y, zl_e, bd_y, isB_n0, isB_n1, n0_eq, n1_eq, if_n0, if_n1, isB_if, not_true_eq_false, not_false_eq_true, ite_true, ite_false, Nat.le_refl, Nat.lt_irrefl]
    rfl
  · intro n i hi
    have qe : ¬ 1829 ≤ i := by omega
    have e : upd (fun j => if j < i then nI (σ j) else μ.1 k1 j) i (nI (σ i)) = fun j => if j < i + 1 then nI (σ j) else μ.1 k1 j := by
      funext j
      unfold upd
      by_cases e1 : j = i
      · subst e1; simp
      · by_cases e2 : j < i
        · simp [e1, e2, show j < i + 1 by omega]
        · simp [e1, e2, show ¬ j < i + 1 by omega]
    simp (disch := omega) only [f_X8_copies_2, nI_add, pk_mul, nI_clamp, nI_eqE, nI_leE, nI_ltE, nI_eq0, nI_le0, nI_lt0, nI_ge0, nI_gt0, pk_rem, pk_sub, inb_t, gd_y, zl_e, bd_y, isB_n0, isB_n1, n0_eq, n1_eq, if_n0, if_n1, isB_if, not_true_eq_false, not_false_eq_true, ite_true, ite_false, Nat.le_refl, Nat.lt_irrefl, qe, rdA_k, h i hi, sI_sA, e]
theorem e8_go {μ : Mem} {d : Nat} {c : Int32} {σ : St} (hL : L16 μ false) (hD : D17 μ d) (w : WF σ) : f_X8_goes 116 (rM (sI μ 113 18 c) 116 σ) = some (rM (sI μ 113 18 (nI (a_act false d σ).2)) 116 (a_go false d σ)) := by
  rw [e8_goes (by omega) hL.s hD.s w, sI_sI]
theorem e8_tries {μ : Mem} {k1 d n : Nat} {σ : St} (h : RR μ k1 σ) (h1 : k1 ≠ 116) (w : WF σ) (hm : σ 1 ≤ 1000) (hL : L16 μ false) (hD : D17 μ d) (hn : n ≤ 60) : ∃ c, f_X8_tries k1 (nI n) μ = some (rM (sI μ 113 18 c) 116 (a_it d σ n)) := by
  unfold f_X8_tries
  rw [e8_copies h h1, bd_y]
  have L := lp_rel (fun f m (x : Mem) => f_X8_tries_10 k1 (nI n) f (nI m) x) (fun m x => ∃ c, x = rM (sI μ 113 18 c) 116 (a_it d σ m)) n (fun x => ∃ c, x = rM (sI μ 113 18 c) 116 (a_it d σ n)) ?_ ?_ zfu 0 (rM μ 116 σ) (by omega) (by unfold zfu; omega) ⟨μ.1 113 18, congrArg (fun m => rM m 116 σ) (sI_id rfl).symm⟩
  · obtain ⟨x, g1, c, g2⟩ := L
    exact ⟨c, by rw [g1, g2]⟩
  · intro f x g
    refine ⟨x, ?_, g⟩
    simp (disch := omega) only [f_X8_tries_10, nI_add, pk_mul, nI_clamp, nI_eqE, nI_leE, nI_ltE, nI_eq0, nI_le0, nI_lt0, nI_ge0, nI_gt0, pk_rem, pk_sub, inb_t, gd_y, zl_e, bd_y, isB_n0, isB_n1, n0_eq, n1_eq, if_n0, if_n1, isB_if, not_true_eq_false, not_false_eq_true, ite_true, ite_false, Nat.le_refl, Nat.lt_irrefl]
  · intro f m x hmn ⟨c, g⟩
    left
    subst g
    have qe : ¬ n ≤ m := by omega
    refine ⟨_, ⟨nI (a_act false d (a_it d σ m)).2, rfl⟩, ?_⟩
    simp (disch := omega) only [f_X8_tries_10, nI_add, pk_mul, nI_clamp, nI_eqE, nI_leE, nI_ltE, nI_eq0, nI_le0, nI_lt0, nI_ge0, nI_gt0, pk_rem, pk_sub, inb_t, gd_y, zl_e, bd_y, isB_n0, isB_n1, n0_eq, n1_eq, if_n0, if_n1, isB_if, not_true_eq_false, not_false_eq_true, ite_true, ite_false, Nat.le_refl, Nat.lt_irrefl, qe, e8_go hL hD (a_it_1 w (by omega) m (by omega)).1]
    rfl
theorem e8_doneBy {μ : Mem} {k1 d : Nat} {y : Int32} {but : Nat → Bool} {σ : St} (h : RR μ k1 σ) (h1 : k1 ≠ 116) (w : WF σ) (hm : σ 1 ≤ 1000) (hL : L16 μ false) (hD : D17 μ d) (hb : ∀ r, r < 9 → (nI r = y) = (but r = true)) : ∃ c τ, f_X8_doneBy k1 y μ = some (nI (a_un (a_dn but) d 61 0 σ), rM (sI μ 113 18 c) 116 τ) := by
  unfold f_X8_doneBy
  rw [e8_copies h h1, bd_y]
  have L := lp_rel (fun f m (x : Mem) => f_X8_doneBy_10 k1 y f (nI m) x) (fun m x => (∃ c, x = rM (sI μ 113 18 c) 116 (a_it d σ m)) ∧ a_un (a_dn but) d 61 0 σ = a_un (a_dn but) d (61 - m) m (a_it d σ m)) 61 (fun ρ : Int32 × Mem => ρ.1 = nI (a_un (a_dn but) d 61 0 σ) ∧ ∃ c τ, ρ.2 = rM (sI μ 113 18 c) 116 τ) ?_ ?_ zfu 0 (rM μ 116 σ) (by omega) (by unfold zfu; omega) ⟨⟨μ.1 113 18, congrArg (fun m => rM m 116 σ) (sI_id rfl).symm⟩, rfl⟩
  · obtain ⟨ρ, g1, g2, c, τ, g3⟩ := L
    exact ⟨c, τ, by rw [g1, ← g2, ← g3]⟩
  · intro f x ⟨⟨c, g1⟩, g2⟩
    refine ⟨(nI 61, x), ?_, by rw [g2]; rfl, c, _, g1⟩
    simp (disch := omega) only [f_X8_doneBy_10, nI_add, pk_mul, nI_clamp, nI_eqE, nI_leE, nI_ltE, nI_eq0, nI_le0, nI_lt0, nI_ge0, nI_gt0, pk_rem, pk_sub, inb_t, gd_y, zl_e, bd_y, isB_n0, isB_n1, n0_eq, n1_eq, if_n0, if_n1, isB_if, not_true_eq_false, not_false_eq_true, ite_true, ite_false, Nat.le_refl, Nat.lt_irrefl]
  · intro f m x hm61 ⟨⟨c, g1⟩, g2⟩
    subst g1
    have qe : ¬ 61 ≤ m := by omega
    have wm := (a_it_1 (d := d) w (by omega) m (by omega)).1
    rw [show 61 - m = (60 - m) + 1 by omega, a_un_s (k := 60 - m) (m := m)] at g2
    by_cases q : a_dn but (a_it d σ m) = true
    · right
      refine ⟨(nI m, rM (sI μ 113 18 c) 116 (a_it d σ m)), ?_, by rw [g2, if_pos q], c, a_it d σ m, rfl⟩
      simp (disch := omega) only [f_X8_doneBy_10, nI_add, pk_mul, nI_clamp, nI_eqE, nI_leE, nI_ltE, nI_eq0, nI_le0, nI_lt0, nI_ge0, nI_gt0, pk_rem, pk_sub, inb_t, gd_y, zl_e, bd_y, isB_n0, isB_n1, n0_eq, n1_eq, if_n0, if_n1, isB_if, not_true_eq_false, not_false_eq_true, ite_true, ite_false, Nat.le_refl, Nat.lt_irrefl, qe, e8_isDone wm hb, q, Nat.one_ne_zero]
    · left
      rw [if_neg q] at g2
      refine ⟨_, ⟨⟨nI (a_act false d (a_it d σ m)).2, rfl⟩, ?_⟩, ?_⟩
      · rw [show 61 - (m + 1) = 60 - m by omega]; exact g2
      · simp (disch := omega) only [f_X8_doneBy_10, nI_add, pk_mul, nI_clamp, nI_eqE, nI_leE, nI_ltE, nI_eq0, nI_le0, nI_lt0, nI_ge0, nI_gt0, pk_rem, pk_sub, inb_t, gd_y, zl_e, bd_y, isB_n0, isB_n1, n0_eq, n1_eq, if_n0, if_n1, isB_if, not_true_eq_false, not_false_eq_true, ite_true, ite_false, Nat.le_refl, Nat.lt_irrefl, qe, e8_isDone wm hb, q, Bool.false_eq_true, e8_go hL hD wm]
        rfl
theorem e8_whenU {μ : Mem} {d : Nat} {y : Int32} {σ : St} (h : RR μ 114 σ) (w : WF σ) (hm : σ 1 ≤ 1000) (hL : L16 μ false) (hD : D17 μ d) : ∃ c τ, (Option.bind (f_X8_copies 114 116 μ) fun p => f_X8_when_57 y zfu (nI 0) p) = some (if a_un a_ul d 61 0 σ = 61 then -4 else nI (a_un a_ul d 61 0 σ), rM (sI μ 113 18 c) 116 τ) := by
  rw [e8_copies h (by omega), bd_y]
  have L := lp_rel (fun f m (x : Mem) => f_X8_when_57 y f (nI m) x) (fun m x => (∃ c, x = rM (sI μ 113 18 c) 116 (a_it d σ m)) ∧ a_un a_ul d 61 0 σ = a_un a_ul d (61 - m) m (a_it d σ m)) 61 (fun ρ : Int32 × Mem => ρ.1 = (if a_un a_ul d 61 0 σ = 61 then -4 else nI (a_un a_ul d 61 0 σ)) ∧ ∃ c τ, ρ.2 = rM (sI μ 113 18 c) 116 τ) ?_ ?_ zfu 0 (rM μ 116 σ) (by omega) (by unfold zfu; omega) ⟨⟨μ.1 113 18, congrArg (fun m => rM m 116 σ) (sI_id rfl).symm⟩, rfl⟩
  · obtain ⟨ρ, g1, g2, c, τ, g3⟩ := L
    exact ⟨c, τ, by rw [g1, ← g2, ← g3]⟩
  · intro f x ⟨⟨c, g1⟩, g2⟩
    refine ⟨(-4, x), ?_, by rw [g2]; rfl, c, _, g1⟩
    simp (disch := omega) only [f_X8_when_57, nI_add, pk_mul, nI_clamp, nI_eqE, nI_leE, nI_ltE, nI_eq0, nI_le0, nI_lt0, nI_ge0, nI_gt0, pk_rem, pk_sub, inb_t, gd_y, zl_e, bd_y, isB_n0, isB_n1, n0_eq, n1_eq, if_n0, if_n1, isB_if, not_true_eq_false, not_false_eq_true, ite_true, ite_false, Nat.le_refl, Nat.lt_irrefl]
  · intro f m x hm61 ⟨⟨c, g1⟩, g2⟩
    subst g1
    have qe : ¬ 61 ≤ m := by omega
    have wm := (a_it_1 (d := d) w (by omega) m (by omega)).1
    rw [show 61 - m = (60 - m) + 1 by omega, a_un_s (k := 60 - m) (m := m)] at g2
    by_cases q : a_ul (a_it d σ m) = true
    · right
      refine ⟨(nI m, rM (sI μ 113 18 c) 116 (a_it d σ m)), ?_, ?_, c, a_it d σ m, rfl⟩
      · simp (disch := omega) only [f_X8_when_57, nI_add, pk_mul, nI_clamp, nI_eqE, nI_leE, nI_ltE, nI_eq0, nI_le0, nI_lt0, nI_ge0, nI_gt0, pk_rem, pk_sub, inb_t, gd_y, zl_e, bd_y, isB_n0, isB_n1, n0_eq, n1_eq, if_n0, if_n1, isB_if, not_true_eq_false, not_false_eq_true, ite_true, ite_false, Nat.le_refl, Nat.lt_irrefl, qe, e8_isUnlike wm, q, Nat.one_ne_zero]
      · rw [g2, if_pos q, if_neg (by omega)]
    · left
      rw [if_neg q] at g2
      refine ⟨_, ⟨⟨nI (a_act false d (a_it d σ m)).2, rfl⟩, ?_⟩, ?_⟩
      · rw [show 61 - (m + 1) = 60 - m by omega]; exact g2
      · simp (disch := omega) only [f_X8_when_57, nI_add, pk_mul, nI_clamp, nI_eqE, nI_leE, nI_ltE, nI_eq0, nI_le0, nI_lt0, nI_ge0, nI_gt0, pk_rem, pk_sub, inb_t, gd_y, zl_e, bd_y, isB_n0, isB_n1, n0_eq, n1_eq, if_n0, if_n1, isB_if, not_true_eq_false, not_false_eq_true, ite_true, ite_false, Nat.le_refl, Nat.lt_irrefl, qe, e8_isUnlike wm, q, Bool.false_eq_true, e8_go hL hD wm]
        rfl
theorem sh1 {x : Int32} {r : Nat} (hr : r < 32) : ((x >>> (nI r &&& 31)) &&& nI 1 = nI 1) = (bt x r = true) := by
  rw [bt_sh x hr, if_n1]
theorem e8_holdsBy {μ : Mem} {k1 d : Nat} {x : Int32} {σ : St} (h : RR μ k1 σ) (h1 : k1 ≠ 116) (w : WF σ) (hm : σ 1 ≤ 1000) (hL : L16 μ false) (hD : D17 μ d) : ∃ c τ, f_X8_holdsBy k1 x μ = some (nI (if a_un a_ul d 61 0 (a_lr x σ (σ 0)) = 61 then 1 else 0), rM (sI μ 113 18 c) 116 τ) := by
  have hn := w.n
  unfold f_X8_holdsBy
  rw [e8_copies h h1, bd_y]
  have wl := a_lr_w (x := x) (i := σ 0) w hn
  have m1 : a_lr x σ (σ 0) 1 = σ 1 := a_lr_n (by omega)
  have e : f_X8_holdsBy_10 k1 x (fun μ => f_X8_holdsBy_63 k1 x μ) zfu (nI 0) (rM μ 116 σ) = f_X8_holdsBy_63 k1 x (rM μ 116 (a_lr x σ (σ 0))) := by
    refine Eq.trans ?_ (lp_eq (fun f i => f_X8_holdsBy_10 k1 x (fun μ => f_X8_holdsBy_63 k1 x μ) f (nI i) (rM μ 116 (a_lr x σ i))) (σ 0) _ ?_ ?_ zfu 0 (by omega) (by unfold zfu; omega))
    · simp only [a_lr_0]
    · intro f
      have e0 : a_lr x σ (σ 0) 0 = σ 0 := a_lr_n (by omega)
      simp (disch := omega) only [f_X8_holdsBy_10, nI_add, pk_mul, nI_clamp, nI_eqE, nI_leE, nI_ltE, nI_eq0, nI_le0, nI_lt0, nI_ge0, nI_gt0, pk_rem, pk_sub, inb_t, gd_y, zl_e, bd_y, isB_n0, isB_n1, n0_eq, n1_eq, if_n0, if_n1, isB_if, not_true_eq_false, not_false_eq_true, ite_true, ite_false, Nat.le_refl, Nat.lt_irrefl, rM_r, rM_k, rM_w, rM_c, rM_2, rd_s, rd_j, rd_k, sI_sI, e0]
    · intro f i hi
      have e0 : a_lr x σ i 0 = σ 0 := a_lr_n (by omega)
      have qe : ¬ σ 0 ≤ i := by omega
      rw [a_lr_s]
      simp (disch := omega) only [f_X8_holdsBy_10, f_X8_holdsBy_56, nI_add, pk_mul, nI_clamp, nI_eqE, nI_leE, nI_ltE, nI_eq0, nI_le0, nI_lt0, nI_ge0, nI_gt0, pk_rem, pk_sub, inb_t, gd_y, zl_e, bd_y, isB_n0, isB_n1, n0_eq, n1_eq, if_n0, if_n1, isB_if, not_true_eq_false, not_false_eq_true, ite_true, ite_false, Nat.le_refl, Nat.lt_irrefl, rM_r, rM_k, rM_w, rM_c, rM_2, rd_s, rd_j, rd_k, sI_sI, e0, qe, sh1]
      by_cases q : bt x i = true
      · simp only [q, if_true]
      · simp only [q, Bool.false_eq_true, if_false]
        rw [nu_id rfl]
  rw [e]
  unfold f_X8_holdsBy_63
  have L := lp_rel (fun f m (y : Mem) => f_X8_holdsBy_65 k1 x (fun μ => f_X8_holdsBy_85 k1 x μ) f (nI m) y) (fun m y => ∃ c, y = rM (sI μ 113 18 c) 116 (a_it d (a_lr x σ (σ 0)) m)) 60 (fun ρ : Int32 × Mem => ρ.1 = nI (if a_un a_ul d 61 0 (a_lr x σ (σ 0)) = 61 then 1 else 0) ∧ ∃ c τ, ρ.2 = rM (sI μ 113 18 c) 116 τ) ?_ ?_ zfu 0 (rM μ 116 (a_lr x σ (σ 0))) (by omega) (by unfold zfu; omega) ⟨μ.1 113 18, congrArg (fun m => rM m 116 (a_lr x σ (σ 0))) (sI_id rfl).symm⟩
  · obtain ⟨ρ, g1, g2, c, τ, g3⟩ := L
    exact ⟨c, τ, by rw [g1, ← g2, ← g3]⟩
  · intro f y ⟨c, g⟩
    subst g
    have wm := (a_it_1 (d := d) wl (by omega) 60 (by omega)).1
    have u := un_ul (d := d) wl (by omega)
    by_cases q : a_ul (a_it d (a_lr x σ (σ 0)) 60) = true
    · refine ⟨(nI 0, rM (sI μ 113 18 c) 116 (a_it d (a_lr x σ (σ 0)) 60)), ?_, ?_, c, a_it d (a_lr x σ (σ 0)) 60, rfl⟩
      · simp (disch := omega) only [f_X8_holdsBy_65, f_X8_holdsBy_85, nI_add, pk_mul, nI_clamp, nI_eqE, nI_leE, nI_ltE, nI_eq0, nI_le0, nI_lt0, nI_ge0, nI_gt0, pk_rem, pk_sub, inb_t, gd_y, zl_e, bd_y, isB_n0, isB_n1, n0_eq, n1_eq, if_n0, if_n1, isB_if, not_true_eq_false, not_false_eq_true, ite_true, ite_false, Nat.le_refl, Nat.lt_irrefl, e8_isUnlike wm, q, Nat.one_ne_zero]
      · rw [if_neg]
        intro z
        rw [u.mp z] at q
        cases q
    · refine ⟨(nI 1, rM (sI μ 113 18 c) 116 (a_it d (a_lr x σ (σ 0)) 60)), ?_, ?_, c, a_it d (a_lr x σ (σ 0)) 60, rfl⟩
      · simp (disch := omega) only [f_X8_holdsBy_65, f_X8_holdsBy_85, nI_add, pk_mul, nI_clamp, nI_eqE, nI_leE, nI_ltE, nI_eq0, nI_le0, nI_lt0, nI_ge0, nI_gt0, pk_rem, pk_sub, inb_t, gd_y, zl_e, bd_y, isB_n0, isB_n1, n0_eq, n1_eq, if_n0, if_n1, isB_if, not_true_eq_false, not_false_eq_true, ite_true, ite_false, Nat.le_refl, Nat.lt_irrefl, e8_isUnlike wm, q, Bool.false_eq_true]
      · rw [if_pos]
        exact u.mpr (by simpa using q)
  · intro f m y hm60 ⟨c, g⟩
    left
    subst g
    have qe : ¬ 60 ≤ m := by omega
    refine ⟨_, ⟨nI (a_act false d (a_it d (a_lr x σ (σ 0)) m)).2, rfl⟩, ?_⟩
    simp (disch := omega) only [f_X8_holdsBy_65, nI_add, pk_mul, nI_clamp, nI_eqE, nI_leE, nI_ltE, nI_eq0, nI_le0, nI_lt0, nI_ge0, nI_gt0, pk_rem, pk_sub, inb_t, gd_y, zl_e, bd_y, isB_n0, isB_n1, n0_eq, n1_eq, if_n0, if_n1, isB_if, not_true_eq_false, not_false_eq_true, ite_true, ite_false, Nat.le_refl, Nat.lt_irrefl, qe, e8_go hL hD (a_it_1 wl (by omega) m (by omega)).1]
    rfl
