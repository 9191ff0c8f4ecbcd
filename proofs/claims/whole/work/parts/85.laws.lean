/-! PURE PART: laws -/
theorem II.tz {μ μ' : Mem} {σ : St} {h : Nat} (a : II μ) (e : ∀ k, (k = 0 ∨ (33 ≤ k ∧ k < 65) ∨ (103 ≤ k ∧ k < 113) ∨ k = 117 ∨ k = 120 ∨ k = 121) → μ'.1 k = μ.1 k) (e3 : ∀ j, (j = 5 ∨ j = 16 ∨ j = 17) → μ'.1 113 j = μ.1 113 j) (e2 : μ'.2 = μ.2) (t1 : μ'.1 93 0 = nI 0) (t2 : μ'.1 113 7 = nI 0) (n : IA μ' σ h 114 2 24 29) : II μ' := by
  obtain ⟨_, a2, _, a4, a5, a6⟩ := a
  refine ⟨⟨σ, h, n⟩, ?_, ⟨0, by omega, t1, t2, fun i hi => absurd hi (by omega)⟩, fun s hs => ?_, ?_, ?_⟩
  · unfold IK
    rw [e 0 (by omega), e3 5 (by omega)]
    rcases a2 with a2 | ⟨b1, b2, σ, h, b3⟩
    · exact Or.inl a2
    · exact Or.inr ⟨b1, b2, σ, h, b3.mem (e 117 (by omega)) (fun k h1 h2 => e k (by omega)) (fun k h1 h2 => e k (by omega)) (fun k h1 h2 => e k (by omega))⟩
  · unfold IS1
    rw [e (105 + s) (by omega), e 120 (by omega), e 121 (by omega), e2]
    exact a4 s hs
  · unfold L16; rw [e3 16 (by omega)]; exact a5
  · unfold D17; rw [e3 17 (by omega)]; exact a6
theorem tpA_b {L : Nat → Nat} {N : Nat} {item : Nat → (Nat → Nat) × Nat × Option Nat} {sep : Nat} {B : Nat → Nat} (hI : ∀ q o, (item q).1 o ≤ B o) : ∀ f i q D, (∀ j, D j ≤ B (j % 4)) → ∀ j, (tpA L N item sep f i q D).2.2 j ≤ B (j % 4) := by
  have up : ∀ i q D, (∀ j, D j ≤ B (j % 4)) → ∀ j, a_up D i (item q).1 j ≤ B (j % 4) := by
    intro i q D h j
    unfold a_up
    split
    · rename_i c
      rw [show j % 4 = j - 4 * i by omega]
      exact hI q _
    · exact h j
  intro f
  induction f with
  | zero => intro i q D h j; exact h j
  | succ f ih =>
    intro i q D h j
    cases hw : (item q).2.2 with
    | some k => rw [tpA_f hw]; exact h j
    | none =>
      rw [tpA_n hw]
      split
      · exact up i q D h j
      · split
        · exact ih _ _ _ (up i q D h) j
        · exact up i q D h j
theorem r_one_b {L : Nat → Nat} {N q b : Nat} {ix : Nat → Option Nat} {w : Option Nat} (h : ∀ v k, ix v = some k → k ≤ b) : (r_one L N ix q w).1 ≤ b := by
  unfold r_one
  cases w with
  | some f => exact Nat.zero_le _
  | none =>
    simp only
    split
    · cases hx : ix (L q) with
      | none => exact Nat.zero_le _
      | some v => exact h _ _ hx
    · exact Nat.zero_le _
theorem ixf_b0 (v k : Nat) (h : ixf 0 v = some k) : k ≤ 2 := by
  simp only [ixf] at h
  (repeat' split at h) <;> cases h <;> omega
theorem ixf_b1 (v k : Nat) (h : ixf 1 v = some k) : k ≤ 9 := by
  simp only [ixf] at h
  (repeat' split at h) <;> cases h <;> omega
theorem ixf_b2 (v k : Nat) (h : ixf 2 v = some k) : k ≤ 2 := by
  simp only [ixf] at h
  (repeat' split at h) <;> cases h <;> omega
theorem ixf_b3 (v k : Nat) (h : ixf 3 v = some k) : k ≤ 2 := by
  simp only [ixf] at h
  (repeat' split at h) <;> cases h <;> omega
theorem ixf_b4 (v k : Nat) (h : ixf 4 v = some k) : k ≤ 5 := by
  simp only [ixf] at h
  (repeat' split at h) <;> cases h <;> omega
theorem ixf_b5 (v k : Nat) (h : ixf 5 v = some k) : k ≤ 1 := by
  simp only [ixf] at h
  (repeat' split at h) <;> cases h <;> omega
theorem r_rule_b {L : Nat → Nat} {N : Nat} (q o : Nat) : (r_rule L N q).1 o ≤ if o = 1 then 9 else 2 := by
  unfold r_rule
  simp only
  by_cases c0 : o = 0
  · subst c0; exact r_one_b (b := 2) ixf_b0
  · by_cases c1 : o = 1
    · subst c1; exact r_one_b (b := 9) ixf_b1
    · rw [if_neg c0, if_neg c1, if_neg c1]
      split
      · exact r_one_b (b := 2) ixf_b2
      · exact r_one_b (b := 2) ixf_b3
def t_law (L : Nat → Nat) (N : Nat) : Option Nat × Nat × (Nat → Nat) := if sk L N 0 = N then (none, 0, fun _ => 0) else tpA L N (r_rule L N) 59 8 0 (sk L N 0) (fun _ => 0)
theorem t_law_b {L : Nat → Nat} {N j : Nat} : (t_law L N).2.2 j ≤ if j % 4 = 1 then 9 else 2 := by
  unfold t_law
  split
  · exact Nat.zero_le _
  · exact tpA_b (B := fun o => if o = 1 then 9 else 2) r_rule_b 8 0 _ _ (fun _ => Nat.zero_le _) j
theorem c_readLaw {μ : Mem} {L : Nat → Nat} {N : Nat} (t : TL L N μ) : ∃ μ' p', f_X5_readLaw μ = some (rv (t_law L N).1 (nI (t_law L N).2.1), CM μ' p' (t_law L N).1) ∧ FL 94 9 μ μ' ∧ ((t_law L N).1 = none → μ'.1 94 0 = nI (t_law L N).2.1 ∧ (t_law L N).2.1 ≤ 8 ∧ ∀ o, o < 4 → ∀ k, k < (t_law L N).2.1 → μ'.1 (95 + o) k = nI ((t_law L N).2.2 (4 * k + o))) := by
  have hN := t.2.1
  have f0 : FL 94 9 μ (sI μ 94 0 (nI 0)) := FL.w (by omega) (by omega)
  have t0 := FL94 t f0
  have e0 : sI (sI (sI μ 93 7 (nI 0)) 93 8 (-1)) 94 0 (nI 0) = CM (sI μ 94 0 (nI 0)) 0 none := CM_wk (μ := μ) (p := 0) (w := none) (by omega)
  have sl := sk_le (L := L) hN (Nat.zero_le N)
  unfold f_X5_readLaw f_X5_begin
  simp only [zl_e, bd_y, e0]
  unfold t_law
  by_cases c : sk L N 0 = N
  · rw [if_pos c]
    have rp : RP L N N N none := ⟨Nat.le_refl _, Nat.le_refl _, fun _ => sk_N, fun k z => (by cases z)⟩
    obtain ⟨p5, e5⟩ := c_answer (m := nI 0) t0 rp
    refine ⟨sI μ 94 0 (nI 0), p5, ?_, f0, fun _ => ⟨rd_s, by simp, fun o _ k hk => absurd hk (by simp)⟩⟩
    have k0 : ¬ ((0 : Int32) ≤ wI none) := by decide
    have c8 : ¬ (nI 8 ≤ nI 0) := by decide
    rw [show zfu = (zfu - 1) + 1 from by unfold zfu; rfl, f_X5_readLaw_14]
    simp only [c8, if_false, CM_8, k0, c_end t0 (Nat.zero_le N), bd_y, c, Nat.lt_irrefl, n1_eq, f_X5_readLaw_67, CM_k (show (94 : Nat) ≠ 93 by omega), rd_s, e5]
    simp
  · rw [if_neg c]
    have rp : RP L N 0 (sk L N 0) none := ⟨Nat.zero_le _, sl, fun _ => rfl, fun k z => (by cases z)⟩
    obtain ⟨x, p', e, f1, g⟩ := c_laws 7 0 (sk L N 0) 0 zfu (sI μ 94 0 (nI 0)) (fun _ => 0) (by omega) (by unfold zfu; omega) t0 rp (by omega) rd_s (fun o _ k hk => absurd hk (by omega))
    exact ⟨x, p', e, f0.t f1, g⟩
theorem e_readsLaw {μ : Mem} {L : Nat → Nat} {N : Nat} (t : QL L N μ) : ∃ μ' p' pl' c', f_X8_reads (nI 1) μ = some (sI (RM μ' p' pl' (t_law L N).1 c') 113 7 (nI 0)) ∧ FL 119 1 μ μ' ∧ ((t_law L N).1 = none → c' = (t_law L N).2.1 ∧ ∀ j, j < 4 * c' → μ'.1 119 j = nI ((t_law L N).2.2 j)) ∧ (∀ k, (t_law L N).1 = some k → k ≤ N) := by
  have hN := t.2.1
  have e0 : sI (sI (sI μ 113 10 (-1)) 113 8 (nI 0)) 113 12 (nI 0) = RM μ 0 (μ.1 113 9) none 0 := by
    unfold RM
    rw [show sI (sI μ 113 8 (nI 0)) 113 9 (μ.1 113 9) = sI μ 113 8 (nI 0) from sI_id (rd_j (by omega)), sI_com (k := 113) (j := 10) (k' := 113) (j' := 8) (by omega)]
    rfl
  unfold f_X8_reads
  simp only [zl_e, e0, n1_eq, if_false, e_letter t (Nat.zero_le N), bd_y]
  unfold f_X8_reads_26 f_X8_reads_31 t_law
  have sl := sk_le (L := L) hN (Nat.zero_le N)
  by_cases c : sk L N 0 = N
  · have lt : ltr L N (sk L N 0) < 0 := by unfold ltr; rw [if_neg (by omega)]; decide
    rw [if_pos lt, if_pos c]
    refine ⟨μ, sk L N 0, nI (sk L N 0), 0, ?_, FL.r, fun _ => ⟨rfl, fun j hj => absurd hj (by omega)⟩, fun k z => (by cases z)⟩
    rw [show zfu = (zfu - 1) + 1 from by unfold zfu; rfl]
    simp only [f_X8_reads_32, n0_eq, if_true, f_X8_reads_152, zl_e]
  · have qN : sk L N 0 < N := by omega
    have lt : ¬ (ltr L N (sk L N 0) < 0) := by unfold ltr; rw [if_pos qN]; exact nI_pos (t.b _ qN)
    rw [if_neg lt, if_neg c]
    have rp : RP L N (sk L N 0) (sk L N 0) none := ⟨sl, sl, fun _ => sk_sk hN (Nat.zero_le N), fun k z => (by cases z)⟩
    obtain ⟨x, p', l', c', e, f1, g, w⟩ := e_reads (L := L) (N := N) (F := f_X8_readsRule) (item := r_rule L N) (sep := 59) (M := 8) (a1 := nI 1) (K := fun μ => f_X8_reads_152 (nI 1) μ) (fun μ p q c pl t h hc => e_rule t h hc) (by omega) (by omega) (fun n x => by simp only [f_X8_reads_32, n1_eq, if_false]) (fun kb x => by simp only [f_X8_reads_80, n1_eq, if_false, f_X8_reads_106]) 7 0 (sk L N 0) (sk L N 0) zfu (nI (sk L N 0)) μ (fun _ => 0) (by omega) (by unfold zfu; omega) t rp (fun j hj => absurd hj (by omega))
    refine ⟨x, p', l', c', ?_, f1, g, w⟩
    rw [e]
    simp only [f_X8_reads_152, zl_e]
def a_lw (σ : St) (c : Nat) (D : Nat → Nat) (k : Nat) : St := fun j => if j = 3 then c else if 1761 ≤ j ∧ j < 1761 + k then D (j - 1761) else σ j
theorem a_lw_0 {σ : St} {c : Nat} {D : Nat → Nat} : nu σ 3 c = a_lw σ c D 0 := by
  funext j
  unfold a_lw nu
  by_cases e : j = 3
  · rw [if_pos e, if_pos e]
  · rw [if_neg e, if_neg e, if_neg (by omega)]
theorem a_lw_s {σ : St} {c k : Nat} {D : Nat → Nat} : nu (a_lw σ c D k) (1761 + k) (D k) = a_lw σ c D (k + 1) := by
  funext j
  unfold a_lw nu
  by_cases e : j = 1761 + k
  · subst e
    rw [if_pos rfl, if_neg (by omega), if_pos (by omega), show 1761 + k - 1761 = k by omega]
  · rw [if_neg e]
    show (if j = 3 then c else if 1761 ≤ j ∧ j < 1761 + k then D (j - 1761) else σ j) = _
    by_cases e3 : j = 3
    · rw [if_pos e3, if_pos e3]
    · rw [if_neg e3, if_neg e3]
      by_cases c2 : 1761 ≤ j ∧ j < 1761 + k
      · rw [if_pos c2, if_pos (by omega)]
      · rw [if_neg c2, if_neg (by omega)]
theorem a_lw_n {σ : St} {c k j : Nat} {D : Nat → Nat} (h3 : j ≠ 3) (h : j < 1761 ∨ 1761 + k ≤ j) : a_lw σ c D k j = σ j := by
  unfold a_lw
  rw [if_neg h3, if_neg (by omega)]
theorem a_lw_w {σ : St} {c : Nat} {D : Nat → Nat} (w : WF σ) (hc : c ≤ 8) (hD : ∀ j, D j ≤ if j % 4 = 1 then 9 else 2) : WF (a_lw σ c D (4 * c)) := by
  intro j hj
  unfold a_lw
  by_cases e3 : j = 3
  · rw [if_pos e3, e3, bd_3]; exact hc
  · rw [if_neg e3]
    by_cases c2 : 1761 ≤ j ∧ j < 1761 + 4 * c
    · rw [if_pos c2]
      have : bd j = if (j - 1761) % 4 = 1 then 9 else 2 := by
        unfold bd
        rw [if_neg (by omega), if_neg (by omega), if_neg (by omega), if_neg (by omega), if_neg (by omega), if_neg (by omega), if_neg (by omega), if_neg (by omega), if_neg (by omega), if_pos (by omega)]
      rw [this]
      exact hD _
    · rw [if_neg c2]; exact w j hj
theorem e_lawsL {μ : Mem} {σ : St} {c : Nat} {D : Nat → Nat} (hc : c ≤ 8) (h12 : μ.1 113 12 = nI c) (hD : ∀ j, j < 4 * c → μ.1 119 j = nI (D j)) : f_X8_laws_37 (fun μ => f_X8_laws_69 μ) zfu (nI 0) (rM μ 114 (a_lw σ c D 0)) = some (nI c, rM μ 114 (a_lw σ c D (4 * c))) := by
  have K : ∀ f k, k ≤ 4 * c → 4 * c - k < f → f_X8_laws_37 (fun μ => f_X8_laws_69 μ) f (nI k) (rM μ 114 (a_lw σ c D k)) = some (nI c, rM μ 114 (a_lw σ c D (4 * c))) := by
    intro f
    induction f with
    | zero => intro k _ h; omega
    | succ f ih =>
      intro k hk hf
      by_cases ck : 4 * c ≤ k
      · have : k = 4 * c := by omega
        subst this
        simp (disch := omega) only [f_X8_laws_37, nI_add, pk_mul, nI_clamp, nI_eqE, nI_leE, nI_ltE, nI_eq0, nI_le0, nI_lt0, nI_ge0, nI_gt0, pk_rem, pk_sub, inb_t, gd_y, zl_e, bd_y, isB_n0, isB_n1, n0_eq, n1_eq, if_n0, if_n1, isB_if, not_true_eq_false, not_false_eq_true, ite_true, ite_false, Nat.le_refl, Nat.lt_irrefl, rM_k, h12, f_X8_laws_69]
      · have hd := hD k (by omega)
        rw [← ih (k + 1) (by omega) (by omega), ← a_lw_s]
        simp (disch := omega) only [f_X8_laws_37, nI_add, pk_mul, nI_clamp, nI_eqE, nI_leE, nI_ltE, nI_eq0, nI_le0, nI_lt0, nI_ge0, nI_gt0, pk_rem, pk_sub, inb_t, gd_y, zl_e, bd_y, isB_n0, isB_n1, n0_eq, n1_eq, if_n0, if_n1, isB_if, not_true_eq_false, not_false_eq_true, ite_true, ite_false, Nat.le_refl, Nat.lt_irrefl, rM_k, h12, ck, hd, rM_w]
  exact K zfu 0 (by omega) (by unfold zfu; omega)
theorem rv_lt {k : Nat} {m : Int32} (h : k ≤ 160) : (rv (some k) m < 0) = True := by
  have : ∀ k, k < 161 → ((-20 : Int32) - nI k < 0) := by decide +kernel
  exact eq_true (this k (by omega))
theorem IT.l {μ : Mem} (a : IT μ) : ∃ L N, TL L N μ ∧ QL L N μ := by
  obtain ⟨n, h1, h2, h3, h4⟩ := a
  refine ⟨fun i => (μ.1 103 i).toNatClampNeg, n, ⟨h2, h1, fun i hi => ?_⟩, ⟨h3, h1, fun i hi => ?_⟩⟩
  · obtain ⟨v, v1, v2, v3, v4⟩ := h4 i hi
    simp only [v3, nI_clamp (show v < 2 ^ 31 by omega)]
    exact ⟨trivial, v1, v2⟩
  · obtain ⟨v, v1, v2, v3, v4⟩ := h4 i hi
    simp only [v3, v4, nI_clamp (show v < 2 ^ 31 by omega)]
    exact ⟨trivial, v1, v2⟩
theorem o_laws : ok_laws II := by
  intro μ I
  obtain ⟨⟨σ, h, r, w, z, m, n, s, l, g⟩, i2, i3, i4, hL, hD⟩ := id I
  obtain ⟨L, N, t, tq⟩ := i3.l
  have hN := t.2.1
  obtain ⟨x, p1, e1, f1, d1⟩ := c_readLaw t
  have xk : ∀ k, (k < 93 ∨ 103 ≤ k) → (sI (CM x p1 (t_law L N).1) 93 0 (nI 0)).1 k = μ.1 k := fun k hk => by rw [rd_k (by omega), CM_k (by omega), f1.2 k (by omega)]
  have xq : ∀ {y : Mem}, (∀ k, 103 ≤ k → y.1 k = μ.1 k) → QL L N (sI y 113 0 (nI 0)) := fun {y} hy => ⟨by rw [rd_j (by omega), hy 113 (by omega)]; exact tq.1, tq.2.1, fun i hi => by rw [rd_k (by omega), hy 118 (by omega)]; exact tq.2.2 i hi⟩
  cases hw : (t_law L N).1 with
  | some k =>
    obtain ⟨y, p2, l2, c2, e2, f2, d2, w2⟩ := e_readsLaw (xq (y := sI (CM x p1 (t_law L N).1) 93 0 (nI 0)) (fun k hk => xk k (by omega)))
    have kN := w2 k hw
    rw [hw] at e1 e2 xk f2
    have k10 : (sI (RM y p2 l2 (some k) c2) 113 7 (nI 0)).1 113 10 = nI k := by rw [rd_j (by omega), RM_10]; rfl
    refine ⟨rv (some k) (nI (t_law L N).2.1), sI (CM x p1 (some k)) 93 0 (nI 0), sI (RM y p2 l2 (some k) c2) 113 7 (nI 0), ?_, ?_, ?_⟩
    · unfold f_X7_laws
      rw [e1, bd_y, zl_e]
      show (if rv (some k) (nI (t_law L N).2.1) < 0 then _ else _) = _
      rw [if_pos (of_eq_true (rv_lt (by omega)))]
    · unfold f_X8_laws
      rw [zl_e, e2, bd_y]
      rw [if_neg (show ¬ ((sI (RM y p2 l2 (some k) c2) 113 7 (nI 0)).1 113 10 < 0) by rw [k10]; exact nI_pos (by omega)), k10]
      rfl
    · have yk : ∀ q, (q < 93 ∨ (103 ≤ q ∧ q < 113) ∨ (113 < q ∧ q ≠ 119)) → (sI (RM y p2 l2 (some k) c2) 113 7 (nI 0)).1 q = μ.1 q := fun q hq => by rw [rd_k (by omega), RM_k (by omega), f2.2 q (by omega), rd_k (by omega), xk q (by omega)]
      refine I.tz (σ := σ) (h := h) (fun q hq => yk q (by omega)) (fun j hj => ?_) ?_ ?_ rd_s (IA.mem (μ := μ) ⟨r, w, z, m, n, s, l, g⟩ (yk 114 (by omega)) (fun q h1 h2 => yk q (by omega)) (fun q h1 h2 => yk q (by omega)) (fun q h1 h2 => yk q (by omega)))
      · rw [rd_j (by omega), RM_j (by omega), f2.2 113 (by omega), rd_j (by omega), xk 113 (by omega)]
      · show y.2 = μ.2
        rw [f2.1]
        exact f1.1
      · rw [rd_k (by omega), RM_k (by omega), f2.2 93 (by omega), rd_k (by omega), rd_s]
  | none =>
    obtain ⟨D0, D8, D1⟩ := d1 hw
    generalize hc : (t_law L N).2.1 = c at D0 D8 D1 e1
    rw [hw] at e1 xk
    have tw := a_lw_w (c := c) (D := (t_law L N).2.2) w D8 (fun j => t_law_b)
    have nl : NL (sI (CM x p1 none) 93 0 (nI 0)) 94 (a_lw σ c (t_law L N).2.2 (4 * c)) := by
      have e3 : a_lw σ c (t_law L N).2.2 (4 * c) 3 = c := if_pos rfl
      have ex : ∀ q, 94 ≤ q → (sI (CM x p1 none) 93 0 (nI 0)).1 q = x.1 q := fun q hq => by rw [rd_k (by omega), CM_k (by omega)]
      unfold NL
      rw [e3, ex 94 (by omega), ex (94 + 1) (by omega), ex (94 + 2) (by omega), ex (94 + 3) (by omega), ex (94 + 4) (by omega)]
      have ea : ∀ i o, i < c → o < 4 → a_lw σ c (t_law L N).2.2 (4 * c) (1761 + 4 * i + o) = (t_law L N).2.2 (4 * i + o) := by
        intro i o hi ho
        unfold a_lw
        rw [if_neg (by omega), if_pos (by omega), show 1761 + 4 * i + o - 1761 = 4 * i + o by omega]
      refine ⟨D0, fun i hi => ⟨?_, ?_, ?_, ?_⟩⟩
      · have := ea i 0 hi (by omega); rw [Nat.add_zero] at this; rw [this]; exact D1 0 (by omega) i hi
      · rw [ea i 1 hi (by omega)]; exact D1 1 (by omega) i hi
      · rw [ea i 2 hi (by omega)]; exact D1 2 (by omega) i hi
      · rw [ea i 3 hi (by omega)]; exact D1 3 (by omega) i hi
    obtain ⟨v, b1, b2, b3⟩ := n0_become (b := 24) nl tw (by omega)
    have vk : ∀ k, (k < 24 ∨ (29 ≤ k ∧ k < 93) ∨ 103 ≤ k) → v.1 k = μ.1 k := fun k hk => by rw [b3.2 k (by omega), xk k (by omega)]
    obtain ⟨y, p2, l2, c2, e2, f2, d2, w2⟩ := e_readsLaw (xq (y := v) (fun k hk => vk k (by omega)))
    obtain ⟨E0, E1⟩ := d2 hw
    rw [hc] at E0
    subst E0
    rw [hw] at e2
    have yk : ∀ q, q ≠ 113 → q ≠ 119 → (sI (RM y p2 l2 none c2) 113 7 (nI 0)).1 q = v.1 q := fun q h1 h2 => by rw [rd_k (by omega), RM_k (by omega), f2.2 q (by omega), rd_k (by omega)]
    have y13 : ∀ j, (j = 5 ∨ j = 16 ∨ j = 17) → (sI (RM y p2 l2 none c2) 113 7 (nI 0)).1 113 j = μ.1 113 j := fun j hj => by rw [rd_j (by omega), RM_j (by omega), f2.2 113 (by omega), rd_j (by omega), vk 113 (by omega)]
    have y7 : (sI (RM y p2 l2 none c2) 113 7 (nI 0)).1 113 7 = nI 0 := rd_s
    have y10 : (sI (RM y p2 l2 none c2) 113 7 (nI 0)).1 113 10 = wI none := by rw [rd_j (by omega), RM_10]
    have y12 : (sI (RM y p2 l2 none c2) 113 7 (nI 0)).1 113 12 = nI c2 := by rw [rd_j (by omega), RM_12]
    have y9 : ∀ j, j < 4 * c2 → (sI (RM y p2 l2 none c2) 113 7 (nI 0)).1 119 j = nI ((t_law L N).2.2 j) := fun j hj => by rw [rd_k (by omega), RM_k (by omega)]; exact E1 j hj
    have y2 : (sI (RM y p2 l2 none c2) 113 7 (nI 0)).2 = μ.2 := by
      show y.2 = μ.2
      rw [f2.1]
      show v.2 = μ.2
      rw [b3.1]
      exact f1.1
    have yr : RR (sI (RM y p2 l2 none c2) 113 7 (nI 0)) 114 σ := fun j hj => by rw [yk 114 (by omega) (by omega), vk 114 (by omega)]; exact r j hj
    generalize hy : sI (RM y p2 l2 none c2) 113 7 (nI 0) = Y at e2 yk y13 y7 y10 y12 y9 y2 yr
    have cc : ∀ {c : Nat}, c ≤ 8 → ¬ (rv none (nI c) < 0) := fun {c} h => nI_pos (by omega)
    refine ⟨nI c2, v, rM Y 114 (a_lw σ c2 (t_law L N).2.2 (4 * c2)), ?_, ?_, ?_⟩
    · unfold f_X7_laws
      rw [e1, bd_y, zl_e]
      show (if rv none (nI c2) < 0 then _ else _) = _
      rw [if_neg (cc D8), b1, bd_y]
      rfl
    · unfold f_X8_laws
      rw [zl_e, e2, bd_y, if_pos (show Y.1 113 10 < 0 by rw [y10]; exact of_eq_true wn_lt), y12]
      have := e_lawsL (μ := Y) (σ := σ) (D := (t_law L N).2.2) D8 y12 y9
      rw [← this, ← a_lw_0]
      conv => lhs; rw [← rM_o yr]
      simp (disch := omega) only [nI_add, pk_mul, nI_clamp, nI_eqE, nI_leE, nI_ltE, nI_eq0, nI_le0, nI_lt0, nI_ge0, nI_gt0, pk_rem, pk_sub, inb_t, gd_y, zl_e, bd_y, isB_n0, isB_n1, n0_eq, n1_eq, if_n0, if_n1, isB_if, not_true_eq_false, not_false_eq_true, ite_true, ite_false, Nat.le_refl, Nat.lt_irrefl, rM_w]
    · have zk : ∀ q, q ≠ 113 → q ≠ 114 → q ≠ 119 → (rM Y 114 (a_lw σ c2 (t_law L N).2.2 (4 * c2))).1 q = v.1 q := fun q h1 h2 h3 => by rw [rM_k h2, yk q h1 h3]
      have ln : ∀ j, j < 1761 ∨ 1793 ≤ j → j ≠ 3 → a_lw σ c2 (t_law L N).2.2 (4 * c2) j = σ j := fun j hj h3 => a_lw_n h3 (by omega)
      have n1 : NN v 2 σ h 9 := n.mem w.n (fun k h1 h2 => vk k (by omega))
      have g1 : NG v 29 σ := g.mem (fun k h1 h2 => vk k (by omega))
      refine I.tz (σ := a_lw σ c2 (t_law L N).2.2 (4 * c2)) (h := h) (fun q hq => by rw [zk q (by omega) (by omega) (by omega), vk q (by omega)]) (fun j hj => by rw [rM_k (by omega)]; exact y13 j hj) y2 ?_ (by rw [rM_k (by omega)]; exact y7) ⟨rM_rr, tw, ?_, ?_, ?_, ?_, ?_, ?_⟩
      · rw [zk 93 (by omega) (by omega) (by omega), b3.2 93 (by omega), rd_s]
      · intro f t' s' hf ht hs' hh
        rw [ln 0 (by omega) (by omega)] at hh
        rw [ln _ (by omega) (by omega)]
        exact z f t' s' hf ht hs' hh
      · rw [ln 1 (by omega) (by omega)]; exact m
      · exact (n1.st w.n (fun j hj h3 _ => ln j (by omega) h3)).mem (by rw [ln 0 (by omega) (by omega)]; exact w.n) (fun k h1 h2 => zk k (by omega) (by omega) (by omega))
      · rw [zk 2 (by omega) (by omega) (by omega), vk 2 (by omega)]; exact s
      · exact b2.mem (fun k h1 h2 => zk k (by omega) (by omega) (by omega))
      · exact (g1.st (w 4 (by omega)) (ln 4 (by omega) (by omega)) (fun j h1 h2 => ln j (by omega) (by omega))).mem (fun k h1 h2 => zk k (by omega) (by omega) (by omega))
