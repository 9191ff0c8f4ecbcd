/-! PURE PART: the reference's night, by equations -/
def D17 (μ : Mem) (d : Nat) : Prop := μ.1 113 17 = if d < 9 then nI d else -1
def L16 (μ : Mem) (lot : Bool) : Prop := μ.1 113 16 = nI (if lot = true then 1 else 0)
theorem D17.e {μ : Mem} {d t : Nat} (h : D17 μ d) (ht : t < 9) : (nI t = μ.1 113 17) = (t = d) := by
  rw [h]
  split
  · rw [nI_eqE (by omega) (by omega)]
  · rw [nI_neM (by omega) (by decide)]
    exact (eq_false (by omega)).symm
theorem e8_isDark {μ : Mem} {k r : Nat} {σ : St} (h : WF σ) (hr : r < 9) : f_X8_isDark k (nI r) (rM μ k σ) = some (nI (if a_dk σ r = true then 1 else 0), rM μ k σ) := by
  have h1 := h.m
  have h2 := h.f hr
  have h3 := h.u hr
  unfold f_X8_isDark a_dk
  simp (disch := omega) only [nI_add, pk_mul, nI_clamp, nI_eqE, nI_leE, nI_ltE, nI_eq0, nI_le0, nI_lt0, nI_ge0, nI_gt0, pk_rem, pk_sub, inb_t, gd_y, zl_e, bd_y, isB_n0, isB_n1, n0_eq, n1_eq, if_n0, if_n1, isB_if, not_true_eq_false, not_false_eq_true, ite_true, ite_false, Nat.le_refl, Nat.lt_irrefl, rM_r, rM_k, rM_w, rM_c, rM_2, rd_s, rd_j, rd_k, sI_sI]
  by_cases c1 : σ 1 < σ (6 + 6 * r + 4)
  · rw [if_pos c1, if_neg (by simp; omega)]
  · rw [if_neg c1]
    by_cases c2 : σ (6 + 6 * r + 5) ≤ σ 1
    · rw [if_pos c2, if_neg (by simp; omega)]
    · rw [if_neg c2, if_pos (by simp; omega)]
theorem e8_isTrue {μ : Mem} {k r : Nat} {σ : St} (h : WF σ) (hr : r < 9) : f_X8_isTrue k (nI r) (rM μ k σ) = some (nI (if σ (6 + 6 * r) = 0 ∨ σ (6 + 6 * r) = 3 then 1 else 0), rM μ k σ) := by
  have h1 := h.k hr
  unfold f_X8_isTrue f_X8_isTrue_19
  simp (disch := omega) only [nI_add, pk_mul, nI_clamp, nI_eqE, nI_leE, nI_ltE, nI_eq0, nI_le0, nI_lt0, nI_ge0, nI_gt0, pk_rem, pk_sub, inb_t, gd_y, zl_e, bd_y, isB_n0, isB_n1, n0_eq, n1_eq, if_n0, if_n1, isB_if, not_true_eq_false, not_false_eq_true, ite_true, ite_false, Nat.le_refl, Nat.lt_irrefl, rM_r, rM_k, rM_w, rM_c, rM_2, rd_s, rd_j, rd_k, sI_sI]
  by_cases c1 : σ (6 + 6 * r) = 0
  · rw [if_pos c1, if_pos (Or.inl c1)]
  · rw [if_neg c1]
    by_cases c2 : σ (6 + 6 * r) = 3
    · rw [if_pos c2, if_pos (Or.inr c2)]
    · rw [if_neg c2, if_neg (by omega)]
theorem e8_heardBy {μ : Mem} {k r f : Nat} {σ : St} (hr : r < 9) (hf : f < 9) : f_X8_heardBy k (nI r) (nI f) (rM μ k σ) = some (nI (a_hb σ r f), rM μ k σ) := by
  unfold f_X8_heardBy a_hb
  simp (disch := omega) only [nI_add, pk_mul, nI_clamp, nI_eqE, nI_leE, nI_ltE, nI_eq0, nI_le0, nI_lt0, nI_ge0, nI_gt0, pk_rem, pk_sub, inb_t, gd_y, zl_e, bd_y, isB_n0, isB_n1, n0_eq, n1_eq, if_n0, if_n1, isB_if, not_true_eq_false, not_false_eq_true, ite_true, ite_false, Nat.le_refl, Nat.lt_irrefl, rM_r, rM_k, rM_w, rM_c, rM_2, rd_s, rd_j, rd_k, sI_sI]
  split <;> rfl
theorem e8_countBy {μ : Mem} {k r c : Nat} {σ : St} (h : WF σ) (hr : r < 9) (hc : c ≤ 2) : f_X8_countBy k (nI r) (nI c) (rM μ k σ) = some (nI (a_cb σ r c (σ 0)), rM μ k σ) := by
  have hn := h.n
  unfold f_X8_countBy
  refine lp_eq (fun n i => f_X8_countBy_5 k (nI r) (nI c) n (nI (a_cb σ r c i)) (nI i) (rM μ k σ)) (σ 0) _ ?_ ?_ zfu 0 (by omega) (by unfold zfu; omega)
  · intro n
    simp (disch := omega) only [f_X8_countBy_5, nI_add, pk_mul, nI_clamp, nI_eqE, nI_leE, nI_ltE, nI_eq0, nI_le0, nI_lt0, nI_ge0, nI_gt0, pk_rem, pk_sub, inb_t, gd_y, zl_e, bd_y, isB_n0, isB_n1, n0_eq, n1_eq, if_n0, if_n1, isB_if, not_true_eq_false, not_false_eq_true, ite_true, ite_false, Nat.le_refl, Nat.lt_irrefl, rM_r, rM_k, rM_w, rM_c, rM_2, rd_s, rd_j, rd_k, sI_sI]
  · intro n i hi
    have hb := h.hb hr (show i < 9 by omega)
    have e : ¬ σ 0 ≤ i := by omega
    have q : a_cb σ r c (i + 1) = a_cb σ r c i + a_ci σ r c i := rfl
    rw [q]
    unfold a_ci
    simp (disch := omega) only [f_X8_countBy_5, f_X8_countBy_47, f_X8_countBy_43, f_X8_countBy_48, e8_heardBy hr (show i < 9 by omega), nI_add, pk_mul, nI_clamp, nI_eqE, nI_leE, nI_ltE, nI_eq0, nI_le0, nI_lt0, nI_ge0, nI_gt0, pk_rem, pk_sub, inb_t, gd_y, zl_e, bd_y, isB_n0, isB_n1, n0_eq, n1_eq, if_n0, if_n1, isB_if, not_true_eq_false, not_false_eq_true, ite_true, ite_false, Nat.le_refl, Nat.lt_irrefl, rM_r, rM_k, rM_w, rM_c, rM_2, rd_s, rd_j, rd_k, sI_sI, e]
    by_cases c2 : c = 2
    · simp only [c2, if_true]
      by_cases c3 : 2 ≤ a_hb σ r i
      · rw [if_pos c3, if_neg (by omega)]
      · rw [if_neg c3, if_pos (by omega)]
    · simp only [c2, if_false]
      by_cases c3 : a_hb σ r i = c
      · rw [if_pos c3, if_pos c3]
      · rw [if_neg c3, if_neg c3]
theorem e8_sentBy {k r to c bf : Nat} {μ : Mem} (hk : k ≤ 5) (hr : r < 9) (ht : to < 9) (hc : c ≤ 1) (hb : bf ≤ 2) : f_X8_sentBy (nI k) (nI r) (nI to) (nI c) (nI bf) μ = if k = 5 then some (-1, μ) else some (nI (a_sb k r to c bf), μ) := by
  unfold f_X8_sentBy f_X8_sentBy_10 f_X8_sentBy_38 a_sb
  simp (disch := omega) only [nI_add, pk_mul, nI_clamp, nI_eqE, nI_leE, nI_ltE, nI_eq0, nI_le0, nI_lt0, nI_ge0, nI_gt0, pk_rem, pk_sub, inb_t, gd_y, zl_e, bd_y, isB_n0, isB_n1, n0_eq, n1_eq, if_n0, if_n1, isB_if, not_true_eq_false, not_false_eq_true, ite_true, ite_false, Nat.le_refl, Nat.lt_irrefl]
  by_cases k1 : k = 1
  · subst k1
    simp only [Nat.reduceEqDiff, if_true, if_false]
    by_cases q : to ≤ r
    · rw [if_pos q, if_neg (by omega)]
    · rw [if_neg q, if_pos (by omega)]
  · by_cases k4 : k = 4
    · subst k4
      simp only [Nat.reduceEqDiff, if_true, if_false]
      by_cases q : r ≤ to
      · rw [if_pos q, if_neg (by omega)]
      · rw [if_neg q, if_pos (by omega)]
    · by_cases k5 : k = 5
      · subst k5
        simp only [Nat.reduceEqDiff, if_true, if_false]
      · simp only [k1, k4, k5, if_false]
        by_cases k2 : k = 2
        · simp only [k2, if_true]
          by_cases q : 2 ≤ bf
          · rw [if_pos q, if_neg (by omega)]
          · rw [if_neg q, if_pos (by omega)]
        · simp only [k2, if_false]
theorem dr_e {d : Nat} : (nI d * nI 1103515245 + nI 12345) &&& nI 2147483647 = nI (a_dr d) := by
  rw [pk_mul, nI_add, pk_and _ 31 (by decide)]
  have e : (nI (d * 1103515245 + 12345)).toBitVec.toNat % 2 ^ 31 = a_dr d := by
    have e1 : (nI (d * 1103515245 + 12345)).toBitVec.toNat = (d * 1103515245 + 12345) % 2 ^ 32 := BitVec.toNat_ofNat _ _
    rw [e1]
    unfold a_dr
    omega
  rw [e]
theorem e8_drawn {μ : Mem} {k : Nat} {σ : St} : f_X8_drawn k (rM μ k σ) = some (nI (a_dr (σ 5) / 65536 % 9 + 1), rM μ k (nu σ 5 (a_dr (σ 5)))) := by
  have h1 := a_dr_lt (d := σ 5)
  unfold f_X8_drawn
  simp (disch := omega) only [gd_t, zl, inb_t, nI_clamp, rM_r, rM_k, rM_w, rM_c, rM_2, rd_s, rd_j, rd_k, sI_sI, dr_e, nu_s]
  rw [pk_div (by omega) (by omega) (by omega), pk_rem (by omega) (by omega) (by omega), nI_add]
theorem e8_says_s {μ : Mem} {k r c bf to n : Nat} {lot : Bool} {s : St × Nat} (hk : k ≠ 113) (hL : L16 μ lot) (h : WF s.1) (hr : r < 9) (hc : c ≤ 1) (hb : bf ≤ 2) (ht : to < s.1 0) : f_X8_says_34 k (nI r) (nI c) (n + 1) (nI (6 + 6 * r)) (nI bf) (nI to) (rM (sI μ 113 18 (nI s.2)) k s.1) = f_X8_says_34 k (nI r) (nI c) n (nI (6 + 6 * r)) (nI bf) (nI (to + 1)) (rM (sI μ 113 18 (nI (a_s1 lot r c bf to s).2)) k (a_s1 lot r c bf to s).1) := by
  obtain ⟨σ, q⟩ := s
  simp only at *
  have hn := h.n
  have hm := h.m
  have hk5 := h.k hr
  have hl := h.l hr (show to < 9 by omega)
  have hd := h.dr
  have hdr := a_dr_lt (d := σ 5)
  have e0 : ¬ σ 0 ≤ to := by omega
  unfold a_s1
  simp (disch := omega) only [f_X8_says_34, nI_add, pk_mul, nI_clamp, nI_eqE, nI_leE, nI_ltE, nI_eq0, nI_le0, nI_lt0, nI_ge0, nI_gt0, pk_rem, pk_sub, inb_t, gd_y, zl_e, bd_y, isB_n0, isB_n1, n0_eq, n1_eq, if_n0, if_n1, isB_if, not_true_eq_false, not_false_eq_true, ite_true, ite_false, Nat.le_refl, Nat.lt_irrefl, rM_r, rM_k, rM_w, rM_c, rM_2, rd_s, rd_j, rd_k, sI_sI, e0]
  by_cases c1 : to = r
  · simp only [c1, if_true, f_X8_says_65, f_X8_says_160, nI_add]
    rw [if_pos (by decide)]
  · simp only [c1, if_false]
    rw [e8_sentBy hk5 hr (by omega) hc hb]
    by_cases c2 : σ (6 + 6 * r) = 5
    · simp only [c2, if_true, Option.bind_some, f_X8_says_65, f_X8_says_160, nI_add]
      rw [if_pos (by decide)]
    · have hs := a_sb_le (k := σ (6 + 6 * r)) (r := r) (to := to) (bf := bf) hc
      simp only [c2, if_false, Option.bind_some, f_X8_says_65]
      unfold L16 at hL
      simp (disch := omega) only [nI_add, pk_mul, nI_clamp, nI_eqE, nI_leE, nI_ltE, nI_eq0, nI_le0, nI_lt0, nI_ge0, nI_gt0, pk_rem, pk_sub, inb_t, gd_y, zl_e, bd_y, isB_n0, isB_n1, n0_eq, n1_eq, if_n0, if_n1, isB_if, not_true_eq_false, not_false_eq_true, ite_true, ite_false, Nat.le_refl, Nat.lt_irrefl, rM_r, rM_k, rM_w, rM_c, rM_2, rd_s, rd_j, rd_k, sI_sI, hL]
      cases lot
      · simp only [Bool.false_eq_true, if_false, not_false_eq_true, if_true, f_X8_says_99, f_X8_says_118, f_X8_says_160, a_tm, a_t0, a_dw]
        simp (disch := omega) only [nI_add, pk_mul, nI_clamp, nI_eqE, nI_leE, nI_ltE, nI_eq0, nI_le0, nI_lt0, nI_ge0, nI_gt0, pk_rem, pk_sub, inb_t, gd_y, zl_e, bd_y, isB_n0, isB_n1, n0_eq, n1_eq, if_n0, if_n1, isB_if, not_true_eq_false, not_false_eq_true, ite_true, ite_false, Nat.le_refl, Nat.lt_irrefl, rM_r, rM_k, rM_w, rM_c, rM_2, rd_s, rd_j, rd_k, sI_sI]
        by_cases c3 : σ (6 + 6 * r) = 3
        · simp (disch := omega) only [c3, if_true, nI_add, pk_mul, nI_clamp, nI_eqE, nI_leE, nI_ltE, nI_eq0, nI_le0, nI_lt0, nI_ge0, nI_gt0, pk_rem, pk_sub, inb_t, gd_y, zl_e, bd_y, isB_n0, isB_n1, n0_eq, n1_eq, if_n0, if_n1, isB_if, not_true_eq_false, not_false_eq_true, ite_true, ite_false, Nat.le_refl, Nat.lt_irrefl, rM_r, rM_k, rM_w, rM_c, rM_2, rd_s, rd_j, rd_k, sI_sI]
        · simp (disch := omega) only [c3, if_false, nI_add, pk_mul, nI_clamp, nI_eqE, nI_leE, nI_ltE, nI_eq0, nI_le0, nI_lt0, nI_ge0, nI_gt0, pk_rem, pk_sub, inb_t, gd_y, zl_e, bd_y, isB_n0, isB_n1, n0_eq, n1_eq, if_n0, if_n1, isB_if, not_true_eq_false, not_false_eq_true, ite_true, ite_false, Nat.le_refl, Nat.lt_irrefl, rM_r, rM_k, rM_w, rM_c, rM_2, rd_s, rd_j, rd_k, sI_sI]
      · simp only [not_true_eq_false, if_false, if_true, e8_drawn, Option.bind_some, f_X8_says_99, f_X8_says_118, f_X8_says_160, a_tm, a_t0, a_dw]
        simp (disch := omega) only [nI_add, pk_mul, nI_clamp, nI_eqE, nI_leE, nI_ltE, nI_eq0, nI_le0, nI_lt0, nI_ge0, nI_gt0, pk_rem, pk_sub, inb_t, gd_y, zl_e, bd_y, isB_n0, isB_n1, n0_eq, n1_eq, if_n0, if_n1, isB_if, not_true_eq_false, not_false_eq_true, ite_true, ite_false, Nat.le_refl, Nat.lt_irrefl, rM_r, rM_k, rM_w, rM_c, rM_2, rd_s, rd_j, rd_k, sI_sI, nu_n]
        by_cases c3 : σ (6 + 6 * r) = 3
        · simp (disch := omega) only [c3, if_true, nI_add, pk_mul, nI_clamp, nI_eqE, nI_leE, nI_ltE, nI_eq0, nI_le0, nI_lt0, nI_ge0, nI_gt0, pk_rem, pk_sub, inb_t, gd_y, zl_e, bd_y, isB_n0, isB_n1, n0_eq, n1_eq, if_n0, if_n1, isB_if, not_true_eq_false, not_false_eq_true, ite_true, ite_false, Nat.le_refl, Nat.lt_irrefl, rM_r, rM_k, rM_w, rM_c, rM_2, rd_s, rd_j, rd_k, sI_sI, nu_n]
        · simp (disch := omega) only [c3, if_false, nI_add, pk_mul, nI_clamp, nI_eqE, nI_leE, nI_ltE, nI_eq0, nI_le0, nI_lt0, nI_ge0, nI_gt0, pk_rem, pk_sub, inb_t, gd_y, zl_e, bd_y, isB_n0, isB_n1, n0_eq, n1_eq, if_n0, if_n1, isB_if, not_true_eq_false, not_false_eq_true, ite_true, ite_false, Nat.le_refl, Nat.lt_irrefl, rM_r, rM_k, rM_w, rM_c, rM_2, rd_s, rd_j, rd_k, sI_sI, nu_n]
theorem e8_says {μ : Mem} {k r c : Nat} {lot : Bool} {s : St × Nat} (hk : k ≠ 113) (hL : L16 μ lot) (h : WF s.1) (hr : r < 9) (hc : c ≤ 1) : f_X8_says k (nI r) (nI c) (rM (sI μ 113 18 (nI s.2)) k s.1) = some (rM (sI μ 113 18 (nI (a_say lot r c s).2)) k (a_say lot r c s).1) := by
  have hd := h.d hr
  have hn := h.n
  unfold f_X8_says a_say
  simp (disch := omega) only [nI_add, pk_mul, nI_clamp, nI_eqE, nI_leE, nI_ltE, nI_eq0, nI_le0, nI_lt0, nI_ge0, nI_gt0, pk_rem, pk_sub, inb_t, gd_y, zl_e, bd_y, isB_n0, isB_n1, n0_eq, n1_eq, if_n0, if_n1, isB_if, not_true_eq_false, not_false_eq_true, ite_true, ite_false, Nat.le_refl, Nat.lt_irrefl, rM_r, rM_k, rM_w, rM_c, rM_2, rd_s, rd_j, rd_k, sI_sI]
  by_cases c1 : s.1 (6 + 6 * r + 3) = c
  · simp only [c1, if_true]
  · simp only [c1, if_false]
    have w : WF (nu s.1 (6 + 6 * r + 3) c) := h.up (by rw [bd_d hr]; omega)
    have e : ∀ t, t ≤ 9 → (a_sN lot r c (s.1 (6 + 6 * r + 3)) (nu s.1 (6 + 6 * r + 3) c, s.2) t).1 0 = s.1 0 := fun t ht => (a_sN_n hr (by omega) (by omega) ht).trans (show nu s.1 (6 + 6 * r + 3) c 0 = s.1 0 from nu_n (by omega))
    refine lp_eq (fun n i => f_X8_says_34 k (nI r) (nI c) n (nI (6 + 6 * r)) (nI (s.1 (6 + 6 * r + 3))) (nI i) (rM (sI μ 113 18 (nI (a_sN lot r c (s.1 (6 + 6 * r + 3)) (nu s.1 (6 + 6 * r + 3) c, s.2) i).2)) k (a_sN lot r c (s.1 (6 + 6 * r + 3)) (nu s.1 (6 + 6 * r + 3) c, s.2) i).1)) (s.1 0) _ ?_ ?_ zfu 0 (by omega) (by unfold zfu; omega)
    · intro n
      simp (disch := omega) only [f_X8_says_34, nI_add, pk_mul, nI_clamp, nI_eqE, nI_leE, nI_ltE, nI_eq0, nI_le0, nI_lt0, nI_ge0, nI_gt0, pk_rem, pk_sub, inb_t, gd_y, zl_e, bd_y, isB_n0, isB_n1, n0_eq, n1_eq, if_n0, if_n1, isB_if, not_true_eq_false, not_false_eq_true, ite_true, ite_false, Nat.le_refl, Nat.lt_irrefl, rM_r, rM_k, rM_w, rM_c, rM_2, rd_s, rd_j, rd_k, sI_sI, e (s.1 0) hn]
    · intro n i hi
      exact e8_says_s hk hL (a_sN_w w hr hc (by omega)) hr hc hd (by rw [e i (by omega)]; exact hi)
theorem e8_acts_s {μ : Mem} {k r i n : Nat} {lot : Bool} {s : St × Nat} (hk : k ≠ 113) (hL : L16 μ lot) (h : WF s.1) (hr : r < 9) (hi : i < s.1 3) : f_X8_acts_11 k (nI r) (n + 1) (nI (6 + 6 * r)) (nI i) (rM (sI μ 113 18 (nI s.2)) k s.1) = f_X8_acts_11 k (nI r) n (nI (6 + 6 * r)) (nI (i + 1)) (rM (sI μ 113 18 (nI (a_r1 lot r i s).2)) k (a_r1 lot r i s).1) := by
  have h3 := h.ru
  have i8 : i < 8 := by omega
  have hn := h.n
  have q0 := h.r0 i8
  have q1 := h.r1 i8
  have q2 := h.r2 i8
  have q3 := h.r3 i8
  have qb := h.b hr
  have qs := h.s hr
  have e0 : ¬ s.1 3 ≤ i := by omega
  have cb := a_cb_le (σ := s.1) (r := r) (c := s.1 (1761 + 4 * i)) (k := s.1 0)
  have co := a_co_le h hr i8
  have key : ∀ v, v = a_co s.1 r i → ¬ a_cb s.1 r (s.1 (1761 + 4 * i)) (s.1 0) < s.1 (1761 + 4 * i + 1) → f_X8_acts_71 k (nI r) (fun x3 x4 μ => f_X8_acts_11 k (nI r) n x3 x4 μ) (nI (6 + 6 * r)) (nI i) (nI (1761 + 4 * i)) (nI v) (rM (sI μ 113 18 (nI s.2)) k s.1) = f_X8_acts_11 k (nI r) n (nI (6 + 6 * r)) (nI (i + 1)) (rM (sI μ 113 18 (nI (a_r1 lot r i s).2)) k (a_r1 lot r i s).1) := by
    intro v hv hc
    subst hv
    unfold f_X8_acts_71 f_X8_acts_129 a_r1
    simp only [hc, if_false]
    simp (disch := omega) only [nI_add, pk_mul, nI_clamp, nI_eqE, nI_leE, nI_ltE, nI_eq0, nI_le0, nI_lt0, nI_ge0, nI_gt0, pk_rem, pk_sub, inb_t, gd_y, zl_e, bd_y, isB_n0, isB_n1, n0_eq, n1_eq, if_n0, if_n1, isB_if, not_true_eq_false, not_false_eq_true, ite_true, ite_false, Nat.le_refl, Nat.lt_irrefl, rM_r, rM_k, rM_w, rM_c, rM_2, rd_s, rd_j, rd_k, sI_sI]
    by_cases c0 : s.1 (1761 + 4 * i + 2) = 0
    · simp only [c0, if_true]
      rw [e8_says hk hL h hr co]
      rfl
    · simp only [c0, if_false]
      by_cases c1 : s.1 (1761 + 4 * i + 2) = 1
      · simp only [c1, if_true]
      · simp only [c1, if_false]
        by_cases c2 : s.1 (6 + 6 * r + 2) = 2
        · simp only [c2, if_true]
        · simp only [c2, if_false]
  simp (disch := omega) only [f_X8_acts_11, nI_add, pk_mul, nI_clamp, nI_eqE, nI_leE, nI_ltE, nI_eq0, nI_le0, nI_lt0, nI_ge0, nI_gt0, pk_rem, pk_sub, inb_t, gd_y, zl_e, bd_y, isB_n0, isB_n1, n0_eq, n1_eq, if_n0, if_n1, isB_if, not_true_eq_false, not_false_eq_true, ite_true, ite_false, Nat.le_refl, Nat.lt_irrefl, rM_r, rM_k, rM_w, rM_c, rM_2, rd_s, rd_j, rd_k, sI_sI, e0, e8_countBy h hr q0]
  by_cases c1 : a_cb s.1 r (s.1 (1761 + 4 * i)) (s.1 0) < s.1 (1761 + 4 * i + 1)
  · rw [if_pos c1]
    unfold f_X8_acts_129 a_r1
    simp only [c1, if_true, nI_add]
  · rw [if_neg c1]
    by_cases c2 : s.1 (1761 + 4 * i + 3) = 2
    · rw [if_pos c2]
      exact key _ (by unfold a_co; rw [if_pos c2]) c1
    · rw [if_neg c2]
      exact key _ (by unfold a_co; rw [if_neg c2]) c1
theorem e8_acts {μ : Mem} {k r : Nat} {lot : Bool} {s : St × Nat} (hk : k ≠ 113) (hL : L16 μ lot) (h : WF s.1) (hr : r < 9) : f_X8_acts k (nI r) (rM (sI μ 113 18 (nI s.2)) k s.1) = some (rM (sI μ 113 18 (nI (a_aI lot r s (s.1 3)).2)) k (a_aI lot r s (s.1 3)).1) := by
  have h3 := h.ru
  unfold f_X8_acts
  simp (disch := omega) only [nI_add, pk_mul, nI_clamp, nI_eqE, nI_leE, nI_ltE, nI_eq0, nI_le0, nI_lt0, nI_ge0, nI_gt0, pk_rem, pk_sub, inb_t, gd_y, zl_e, bd_y, isB_n0, isB_n1, n0_eq, n1_eq, if_n0, if_n1, isB_if, not_true_eq_false, not_false_eq_true, ite_true, ite_false, Nat.le_refl, Nat.lt_irrefl]
  have e : ∀ i, (a_aI lot r s i).1 3 = s.1 3 := fun i => a_aI_n h.n hr i (by omega) (by omega) (by omega) (by omega) (by omega)
  refine lp_eq (fun n i => f_X8_acts_11 k (nI r) n (nI (6 + 6 * r)) (nI i) (rM (sI μ 113 18 (nI (a_aI lot r s i).2)) k (a_aI lot r s i).1)) (s.1 3) _ ?_ ?_ zfu 0 (by omega) (by unfold zfu; omega)
  · intro n
    simp (disch := omega) only [f_X8_acts_11, nI_add, pk_mul, nI_clamp, nI_eqE, nI_leE, nI_ltE, nI_eq0, nI_le0, nI_lt0, nI_ge0, nI_gt0, pk_rem, pk_sub, inb_t, gd_y, zl_e, bd_y, isB_n0, isB_n1, n0_eq, n1_eq, if_n0, if_n1, isB_if, not_true_eq_false, not_false_eq_true, ite_true, ite_false, Nat.le_refl, Nat.lt_irrefl, rM_r, rM_k, rM_w, rM_c, rM_2, rd_s, rd_j, rd_k, sI_sI, e (s.1 3)]
  · intro n i hi
    exact e8_acts_s hk hL (a_aI_w h hr (by omega)) hr (by rw [e i]; exact hi)
theorem e8_isOut {μ : Mem} {k r d : Nat} {σ : St} (hk : k ≠ 113) (hD : D17 μ d) (h : WF σ) (hr : r < 9) : f_X8_isOut k (nI r) (rM μ k σ) = some (nI (if a_out d σ r = true then 1 else 0), rM μ k σ) := by
  unfold f_X8_isOut f_X8_isOut_16 a_out
  rw [rM_k (by omega)]
  simp only [hD.e hr, e8_isDark h hr]
  by_cases c : r = d
  · simp [c]
  · simp only [c, if_false, decide_false, Bool.false_or, Option.bind_some, if_n0]
    by_cases c2 : a_dk σ r = true
    · simp [c2]
    · simp [c2]
theorem D17.s {μ : Mem} {d : Nat} {v : Int32} (h : D17 μ d) : D17 (sI μ 113 18 v) d := by
  unfold D17
  rw [rd_j (by omega)]
  exact h
theorem L16.s {μ : Mem} {lot : Bool} {v : Int32} (h : L16 μ lot) : L16 (sI μ 113 18 v) lot := by
  unfold L16
  rw [rd_j (by omega)]
  exact h
theorem e8_goes_133 {μ : Mem} {k : Nat} {s : St × Nat} (hk : k ≠ 113) (h : WF s.1) (hs : s.2 ≤ 648) : f_X8_goes_133 k (rM (sI μ 113 18 (nI s.2)) k s.1) = some (rM (sI μ 113 18 (nI s.2)) k (nu (nu s.1 2 (if s.1 2 + s.2 ≤ 999999 then s.1 2 + s.2 else 999999)) 1 (s.1 1 + 1))) := by
  have h2 := h.e
  unfold f_X8_goes_133 f_X8_goes_161
  simp (disch := omega) only [nI_add, pk_mul, nI_clamp, nI_eqE, nI_leE, nI_ltE, nI_eq0, nI_le0, nI_lt0, nI_ge0, nI_gt0, pk_rem, pk_sub, inb_t, gd_y, zl_e, bd_y, isB_n0, isB_n1, n0_eq, n1_eq, if_n0, if_n1, isB_if, not_true_eq_false, not_false_eq_true, ite_true, ite_false, Nat.le_refl, Nat.lt_irrefl, rM_r, rM_k, rM_w, rM_c, rM_2, rd_s, rd_j, rd_k, sI_sI]
  split
  · simp (disch := omega) only [nI_add, pk_mul, nI_clamp, nI_eqE, nI_leE, nI_ltE, nI_eq0, nI_le0, nI_lt0, nI_ge0, nI_gt0, pk_rem, pk_sub, inb_t, gd_y, zl_e, bd_y, isB_n0, isB_n1, n0_eq, n1_eq, if_n0, if_n1, isB_if, not_true_eq_false, not_false_eq_true, ite_true, ite_false, Nat.le_refl, Nat.lt_irrefl, rM_r, rM_k, rM_w, rM_c, rM_2, rd_s, rd_j, rd_k, sI_sI, nu_n]
  · simp (disch := omega) only [nI_add, pk_mul, nI_clamp, nI_eqE, nI_leE, nI_ltE, nI_eq0, nI_le0, nI_lt0, nI_ge0, nI_gt0, pk_rem, pk_sub, inb_t, gd_y, zl_e, bd_y, isB_n0, isB_n1, n0_eq, n1_eq, if_n0, if_n1, isB_if, not_true_eq_false, not_false_eq_true, ite_true, ite_false, Nat.le_refl, Nat.lt_irrefl, rM_r, rM_k, rM_w, rM_c, rM_2, rd_s, rd_j, rd_k, sI_sI, nu_n]
theorem e8_goes_98 {μ : Mem} {k d : Nat} {lot : Bool} {σ : St} (hk : k ≠ 113) (hL : L16 μ lot) (hD : D17 μ d) (h : WF σ) {N : Nat} (hN : N = σ 0) : f_X8_goes_98 k (rM μ k σ) = some (rM (sI μ 113 18 (nI (a_gR lot d (σ, 0) N).2)) k (nu (nu (a_gR lot d (σ, 0) N).1 2 (if (a_gR lot d (σ, 0) N).1 2 + (a_gR lot d (σ, 0) N).2 ≤ 999999 then (a_gR lot d (σ, 0) N).1 2 + (a_gR lot d (σ, 0) N).2 else 999999)) 1 ((a_gR lot d (σ, 0) N).1 1 + 1))) := by
  have hn := h.n
  unfold f_X8_goes_98
  simp (disch := omega) only [zl, rM_r, rM_k, rM_w, rM_c, rM_2, rd_s, rd_j, rd_k, sI_sI]
  have e : ∀ i, i ≤ 9 → (a_gR lot d (σ, 0) i).1 0 = σ 0 := fun i hi => a_gR_n hn hi KA0
  refine lp_eq (fun n i => f_X8_goes_105 k (fun μ => f_X8_goes_133 k μ) n (nI i) (rM (sI μ 113 18 (nI (a_gR lot d (σ, 0) i).2)) k (a_gR lot d (σ, 0) i).1)) N _ ?_ ?_ zfu 0 (by omega) (by unfold zfu; omega)
  · intro n
    have c := a_gR_c (lot := lot) (d := d) (s := (σ, 0)) h (r := N) (by omega)
    have hN' : σ 0 ≤ N := by omega
    simp (disch := omega) only [f_X8_goes_105, nI_add, pk_mul, nI_clamp, nI_eqE, nI_leE, nI_ltE, nI_eq0, nI_le0, nI_lt0, nI_ge0, nI_gt0, pk_rem, pk_sub, inb_t, gd_y, zl_e, bd_y, isB_n0, isB_n1, n0_eq, n1_eq, if_n0, if_n1, isB_if, not_true_eq_false, not_false_eq_true, ite_true, ite_false, Nat.le_refl, Nat.lt_irrefl, rM_r, rM_k, rM_w, rM_c, rM_2, rd_s, rd_j, rd_k, sI_sI, e N (by omega), hN']
    exact e8_goes_133 (s := a_gR lot d (σ, 0) N) hk (a_gR_w h (by omega)) (by simp only at c; omega)
  · intro n i hi
    have w : WF (a_gR lot d (σ, 0) i).1 := a_gR_w h (by omega)
    have e0 : ¬ σ 0 ≤ i := by omega
    simp (disch := omega) only [f_X8_goes_105, nI_add, pk_mul, nI_clamp, nI_eqE, nI_leE, nI_ltE, nI_eq0, nI_le0, nI_lt0, nI_ge0, nI_gt0, pk_rem, pk_sub, inb_t, gd_y, zl_e, bd_y, isB_n0, isB_n1, n0_eq, n1_eq, if_n0, if_n1, isB_if, not_true_eq_false, not_false_eq_true, ite_true, ite_false, Nat.le_refl, Nat.lt_irrefl, rM_r, rM_k, rM_w, rM_c, rM_2, rd_s, rd_j, rd_k, sI_sI, e i (by omega), e0, e8_isOut hk hD.s w (show i < 9 by omega)]
    have g : a_gR lot d (σ, 0) (i + 1) = a_g1 lot d i (a_gR lot d (σ, 0) i) := rfl
    rw [g]
    unfold a_g1 f_X8_goes_127
    by_cases c : a_out d (a_gR lot d (σ, 0) i).1 i = true
    · simp only [c, not_true_eq_false, if_false, if_true, nI_add]
    · simp only [c, not_false_eq_true, if_true, if_false]
      rw [e8_acts hk hL w (by omega)]
      simp only [Option.bind_some, nI_add]
      simp only [Bool.false_eq_true, not_false_eq_true, if_true, if_false]
theorem e8_goes {μ : Mem} {k d : Nat} {lot : Bool} {σ : St} (hk : k ≠ 113) (hL : L16 μ lot) (hD : D17 μ d) (h : WF σ) : f_X8_goes k (rM μ k σ) = some (rM (sI μ 113 18 (nI (a_act lot d σ).2)) k (a_go lot d σ)) := by
  have hn := h.n
  have hm := h.m
  have hmod : σ 1 % 19 < 19 := Nat.mod_lt _ (by decide)
  unfold f_X8_goes
  simp (disch := omega) only [nI_add, pk_mul, nI_clamp, nI_eqE, nI_leE, nI_ltE, nI_eq0, nI_le0, nI_lt0, nI_ge0, nI_gt0, pk_rem, pk_sub, inb_t, gd_y, zl_e, bd_y, isB_n0, isB_n1, n0_eq, n1_eq, if_n0, if_n1, isB_if, not_true_eq_false, not_false_eq_true, ite_true, ite_false, Nat.le_refl, Nat.lt_irrefl, rM_r, rM_k, rM_w, rM_c, rM_2, rd_s, rd_j, rd_k, sI_sI]
  refine Eq.trans ?_ (lp_eq (fun n i => f_X8_goes_9 k (fun μ => f_X8_goes_98 k μ) n (nI (σ 1 % 19)) (nI i) (rM μ k (a_hX d σ (fun f t => decide (f < i) && decide (t < σ 0))))) (σ 0) _ ?_ ?_ zfu 0 (by omega) (by unfold zfu; omega))
  · have q : a_hX d σ (fun f t => decide (f < 0) && decide (t < σ 0)) = σ := a_hX_0 (fun f t _ _ => by simp)
    simp only [q]
  · intro n
    have w : WF (a_hX d σ (fun f t => decide (f < σ 0) && decide (t < σ 0))) := a_hX_w h
    have z0 : a_hX d σ (fun f t => decide (f < σ 0) && decide (t < σ 0)) 0 = σ 0 := a_hX_o (by omega)
    simp (disch := omega) only [f_X8_goes_9, nI_add, pk_mul, nI_clamp, nI_eqE, nI_leE, nI_ltE, nI_eq0, nI_le0, nI_lt0, nI_ge0, nI_gt0, pk_rem, pk_sub, inb_t, gd_y, zl_e, bd_y, isB_n0, isB_n1, n0_eq, n1_eq, if_n0, if_n1, isB_if, not_true_eq_false, not_false_eq_true, ite_true, ite_false, Nat.le_refl, Nat.lt_irrefl, rM_r, rM_k, rM_w, rM_c, rM_2, rd_s, rd_j, rd_k, sI_sI, z0]
    exact e8_goes_98 hk hL hD w (N := σ 0) z0.symm
  · intro n f hf
    have z0 : ∀ P, a_hX d σ P 0 = σ 0 := fun P => a_hX_o (by omega)
    have e0 : ¬ σ 0 ≤ f := by omega
    simp (disch := omega) only [f_X8_goes_9, nI_add, pk_mul, nI_clamp, nI_eqE, nI_leE, nI_ltE, nI_eq0, nI_le0, nI_lt0, nI_ge0, nI_gt0, pk_rem, pk_sub, inb_t, gd_y, zl_e, bd_y, isB_n0, isB_n1, n0_eq, n1_eq, if_n0, if_n1, isB_if, not_true_eq_false, not_false_eq_true, ite_true, ite_false, Nat.le_refl, Nat.lt_irrefl, rM_r, rM_k, rM_w, rM_c, rM_2, rd_s, rd_j, rd_k, sI_sI, z0, e0]
    refine Eq.trans ?_ (lp_eq (fun m t => f_X8_goes_19 k (fun x2 x3 μ => f_X8_goes_92 k (fun x2 x3 μ => f_X8_goes_9 k (fun μ => f_X8_goes_98 k μ) n x2 x3 μ) (fun μ => f_X8_goes_98 k μ) x2 x3 μ) m (nI (σ 1 % 19)) (nI f) (nI t) (rM μ k (a_hX d σ (fun f' t' => (decide (f' < f) && decide (t' < σ 0)) || (decide (f' = f) && decide (t' < t)))))) (σ 0) _ ?_ ?_ zfu 0 (by omega) (by unfold zfu; omega))
    · have q : a_hX d σ (fun f' t' => (decide (f' < f) && decide (t' < σ 0)) || (decide (f' = f) && decide (t' < 0))) = a_hX d σ (fun f' t' => decide (f' < f) && decide (t' < σ 0)) := a_hX_cg (fun f' t' _ _ => by simp)
      simp only [q]
    · intro m
      have q : a_hX d σ (fun f' t' => (decide (f' < f) && decide (t' < σ 0)) || (decide (f' = f) && decide (t' < σ 0))) = a_hX d σ (fun f' t' => decide (f' < f + 1) && decide (t' < σ 0)) := by
        apply a_hX_cg
        intro f' t' hf' ht'
        by_cases c1 : f' < f
        · simp [c1, show f' < f + 1 by omega]
        · by_cases c2 : f' = f
          · simp [c2]
          · simp [c1, c2, show ¬ f' < f + 1 by omega]
      simp (disch := omega) only [f_X8_goes_19, nI_add, pk_mul, nI_clamp, nI_eqE, nI_leE, nI_ltE, nI_eq0, nI_le0, nI_lt0, nI_ge0, nI_gt0, pk_rem, pk_sub, inb_t, gd_y, zl_e, bd_y, isB_n0, isB_n1, n0_eq, n1_eq, if_n0, if_n1, isB_if, not_true_eq_false, not_false_eq_true, ite_true, ite_false, Nat.le_refl, Nat.lt_irrefl, rM_r, rM_k, rM_w, rM_c, rM_2, rd_s, rd_j, rd_k, sI_sI, z0, f_X8_goes_92]
      rw [q]
    · intro m t ht
      have e1 : ¬ σ 0 ≤ t := by omega
      have f9 : f < 9 := by omega
      have t9 : t < 9 := by omega
      have hP : (fun f' t' => (decide (f' < f) && decide (t' < σ 0)) || (decide (f' = f) && decide (t' < t))) f t = false := by simp
      have st := a_hX_step (d := d) (σ := σ) (P := fun f' t' => (decide (f' < f) && decide (t' < σ 0)) || (decide (f' = f) && decide (t' < t))) (Q := fun f' t' => (decide (f' < f) && decide (t' < σ 0)) || (decide (f' = f) && decide (t' < t + 1))) f9 t9 hP (by
        intro f' t' hf' ht'
        by_cases c1 : f' = f
        · by_cases c2 : t' = t
          · simp [c1, c2]
          · by_cases c3 : t' < t
            · simp [c1, c2, c3, show t' < t + 1 by omega]
            · simp [c1, c2, c3, show ¬ t' < t + 1 by omega]
        · simp [c1])
      rw [← st]
      have w : WF (a_hX d σ (fun f' t' => (decide (f' < f) && decide (t' < σ 0)) || (decide (f' = f) && decide (t' < t)))) := a_hX_w h
      have rd : a_hX d σ (fun f' t' => (decide (f' < f) && decide (t' < σ 0)) || (decide (f' = f) && decide (t' < t))) (222 + 19 * (9 * f + t) + σ 1 % 19) = σ (222 + 19 * (9 * f + t) + σ 1 % 19) := by
        rw [a_hX_d f9 t9 hmod, if_neg]
        simp
      have ro : a_out d (a_hX d σ (fun f' t' => (decide (f' < f) && decide (t' < σ 0)) || (decide (f' = f) && decide (t' < t)))) t = a_out d σ t := by
        unfold a_out a_dk
        rw [a_hX_o (by omega), a_hX_o (by omega), a_hX_o (by omega)]
      have hdu := h.du f9 t9 hmod
      generalize hX : a_hX d σ (fun f' t' => (decide (f' < f) && decide (t' < σ 0)) || (decide (f' = f) && decide (t' < t))) = X at *
      have z1 : X 0 = σ 0 := by rw [← hX]; exact a_hX_o (by omega)
      simp (disch := omega) only [f_X8_goes_19, nI_add, pk_mul, nI_clamp, nI_eqE, nI_leE, nI_ltE, nI_eq0, nI_le0, nI_lt0, nI_ge0, nI_gt0, pk_rem, pk_sub, inb_t, gd_y, zl_e, bd_y, isB_n0, isB_n1, n0_eq, n1_eq, if_n0, if_n1, isB_if, not_true_eq_false, not_false_eq_true, ite_true, ite_false, Nat.le_refl, Nat.lt_irrefl, rM_r, rM_k, rM_w, rM_c, rM_2, rd_s, rd_j, rd_k, sI_sI, z1, e1, rd]
      by_cases c1 : σ (222 + 19 * (9 * f + t) + σ 1 % 19) = 0
      · rw [if_pos c1, if_neg (by omega)]
        simp (disch := omega) only [f_X8_goes_81, nI_add, pk_mul, nI_clamp, nI_eqE, nI_leE, nI_ltE, nI_eq0, nI_le0, nI_lt0, nI_ge0, nI_gt0, pk_rem, pk_sub, inb_t, gd_y, zl_e, bd_y, isB_n0, isB_n1, n0_eq, n1_eq, if_n0, if_n1, isB_if, not_true_eq_false, not_false_eq_true, ite_true, ite_false, Nat.le_refl, Nat.lt_irrefl, rM_r, rM_k, rM_w, rM_c, rM_2, rd_s, rd_j, rd_k, sI_sI]
      · rw [if_neg c1, e8_isOut hk hD w t9, ro]
        simp only [Option.bind_some, if_n0]
        by_cases c2 : a_out d σ t = true
        · rw [if_neg (by simp [c2]), if_neg (by simp [c2])]
          simp (disch := omega) only [f_X8_goes_81, nI_add, pk_mul, nI_clamp, nI_eqE, nI_leE, nI_ltE, nI_eq0, nI_le0, nI_lt0, nI_ge0, nI_gt0, pk_rem, pk_sub, inb_t, gd_y, zl_e, bd_y, isB_n0, isB_n1, n0_eq, n1_eq, if_n0, if_n1, isB_if, not_true_eq_false, not_false_eq_true, ite_true, ite_false, Nat.le_refl, Nat.lt_irrefl, rM_r, rM_k, rM_w, rM_c, rM_2, rd_s, rd_j, rd_k, sI_sI]
        · rw [if_pos (by simp [c2]), if_pos ⟨by omega, by simpa using c2⟩]
          simp (disch := omega) only [f_X8_goes_81, nI_add, pk_mul, nI_clamp, nI_eqE, nI_leE, nI_ltE, nI_eq0, nI_le0, nI_lt0, nI_ge0, nI_gt0, pk_rem, pk_sub, inb_t, gd_y, zl_e, bd_y, isB_n0, isB_n1, n0_eq, n1_eq, if_n0, if_n1, isB_if, not_true_eq_false, not_false_eq_true, ite_true, ite_false, Nat.le_refl, Nat.lt_irrefl, rM_r, rM_k, rM_w, rM_c, rM_2, rd_s, rd_j, rd_k, sI_sI, rd]
