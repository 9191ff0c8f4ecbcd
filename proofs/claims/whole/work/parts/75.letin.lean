/-! PURE PART: a rock let in, the last one taken out -/
def a_clr (σ : St) (p i : Nat) : St := fun j => if 222 + 19 * p ≤ j ∧ j < 222 + 19 * p + i then 0 else σ j
theorem a_clr_0 {σ : St} {p : Nat} : a_clr σ p 0 = σ := by
  funext j
  unfold a_clr
  rw [if_neg (by omega)]
theorem a_clr_s {σ : St} {p i : Nat} : nu (a_clr σ p i) (222 + 19 * p + i) 0 = a_clr σ p (i + 1) := by
  funext j
  unfold nu a_clr
  by_cases e : j = 222 + 19 * p + i
  · rw [if_pos e, if_pos (by omega)]
  · rw [if_neg e]
    by_cases c : 222 + 19 * p ≤ j ∧ j < 222 + 19 * p + i
    · rw [if_pos c, if_pos (by omega)]
    · rw [if_neg c, if_neg (by omega)]
theorem e8_clears {μ : Mem} {k p : Nat} {σ : St} (hp : p < 81) : f_X8_clears k (nI p) (rM μ k σ) = some (rM μ k (a_clr σ p 19)) := by
  unfold f_X8_clears
  refine Eq.trans ?_ (lp_eq (fun n i => f_X8_clears_2 k (nI p) n (nI i) (rM μ k (a_clr σ p i))) 19 _ ?_ ?_ zfu 0 (by omega) (by unfold zfu; omega))
  · simp only [a_clr_0]
  · intro n
    simp (disch := omega) only [f_X8_clears_2, nI_add, pk_mul, nI_clamp, nI_eqE, nI_leE, nI_ltE, nI_eq0, nI_le0, nI_lt0, nI_ge0, nI_gt0, pk_rem, pk_sub, inb_t, gd_y, zl_e, bd_y, isB_n0, isB_n1, n0_eq, n1_eq, if_n0, if_n1, isB_if, not_true_eq_false, not_false_eq_true, ite_true, ite_false, Nat.le_refl, Nat.lt_irrefl]
  · intro n i hi
    have qe : ¬ 19 ≤ i := by omega
    simp (disch := omega) only [f_X8_clears_2, nI_add, pk_mul, nI_clamp, nI_eqE, nI_leE, nI_ltE, nI_eq0, nI_le0, nI_lt0, nI_ge0, nI_gt0, pk_rem, pk_sub, inb_t, gd_y, zl_e, bd_y, isB_n0, isB_n1, n0_eq, n1_eq, if_n0, if_n1, isB_if, not_true_eq_false, not_false_eq_true, ite_true, ite_false, Nat.le_refl, Nat.lt_irrefl, qe, rM_w, a_clr_s]
/-- delays, ears and what is due, of rock n with those below K -/
def a_lk (σ : St) (n K : Nat) : St := fun j =>
  if 60 ≤ j ∧ j < 141 ∧ (((j - 60) / 9 = n ∧ (j - 60) % 9 < K) ∨ ((j - 60) % 9 = n ∧ (j - 60) / 9 < K)) then 1
  else if 141 ≤ j ∧ j < 222 ∧ (((j - 141) / 9 = n ∧ (j - 141) % 9 < K) ∨ ((j - 141) % 9 = n ∧ (j - 141) / 9 < K)) then 2
  else if 222 ≤ j ∧ j < 1761 ∧ (((j - 222) / 19 / 9 = n ∧ (j - 222) / 19 % 9 < K) ∨ ((j - 222) / 19 % 9 = n ∧ (j - 222) / 19 / 9 < K)) then 0
  else σ j
theorem a_lk_0 {σ : St} {n : Nat} : a_lk σ n 0 = σ := by
  funext j
  unfold a_lk
  rw [if_neg (by omega), if_neg (by omega), if_neg (by omega)]
theorem a_lk_o {σ : St} {n K j : Nat} (h : j < 60 ∨ 1761 ≤ j) : a_lk σ n K j = σ j := by
  unfold a_lk
  rw [if_neg (by omega), if_neg (by omega), if_neg (by omega)]
theorem a_lk_l {σ : St} {n K a b : Nat} (ha : a < 9) (hb : b < 9) : a_lk σ n K (60 + 9 * a + b) = if (a = n ∧ b < K) ∨ (b = n ∧ a < K) then 1 else σ (60 + 9 * a + b) := by
  have e1 : (60 + 9 * a + b - 60) / 9 = a := by omega
  have e2 : (60 + 9 * a + b - 60) % 9 = b := by omega
  unfold a_lk
  rw [e1, e2]
  by_cases c : (a = n ∧ b < K) ∨ (b = n ∧ a < K)
  · rw [if_pos ⟨by omega, by omega, c⟩, if_pos c]
  · rw [if_neg (fun z => c z.2.2), if_neg (by omega), if_neg (by omega), if_neg c]
theorem a_lk_h {σ : St} {n K a b : Nat} (ha : a < 9) (hb : b < 9) : a_lk σ n K (141 + 9 * a + b) = if (a = n ∧ b < K) ∨ (b = n ∧ a < K) then 2 else σ (141 + 9 * a + b) := by
  have e1 : (141 + 9 * a + b - 141) / 9 = a := by omega
  have e2 : (141 + 9 * a + b - 141) % 9 = b := by omega
  unfold a_lk
  rw [e1, e2, if_neg (by omega)]
  by_cases c : (a = n ∧ b < K) ∨ (b = n ∧ a < K)
  · rw [if_pos ⟨by omega, by omega, c⟩, if_pos c]
  · rw [if_neg (fun z => c z.2.2), if_neg (by omega), if_neg c]
theorem a_lk_d {σ : St} {n K a b s : Nat} (ha : a < 9) (hb : b < 9) (hs : s < 19) : a_lk σ n K (222 + 19 * (9 * a + b) + s) = if (a = n ∧ b < K) ∨ (b = n ∧ a < K) then 0 else σ (222 + 19 * (9 * a + b) + s) := by
  have e1 : (222 + 19 * (9 * a + b) + s - 222) / 19 / 9 = a := by omega
  have e2 : (222 + 19 * (9 * a + b) + s - 222) / 19 % 9 = b := by omega
  unfold a_lk
  rw [e1, e2, if_neg (by omega), if_neg (by omega)]
  by_cases c : (a = n ∧ b < K) ∨ (b = n ∧ a < K)
  · rw [if_pos ⟨by omega, by omega, c⟩, if_pos c]
  · rw [if_neg (fun z => c z.2.2), if_neg c]
theorem ix_l {j : Nat} (h1 : 60 ≤ j) (h2 : j < 141) : ∃ a b, a < 9 ∧ b < 9 ∧ j = 60 + 9 * a + b := ⟨(j - 60) / 9, (j - 60) % 9, by omega, by omega, by omega⟩
theorem a_lk_ext {σ τ : St} {n K : Nat} (h1 : ∀ j, (j < 60 ∨ 1761 ≤ j) → τ j = σ j) (h2 : ∀ a b, a < 9 → b < 9 → τ (60 + 9 * a + b) = if (a = n ∧ b < K) ∨ (b = n ∧ a < K) then 1 else σ (60 + 9 * a + b)) (h3 : ∀ a b, a < 9 → b < 9 → τ (141 + 9 * a + b) = if (a = n ∧ b < K) ∨ (b = n ∧ a < K) then 2 else σ (141 + 9 * a + b)) (h4 : ∀ a b s, a < 9 → b < 9 → s < 19 → τ (222 + 19 * (9 * a + b) + s) = if (a = n ∧ b < K) ∨ (b = n ∧ a < K) then 0 else σ (222 + 19 * (9 * a + b) + s)) : a_lk σ n K = τ := by
  funext j
  by_cases c1 : j < 60 ∨ 1761 ≤ j
  · rw [a_lk_o c1, h1 j c1]
  · by_cases c2 : j < 141
    · obtain ⟨a, b, ha, hb, rfl⟩ := ix_l (j := j) (by omega) c2
      rw [a_lk_l ha hb, h2 a b ha hb]
    · by_cases c3 : j < 222
      · obtain ⟨b, a, hb, ha, rfl⟩ := ix_h (j := j) (by omega) c3
        rw [a_lk_h ha hb, h3 a b ha hb]
      · obtain ⟨a, b, s, ha, hb, hs, rfl⟩ := ix_d (j := j) (by omega) (by omega)
        rw [a_lk_d ha hb hs, h4 a b s ha hb hs]
theorem clr_n {σ : St} {p j : Nat} (h : j < 222 + 19 * p ∨ 222 + 19 * p + 19 ≤ j) : a_clr σ p 19 j = σ j := by
  unfold a_clr
  rw [if_neg (by omega)]
theorem clr_y {σ : St} {p j : Nat} (h1 : 222 + 19 * p ≤ j) (h2 : j < 222 + 19 * p + 19) : a_clr σ p 19 j = 0 := by
  unfold a_clr
  rw [if_pos ⟨h1, h2⟩]
theorem a_lk_s {σ : St} {n K : Nat} (hn : n < 9) (hK : K < 9) : a_clr (a_clr (nu (nu (nu (nu (a_lk σ n K) (60 + 9 * n + K) 1) (60 + 9 * K + n) 1) (141 + 9 * n + K) 2) (141 + 9 * K + n) 2) (9 * n + K) 19) (9 * K + n) 19 = a_lk σ n (K + 1) := by
  symm
  apply a_lk_ext
  · intro j hj
    rw [clr_n (by omega), clr_n (by omega), nu_n (by omega), nu_n (by omega), nu_n (by omega), nu_n (by omega), a_lk_o hj]
  · intro a b ha hb
    rw [clr_n (by omega), clr_n (by omega), nu_n (by omega), nu_n (by omega)]
    by_cases e1 : a = K ∧ b = n
    · obtain ⟨rfl, rfl⟩ := e1
      rw [nu_s, if_pos (by omega)]
    · rw [nu_n (by omega)]
      by_cases e2 : a = n ∧ b = K
      · obtain ⟨rfl, rfl⟩ := e2
        rw [nu_s, if_pos (by omega)]
      · rw [nu_n (by omega), a_lk_l ha hb]
        by_cases c : (a = n ∧ b < K) ∨ (b = n ∧ a < K)
        · rw [if_pos c, if_pos (by omega)]
        · rw [if_neg c, if_neg (by omega)]
  · intro a b ha hb
    rw [clr_n (by omega), clr_n (by omega)]
    by_cases e1 : a = K ∧ b = n
    · obtain ⟨rfl, rfl⟩ := e1
      rw [nu_s, if_pos (by omega)]
    · rw [nu_n (by omega)]
      by_cases e2 : a = n ∧ b = K
      · obtain ⟨rfl, rfl⟩ := e2
        rw [nu_s, if_pos (by omega)]
      · rw [nu_n (by omega), nu_n (by omega), nu_n (by omega), a_lk_h ha hb]
        by_cases c : (a = n ∧ b < K) ∨ (b = n ∧ a < K)
        · rw [if_pos c, if_pos (by omega)]
        · rw [if_neg c, if_neg (by omega)]
  · intro a b s ha hb hs
    by_cases e1 : a = K ∧ b = n
    · obtain ⟨rfl, rfl⟩ := e1
      rw [clr_y (by omega) (by omega), if_pos (by omega)]
    · rw [clr_n (by omega)]
      by_cases e2 : a = n ∧ b = K
      · obtain ⟨rfl, rfl⟩ := e2
        rw [clr_y (by omega) (by omega), if_pos (by omega)]
      · rw [clr_n (by omega), nu_n (by omega), nu_n (by omega), nu_n (by omega), nu_n (by omega), a_lk_d ha hb hs]
        by_cases c : (a = n ∧ b < K) ∨ (b = n ∧ a < K)
        · rw [if_pos c, if_pos (by omega)]
        · rw [if_neg c, if_neg (by omega)]
def a_l0 (σ : St) (kd c f u : Nat) : St := nu (nu (nu (nu (nu (nu σ (6 + 6 * σ 0) kd) (6 + 6 * σ 0 + 1) c) (6 + 6 * σ 0 + 2) 2) (6 + 6 * σ 0 + 3) 2) (6 + 6 * σ 0 + 4) f) (6 + 6 * σ 0 + 5) u
def a_li (σ : St) (kd c f u : Nat) : St := nu (a_lk (a_l0 σ kd c f u) (σ 0) 9) 0 (σ 0 + 1)
theorem a_l0_n {σ : St} {kd c f u j : Nat} (h : j < 6 + 6 * σ 0 ∨ 6 + 6 * σ 0 + 6 ≤ j) : a_l0 σ kd c f u j = σ j := by
  unfold a_l0
  simp (disch := omega) only [nu_n]
theorem e8_letsIn {μ : Mem} {σ : St} {kd c f u : Nat} (hn : σ 0 < 9) : f_X8_letsIn 114 (nI kd) (nI c) (nI f) (nI u) (rM μ 114 σ) = some (rM μ 114 (a_li σ kd c f u)) := by
  unfold f_X8_letsIn
  simp (disch := omega) only [nI_add, pk_mul, nI_clamp, nI_eqE, nI_leE, nI_ltE, nI_eq0, nI_le0, nI_lt0, nI_ge0, nI_gt0, pk_rem, pk_sub, inb_t, gd_y, zl_e, bd_y, isB_n0, isB_n1, n0_eq, n1_eq, if_n0, if_n1, isB_if, not_true_eq_false, not_false_eq_true, ite_true, ite_false, Nat.le_refl, Nat.lt_irrefl, rM_r, rM_w]
  have e0 : a_l0 σ kd c f u 0 = σ 0 := a_l0_n (by omega)
  have fold : nu (nu (nu (nu (nu (nu σ (6 + 6 * σ 0) kd) (6 + 6 * σ 0 + 1) c) (6 + 6 * σ 0 + 2) 2) (6 + 6 * σ 0 + 3) 2) (6 + 6 * σ 0 + 4) f) (6 + 6 * σ 0 + 5) u = a_l0 σ kd c f u := rfl
  rw [fold]
  refine Eq.trans ?_ (lp_eq (fun m K => f_X8_letsIn_59 114 (nI kd) (nI c) (nI f) (nI u) (fun μ => f_X8_letsIn_154 114 (nI kd) (nI c) (nI f) (nI u) μ) m (nI (σ 0)) (nI K) (rM μ 114 (a_lk (a_l0 σ kd c f u) (σ 0) K))) 9 _ ?_ ?_ zfu 0 (by omega) (by unfold zfu; omega))
  · simp only [a_lk_0]
  · intro m
    have e1 : a_lk (a_l0 σ kd c f u) (σ 0) 9 0 = σ 0 := by rw [a_lk_o (by omega), e0]
    simp (disch := omega) only [f_X8_letsIn_59, f_X8_letsIn_154, nI_add, pk_mul, nI_clamp, nI_eqE, nI_leE, nI_ltE, nI_eq0, nI_le0, nI_lt0, nI_ge0, nI_gt0, pk_rem, pk_sub, inb_t, gd_y, zl_e, bd_y, isB_n0, isB_n1, n0_eq, n1_eq, if_n0, if_n1, isB_if, not_true_eq_false, not_false_eq_true, ite_true, ite_false, Nat.le_refl, Nat.lt_irrefl, rM_r, rM_w, e1]
    rfl
  · intro m K hK
    have qe : ¬ 9 ≤ K := by omega
    simp (disch := omega) only [f_X8_letsIn_59, nI_add, pk_mul, nI_clamp, nI_eqE, nI_leE, nI_ltE, nI_eq0, nI_le0, nI_lt0, nI_ge0, nI_gt0, pk_rem, pk_sub, inb_t, gd_y, zl_e, bd_y, isB_n0, isB_n1, n0_eq, n1_eq, if_n0, if_n1, isB_if, not_true_eq_false, not_false_eq_true, ite_true, ite_false, Nat.le_refl, Nat.lt_irrefl, qe, rM_w, e8_clears, a_lk_s hn hK]
theorem li_0 {σ : St} {kd c f u : Nat} : a_li σ kd c f u 0 = σ 0 + 1 := nu_s
theorem li_o {σ : St} {kd c f u j : Nat} (h0 : j ≠ 0) (h : (j < 60 ∧ (j < 6 + 6 * σ 0 ∨ 6 + 6 * σ 0 + 6 ≤ j)) ∨ 1761 ≤ j) (hn : σ 0 < 9) : a_li σ kd c f u j = σ j := by
  unfold a_li
  rw [nu_n h0, a_lk_o (by omega), a_l0_n (by omega)]
theorem li_r {σ : St} {kd c f u : Nat} (hn : σ 0 < 9) : a_li σ kd c f u (6 + 6 * σ 0) = kd ∧ a_li σ kd c f u (6 + 6 * σ 0 + 1) = c ∧ a_li σ kd c f u (6 + 6 * σ 0 + 2) = 2 ∧ a_li σ kd c f u (6 + 6 * σ 0 + 3) = 2 ∧ a_li σ kd c f u (6 + 6 * σ 0 + 4) = f ∧ a_li σ kd c f u (6 + 6 * σ 0 + 5) = u := by
  unfold a_li
  rw [nu_n (by omega), a_lk_o (by omega), nu_n (by omega), a_lk_o (by omega), nu_n (by omega), a_lk_o (by omega), nu_n (by omega), a_lk_o (by omega), nu_n (by omega), a_lk_o (by omega), nu_n (by omega), a_lk_o (by omega)]
  unfold a_l0
  simp (disch := omega) only [nu_n, nu_s]
  exact ⟨trivial, trivial, trivial, trivial, trivial, trivial⟩
theorem li_l {σ : St} {kd c f u a b : Nat} (hn : σ 0 < 9) (ha : a < 9) (hb : b < 9) : a_li σ kd c f u (60 + 9 * a + b) = if a = σ 0 ∨ b = σ 0 then 1 else σ (60 + 9 * a + b) := by
  unfold a_li
  rw [nu_n (by omega), a_lk_l ha hb, a_l0_n (by omega)]
  have : ((a = σ 0 ∧ b < 9) ∨ (b = σ 0 ∧ a < 9)) ↔ (a = σ 0 ∨ b = σ 0) := by omega
  simp only [this]
theorem li_h {σ : St} {kd c f u a b : Nat} (hn : σ 0 < 9) (ha : a < 9) (hb : b < 9) : a_li σ kd c f u (141 + 9 * a + b) = if a = σ 0 ∨ b = σ 0 then 2 else σ (141 + 9 * a + b) := by
  unfold a_li
  rw [nu_n (by omega), a_lk_h ha hb, a_l0_n (by omega)]
  have : ((a = σ 0 ∧ b < 9) ∨ (b = σ 0 ∧ a < 9)) ↔ (a = σ 0 ∨ b = σ 0) := by omega
  simp only [this]
theorem li_d {σ : St} {kd c f u a b s : Nat} (hn : σ 0 < 9) (ha : a < 9) (hb : b < 9) (hs : s < 19) : a_li σ kd c f u (222 + 19 * (9 * a + b) + s) = if a = σ 0 ∨ b = σ 0 then 0 else σ (222 + 19 * (9 * a + b) + s) := by
  unfold a_li
  rw [nu_n (by omega), a_lk_d ha hb hs, a_l0_n (by omega)]
  have : ((a = σ 0 ∧ b < 9) ∨ (b = σ 0 ∧ a < 9)) ↔ (a = σ 0 ∨ b = σ 0) := by omega
  simp only [this]
theorem li_w {σ : St} {kd c f u : Nat} (w : WF σ) (hn : σ 0 < 9) (hk : kd ≤ 5) (hc : c ≤ 1) (hf : f ≤ 99) (hu : u ≤ 100) : WF (a_li σ kd c f u) := by
  intro j hj
  by_cases j0 : j = 0
  · subst j0; rw [li_0, bd_0]; omega
  · by_cases c1 : (j < 60 ∧ (j < 6 + 6 * σ 0 ∨ 6 + 6 * σ 0 + 6 ≤ j)) ∨ 1761 ≤ j
    · rw [li_o j0 c1 hn]; exact w j hj
    · by_cases c2 : j < 60
      · obtain ⟨e0, e1, e2, e3, e4, e5⟩ := li_r (kd := kd) (c := c) (f := f) (u := u) hn
        rcases (show j = 6 + 6 * σ 0 ∨ j = 6 + 6 * σ 0 + 1 ∨ j = 6 + 6 * σ 0 + 2 ∨ j = 6 + 6 * σ 0 + 3 ∨ j = 6 + 6 * σ 0 + 4 ∨ j = 6 + 6 * σ 0 + 5 by omega) with e | e | e | e | e | e <;> subst e
        · rw [e0, bd_k hn]; exact hk
        · rw [e1, bd_b hn]; exact hc
        · rw [e2, bd_s hn]; omega
        · rw [e3, bd_d hn]; omega
        · rw [e4, bd_f hn]; exact hf
        · rw [e5, bd_u hn]; exact hu
      · by_cases c3 : j < 141
        · obtain ⟨a, b, ha, hb, rfl⟩ := ix_l (j := j) (by omega) c3
          rw [li_l hn ha hb, bd_l (by omega) (by omega)]
          have := w.l ha hb
          split <;> omega
        · by_cases c4 : j < 222
          · obtain ⟨b, a, hb, ha, rfl⟩ := ix_h (j := j) (by omega) c4
            rw [li_h hn ha hb, bd_h (by omega) (by omega)]
            have := w.h ha hb
            split <;> omega
          · obtain ⟨a, b, s, ha, hb, hs, rfl⟩ := ix_d (j := j) (by omega) (by omega)
            rw [li_d hn ha hb hs, bd_h (by omega) (by omega)]
            have := w.du ha hb hs
            split <;> omega
theorem li_z {σ : St} {kd c f u : Nat} (z : ZR σ) (hn : σ 0 < 9) : ZR (a_li σ kd c f u) := by
  intro a b s ha hb hs hc
  rw [li_0] at hc
  rw [li_d hn ha hb hs]
  split
  · rfl
  · exact z a b s ha hb hs (by omega)
/-! the class lets in -/
theorem n2_letIn {μ : Mem} {b h kd c : Nat} {σ : St} (n : NN μ b σ h 9) (w : WF σ) (z : ZR σ) (hn : σ 0 < 9) (hc : c ≤ 1) : ∃ μ', f_X2_letIn b (nI kd) (nI c) μ = some (nI (σ 0), μ') ∧ NN μ' b (a_li σ kd c 0 0) h 9 ∧ FB b μ μ' ∧ μ'.1 b 6 = μ.1 b 6 := by
  have n0 := n.n
  unfold f_X2_letIn
  simp (disch := omega) only [nI_add, pk_mul, nI_clamp, nI_eqE, nI_leE, nI_ltE, nI_eq0, nI_le0, nI_lt0, nI_ge0, nI_gt0, pk_rem, pk_sub, inb_t, gd_y, zl_e, bd_y, isB_n0, isB_n1, n0_eq, n1_eq, if_n0, if_n1, isB_if, not_true_eq_false, not_false_eq_true, ite_true, ite_false, Nat.le_refl, Nat.lt_irrefl, n0]
  -- the delays
  let x0 := sI (sI (sI (sI (sI (sI (sI μ (b + 1) (σ 0) (nI kd)) (b + 2) (σ 0) (nI 2)) (b + 3) (σ 0) (nI 2)) (b + 4) (σ 0) (nI 0)) (b + 5) (σ 0) (nI 0)) (b + 17 + c) (σ 0) (nI 1 <<< (nI (σ 0) &&& 31))) (b + 17 + (1 - c)) (σ 0) (nI 0)
  have L := lp_rel (fun m i (x : Mem) => f_X2_letIn_65 b (nI kd) (nI c) (fun x3 μ => f_X2_letIn_97 b (nI kd) (nI c) x3 μ) m (nI (σ 0)) (nI i) x) (fun i x => FB b μ x ∧ (∀ k, (k < b + 7 ∨ b + 16 ≤ k) → x.1 k = x0.1 k) ∧ (∀ p q, p < 9 → q < 9 → x.1 (b + 7 + p) q = if (p = σ 0 ∧ q < i) ∨ (q = σ 0 ∧ p < i) then nI 1 else μ.1 (b + 7 + p) q)) (σ 0) (fun ρ : Int32 × Mem => ρ.1 = nI (σ 0) ∧ ∃ x, ρ.2 = sI x b 0 (nI (σ 0 + 1)) ∧ FB b μ x ∧ (∀ k, (k < b + 7 ∨ b + 16 ≤ k) → x.1 k = x0.1 k) ∧ (∀ p q, p < 9 → q < 9 → x.1 (b + 7 + p) q = if (p = σ 0 ∧ q < σ 0) ∨ (q = σ 0 ∧ p < σ 0) then nI 1 else μ.1 (b + 7 + p) q)) ?_ ?_ zfu 0 x0 (by omega) (by unfold zfu; omega) ⟨?_, fun _ _ => rfl, fun p q hp hq => ?_⟩
  · obtain ⟨ρ, g1, g2, x, g3, g4, g5, g6⟩ := L
    refine ⟨ρ.2, ?_, ?_, by rw [g3]; exact g4.t (FB.w (by omega) (by omega)), ?_⟩
    · exact g1.trans (by rw [← g2])
    · rw [g3]
      obtain ⟨⟨c0, c1, c2, c3, c4, c5, c6⟩, ⟨a1, a2, a3, a4, a5, a6⟩, cH, cR⟩ := n
      obtain ⟨e0, e1, e2, e3, e4, e5⟩ := li_r (kd := kd) (c := c) (f := 0) (u := 0) hn
      have xb : ∀ j, x.1 b j = μ.1 b j := fun j => by
        rw [g5 b (by omega)]
        show (sI (sI (sI (sI (sI (sI (sI μ (b + 1) (σ 0) (nI kd)) (b + 2) (σ 0) (nI 2)) (b + 3) (σ 0) (nI 2)) (b + 4) (σ 0) (nI 0)) (b + 5) (σ 0) (nI 0)) (b + 17 + c) (σ 0) (nI 1 <<< (nI (σ 0) &&& 31))) (b + 17 + (1 - c)) (σ 0) (nI 0)).1 b j = μ.1 b j
        simp (disch := omega) only [rd_k]
      have arr : ∀ (k o : Nat) (v : Int32), 1 ≤ k → k ≤ 5 → (∀ r, r < σ 0 → μ.1 (b + k) r = nI (σ (6 + 6 * r + o))) → x.1 (b + k) = upd (μ.1 (b + k)) (σ 0) v → v = nI (a_li σ kd c 0 0 (6 + 6 * σ 0 + o)) → o < 6 → ∀ r, r < σ 0 + 1 → (sI x b 0 (nI (σ 0 + 1))).1 (b + k) r = nI (a_li σ kd c 0 0 (6 + 6 * r + o)) := by
        intro k o v h1 h2 ho hx hv h6 r hr
        rw [rd_k (by omega), hx]
        by_cases e : r = σ 0
        · subst e; rw [pk_us, hv]
        · rw [pk_un e, ho r (by omega), li_o (by omega) (by omega) hn]
      have cell : ∀ k, 1 ≤ k → k ≤ 5 → x.1 (b + k) = x0.1 (b + k) := fun k h1 h2 => g5 (b + k) (by omega)
      have x1 : x.1 (b + 1) = upd (μ.1 (b + 1)) (σ 0) (nI kd) := by
        rw [cell 1 (by omega) (by omega)]
        show (sI (sI (sI (sI (sI (sI (sI μ (b + 1) (σ 0) (nI kd)) (b + 2) (σ 0) (nI 2)) (b + 3) (σ 0) (nI 2)) (b + 4) (σ 0) (nI 0)) (b + 5) (σ 0) (nI 0)) (b + 17 + c) (σ 0) (nI 1 <<< (nI (σ 0) &&& 31))) (b + 17 + (1 - c)) (σ 0) (nI 0)).1 (b + 1) = _
        simp (disch := omega) only [rd_k]
        unfold sI; rw [rdA_s]
      have x2 : x.1 (b + 2) = upd (μ.1 (b + 2)) (σ 0) (nI 2) := by
        rw [cell 2 (by omega) (by omega)]
        show (sI (sI (sI (sI (sI (sI (sI μ (b + 1) (σ 0) (nI kd)) (b + 2) (σ 0) (nI 2)) (b + 3) (σ 0) (nI 2)) (b + 4) (σ 0) (nI 0)) (b + 5) (σ 0) (nI 0)) (b + 17 + c) (σ 0) (nI 1 <<< (nI (σ 0) &&& 31))) (b + 17 + (1 - c)) (σ 0) (nI 0)).1 (b + 2) = _
        simp (disch := omega) only [rd_k]
        rw [show ∀ (m : Mem), (sI m (b + 2) (σ 0) (nI 2)).1 (b + 2) = upd (m.1 (b + 2)) (σ 0) (nI 2) from fun m => by unfold sI; rw [rdA_s], rd_k (by omega)]
      have x3 : x.1 (b + 3) = upd (μ.1 (b + 3)) (σ 0) (nI 2) := by
        rw [cell 3 (by omega) (by omega)]
        show (sI (sI (sI (sI (sI (sI (sI μ (b + 1) (σ 0) (nI kd)) (b + 2) (σ 0) (nI 2)) (b + 3) (σ 0) (nI 2)) (b + 4) (σ 0) (nI 0)) (b + 5) (σ 0) (nI 0)) (b + 17 + c) (σ 0) (nI 1 <<< (nI (σ 0) &&& 31))) (b + 17 + (1 - c)) (σ 0) (nI 0)).1 (b + 3) = _
        simp (disch := omega) only [rd_k]
        rw [show ∀ (m : Mem), (sI m (b + 3) (σ 0) (nI 2)).1 (b + 3) = upd (m.1 (b + 3)) (σ 0) (nI 2) from fun m => by unfold sI; rw [rdA_s], rd_k (by omega), rd_k (by omega)]
      have x4 : x.1 (b + 4) = upd (μ.1 (b + 4)) (σ 0) (nI 0) := by
        rw [cell 4 (by omega) (by omega)]
        show (sI (sI (sI (sI (sI (sI (sI μ (b + 1) (σ 0) (nI kd)) (b + 2) (σ 0) (nI 2)) (b + 3) (σ 0) (nI 2)) (b + 4) (σ 0) (nI 0)) (b + 5) (σ 0) (nI 0)) (b + 17 + c) (σ 0) (nI 1 <<< (nI (σ 0) &&& 31))) (b + 17 + (1 - c)) (σ 0) (nI 0)).1 (b + 4) = _
        simp (disch := omega) only [rd_k]
        rw [show ∀ (m : Mem), (sI m (b + 4) (σ 0) (nI 0)).1 (b + 4) = upd (m.1 (b + 4)) (σ 0) (nI 0) from fun m => by unfold sI; rw [rdA_s], rd_k (by omega), rd_k (by omega), rd_k (by omega)]
      have x5 : x.1 (b + 5) = upd (μ.1 (b + 5)) (σ 0) (nI 0) := by
        rw [cell 5 (by omega) (by omega)]
        show (sI (sI (sI (sI (sI (sI (sI μ (b + 1) (σ 0) (nI kd)) (b + 2) (σ 0) (nI 2)) (b + 3) (σ 0) (nI 2)) (b + 4) (σ 0) (nI 0)) (b + 5) (σ 0) (nI 0)) (b + 17 + c) (σ 0) (nI 1 <<< (nI (σ 0) &&& 31))) (b + 17 + (1 - c)) (σ 0) (nI 0)).1 (b + 5) = _
        simp (disch := omega) only [rd_k]
        rw [show ∀ (m : Mem), (sI m (b + 5) (σ 0) (nI 0)).1 (b + 5) = upd (m.1 (b + 5)) (σ 0) (nI 0) from fun m => by unfold sI; rw [rdA_s], rd_k (by omega), rd_k (by omega), rd_k (by omega), rd_k (by omega)]
      have hs : ∀ p r, p < 2 → x.1 (b + 17 + p) r = if r = σ 0 then (if p = c then nI 1 <<< (nI (σ 0) &&& 31) else nI 0) else μ.1 (b + 17 + p) r := by
        intro p r hp
        rw [g5 (b + 17 + p) (by omega)]
        show (sI (sI (sI (sI (sI (sI (sI μ (b + 1) (σ 0) (nI kd)) (b + 2) (σ 0) (nI 2)) (b + 3) (σ 0) (nI 2)) (b + 4) (σ 0) (nI 0)) (b + 5) (σ 0) (nI 0)) (b + 17 + c) (σ 0) (nI 1 <<< (nI (σ 0) &&& 31))) (b + 17 + (1 - c)) (σ 0) (nI 0)).1 (b + 17 + p) r = _
        by_cases pc_ : p = c
        · subst pc_
          rw [rd_k (by omega)]
          by_cases er : r = σ 0
          · rw [er, rd_s, if_pos rfl, if_pos rfl]
          · rw [rd_j er, if_neg er]
            simp (disch := omega) only [rd_k]
        · have p1 : p = 1 - c := by omega
          by_cases er : r = σ 0
          · rw [p1, er, rd_s, if_pos rfl, if_neg (by omega)]
          · rw [p1, rd_j er, if_neg er]
            simp (disch := omega) only [rd_k]
      have rg : ∀ k, b + 20 ≤ k → k < b + 22 → x.1 k = μ.1 k := by
        intro k h1 h2
        rw [g5 k (by omega)]
        show (sI (sI (sI (sI (sI (sI (sI μ (b + 1) (σ 0) (nI kd)) (b + 2) (σ 0) (nI 2)) (b + 3) (σ 0) (nI 2)) (b + 4) (σ 0) (nI 0)) (b + 5) (σ 0) (nI 0)) (b + 17 + c) (σ 0) (nI 1 <<< (nI (σ 0) &&& 31))) (b + 17 + (1 - c)) (σ 0) (nI 0)).1 k = _
        simp (disch := omega) only [rd_k]
      refine ⟨⟨?_, ?_, ?_, ?_, ?_, c5, ?_⟩, ⟨?_, ?_, ?_, ?_, ?_, ?_⟩, ?_, ?_⟩
      · rw [rd_s, li_0]
      · rw [rd_j (by omega), xb, c1, li_o (by omega) (by omega) hn]
      · rw [rd_j (by omega), xb, c2, li_o (by omega) (by omega) hn]
      · rw [rd_j (by omega), xb, c3, li_o (by omega) (by omega) hn]
      · rw [rd_j (by omega), xb]; exact c4
      · intro r hr
        rw [rd_j (by omega), xb]; exact c6 r hr
      · rw [li_0]; exact arr 1 0 _ (by omega) (by omega) a1 x1 (by rw [Nat.add_zero, e0]) (by omega)
      · rw [li_0]; exact arr 2 2 _ (by omega) (by omega) a2 x2 (by rw [e2]) (by omega)
      · rw [li_0]; exact arr 3 3 _ (by omega) (by omega) a3 x3 (by rw [e3]) (by omega)
      · rw [li_0]; exact arr 4 4 _ (by omega) (by omega) a4 x4 (by rw [e4]) (by omega)
      · rw [li_0]; exact arr 5 5 _ (by omega) (by omega) a5 x5 (by rw [e5]) (by omega)
      · rw [li_0]
        intro p q hp hq hne
        rw [rd_k (by omega), g6 p q (by omega) (by omega), li_l hn (by omega) (by omega)]
        by_cases cc : p = σ 0 ∨ q = σ 0
        · rw [if_pos (by omega), if_pos cc]
        · rw [if_neg (by omega), if_neg cc]
          exact a6 p q (by omega) (by omega) hne
      · intro p r f hp hr
        rw [li_0] at hr ⊢
        rw [rd_k (by omega), hs p r hp]
        by_cases er : r = σ 0
        · subst er
          rw [if_pos rfl]
          by_cases f9 : f < σ 0 + 1
          · have hb : a_hb (a_li σ kd c 0 0) (σ 0) f = if σ 0 = f then c else 2 := by
              unfold a_hb
              rw [e1, li_h hn hn (by omega), if_pos (Or.inl rfl)]
            rw [hb]
            by_cases ef : σ 0 = f
            · rw [if_pos ef]
              by_cases pc_ : p = c
              · rw [if_pos pc_, bt_1 (by omega)]; simp [ef, pc_, f9]
              · rw [if_neg pc_, bt_0]; simp; omega
            · have e1' : ¬ f = σ 0 := Ne.symm ef
              have e2' : ¬ 2 = p := by omega
              rw [if_neg ef]
              by_cases pc_ : p = c
              · rw [if_pos pc_, bt_1 (by omega)]; simp [e1', e2']
              · rw [if_neg pc_, bt_0]; simp [e2']
          · by_cases pc_ : p = c
            · rw [if_pos pc_, bt_1 (by omega)]; simp [f9]; omega
            · rw [if_neg pc_, bt_0]; simp [f9]
        · rw [if_neg er, cH p r f hp (by omega)]
          by_cases f9 : f < σ 0
          · have hb : a_hb (a_li σ kd c 0 0) r f = a_hb σ r f := a_hb_st (li_o (by omega) (by omega) hn) (by rw [li_h hn (by omega) (by omega), if_neg (by omega)])
            rw [hb]
            simp [f9, show f < σ 0 + 1 by omega]
          · by_cases f10 : f < σ 0 + 1
            · have hb : a_hb (a_li σ kd c 0 0) r f = 2 := by
                unfold a_hb
                rw [if_neg (by omega), li_h hn (by omega) (by omega), if_pos (by omega)]
              rw [hb]
              simp [f9]
              omega
            · simp [f9, f10]
      · intro p s t f hp hs' ht
        rw [rd_k (by omega), rg _ (by omega) (by omega), cR p s t f hp hs' ht, show a_li σ kd c 0 0 1 = σ 1 from li_o (by omega) (by omega) hn]
        by_cases f9 : f < 9
        · rw [li_d hn f9 ht (Nat.mod_lt _ (by decide))]
          by_cases cc : f = σ 0 ∨ t = σ 0
          · rw [if_pos cc, z f t _ f9 ht (Nat.mod_lt _ (by decide)) (by omega)]
          · rw [if_neg cc]
        · simp [f9]
    · rw [g3, rd_j (by omega), g5 b (by omega)]
      show (sI (sI (sI (sI (sI (sI (sI μ (b + 1) (σ 0) (nI kd)) (b + 2) (σ 0) (nI 2)) (b + 3) (σ 0) (nI 2)) (b + 4) (σ 0) (nI 0)) (b + 5) (σ 0) (nI 0)) (b + 17 + c) (σ 0) (nI 1 <<< (nI (σ 0) &&& 31))) (b + 17 + (1 - c)) (σ 0) (nI 0)).1 b 6 = _
      simp (disch := omega) only [rd_k]
  · intro m x ⟨g1, g2, g3⟩
    have xb : x.1 b 0 = nI (σ 0) := by
      rw [g2 b (by omega)]
      show (sI (sI (sI (sI (sI (sI (sI μ (b + 1) (σ 0) (nI kd)) (b + 2) (σ 0) (nI 2)) (b + 3) (σ 0) (nI 2)) (b + 4) (σ 0) (nI 0)) (b + 5) (σ 0) (nI 0)) (b + 17 + c) (σ 0) (nI 1 <<< (nI (σ 0) &&& 31))) (b + 17 + (1 - c)) (σ 0) (nI 0)).1 b 0 = _
      simp (disch := omega) only [rd_k]
      exact n0
    refine ⟨(nI (σ 0), sI x b 0 (nI (σ 0 + 1))), ?_, rfl, x, rfl, g1, g2, g3⟩
    simp (disch := omega) only [f_X2_letIn_65, f_X2_letIn_97, nI_add, pk_mul, nI_clamp, nI_eqE, nI_leE, nI_ltE, nI_eq0, nI_le0, nI_lt0, nI_ge0, nI_gt0, pk_rem, pk_sub, inb_t, gd_y, zl_e, bd_y, isB_n0, isB_n1, n0_eq, n1_eq, if_n0, if_n1, isB_if, not_true_eq_false, not_false_eq_true, ite_true, ite_false, Nat.le_refl, Nat.lt_irrefl, xb]
  · intro m i x hi ⟨g1, g2, g3⟩
    left
    have qe : ¬ σ 0 ≤ i := by omega
    refine ⟨sI (sI x (b + 7 + σ 0) i (nI 1)) (b + 7 + i) (σ 0) (nI 1), ⟨g1.t ((FB.w (by omega) (by omega)).t (FB.w (by omega) (by omega))), fun k hk => by rw [rd_k (by omega), rd_k (by omega)]; exact g2 k hk, fun p q hp hq => ?_⟩, ?_⟩
    · by_cases e1 : p = i ∧ q = σ 0
      · obtain ⟨rfl, rfl⟩ := e1
        rw [rd_s, if_pos (by omega)]
      · by_cases e2 : p = σ 0 ∧ q = i
        · obtain ⟨rfl, rfl⟩ := e2
          rw [rd_k (by omega), rd_s, if_pos (by omega)]
        · have r1 : (sI (sI x (b + 7 + σ 0) i (nI 1)) (b + 7 + i) (σ 0) (nI 1)).1 (b + 7 + p) q = x.1 (b + 7 + p) q := by
            by_cases e3 : p = i
            · subst e3
              rw [rd_j (by omega), rd_k (by omega)]
            · rw [rd_k (by omega)]
              by_cases e4 : p = σ 0
              · subst e4
                rw [rd_j (by omega)]
              · rw [rd_k (by omega)]
          rw [r1, g3 p q hp hq]
          by_cases cc : (p = σ 0 ∧ q < i) ∨ (q = σ 0 ∧ p < i)
          · rw [if_pos cc, if_pos (by omega)]
          · rw [if_neg cc, if_neg (by omega)]
    · simp (disch := omega) only [f_X2_letIn_65, nI_add, pk_mul, nI_clamp, nI_eqE, nI_leE, nI_ltE, nI_eq0, nI_le0, nI_lt0, nI_ge0, nI_gt0, pk_rem, pk_sub, inb_t, gd_y, zl_e, bd_y, isB_n0, isB_n1, n0_eq, n1_eq, if_n0, if_n1, isB_if, not_true_eq_false, not_false_eq_true, ite_true, ite_false, Nat.le_refl, Nat.lt_irrefl, qe]
  · exact ((((((FB.w (by omega) (by omega)).t (FB.w (by omega) (by omega))).t (FB.w (by omega) (by omega))).t (FB.w (by omega) (by omega))).t (FB.w (by omega) (by omega))).t (FB.w (by omega) (by omega))).t (FB.w (by omega) (by omega))
  · rw [if_neg (by omega)]
    show (sI (sI (sI (sI (sI (sI (sI μ (b + 1) (σ 0) (nI kd)) (b + 2) (σ 0) (nI 2)) (b + 3) (σ 0) (nI 2)) (b + 4) (σ 0) (nI 0)) (b + 5) (σ 0) (nI 0)) (b + 17 + c) (σ 0) (nI 1 <<< (nI (σ 0) &&& 31))) (b + 17 + (1 - c)) (σ 0) (nI 0)).1 (b + 7 + p) q = _
    simp (disch := omega) only [rd_k]
