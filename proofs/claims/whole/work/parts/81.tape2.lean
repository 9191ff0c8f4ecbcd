/-! PURE PART: the reference's tape, letter by letter -/
def QL (L : Nat → Nat) (N : Nat) (μ : Mem) : Prop := μ.1 113 7 = nI N ∧ N ≤ 160 ∧ ∀ i, i < N → μ.1 118 i = nI (L i) ∧ 32 ≤ L i ∧ L i ≤ 126
def RM (μ : Mem) (p : Nat) (pl : Int32) (w : Option Nat) (c : Nat) : Mem := sI (sI (sI (sI μ 113 8 (nI p)) 113 9 pl) 113 10 (wI w)) 113 12 (nI c)
theorem RM_8 {μ : Mem} {p c : Nat} {pl : Int32} {w : Option Nat} : (RM μ p pl w c).1 113 8 = nI p := by unfold RM; rw [rd_j (by omega), rd_j (by omega), rd_j (by omega), rd_s]
theorem RM_9 {μ : Mem} {p c : Nat} {pl : Int32} {w : Option Nat} : (RM μ p pl w c).1 113 9 = pl := by unfold RM; rw [rd_j (by omega), rd_j (by omega), rd_s]
theorem RM_10 {μ : Mem} {p c : Nat} {pl : Int32} {w : Option Nat} : (RM μ p pl w c).1 113 10 = wI w := by unfold RM; rw [rd_j (by omega), rd_s]
theorem RM_12 {μ : Mem} {p c : Nat} {pl : Int32} {w : Option Nat} : (RM μ p pl w c).1 113 12 = nI c := rd_s
theorem RM_j {μ : Mem} {p c j : Nat} {pl : Int32} {w : Option Nat} (h : j < 8 ∨ j = 11 ∨ 12 < j) : (RM μ p pl w c).1 113 j = μ.1 113 j := by unfold RM; rw [rd_j (by omega), rd_j (by omega), rd_j (by omega), rd_j (by omega)]
theorem RM_k {μ : Mem} {p c k : Nat} {pl : Int32} {w : Option Nat} (h : k ≠ 113) : (RM μ p pl w c).1 k = μ.1 k := by unfold RM; rw [rd_k h, rd_k h, rd_k h, rd_k h]
theorem RM_w8 {μ : Mem} {p q c : Nat} {pl : Int32} {w : Option Nat} : sI (RM μ p pl w c) 113 8 (nI q) = RM μ q pl w c := by
  unfold RM
  rw [sI_com (k := 113) (j := 12) (k' := 113) (j' := 8) (by omega), sI_com (k := 113) (j := 10) (k' := 113) (j' := 8) (by omega), sI_com (k := 113) (j := 9) (k' := 113) (j' := 8) (by omega), sI_sI]
theorem RM_w9 {μ : Mem} {p c : Nat} {pl v : Int32} {w : Option Nat} : sI (RM μ p pl w c) 113 9 v = RM μ p v w c := by
  unfold RM
  rw [sI_com (k := 113) (j := 12) (k' := 113) (j' := 9) (by omega), sI_com (k := 113) (j := 10) (k' := 113) (j' := 9) (by omega), sI_sI]
theorem RM_w10 {μ : Mem} {p q c : Nat} {pl : Int32} {w : Option Nat} : sI (RM μ p pl w c) 113 10 (nI q) = RM μ p pl (some q) c := by
  unfold RM
  rw [sI_com (k := 113) (j := 12) (k' := 113) (j' := 10) (by omega), sI_sI]
  rfl
theorem RM_w12 {μ : Mem} {p q c : Nat} {pl : Int32} {w : Option Nat} : sI (RM μ p pl w c) 113 12 (nI q) = RM μ p pl w q := by
  unfold RM
  rw [sI_sI]
theorem RM_wk {μ : Mem} {p k j c : Nat} {v pl : Int32} {w : Option Nat} (h : k ≠ 113) : sI (RM μ p pl w c) k j v = RM (sI μ k j v) p pl w c := by
  unfold RM
  rw [sI_com (k := 113) (j := 12) (k' := k) (j' := j) (by omega), sI_com (k := 113) (j := 10) (k' := k) (j' := j) (by omega), sI_com (k := 113) (j := 9) (k' := k) (j' := j) (by omega), sI_com (k := 113) (j := 8) (k' := k) (j' := j) (by omega)]
def ltr (L : Nat → Nat) (N q : Nat) : Int32 := if q < N then nI (L q) else -1
theorem e_letter {μ : Mem} {L : Nat → Nat} {N p c : Nat} {pl : Int32} {w : Option Nat} (t : QL L N μ) (hp : p ≤ N) : f_X8_letter (RM μ p pl w c) = some (ltr L N (sk L N p), RM μ (sk L N p) (nI (sk L N p)) w c) := by
  obtain ⟨t0, hN, t1⟩ := t
  unfold f_X8_letter
  have K : ∀ f p, p ≤ N → N - p < f → f_X8_letter_0 (fun μ => f_X8_letter_38 μ) f (RM μ p pl w c) = f_X8_letter_38 (RM μ (sk L N p) pl w c) := by
    intro f
    induction f with
    | zero => intro p _ h; omega
    | succ f ih =>
      intro p hp hf
      by_cases c0 : p < N
      · have qe : ¬ N ≤ p := by omega
        have l := (t1 p c0).1
        have lb := (t1 p c0).2
        by_cases c2 : L p = 32
        · rw [sk_s hN c0 c2, ← ih (p + 1) (by omega) (by omega)]
          simp (disch := omega) only [f_X8_letter_0, nI_add, pk_mul, nI_clamp, nI_eqE, nI_leE, nI_ltE, nI_eq0, nI_le0, nI_lt0, nI_ge0, nI_gt0, pk_rem, pk_sub, inb_t, gd_y, zl_e, bd_y, isB_n0, isB_n1, n0_eq, n1_eq, if_n0, if_n1, isB_if, not_true_eq_false, not_false_eq_true, ite_true, ite_false, Nat.le_refl, Nat.lt_irrefl, RM_j, RM_8, t0, qe, RM_k, l, c2, RM_w8]
        · rw [sk_f (fun _ => c2)]
          simp (disch := omega) only [f_X8_letter_0, nI_add, pk_mul, nI_clamp, nI_eqE, nI_leE, nI_ltE, nI_eq0, nI_le0, nI_lt0, nI_ge0, nI_gt0, pk_rem, pk_sub, inb_t, gd_y, zl_e, bd_y, isB_n0, isB_n1, n0_eq, n1_eq, if_n0, if_n1, isB_if, not_true_eq_false, not_false_eq_true, ite_true, ite_false, Nat.le_refl, Nat.lt_irrefl, RM_j, RM_8, t0, qe, RM_k, l, c2]
      · rw [sk_f (fun h => absurd h c0)]
        have qe : N ≤ p := by omega
        simp (disch := omega) only [f_X8_letter_0, nI_add, pk_mul, nI_clamp, nI_eqE, nI_leE, nI_ltE, nI_eq0, nI_le0, nI_lt0, nI_ge0, nI_gt0, pk_rem, pk_sub, inb_t, gd_y, zl_e, bd_y, isB_n0, isB_n1, n0_eq, n1_eq, if_n0, if_n1, isB_if, not_true_eq_false, not_false_eq_true, ite_true, ite_false, Nat.le_refl, Nat.lt_irrefl, RM_j, RM_8, t0, qe]
  rw [K zfu p hp (by unfold zfu; omega)]
  unfold f_X8_letter_38 ltr
  have := sk_le (L := L) hN hp
  simp only [zl_e, RM_8, RM_w9, RM_k (show (118 : Nat) ≠ 113 by omega), RM_j (show 7 < 8 ∨ 7 = 11 ∨ 12 < 7 by omega), t0]
  by_cases c0 : sk L N p < N
  · have qe : ¬ N ≤ sk L N p := by omega
    simp (disch := omega) only [c0, nI_add, pk_mul, nI_clamp, nI_eqE, nI_leE, nI_ltE, nI_eq0, nI_le0, nI_lt0, nI_ge0, nI_gt0, pk_rem, pk_sub, inb_t, gd_y, zl_e, bd_y, isB_n0, isB_n1, n0_eq, n1_eq, if_n0, if_n1, isB_if, not_true_eq_false, not_false_eq_true, ite_true, ite_false, Nat.le_refl, Nat.lt_irrefl, qe, (t1 _ c0).1]
  · have qe : N ≤ sk L N p := by omega
    simp (disch := omega) only [c0, nI_add, pk_mul, nI_clamp, nI_eqE, nI_leE, nI_ltE, nI_eq0, nI_le0, nI_lt0, nI_ge0, nI_gt0, pk_rem, pk_sub, inb_t, gd_y, zl_e, bd_y, isB_n0, isB_n1, n0_eq, n1_eq, if_n0, if_n1, isB_if, not_true_eq_false, not_false_eq_true, ite_true, ite_false, Nat.le_refl, Nat.lt_irrefl, qe]
def lx (L : Nat → Nat) (N : Nat) (ix : Nat → Option Nat) (q : Nat) : Option Nat := if q < N then ix (L q) else none
theorem e_passes {μ : Mem} {L : Nat → Nat} {N p q c : Nat} {w : Option Nat} {ix : Nat → Option Nat} (hN : N ≤ 160) (h : RP L N p q w) (hi : ∀ v k, ix v = some k → k < 2 ^ 31) : ∃ p', f_X8_passes (wI (lx L N ix (sk L N p))) (RM μ (sk L N p) (nI (sk L N p)) w c) = some (nI (r_one L N ix q w).1, RM μ p' (nI (sk L N p)) (r_one L N ix q w).2.2 c) ∧ RP L N p' (r_one L N ix q w).2.1 (r_one L N ix q w).2.2 := by
  obtain ⟨h1, h2, h3, h4⟩ := id h
  have sl := sk_le (L := L) hN h1
  unfold f_X8_passes
  have hw := h.w hN
  have hx : ∀ k, lx L N ix (sk L N p) = some k → k < 2 ^ 31 := by
    intro k e
    unfold lx at e
    split at e
    · exact hi _ k e
    · cases e
  simp only [RM_10, wI_lt hw, wI_ge hx]
  cases w with
  | some f =>
    refine ⟨sk L N p, ?_, sl, h2, fun z => (by cases z), h4⟩
    simp [r_one]
  | none =>
    have e := h3 rfl
    rw [e]
    unfold r_one lx
    simp only [if_true, zl_e, RM_8, RM_9, nI_add, RM_w8, RM_w10]
    by_cases c0 : q < N
    · simp only [c0, if_true]
      cases hx : ix (L q) with
      | none =>
        refine ⟨q, ?_, h2, h2, fun z => (by cases z), fun k z => (by cases z; omega)⟩
        simp
      | some v =>
        have := sk_le (L := L) hN (show q + 1 ≤ N by omega)
        refine ⟨q + 1, ?_, by omega, this, fun _ => rfl, fun k z => (by cases z)⟩
        simp [wI]
    · simp only [c0, if_false]
      refine ⟨q, ?_, h2, h2, fun z => (by cases z), fun k z => (by cases z; omega)⟩
      simp
def ix3 (a b c v : Nat) : Option Nat := if v = a then some 0 else if v = b then some 1 else if v = c then some 2 else none
theorem ix3_lt {a b c v k : Nat} (h : ix3 a b c v = some k) : k < 2 ^ 31 := by
  unfold ix3 at h
  (repeat' split at h) <;> cases h <;> omega
theorem ltr_ge {L : Nat → Nat} {N q : Nat} (hL : q < N → L q < 2 ^ 31) : ((0 : Int32) ≤ ltr L N q) = (q < N) := by
  unfold ltr
  by_cases c : q < N
  · simp only [c, if_true, nI_ge0 (hL c)]
  · simp only [c, if_false]; exact eq_false (show ¬ (0 : Int32) ≤ -1 by decide)
theorem ltr_eq {L : Nat → Nat} {N q a : Nat} (hL : q < N → L q < 2 ^ 31) (ha : a < 2 ^ 31) : (ltr L N q = nI a) = (q < N ∧ L q = a) := by
  unfold ltr
  by_cases c : q < N
  · simp only [c, if_true, nI_eqE (hL c) ha, true_and]
  · simp only [c, if_false, false_and]
    refine eq_false (fun e => ?_)
    have := nI_ge0 ha
    rw [← e] at this
    exact absurd (this.mpr trivial) (by decide)
theorem QL.b {L : Nat → Nat} {N : Nat} {μ : Mem} (t : QL L N μ) (q : Nat) : q < N → L q < 2 ^ 31 := fun h => by have := (t.2.2 q h).2.2; omega
theorem e_takes {μ : Mem} {L : Nat → Nat} {N p q c x y z : Nat} {w : Option Nat} {pl : Int32} (t : QL L N μ) (h : RP L N p q w) (hx : x < 127) (hy : y < 127) (hz : z < 127) : ∃ p' pl', f_X8_takes (nI x) (nI y) (nI z) (RM μ p pl w c) = some (nI (r_one L N (ix3 x y z) q w).1, RM μ p' pl' (r_one L N (ix3 x y z) q w).2.2 c) ∧ RP L N p' (r_one L N (ix3 x y z) q w).2.1 (r_one L N (ix3 x y z) q w).2.2 := by
  obtain ⟨p', e1, e2⟩ := e_passes (μ := μ) (c := c) (ix := ix3 x y z) t.2.1 h (fun v k => ix3_lt)
  refine ⟨p', nI (sk L N p), ?_, e2⟩
  unfold f_X8_takes f_X8_takes_46
  rw [e_letter t h.1, bd_y]
  simp only [ltr_ge (t.b _), ltr_eq (t.b _) (show x < 2 ^ 31 by omega), ltr_eq (t.b _) (show y < 2 ^ 31 by omega), ltr_eq (t.b _) (show z < 2 ^ 31 by omega)]
  by_cases c0 : sk L N p < N
  · simp only [c0, if_true, true_and]
    by_cases c1 : L (sk L N p) = x
    · have hv : lx L N (ix3 x y z) (sk L N p) = some 0 := by unfold lx ix3; rw [if_pos c0, if_pos c1]
      rw [hv] at e1
      rw [if_pos c1, show nI 0 = wI (some 0) from rfl, e1, bd_y]
    · by_cases c2 : L (sk L N p) = y
      · have hv : lx L N (ix3 x y z) (sk L N p) = some 1 := by unfold lx ix3; rw [if_pos c0, if_neg c1, if_pos c2]
        rw [hv] at e1
        rw [if_neg c1, if_pos c2, show nI 1 = wI (some 1) from rfl, e1, bd_y]
      · by_cases c3 : L (sk L N p) = z
        · have hv : lx L N (ix3 x y z) (sk L N p) = some 2 := by unfold lx ix3; rw [if_pos c0, if_neg c1, if_neg c2, if_pos c3]
          rw [hv] at e1
          rw [if_neg c1, if_neg c2, if_pos c3, show nI 2 = wI (some 2) from rfl, e1, bd_y]
        · have hv : lx L N (ix3 x y z) (sk L N p) = none := by unfold lx ix3; rw [if_pos c0, if_neg c1, if_neg c2, if_neg c3]
          rw [hv] at e1
          rw [if_neg c1, if_neg c2, if_neg c3, show (-1 : Int32) = wI none from rfl, e1, bd_y]
  · have hv : lx L N (ix3 x y z) (sk L N p) = none := by unfold lx; rw [if_neg c0]
    rw [hv] at e1
    simp only [c0, if_false]
    rw [show (-1 : Int32) = wI none from rfl, e1, bd_y]
