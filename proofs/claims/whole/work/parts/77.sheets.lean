/-! PURE PART: sheets -/
def rk (z : Nat) (a1 a2 : Int32) : Bool := decide (0 ≤ a2.toInt) && decide (0 ≤ a1.toInt) && decide (a1.toInt + a2.toInt ≤ (z : Int))
theorem hr_e {μ : Mem} {b z : Nat} {a1 a2 : Int32} (hz : z ≤ 24) (h2 : μ.1 b 2 = nI z) : f_X3_hasRow b a1 a2 μ = some (nI (if rk z a1 a2 = true then 1 else 0), μ) := by
  unfold f_X3_hasRow rk
  rw [h2]
  have z0 : (0 : Int32).toInt = 0 := by decide
  have u2 := a2.toInt_lt
  by_cases c1 : a2 < 0
  · have c1' := c1
    rw [Int32.lt_iff_toInt_lt, z0] at c1'
    rw [if_pos c1, if_neg (by simp; omega)]
  · have c1' := c1
    rw [Int32.lt_iff_toInt_lt, z0] at c1'
    rw [if_neg c1]
    by_cases c2 : a1 < 0
    · have c2' := c2
      rw [Int32.lt_iff_toInt_lt, z0] at c2'
      rw [if_pos c2, if_neg (by simp; omega)]
    · have c2' := c2
      rw [Int32.lt_iff_toInt_lt, z0] at c2'
      rw [if_neg c2]
      have e : (nI z - a2).toInt = (z : Int) - a2.toInt := by
        rw [Int32.toInt_sub, nI_toInt (by omega)]
        exact Int.bmod_eq_of_le (by omega) (by omega)
      by_cases c3 : nI z - a2 < a1
      · have c3' := c3
        rw [Int32.lt_iff_toInt_lt, e] at c3'
        rw [if_pos c3, if_neg (by simp; omega)]
      · have c3' := c3
        rw [Int32.lt_iff_toInt_lt, e] at c3'
        rw [if_neg c3, if_pos (by simp; omega)]
theorem wo_e {μ : Mem} {s z l : Nat} {a2 a3 a4 : Int32} (hs : s < 4) (hz : z ≤ 24) (hl : l ≤ 3) (h0 : μ.1 120 s = nI l) (h1 : μ.1 121 s = nI z) : f_X8_wrongOf (nI s) a2 a3 a4 μ = some (if nI l = a2 then (if rk z a3 a4 = true then nI 0 else -13) else -12, μ) := by
  unfold f_X8_wrongOf f_X8_wrongOf_51
  simp (disch := omega) only [nI_add, pk_mul, nI_clamp, nI_eqE, nI_leE, nI_ltE, nI_eq0, nI_le0, nI_lt0, nI_ge0, nI_gt0, pk_rem, pk_sub, inb_t, gd_y, zl_e, bd_y, isB_n0, isB_n1, n0_eq, n1_eq, if_n0, if_n1, isB_if, not_true_eq_false, not_false_eq_true, ite_true, ite_false, Nat.le_refl, Nat.lt_irrefl, h0, h1]
  by_cases c0 : nI l = a2
  · rw [if_pos c0, if_pos c0]
    unfold rk
    have z0 : (0 : Int32).toInt = 0 := by decide
    have u3 := a3.toInt_lt
    have u4 := a4.toInt_lt
    by_cases c2 : a3 < 0
    · have c2' := c2
      rw [Int32.lt_iff_toInt_lt, z0] at c2'
      rw [if_pos c2, if_neg (by simp; omega)]
    · have c2' := c2
      rw [Int32.lt_iff_toInt_lt, z0] at c2'
      rw [if_neg c2]
      by_cases c1 : a4 < 0
      · have c1' := c1
        rw [Int32.lt_iff_toInt_lt, z0] at c1'
        rw [if_pos c1, if_neg (by simp; omega)]
      · have c1' := c1
        rw [Int32.lt_iff_toInt_lt, z0] at c1'
        rw [if_neg c1]
        have e : (a3.toInt64 + a4.toInt64).toInt = a3.toInt + a4.toInt := by
          rw [Int64.toInt_add, Int32.toInt_toInt64, Int32.toInt_toInt64]
          exact Int.bmod_eq_of_le (by omega) (by omega)
        have q : (lg_cmp (a3.toInt64 + a4.toInt64) (nI z).toInt64 ≤ 0) ↔ (a3.toInt + a4.toInt ≤ (z : Int)) := by
          rw [lg_cmp_le, Int64.le_iff_toInt_le, e, Int32.toInt_toInt64, nI_toInt (by omega)]
        by_cases c3 : a3.toInt + a4.toInt ≤ (z : Int)
        · rw [if_pos (q.mpr c3), if_pos (by simp; omega)]
        · rw [if_neg (fun h => c3 (q.mp h)), if_neg (by simp; omega)]
  · rw [if_neg c0, if_neg c0]
/-- what is wrong with a row, told alike by both -/
theorem ref_pair {μ μ' : Mem} {s l : Nat} {a3 a4 : Int32} (is : IS1 μ s) (hs : s < 4) (hl : l ≤ 3) (e120 : μ'.1 120 = μ.1 120) (e121 : μ'.1 121 = μ.1 121) : (∃ v, (v = 0) = False ∧ f_X7_refusalOfRow (nI s) (nI l) a3 a4 μ = some (v, μ) ∧ f_X8_wrongOf (nI s) (nI l) a3 a4 μ' = some (v, μ')) ∨ (f_X7_refusalOfRow (nI s) (nI l) a3 a4 μ = some (nI 0, μ) ∧ f_X8_wrongOf (nI s) (nI l) a3 a4 μ' = some (nI 0, μ') ∧ μ.1 (105 + s) 0 = nI 1 ∧ μ.1 (105 + s) 1 = nI l ∧ μ.1 120 s = nI l ∧ ∃ z, z ≤ 24 ∧ μ.1 (105 + s) 2 = nI z ∧ μ.1 121 s = nI z ∧ rk z a3 a4 = true) := by
  obtain ⟨i1, ⟨z, hz, i2, i3⟩, i4⟩ := is
  have b1 : bw (nI s) 0 3 = true := by
    unfold bw
    rw [nI_toInt (by omega)]
    simp
    omega
  have b2 : bw (nI l) 0 3 = true := by
    unfold bw
    rw [nI_toInt (by omega)]
    simp
    omega
  rcases i1 with ⟨j1, j2⟩ | ⟨j1, l', hl', j2, j3⟩
  · left
    refine ⟨-11, by decide, ?_, ?_⟩
    · unfold f_X7_refusalOfRow
      simp (disch := omega) only [within_n, zl_e, bd_y, if_n0, n0_eq, n1_eq, Bool.false_eq_true, not_true_eq_false, not_false_eq_true, if_true, if_false, Nat.one_ne_zero, rM_rM, b1, b2, inb_t, gd_y, nI_clamp, j1]
    · unfold f_X8_wrongOf
      simp (disch := omega) only [inb_t, gd_y, nI_clamp, e120, j2]
      rfl
  · have wo := wo_e (μ := μ') (a2 := nI l) (a3 := a3) (a4 := a4) hs hz hl' (by rw [e120]; exact j3) (by rw [e121]; exact i3)
    by_cases c : l' = l
    · subst c
      rw [if_pos rfl] at wo
      by_cases k : rk z a3 a4 = true
      · right
        rw [if_pos k] at wo
        refine ⟨?_, wo, j1, j2, j3, z, hz, i2, i3, k⟩
        unfold f_X7_refusalOfRow
        simp (disch := omega) only [within_n, zl_e, bd_y, if_n0, n0_eq, n1_eq, Bool.false_eq_true, not_true_eq_false, not_false_eq_true, if_true, if_false, Nat.one_ne_zero, rM_rM, b1, b2, inb_t, gd_y, nI_clamp, j1, j2, hr_e hz i2, k]
      · left
        rw [if_neg k] at wo
        refine ⟨-13, by decide, ?_, wo⟩
        unfold f_X7_refusalOfRow
        simp (disch := omega) only [within_n, zl_e, bd_y, if_n0, n0_eq, n1_eq, Bool.false_eq_true, not_true_eq_false, not_false_eq_true, if_true, if_false, Nat.one_ne_zero, rM_rM, b1, b2, inb_t, gd_y, nI_clamp, j1, j2, hr_e hz i2, k]
    · left
      have ne : ¬ nI l' = nI l := by rw [nI_eqE (by omega) (by omega)]; exact c
      rw [if_neg ne] at wo
      refine ⟨-12, by decide, ?_, wo⟩
      unfold f_X7_refusalOfRow
      simp (disch := omega) only [within_n, zl_e, bd_y, if_n0, n0_eq, n1_eq, Bool.false_eq_true, not_true_eq_false, not_false_eq_true, if_true, if_false, Nat.one_ne_zero, rM_rM, b1, b2, inb_t, gd_y, nI_clamp, j1, j2, ne]
theorem rk_t {z n : Nat} {a3 : Int32} (hn : n < 2 ^ 31) (h : rk z a3 (nI n) = true) : ∃ f, f + n ≤ z ∧ f < 2 ^ 31 ∧ a3 = nI f := by
  unfold rk at h
  rw [nI_toInt hn] at h
  simp at h
  obtain ⟨f, h1, h2, h3, h4⟩ := bet_nI (a := a3) 0 z (by omega) (by omega)
  subst h4
  rw [nI_toInt h3] at h
  exact ⟨f, by omega, h3, rfl⟩
theorem isSheet_e {a b : Int32} {μ : Mem} : f_X8_isSheet a b μ = some (nI (if bw a 0 3 = true ∧ bw b 0 3 = true then 1 else 0), μ) := by
  unfold f_X8_isSheet
  by_cases c1 : bw a 0 3 = true
  · by_cases c2 : bw b 0 3 = true
    · simp (disch := omega) only [in_0_3, zl_e, bd_y, if_n0, n0_eq, n1_eq, Bool.false_eq_true, not_true_eq_false, not_false_eq_true, if_true, if_false, Nat.one_ne_zero, rM_rM, c1, c2, and_self]
    · simp (disch := omega) only [in_0_3, zl_e, bd_y, if_n0, n0_eq, n1_eq, Bool.false_eq_true, not_true_eq_false, not_false_eq_true, if_true, if_false, Nat.one_ne_zero, rM_rM, c1, c2, and_false]
  · simp (disch := omega) only [in_0_3, zl_e, bd_y, if_n0, n0_eq, n1_eq, Bool.false_eq_true, not_true_eq_false, not_false_eq_true, if_true, if_false, Nat.one_ne_zero, rM_rM, c1, false_and]
theorem II.sheets {μ μ2 : Mem} (a : II μ) (e1 : ∀ k, (k < 65 ∨ (93 ≤ k ∧ k < 105) ∨ k = 114 ∨ k = 117 ∨ k = 118) → μ2.1 k = μ.1 k) (e2 : ∀ j, j ≠ 0 → μ2.1 113 j = μ.1 113 j) (is : IS μ2) : II μ2 := by
  obtain ⟨⟨σ, h, a1⟩, a2, ⟨m, t1, t2, t3, t4⟩, _, a5, a6⟩ := a
  refine ⟨⟨σ, h, a1.mem (e1 114 (by omega)) (fun k h1 h2 => e1 k (by omega)) (fun k h1 h2 => e1 k (by omega)) (fun k h1 h2 => e1 k (by omega))⟩, ?_, ⟨m, t1, by rw [e1 93 (by omega)]; exact t2, by rw [e2 7 (by omega)]; exact t3, fun i hi => by rw [e1 103 (by omega), e1 118 (by omega)]; exact t4 i hi⟩, is, ?_, ?_⟩
  · unfold IK
    rw [e1 0 (by omega), e2 5 (by omega)]
    rcases a2 with a2 | ⟨b1, b2, σ, h, b3⟩
    · exact Or.inl a2
    · exact Or.inr ⟨b1, b2, σ, h, b3.mem (e1 117 (by omega)) (fun k h1 h2 => e1 k (by omega)) (fun k h1 h2 => e1 k (by omega)) (fun k h1 h2 => e1 k (by omega))⟩
  · unfold L16; rw [e2 16 (by omega)]; exact a5
  · unfold D17; rw [e2 17 (by omega)]; exact a6
theorem IS1.cg {μ μ2 : Mem} {s : Nat} (i : IS1 μ s) (e1 : μ2.1 (105 + s) = μ.1 (105 + s)) (e2 : μ2.1 120 s = μ.1 120 s) (e3 : μ2.1 121 s = μ.1 121 s) (e4 : ∀ i, i < 24 → μ2.2 (109 + s) i = μ2.2 122 (24 * s + i)) : IS1 μ2 s := by
  obtain ⟨i1, i2, i3⟩ := i
  unfold IS1
  rw [e1, e2, e3]
  exact ⟨i1, i2, e4⟩
theorem o_drop : ok_drop II := by
  intro a1 μ I
  obtain ⟨⟨σ, h, r, -⟩, -, -, i4, -⟩ := id I
  unfold f_X7_drop f_X8_drop
  by_cases c1 : bw a1 0 3 = true
  · obtain ⟨s, _, hs, _, rfl⟩ := bw_t c1
    obtain ⟨i1, ⟨z, hz, i2, i3⟩, it⟩ := i4 s (by omega)
    rcases i1 with ⟨j1, j2⟩ | ⟨j1, l, hl, j2, j3⟩
    · refine ⟨-11, μ, sI μ 113 0 (nI 0), ?_, ?_, I.fx FX.th⟩
      · simp (disch := omega) only [within_n, zl_e, bd_y, if_n0, n0_eq, n1_eq, Bool.false_eq_true, not_true_eq_false, not_false_eq_true, if_true, if_false, Nat.one_ne_zero, rM_rM, c1, inb_t, gd_y, nI_clamp, j1]
      · simp (disch := omega) only [in_0_3, zl_e, bd_y, if_n0, n0_eq, n1_eq, Bool.false_eq_true, not_true_eq_false, not_false_eq_true, if_true, if_false, Nat.one_ne_zero, rM_rM, c1, inb_t, gd_y, nI_clamp, rd_k, j2]
        rfl
    · refine ⟨nI z, sI μ (105 + s) 0 (nI 0), sI (sI (sI μ (105 + s) 0 (nI 0)) 113 0 (nI 0)) 120 s (-1), ?_, ?_, ?_⟩
      · simp (disch := omega) only [within_n, zl_e, bd_y, if_n0, n0_eq, n1_eq, Bool.false_eq_true, not_true_eq_false, not_false_eq_true, if_true, if_false, Nat.one_ne_zero, rM_rM, c1, inb_t, gd_y, nI_clamp, j1, rd_j, i2]
      · simp (disch := omega) only [in_0_3, zl_e, bd_y, if_n0, n0_eq, n1_eq, Bool.false_eq_true, not_true_eq_false, not_false_eq_true, if_true, if_false, Nat.one_ne_zero, rM_rM, c1, inb_t, gd_y, nI_clamp, rd_k, j3, nI_ge0, i3]
      · refine I.sheets (fun k hk => by rw [rd_k (by omega), rd_k (by omega), rd_k (by omega)]) (fun j hj => by rw [rd_k (by omega), rd_j hj, rd_k (by omega)]) (fun t ht => ?_)
        by_cases e : t = s
        · subst e
          refine ⟨Or.inl ⟨by rw [rd_k (by omega), rd_k (by omega), rd_s], rd_s⟩, ⟨z, hz, by rw [rd_k (by omega), rd_k (by omega), rd_j (by omega)]; exact i2, by rw [rd_k (by omega), rd_k (by omega), rd_k (by omega)]; exact i3⟩, it⟩
        · exact (i4 t ht).cg (by rw [rd_k (by omega), rd_k (by omega), rd_k (by omega)]) (by rw [rd_j e, rd_k (by omega), rd_k (by omega)]) (by rw [rd_k (by omega), rd_k (by omega), rd_k (by omega)]) (i4 t ht).2.2
  · refine ⟨-1, μ, sI μ 113 0 (nI 0), ?_, ?_, I.fx FX.th⟩
    · simp (disch := omega) only [within_n, zl_e, bd_y, if_n0, n0_eq, n1_eq, Bool.false_eq_true, not_true_eq_false, not_false_eq_true, if_true, if_false, Nat.one_ne_zero, rM_rM, c1]
    · simp (disch := omega) only [in_0_3, zl_e, bd_y, if_n0, n0_eq, n1_eq, Bool.false_eq_true, not_true_eq_false, not_false_eq_true, if_true, if_false, Nat.one_ne_zero, rM_rM, c1]
theorem sL_sB {μ : Mem} {k j : Nat} {f : Nat → Int64} {v : Int64} : sL (sB μ k f) k j v = sB μ k (vp_updL f j v) := by
  unfold sL sB
  refine Prod.ext rfl ?_
  funext a b
  by_cases ha : a = k <;> simp [va_up, ha]
theorem sB_self {μ : Mem} {k : Nat} : sB μ k (μ.2 k) = μ := by
  unfold sB
  refine Prod.ext rfl ?_
  funext a b
  by_cases ha : a = k <;> simp [va_up, ha]
theorem rdB_s {μ : Mem} {k : Nat} {f : Nat → Int64} : (sB μ k f).2 k = f := by simp [sB, va_up]
theorem rdB_k {μ : Mem} {k k' : Nat} {f : Nat → Int64} (h : k' ≠ k) : (sB μ k f).2 k' = μ.2 k' := by simp [sB, va_up, h]
theorem rdB_1 {μ : Mem} {k : Nat} {f : Nat → Int64} : (sB μ k f).1 = μ.1 := rfl
theorem fillL_e {μ : Mem} {k : Nat} : f_J7_fill_d0a16 k 24 0 μ = some (sB μ k (fun j => if j < 24 then 0 else μ.2 k j)) := by
  unfold f_J7_fill_d0a16
  rw [zl_e]
  refine Eq.trans ?_ (lp_eq (fun n i => f_J7_fill_d0a16_6 k 24 0 n (nI i) (nI 24) (sB μ k (fun j => if j < i then 0 else μ.2 k j))) 24 _ ?_ ?_ zfu 0 (by omega) (by unfold zfu; omega))
  · have : (fun j => if j < 0 then 0 else μ.2 k j) = μ.2 k := by funext j; simp
    simp only [this, sB_self]
    rfl
  · intro n
    simp (disch := omega) only [f_J7_fill_d0a16_6, nI_add, pk_mul, nI_clamp, nI_eqE, nI_leE, nI_ltE, nI_eq0, nI_le0, nI_lt0, nI_ge0, nI_gt0, pk_rem, pk_sub, inb_t, gd_y, zl_e, bd_y, isB_n0, isB_n1, n0_eq, n1_eq, if_n0, if_n1, isB_if, not_true_eq_false, not_false_eq_true, ite_true, ite_false, Nat.le_refl, Nat.lt_irrefl]
  · intro n i hi
    have qe : ¬ 24 ≤ i := by omega
    have e : vp_updL (fun j => if j < i then 0 else μ.2 k j) i 0 = fun j => if j < i + 1 then 0 else μ.2 k j := by
      funext j
      unfold vp_updL
      by_cases e1 : j = i
      · subst e1; simp
      · by_cases e2 : j < i
        · simp [e1, e2, show j < i + 1 by omega]
        · simp [e1, e2, show ¬ j < i + 1 by omega]
    simp (disch := omega) only [f_J7_fill_d0a16_6, nI_add, pk_mul, nI_clamp, nI_eqE, nI_leE, nI_ltE, nI_eq0, nI_le0, nI_lt0, nI_ge0, nI_gt0, pk_rem, pk_sub, inb_t, gd_y, zl_e, bd_y, isB_n0, isB_n1, n0_eq, n1_eq, if_n0, if_n1, isB_if, not_true_eq_false, not_false_eq_true, ite_true, ite_false, Nat.le_refl, Nat.lt_irrefl, qe, sL_sB, e]
theorem e8_sheet {μ : Mem} {s : Nat} {a2 a3 : Int32} (hs : s < 4) : f_X8_sheet_45 (nI s) a2 a3 zfu (nI 0) μ = some (a3, sB μ 122 (fun j => if 24 * s ≤ j ∧ j < 24 * s + 24 then 0 else μ.2 122 j)) := by
  refine Eq.trans ?_ (lp_eq (fun n i => f_X8_sheet_45 (nI s) a2 a3 n (nI i) (sB μ 122 (fun j => if 24 * s ≤ j ∧ j < 24 * s + i then 0 else μ.2 122 j))) 24 _ ?_ ?_ zfu 0 (by omega) (by unfold zfu; omega))
  · have : (fun j => if 24 * s ≤ j ∧ j < 24 * s + 0 then 0 else μ.2 122 j) = μ.2 122 := by funext j; rw [if_neg (by omega)]
    simp only [this, sB_self]
  · intro n
    simp (disch := omega) only [f_X8_sheet_45, nI_add, pk_mul, nI_clamp, nI_eqE, nI_leE, nI_ltE, nI_eq0, nI_le0, nI_lt0, nI_ge0, nI_gt0, pk_rem, pk_sub, inb_t, gd_y, zl_e, bd_y, isB_n0, isB_n1, n0_eq, n1_eq, if_n0, if_n1, isB_if, not_true_eq_false, not_false_eq_true, ite_true, ite_false, Nat.le_refl, Nat.lt_irrefl]
  · intro n i hi
    have qe : ¬ 24 ≤ i := by omega
    have e : vp_updL (fun j => if 24 * s ≤ j ∧ j < 24 * s + i then 0 else μ.2 122 j) (24 * s + i) 0 = fun j => if 24 * s ≤ j ∧ j < 24 * s + (i + 1) then 0 else μ.2 122 j := by
      funext j
      unfold vp_updL
      by_cases e1 : j = 24 * s + i
      · rw [if_pos e1, if_pos (by omega)]
      · rw [if_neg e1]
        show (if 24 * s ≤ j ∧ j < 24 * s + i then 0 else μ.2 122 j) = _
        by_cases e2 : 24 * s ≤ j ∧ j < 24 * s + i
        · rw [if_pos e2, if_pos (by omega)]
        · rw [if_neg e2, if_neg (by omega)]
    simp (disch := omega) only [f_X8_sheet_45, nI_add, pk_mul, nI_clamp, nI_eqE, nI_leE, nI_ltE, nI_eq0, nI_le0, nI_lt0, nI_ge0, nI_gt0, pk_rem, pk_sub, inb_t, gd_y, zl_e, bd_y, isB_n0, isB_n1, n0_eq, n1_eq, if_n0, if_n1, isB_if, not_true_eq_false, not_false_eq_true, ite_true, ite_false, Nat.le_refl, Nat.lt_irrefl, qe, sL_sB, e]
theorem o_sheet : ok_sheet II := by
  intro a1 a2 a3 μ I
  obtain ⟨⟨σ, h, r, -⟩, -, -, i4, -⟩ := id I
  unfold f_X7_sheet f_X8_sheet
  by_cases c1 : bw a1 0 3 = true
  · by_cases c2 : bw a2 0 3 = true
    · by_cases c3 : a3 ≤ nI 24
      · by_cases c4 : (0 : Int32) ≤ a3
        · obtain ⟨s, _, hs, _, rfl⟩ := bw_t c1
          obtain ⟨l, _, hl, _, rfl⟩ := bw_t c2
          obtain ⟨n, hn, rfl⟩ : ∃ n, n ≤ 24 ∧ a3 = nI n := by
            obtain ⟨j, hj, rfl⟩ := nI_of (x := a3) (Int32.not_lt.mpr c4)
            rw [nI_leE (by omega) (by omega)] at c3
            exact ⟨j, c3, rfl⟩
          have hs4 : s < 4 := by omega
          refine ⟨nI n, sB (sI (sI (sI μ (105 + s) 0 (nI 1)) (105 + s) 1 (nI l)) (105 + s) 2 (nI n)) (105 + s + 4) (fun j => if j < 24 then 0 else μ.2 (105 + s + 4) j), sB (sI (sI (sI (sB (sI (sI (sI μ (105 + s) 0 (nI 1)) (105 + s) 1 (nI l)) (105 + s) 2 (nI n)) (105 + s + 4) (fun j => if j < 24 then 0 else μ.2 (105 + s + 4) j)) 113 0 (nI 0)) 120 s (nI l)) 121 s (nI n)) 122 (fun j => if 24 * s ≤ j ∧ j < 24 * s + 24 then 0 else μ.2 122 j), ?_, ?_, ?_⟩
          · simp (disch := omega) only [within_n, zl_e, bd_y, if_n0, n0_eq, n1_eq, Bool.false_eq_true, not_true_eq_false, not_false_eq_true, if_true, if_false, Nat.one_ne_zero, rM_rM, c1, c2, c3, c4, inb_t, gd_y, nI_clamp, f_X3_renew, fillL_e]
            rfl
          · simp (disch := omega) only [isSheet_e, zl_e, bd_y, if_n0, n0_eq, n1_eq, Bool.false_eq_true, not_true_eq_false, not_false_eq_true, if_true, if_false, Nat.one_ne_zero, rM_rM, c1, c2, c3, c4, and_self, inb_t, gd_y, nI_clamp, e8_sheet hs4]
            rw [rd_2, rd_2, rd_2, rdB_k (by omega)]
            rfl
          · refine I.sheets (fun k hk => ?_) (fun j hj => ?_) (fun t ht => ?_)
            · rw [rdB_1, rd_k (by omega), rd_k (by omega), rd_k (by omega), rdB_1, rd_k (by omega), rd_k (by omega), rd_k (by omega)]
            · rw [rdB_1, rd_k (by omega), rd_k (by omega), rd_j hj, rdB_1, rd_k (by omega), rd_k (by omega), rd_k (by omega)]
            · by_cases e : t = s
              · subst e
                refine ⟨Or.inr ⟨?_, l, hl, ?_, ?_⟩, ⟨n, hn, ?_, ?_⟩, fun i hi => ?_⟩
                · rw [rdB_1, rd_k (by omega), rd_k (by omega), rd_k (by omega), rdB_1, rd_j (by omega), rd_j (by omega), rd_s]
                · rw [rdB_1, rd_k (by omega), rd_k (by omega), rd_k (by omega), rdB_1, rd_j (by omega), rd_s]
                · rw [rdB_1, rd_k (by omega), rd_s]
                · rw [rdB_1, rd_k (by omega), rd_k (by omega), rd_k (by omega), rdB_1, rd_s]
                · rw [rdB_1, rd_s]
                · rw [rdB_k (by omega), rdB_s, rd_2, rd_2, rd_2, show 109 + t = 105 + t + 4 by omega, rdB_s, if_pos hi, if_pos (by omega)]
              · obtain ⟨i1, i2, i3⟩ := i4 t ht
                refine (i4 t ht).cg ?_ ?_ ?_ (fun i hi => ?_)
                · rw [rdB_1, rd_k (by omega), rd_k (by omega), rd_k (by omega), rdB_1, rd_k (by omega), rd_k (by omega), rd_k (by omega)]
                · rw [rdB_1, rd_k (by omega), rd_j e, rd_k (by omega), rdB_1, rd_k (by omega), rd_k (by omega), rd_k (by omega)]
                · rw [rdB_1, rd_j e, rd_k (by omega), rd_k (by omega), rdB_1, rd_k (by omega), rd_k (by omega), rd_k (by omega)]
                · rw [rdB_k (by omega), rdB_s, rd_2, rd_2, rd_2, rdB_k (by omega), rd_2, rd_2, rd_2, if_neg (by omega)]
                  exact i3 i hi
        · refine ⟨-14, μ, sI μ 113 0 (nI 0), ?_, ?_, I.fx FX.th⟩
          · simp (disch := omega) only [within_n, zl_e, bd_y, if_n0, n0_eq, n1_eq, Bool.false_eq_true, not_true_eq_false, not_false_eq_true, if_true, if_false, Nat.one_ne_zero, rM_rM, c1, c2, c3, c4]
          · simp (disch := omega) only [isSheet_e, zl_e, bd_y, if_n0, n0_eq, n1_eq, Bool.false_eq_true, not_true_eq_false, not_false_eq_true, if_true, if_false, Nat.one_ne_zero, rM_rM, c1, c2, c3, c4, and_self]
      · refine ⟨-1, μ, sI μ 113 0 (nI 0), ?_, ?_, I.fx FX.th⟩
        · simp (disch := omega) only [within_n, zl_e, bd_y, if_n0, n0_eq, n1_eq, Bool.false_eq_true, not_true_eq_false, not_false_eq_true, if_true, if_false, Nat.one_ne_zero, rM_rM, c1, c2, c3]
        · simp (disch := omega) only [isSheet_e, zl_e, bd_y, if_n0, n0_eq, n1_eq, Bool.false_eq_true, not_true_eq_false, not_false_eq_true, if_true, if_false, Nat.one_ne_zero, rM_rM, c1, c2, c3, and_self]
    · refine ⟨-1, μ, sI μ 113 0 (nI 0), ?_, ?_, I.fx FX.th⟩
      · simp (disch := omega) only [within_n, zl_e, bd_y, if_n0, n0_eq, n1_eq, Bool.false_eq_true, not_true_eq_false, not_false_eq_true, if_true, if_false, Nat.one_ne_zero, rM_rM, c1, c2]
      · simp (disch := omega) only [isSheet_e, zl_e, bd_y, if_n0, n0_eq, n1_eq, Bool.false_eq_true, not_true_eq_false, not_false_eq_true, if_true, if_false, Nat.one_ne_zero, rM_rM, c1, c2, and_false]
  · refine ⟨-1, μ, sI μ 113 0 (nI 0), ?_, ?_, I.fx FX.th⟩
    · simp (disch := omega) only [within_n, zl_e, bd_y, if_n0, n0_eq, n1_eq, Bool.false_eq_true, not_true_eq_false, not_false_eq_true, if_true, if_false, Nat.one_ne_zero, rM_rM, c1]
    · simp (disch := omega) only [isSheet_e, zl_e, bd_y, if_n0, n0_eq, n1_eq, Bool.false_eq_true, not_true_eq_false, not_false_eq_true, if_true, if_false, Nat.one_ne_zero, rM_rM, c1, false_and]
theorem o_item : ok_item II := by
  intro a1 a2 a3 a4 μ I
  obtain ⟨-, -, -, i4, -⟩ := id I
  unfold f_X7_item f_X8_item
  by_cases c1 : bw a1 0 3 = true
  · by_cases c2 : bw a2 0 3 = true
    · obtain ⟨s, _, hs, _, rfl⟩ := bw_t c1
      obtain ⟨l, _, hl, _, rfl⟩ := bw_t c2
      have hs4 : s < 4 := by omega
      rcases ref_pair (μ' := sI μ 113 0 (nI 0)) (a3 := a3) (a4 := nI 1) (i4 s hs4) hs4 hl (rd_k (by omega)) (rd_k (by omega)) with ⟨v, v0, v1, v2⟩ | ⟨v1, v2, j1, j2, j3, z, hz, i2, i3, k⟩
      · refine ⟨v, μ, sI μ 113 0 (nI 0), ?_, ?_, I.fx FX.th⟩
        · simp (disch := omega) only [v1, zl_e, bd_y, if_n0, n0_eq, n1_eq, Bool.false_eq_true, not_true_eq_false, not_false_eq_true, if_true, if_false, Nat.one_ne_zero, rM_rM, v0]
        · simp (disch := omega) only [isSheet_e, zl_e, bd_y, if_n0, n0_eq, n1_eq, Bool.false_eq_true, not_true_eq_false, not_false_eq_true, if_true, if_false, Nat.one_ne_zero, rM_rM, c1, c2, and_self, v2, v0]
      · obtain ⟨f, hf, _, rfl⟩ := rk_t (by omega) k
        have key : ∀ V : Int64, f_X3_put (105 + s) (nI f) a4 μ = some (sL μ (105 + s + 4) f V) → f_X8_cut (nI l) a4 (sI (sL μ (105 + s + 4) f V) 113 0 (nI 0)) = some (V, sI (sL μ (105 + s + 4) f V) 113 0 (nI 0)) → ∃ (r : Int32) (μ1 μ2 : Mem), (Option.bind (f_X7_refusalOfRow (nI s) (nI l) (nI f) (nI 1) μ) fun p1_ => (if p1_.1 = 0 then gd (inb (nI s) 4) <| Option.bind (f_X3_put (105 + (Int32.toNatClampNeg (nI s))) (nI f) a4 p1_.2) fun p5_ => some ((nI 1), p5_) else some (p1_.1, p1_.2))) = some (r, μ1) ∧ (zl (sI μ1 113 0 (nI 0)) fun μ1_ => Option.bind (f_X8_isSheet (nI s) (nI l) μ1_) fun p3_ => (if p3_.1 = 0 then some ((-1), p3_.2) else Option.bind (f_X8_wrongOf (nI s) (nI l) (nI f) (nI 1) p3_.2) fun p6_ => (if p6_.1 = 0 then Option.bind (f_X8_cut (nI l) a4 p6_.2) fun p9_ => gd (inb (((nI 24) * (nI s)) + (nI f)) 96) <| zl (sL p9_.2 122 (Int32.toNatClampNeg (((nI 24) * (nI s)) + (nI f))) p9_.1) fun μ12_ => some ((nI 1), μ12_) else some (p6_.1, p6_.2)))) = some (r, μ2) ∧ II μ2 := by
          intro V q1 q2
          refine ⟨nI 1, sL μ (105 + s + 4) f V, sL (sI (sL μ (105 + s + 4) f V) 113 0 (nI 0)) 122 (24 * s + f) V, ?_, ?_, ?_⟩
          · simp (disch := omega) only [v1, zl_e, bd_y, if_n0, n0_eq, n1_eq, Bool.false_eq_true, not_true_eq_false, not_false_eq_true, if_true, if_false, Nat.one_ne_zero, rM_rM, inb_t, gd_y, nI_clamp, q1]
          · have w2 : f_X8_wrongOf (nI s) (nI l) (nI f) (nI 1) (sI (sL μ (105 + s + 4) f V) 113 0 (nI 0)) = some (nI 0, sI (sL μ (105 + s + 4) f V) 113 0 (nI 0)) := by
              rw [wo_e hs4 hz hl (by rw [rd_k (by omega), rd_L]; exact j3) (by rw [rd_k (by omega), rd_L]; exact i3), if_pos rfl, if_pos k]
            simp (disch := omega) only [isSheet_e, zl_e, bd_y, if_n0, n0_eq, n1_eq, Bool.false_eq_true, not_true_eq_false, not_false_eq_true, if_true, if_false, Nat.one_ne_zero, rM_rM, c1, c2, and_self, w2, q2, nI_add, pk_mul, nI_clamp, nI_eqE, nI_leE, nI_ltE, nI_eq0, nI_le0, nI_lt0, nI_ge0, nI_gt0, pk_rem, pk_sub, inb_t, gd_y, zl_e, bd_y, isB_n0, isB_n1, n0_eq, n1_eq, if_n0, if_n1, isB_if, not_true_eq_false, not_false_eq_true, ite_true, ite_false, Nat.le_refl, Nat.lt_irrefl]
          · refine I.sheets (fun q hq => by rw [rd_L, rd_k (by omega), rd_L]) (fun j hj => by rw [rd_L, rd_j hj, rd_L]) (fun t ht => ?_)
            obtain ⟨_, _, i5⟩ := i4 t ht
            refine (i4 t ht).cg (by rw [rd_L, rd_k (by omega), rd_L]) (by rw [rd_L, rd_k (by omega), rd_L]) (by rw [rd_L, rd_k (by omega), rd_L]) (fun i hi => ?_)
            rw [rd_Lk (by omega), rd_2]
            by_cases e : t = s
            · subst e
              rw [show 109 + t = 105 + t + 4 by omega]
              by_cases ei : i = f
              · subst ei; rw [rd_Ls, rd_Ls]
              · rw [rd_Lj ei, rd_Lj (by omega), rd_2, rd_Lk (by omega), show 105 + t + 4 = 109 + t by omega]
                exact i5 i hi
            · rw [rd_Lk (by omega), rd_Lj (by omega), rd_2, rd_Lk (by omega)]
              exact i5 i hi
        rcases (show l = 0 ∨ l = 1 ∨ l = 2 ∨ l = 3 by omega) with rfl | rfl | rfl | rfl
        · exact key _ (by unfold f_X3_put; simp (disch := omega) only [j2, if_true, inb_t, gd_y, zl_e, nI_clamp]; rfl) (by unfold f_X8_cut; simp (disch := omega) only [zl_e, bd_y, if_n0, n0_eq, n1_eq, Bool.false_eq_true, not_true_eq_false, not_false_eq_true, if_true, if_false, Nat.one_ne_zero, rM_rM])
        · exact key _ (by unfold f_X3_put; simp (disch := omega) only [j2, nI_eqE, Nat.one_ne_zero, if_false, if_true, inb_t, gd_y, zl_e, nI_clamp]; rfl) (by unfold f_X8_cut; simp (disch := omega) only [zl_e, bd_y, if_n0, n0_eq, n1_eq, Bool.false_eq_true, not_true_eq_false, not_false_eq_true, if_true, if_false, Nat.one_ne_zero, rM_rM])
        · exact key _ (by unfold f_X3_put; simp (disch := omega) only [j2, nI_eqE, Nat.reduceEqDiff, if_false, if_true, inb_t, gd_y, zl_e, nI_clamp]; rfl) (by unfold f_X8_cut; simp (disch := omega) only [zl_e, bd_y, if_n0, n0_eq, n1_eq, Bool.false_eq_true, not_true_eq_false, not_false_eq_true, if_true, if_false, Nat.one_ne_zero, rM_rM, nI_eq0, nI_eqE, Nat.reduceEqDiff])
        · exact key _ (by unfold f_X3_put; simp (disch := omega) only [j2, nI_eqE, Nat.reduceEqDiff, if_false, if_true, inb_t, gd_y, zl_e, nI_clamp]; rfl) (by unfold f_X8_cut; simp (disch := omega) only [zl_e, bd_y, if_n0, n0_eq, n1_eq, Bool.false_eq_true, not_true_eq_false, not_false_eq_true, if_true, if_false, Nat.one_ne_zero, rM_rM, nI_eq0, nI_eqE, Nat.reduceEqDiff])
    · refine ⟨-1, μ, sI μ 113 0 (nI 0), ?_, ?_, I.fx FX.th⟩
      · unfold f_X7_refusalOfRow
        simp (disch := omega) only [within_n, zl_e, bd_y, if_n0, n0_eq, n1_eq, Bool.false_eq_true, not_true_eq_false, not_false_eq_true, if_true, if_false, Nat.one_ne_zero, rM_rM, c1, c2]
        rfl
      · simp (disch := omega) only [isSheet_e, zl_e, bd_y, if_n0, n0_eq, n1_eq, Bool.false_eq_true, not_true_eq_false, not_false_eq_true, if_true, if_false, Nat.one_ne_zero, rM_rM, c1, c2, and_false]
  · refine ⟨-1, μ, sI μ 113 0 (nI 0), ?_, ?_, I.fx FX.th⟩
    · unfold f_X7_refusalOfRow
      simp (disch := omega) only [within_n, zl_e, bd_y, if_n0, n0_eq, n1_eq, Bool.false_eq_true, not_true_eq_false, not_false_eq_true, if_true, if_false, Nat.one_ne_zero, rM_rM, c1]
      rfl
    · simp (disch := omega) only [isSheet_e, zl_e, bd_y, if_n0, n0_eq, n1_eq, Bool.false_eq_true, not_true_eq_false, not_false_eq_true, if_true, if_false, Nat.one_ne_zero, rM_rM, c1, false_and]
