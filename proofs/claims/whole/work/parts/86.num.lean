/-! PURE PART: numbers, read -/
def tpD (L : Nat → Nat) (N most : Nat) : Nat → Nat → Nat → Nat × Nat
  | 0, c, p => (c, p)
  | f + 1, c, p => if p < N ∧ 48 ≤ L p ∧ L p ≤ 57 then tpD L N most f (if most + 1 < c * 10 + L p - 48 then most + 1 else c * 10 + L p - 48) (p + 1) else (c, p)
theorem tpD_y {L : Nat → Nat} {N most f c p : Nat} (h : p < N ∧ 48 ≤ L p ∧ L p ≤ 57) : tpD L N most (f + 1) c p = tpD L N most f (if most + 1 < c * 10 + L p - 48 then most + 1 else c * 10 + L p - 48) (p + 1) := if_pos h
theorem tpD_n {L : Nat → Nat} {N most f c p : Nat} (h : ¬ (p < N ∧ 48 ≤ L p ∧ L p ≤ 57)) : tpD L N most f c p = (c, p) := by
  cases f with
  | zero => rfl
  | succ f => exact if_neg h
theorem tpD_b {L : Nat → Nat} {N most : Nat} : ∀ f c p, c ≤ most + 1 → p ≤ N → (tpD L N most f c p).1 ≤ most + 1 ∧ (tpD L N most f c p).2 ≤ N := by
  intro f
  induction f with
  | zero => intro c p h1 h2; exact ⟨h1, h2⟩
  | succ f ih =>
    intro c p h1 h2
    by_cases h : p < N ∧ 48 ≤ L p ∧ L p ≤ 57
    · rw [tpD_y h]
      exact ih _ _ (by split <;> omega) (by omega)
    · rw [tpD_n h]; exact ⟨h1, h2⟩
def r_num (L : Nat → Nat) (N most q : Nat) (w : Option Nat) : Nat × Nat × Option Nat := match w with
  | some k => (0, q, some k)
  | none => if q < N ∧ 48 ≤ L q ∧ L q ≤ 57 then (if (tpD L N most 200 0 q).1 ≤ most then ((tpD L N most 200 0 q).1, sk L N (tpD L N most 200 0 q).2, none) else (0, q, some q)) else (0, q, some q)
theorem c_dig {v : Nat} {μ : Mem} (h : v < 2 ^ 31) : f_X5_isDigit (nI v) μ = some (nI (if 48 ≤ v ∧ v ≤ 57 then 1 else 0), μ) := by
  unfold f_X5_isDigit
  simp (disch := omega) only [nI_ltE]
  by_cases c1 : v < 48
  · rw [if_pos c1, if_neg (by omega)]
  · rw [if_neg c1]
    by_cases c2 : 57 < v
    · rw [if_pos c2, if_neg (by omega)]
    · rw [if_neg c2, if_pos (by omega)]
theorem c_dg {μ : Mem} {L : Nat → Nat} {N most : Nat} {K : Int32 → Int32 → Mem → Option (Int32 × Mem)} {x : Int32} (t : TL L N μ) (hm : most ≤ 100) : ∀ f n c p, N - p ≤ f → N - p < n → p ≤ N → c ≤ most + 1 → f_X5_readNumber_46 (nI most) K n x (nI c) (CM μ p none) = K x (nI (tpD L N most f c p).1) (CM μ (tpD L N most f c p).2 none) := by
  have hN := t.2.1
  intro f
  induction f with
  | zero =>
    intro n c p h1 h2 h3 h4
    obtain ⟨m, rfl⟩ : ∃ m, n = m + 1 := ⟨n - 1, by omega⟩
    have : N ≤ p := by omega
    simp (disch := omega) only [f_X5_readNumber_46, nI_add, pk_mul, nI_clamp, nI_eqE, nI_leE, nI_ltE, nI_eq0, nI_le0, nI_lt0, nI_ge0, nI_gt0, pk_rem, pk_sub, inb_t, gd_y, zl_e, bd_y, isB_n0, isB_n1, n0_eq, n1_eq, if_n0, if_n1, isB_if, not_true_eq_false, not_false_eq_true, ite_true, ite_false, Nat.le_refl, Nat.lt_irrefl, CM_0, CM_7, t.1, this, tpD]
  | succ f ih =>
    intro n c p h1 h2 h3 h4
    obtain ⟨m, rfl⟩ : ∃ m, n = m + 1 := ⟨n - 1, by omega⟩
    by_cases c0 : p < N
    · have l := (t.2.2 p c0).1
      have lb := (t.2.2 p c0).2
      have np : ¬ N ≤ p := by omega
      by_cases cd : 48 ≤ L p ∧ L p ≤ 57
      · rw [tpD_y ⟨c0, cd⟩, ← ih m _ (p + 1) (by omega) (by omega) (by omega) (by split <;> omega)]
        simp (disch := omega) only [f_X5_readNumber_46, nI_add, pk_mul, nI_clamp, nI_eqE, nI_leE, nI_ltE, nI_eq0, nI_le0, nI_lt0, nI_ge0, nI_gt0, pk_rem, pk_sub, inb_t, gd_y, zl_e, bd_y, isB_n0, isB_n1, n0_eq, n1_eq, if_n0, if_n1, isB_if, not_true_eq_false, not_false_eq_true, ite_true, ite_false, Nat.le_refl, Nat.lt_irrefl, CM_0, CM_7, t.1, np, CM_k, l, c_dig, cd, and_self, CM_w7, Nat.one_ne_zero]
        by_cases cm : most + 1 < c * 10 + L p - 48 <;> simp only [cm, if_true, if_false]
      · rw [tpD_n (fun z => cd z.2)]
        simp (disch := omega) only [f_X5_readNumber_46, nI_add, pk_mul, nI_clamp, nI_eqE, nI_leE, nI_ltE, nI_eq0, nI_le0, nI_lt0, nI_ge0, nI_gt0, pk_rem, pk_sub, inb_t, gd_y, zl_e, bd_y, isB_n0, isB_n1, n0_eq, n1_eq, if_n0, if_n1, isB_if, not_true_eq_false, not_false_eq_true, ite_true, ite_false, Nat.le_refl, Nat.lt_irrefl, CM_0, CM_7, t.1, np, CM_k, l, c_dig, cd]
    · rw [tpD_n (fun z => c0 z.1)]
      have : N ≤ p := by omega
      simp (disch := omega) only [f_X5_readNumber_46, nI_add, pk_mul, nI_clamp, nI_eqE, nI_leE, nI_ltE, nI_eq0, nI_le0, nI_lt0, nI_ge0, nI_gt0, pk_rem, pk_sub, inb_t, gd_y, zl_e, bd_y, isB_n0, isB_n1, n0_eq, n1_eq, if_n0, if_n1, isB_if, not_true_eq_false, not_false_eq_true, ite_true, ite_false, Nat.le_refl, Nat.lt_irrefl, CM_0, CM_7, t.1, this]
theorem c_num {μ : Mem} {L : Nat → Nat} {N p q most : Nat} {w : Option Nat} (t : TL L N μ) (h : RP L N p q w) (hm : most ≤ 100) : ∃ x p', f_X5_readNumber (nI most) (CM μ p w) = some (x, CM μ p' (r_num L N most q w).2.2) ∧ RP L N p' (r_num L N most q w).2.1 (r_num L N most q w).2.2 ∧ ((r_num L N most q w).2.2 = none → x = nI (r_num L N most q w).1) := by
  have hN := t.2.1
  have hw := h.w hN
  obtain ⟨h1, h2, h3, h4⟩ := id h
  unfold f_X5_readNumber f_X5_readNumber_29
  cases w with
  | some k =>
    have k0 : (0 : Int32) ≤ wI (some k) := nI_pos' (hw k rfl)
    refine ⟨nI 0, p, ?_, h, fun z => by cases z⟩
    simp only [CM_8, k0, if_true, CM_7, c_refuse hw, bd_y]
    simp [r_num]
  | none =>
    have k0 : ¬ ((0 : Int32) ≤ wI none) := by decide
    have sq := h3 rfl
    have ce := c_end (w := none) t h1
    rw [sq] at ce
    have rf : RP L N q q (some q) := ⟨h2, h2, fun z => (by cases z), fun k z => (by cases z; omega)⟩
    unfold r_num
    simp only [CM_8, k0, if_false, ce, bd_y]
    by_cases c0 : q < N
    · have l := (t.2.2 q c0).1
      have lb := (t.2.2 q c0).2
      by_cases cd : 48 ≤ L q ∧ L q ≤ 57
      · obtain ⟨b1, b2⟩ := tpD_b (L := L) (N := N) (most := most) 200 0 q (by omega) h2
        have dg := c_dg (K := fun x2 x3 μ => f_X5_readNumber_109 (nI most) x2 x3 μ) (x := nI q) t hm 200 zfu 0 q (by omega) (by unfold zfu; omega) h2 (by omega)
        simp (disch := omega) only [c0, true_and, cd, and_self, nI_add, pk_mul, nI_clamp, nI_eqE, nI_leE, nI_ltE, nI_eq0, nI_le0, nI_lt0, nI_ge0, nI_gt0, pk_rem, pk_sub, inb_t, gd_y, zl_e, bd_y, isB_n0, isB_n1, n0_eq, n1_eq, if_n0, if_n1, isB_if, not_true_eq_false, not_false_eq_true, ite_true, ite_false, Nat.le_refl, Nat.lt_irrefl, CM_7, CM_k, l, c_dig, dg]
        unfold f_X5_readNumber_109
        by_cases cm : (tpD L N most 200 0 q).1 ≤ most
        · simp (disch := omega) only [nI_leE, cm, if_true]
          exact ⟨_, (tpD L N most 200 0 q).2, rfl, ⟨b2, sk_le hN b2, fun _ => rfl, fun k z => (by cases z)⟩, fun _ => rfl⟩
        · simp (disch := omega) only [nI_leE, cm, if_false, c_refuse hw, bd_y, if_true]
          exact ⟨_, (tpD L N most 200 0 q).2, rfl, ⟨b2, h2, fun z => (by cases z), fun k z => (by cases z; omega)⟩, fun z => (by cases z)⟩
      · simp (disch := omega) only [c0, true_and, cd, nI_add, pk_mul, nI_clamp, nI_eqE, nI_leE, nI_ltE, nI_eq0, nI_le0, nI_lt0, nI_ge0, nI_gt0, pk_rem, pk_sub, inb_t, gd_y, zl_e, bd_y, isB_n0, isB_n1, n0_eq, n1_eq, if_n0, if_n1, isB_if, not_true_eq_false, not_false_eq_true, ite_true, ite_false, Nat.le_refl, Nat.lt_irrefl, CM_7, CM_k, l, c_dig, c_refuse hw]
        exact ⟨_, q, rfl, rf, fun z => (by cases z)⟩
    · simp (disch := omega) only [c0, false_and, nI_add, pk_mul, nI_clamp, nI_eqE, nI_leE, nI_ltE, nI_eq0, nI_le0, nI_lt0, nI_ge0, nI_gt0, pk_rem, pk_sub, inb_t, gd_y, zl_e, bd_y, isB_n0, isB_n1, n0_eq, n1_eq, if_n0, if_n1, isB_if, not_true_eq_false, not_false_eq_true, ite_true, ite_false, Nat.le_refl, Nat.lt_irrefl, CM_7, c_refuse hw]
      exact ⟨_, q, rfl, rf, fun z => (by cases z)⟩
def RNm (most c v : Nat) : Prop := ((c ≤ most ∧ v = c) ∨ (c = most + 1 ∧ most < v)) ∧ v ≤ 1009
theorem e_dg {μ : Mem} {L : Nat → Nat} {N most cc : Nat} {pl : Int32} {K : Int32 → Int32 → Mem → Option (Int32 × Mem)} {x : Int32} (t : QL L N μ) (hm : most = 99 ∨ most = 100) : ∀ f n c v p, N - p ≤ f → N - p < n → p ≤ N → RNm most c v → ∃ v', RNm most (tpD L N most f c p).1 v' ∧ f_X8_number_40 (nI most) K n x (nI v) (RM μ p pl none cc) = K x (nI v') (RM μ (tpD L N most f c p).2 pl none cc) := by
  have hN := t.2.1
  have k0 : ¬ ((0 : Int32) ≤ wI none) := by decide
  intro f
  induction f with
  | zero =>
    intro n c v p h1 h2 h3 h4
    obtain ⟨m, rfl⟩ : ∃ m, n = m + 1 := ⟨n - 1, by omega⟩
    have : N ≤ p := by omega
    refine ⟨v, h4, ?_⟩
    simp (disch := omega) only [f_X8_number_40, nI_add, pk_mul, nI_clamp, nI_eqE, nI_leE, nI_ltE, nI_eq0, nI_le0, nI_lt0, nI_ge0, nI_gt0, pk_rem, pk_sub, inb_t, gd_y, zl_e, bd_y, isB_n0, isB_n1, n0_eq, n1_eq, if_n0, if_n1, isB_if, not_true_eq_false, not_false_eq_true, ite_true, ite_false, Nat.le_refl, Nat.lt_irrefl, RM_10, k0, RM_j, RM_8, t.1, this, tpD]
  | succ f ih =>
    intro n c v p h1 h2 h3 h4
    obtain ⟨m, rfl⟩ : ∃ m, n = m + 1 := ⟨n - 1, by omega⟩
    by_cases c0 : p < N
    · have l := (t.2.2 p c0).1
      have lb := (t.2.2 p c0).2
      have np : ¬ N ≤ p := by omega
      have bl : (bw (nI (L p)) 48 57 = true) = (48 ≤ L p ∧ L p ≤ 57) := by
        have := bw_ltr (t.b p)
        unfold ltr at this
        simp only [c0, if_true, true_and] at this
        exact this
      by_cases cd : 48 ≤ L p ∧ L p ≤ 57
      · rw [tpD_y ⟨c0, cd⟩]
        have hv : v ≤ 1009 := h4.2
        by_cases cv : v ≤ 100
        · obtain ⟨v', g1, g2⟩ := ih m (if most + 1 < c * 10 + L p - 48 then most + 1 else c * 10 + L p - 48) (10 * v + L p - 48) (p + 1) (by omega) (by omega) (by omega) (by
            unfold RNm at h4 ⊢
            split <;> omega)
          refine ⟨v', g1, ?_⟩
          rw [← g2]
          simp (disch := omega) only [f_X8_number_40, nI_add, pk_mul, nI_clamp, nI_eqE, nI_leE, nI_ltE, nI_eq0, nI_le0, nI_lt0, nI_ge0, nI_gt0, pk_rem, pk_sub, inb_t, gd_y, zl_e, bd_y, isB_n0, isB_n1, n0_eq, n1_eq, if_n0, if_n1, isB_if, not_true_eq_false, not_false_eq_true, ite_true, ite_false, Nat.le_refl, Nat.lt_irrefl, RM_10, k0, RM_j, RM_8, t.1, np, RM_k, l, in_48_57, bl, cd, and_self, cv, f_X8_number_110, RM_w8, Nat.one_ne_zero]
        · obtain ⟨v', g1, g2⟩ := ih m (if most + 1 < c * 10 + L p - 48 then most + 1 else c * 10 + L p - 48) v (p + 1) (by omega) (by omega) (by omega) (by
            unfold RNm at h4 ⊢
            split <;> omega)
          refine ⟨v', g1, ?_⟩
          rw [← g2]
          simp (disch := omega) only [f_X8_number_40, nI_add, pk_mul, nI_clamp, nI_eqE, nI_leE, nI_ltE, nI_eq0, nI_le0, nI_lt0, nI_ge0, nI_gt0, pk_rem, pk_sub, inb_t, gd_y, zl_e, bd_y, isB_n0, isB_n1, n0_eq, n1_eq, if_n0, if_n1, isB_if, not_true_eq_false, not_false_eq_true, ite_true, ite_false, Nat.le_refl, Nat.lt_irrefl, RM_10, k0, RM_j, RM_8, t.1, np, RM_k, l, in_48_57, bl, cd, and_self, cv, f_X8_number_110, RM_w8, Nat.one_ne_zero]
      · rw [tpD_n (fun z => cd z.2)]
        refine ⟨v, h4, ?_⟩
        simp (disch := omega) only [f_X8_number_40, nI_add, pk_mul, nI_clamp, nI_eqE, nI_leE, nI_ltE, nI_eq0, nI_le0, nI_lt0, nI_ge0, nI_gt0, pk_rem, pk_sub, inb_t, gd_y, zl_e, bd_y, isB_n0, isB_n1, n0_eq, n1_eq, if_n0, if_n1, isB_if, not_true_eq_false, not_false_eq_true, ite_true, ite_false, Nat.le_refl, Nat.lt_irrefl, RM_10, k0, RM_j, RM_8, t.1, np, RM_k, l, in_48_57, bl, cd]
    · rw [tpD_n (fun z => c0 z.1)]
      have : N ≤ p := by omega
      refine ⟨v, h4, ?_⟩
      simp (disch := omega) only [f_X8_number_40, nI_add, pk_mul, nI_clamp, nI_eqE, nI_leE, nI_ltE, nI_eq0, nI_le0, nI_lt0, nI_ge0, nI_gt0, pk_rem, pk_sub, inb_t, gd_y, zl_e, bd_y, isB_n0, isB_n1, n0_eq, n1_eq, if_n0, if_n1, isB_if, not_true_eq_false, not_false_eq_true, ite_true, ite_false, Nat.le_refl, Nat.lt_irrefl, RM_10, k0, RM_j, RM_8, t.1, this]
theorem e_ps {μ : Mem} {p k c : Nat} {v pl : Int32} (hk : k < 2 ^ 31) : f_X8_passes v (RM μ p pl (some k) c) = some (nI 0, RM μ p pl (some k) c) := by
  unfold f_X8_passes
  have k0 : ¬ (wI (some k) < (0 : Int32)) := nI_pos hk
  simp only [RM_10, k0, if_false]
theorem e_num {μ : Mem} {L : Nat → Nat} {N p q most c : Nat} {w : Option Nat} {pl : Int32} (t : QL L N μ) (h : RP L N p q w) (hm : most = 99 ∨ most = 100) : ∃ x p' pl', f_X8_number (nI most) (RM μ p pl w c) = some (x, RM μ p' pl' (r_num L N most q w).2.2 c) ∧ RP L N p' (r_num L N most q w).2.1 (r_num L N most q w).2.2 ∧ ((r_num L N most q w).2.2 = none → x = nI (r_num L N most q w).1) := by
  have hN := t.2.1
  have hw := h.w hN
  obtain ⟨h1, h2, h3, h4⟩ := id h
  have sl := sk_le (L := L) hN h1
  unfold f_X8_number
  simp only [e_letter t h1, bd_y, zl_e, RM_9, in_48_57, bw_ltr (t.b _)]
  cases w with
  | some k =>
    have k0 : (0 : Int32) ≤ wI (some k) := nI_pos' (hw k rfl)
    have F : ∀ t1, f_X8_number_30 (nI most) (ltr L N (sk L N p)) (nI (sk L N p)) t1 (RM μ (sk L N p) (nI (sk L N p)) (some k) c) = some (ltr L N (sk L N p) - nI 48, RM μ (sk L N p) (nI (sk L N p)) (some k) c) := by
      intro t1
      unfold f_X8_number_30
      rw [e_ps (hw k rfl), bd_y, zl_e, show zfu = (zfu - 1) + 1 from by unfold zfu; rfl, f_X8_number_40]
      simp only [RM_10, k0, if_true, f_X8_number_125]
    refine ⟨ltr L N (sk L N p) - nI 48, sk L N p, nI (sk L N p), ?_, ⟨sl, h2, fun z => (by cases z), h4⟩, fun z => by cases z⟩
    rw [F, F]
    split <;> rfl
  | none =>
    have k0 : ¬ ((0 : Int32) ≤ wI none) := by decide
    have sq := h3 rfl
    rw [sq]
    unfold r_num
    by_cases cd : q < N ∧ 48 ≤ L q ∧ L q ≤ 57
    · have d1 : nI (L q) - nI 48 = nI (L q - 48) := pk_sub (by omega)
      obtain ⟨v', g1, g2⟩ := e_dg (cc := c) (pl := nI q) (K := fun x3 x4 μ => f_X8_number_125 (nI most) x3 x4 μ) (x := nI q) t hm 199 zfu (if most + 1 < 0 * 10 + L q - 48 then most + 1 else 0 * 10 + L q - 48) (L q - 48) (q + 1) (by omega) (by unfold zfu; omega) (by omega) (by
        unfold RNm
        rw [if_neg (by omega)]
        omega)
      rw [← tpD_y cd] at g1 g2
      obtain ⟨b1, b2⟩ := tpD_b (L := L) (N := N) (most := most) (199 + 1) 0 q (by omega) h2
      have e1 : f_X8_number_30 (nI most) (ltr L N q) (nI q) (nI 0) (RM μ q (nI q) none c) = f_X8_number_125 (nI most) (nI q) (nI v') (RM μ (tpD L N most (199 + 1) 0 q).2 (nI q) none c) := by
        unfold f_X8_number_30
        rw [e_py, bd_y, zl_e]
        unfold ltr
        rw [if_pos cd.1, d1]
        exact g2
      simp only [cd, and_self, if_true, n1_eq, if_false]
      rw [e1]
      unfold f_X8_number_125
      have hv : v' ≤ 1009 := g1.2
      by_cases cm : (tpD L N most 200 0 q).1 ≤ most
      · have ve : v' = (tpD L N most 200 0 q).1 := by
          unfold RNm at g1
          have : (tpD L N most (199 + 1) 0 q).1 = (tpD L N most 200 0 q).1 := rfl
          omega
        simp (disch := omega) only [RM_10, k0, if_false, nI_leE, ve, cm, if_true]
        exact ⟨_, (tpD L N most 200 0 q).2, nI q, rfl, ⟨b2, sk_le hN b2, fun _ => rfl, fun k z => (by cases z)⟩, fun _ => rfl⟩
      · have ve : ¬ v' ≤ most := by
          unfold RNm at g1
          have : (tpD L N most (199 + 1) 0 q).1 = (tpD L N most 200 0 q).1 := rfl
          omega
        simp (disch := omega) only [RM_10, k0, if_false, nI_leE, ve, cm, zl_e, RM_w10]
        exact ⟨_, (tpD L N most 200 0 q).2, nI q, rfl, ⟨b2, h2, fun z => (by cases z), fun k z => (by cases z; omega)⟩, fun z => (by cases z)⟩
    · have kq : (0 : Int32) ≤ wI (some q) := nI_pos' (by omega)
      have e1 : f_X8_number_30 (nI most) (ltr L N q) (nI q) (-1) (RM μ q (nI q) none c) = some (ltr L N q - nI 48, RM μ q (nI q) (some q) c) := by
        unfold f_X8_number_30
        rw [e_pn, bd_y, zl_e, show zfu = (zfu - 1) + 1 from by unfold zfu; rfl, f_X8_number_40]
        simp only [RM_10, kq, if_true, f_X8_number_125]
      simp only [cd, if_false, n0_eq, if_true]
      rw [e1]
      exact ⟨_, q, nI q, rfl, ⟨h2, h2, fun z => (by cases z), fun k z => (by cases z; omega)⟩, fun z => (by cases z)⟩
