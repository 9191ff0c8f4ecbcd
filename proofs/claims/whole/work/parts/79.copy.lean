/-! PURE PART: copy, type -/
theorem rk_t2 {z : Nat} {a3 a4 : Int32} (h : rk z a3 a4 = true) : ∃ f n, f + n ≤ z ∧ f < 2 ^ 31 ∧ n < 2 ^ 31 ∧ a3 = nI f ∧ a4 = nI n := by
  have h' := h
  unfold rk at h'
  simp at h'
  have u := a4.toInt_lt
  obtain ⟨n, _, _, hn, rfl⟩ := bet_nI (a := a4) 0 (2 ^ 31) (by omega) (by omega)
  obtain ⟨f, h1, h2, rfl⟩ := rk_t hn h
  exact ⟨f, n, h1, h2, hn, rfl, rfl⟩
theorem e8_copyA {μ : Mem} {s t i j n : Nat} {kx : Mem → Option (Int32 × Mem)} (hs : s < 4) (hn : i + n ≤ 24) : f_X8_copy_111 (nI s) (nI i) (nI t) (nI j) (nI n) kx zfu (nI 0) μ = kx (sB μ 124 (fun k => if k < n then μ.2 122 (24 * s + i + k) else μ.2 124 k)) := by
  refine Eq.trans ?_ (lp_eq (fun f k => f_X8_copy_111 (nI s) (nI i) (nI t) (nI j) (nI n) kx f (nI k) (sB μ 124 (fun q => if q < k then μ.2 122 (24 * s + i + q) else μ.2 124 q))) n _ ?_ ?_ zfu 0 (by omega) (by unfold zfu; omega))
  · have : (fun q => if q < 0 then μ.2 122 (24 * s + i + q) else μ.2 124 q) = μ.2 124 := by funext q; simp
    simp only [this, sB_self]
  · intro f
    simp (disch := omega) only [f_X8_copy_111, nI_add, pk_mul, nI_clamp, nI_eqE, nI_leE, nI_ltE, nI_eq0, nI_le0, nI_lt0, nI_ge0, nI_gt0, pk_rem, pk_sub, inb_t, gd_y, zl_e, bd_y, isB_n0, isB_n1, n0_eq, n1_eq, if_n0, if_n1, isB_if, not_true_eq_false, not_false_eq_true, ite_true, ite_false, Nat.le_refl, Nat.lt_irrefl]
  · intro f k hk
    have qe : ¬ n ≤ k := by omega
    have e : vp_updL (fun q => if q < k then μ.2 122 (24 * s + i + q) else μ.2 124 q) k (μ.2 122 (24 * s + i + k)) = fun q => if q < k + 1 then μ.2 122 (24 * s + i + q) else μ.2 124 q := by
      funext q
      unfold vp_updL
      by_cases e1 : q = k
      · subst e1; simp
      · by_cases e2 : q < k
        · simp [e1, e2, show q < k + 1 by omega]
        · simp [e1, e2, show ¬ q < k + 1 by omega]
    simp (disch := omega) only [f_X8_copy_111, nI_add, pk_mul, nI_clamp, nI_eqE, nI_leE, nI_ltE, nI_eq0, nI_le0, nI_lt0, nI_ge0, nI_gt0, pk_rem, pk_sub, inb_t, gd_y, zl_e, bd_y, isB_n0, isB_n1, n0_eq, n1_eq, if_n0, if_n1, isB_if, not_true_eq_false, not_false_eq_true, ite_true, ite_false, Nat.le_refl, Nat.lt_irrefl, qe, rdB_k, sL_sB, e]
theorem e8_copyB {μ : Mem} {s t i j n : Nat} (ht : t < 4) (hn : j + n ≤ 24) : f_X8_copy_145 (nI s) (nI i) (nI t) (nI j) (nI n) μ = some (nI n, sB μ 122 (fun p => if 24 * t + j ≤ p ∧ p < 24 * t + j + n then μ.2 124 (p - (24 * t + j)) else μ.2 122 p)) := by
  unfold f_X8_copy_145
  refine Eq.trans ?_ (lp_eq (fun f k => f_X8_copy_148 (nI s) (nI i) (nI t) (nI j) (nI n) f (nI k) (sB μ 122 (fun p => if 24 * t + j ≤ p ∧ p < 24 * t + j + k then μ.2 124 (p - (24 * t + j)) else μ.2 122 p))) n _ ?_ ?_ zfu 0 (by omega) (by unfold zfu; omega))
  · have : (fun p => if 24 * t + j ≤ p ∧ p < 24 * t + j + 0 then μ.2 124 (p - (24 * t + j)) else μ.2 122 p) = μ.2 122 := by funext q; rw [if_neg (by omega)]
    simp only [this, sB_self]
  · intro f
    simp (disch := omega) only [f_X8_copy_148, nI_add, pk_mul, nI_clamp, nI_eqE, nI_leE, nI_ltE, nI_eq0, nI_le0, nI_lt0, nI_ge0, nI_gt0, pk_rem, pk_sub, inb_t, gd_y, zl_e, bd_y, isB_n0, isB_n1, n0_eq, n1_eq, if_n0, if_n1, isB_if, not_true_eq_false, not_false_eq_true, ite_true, ite_false, Nat.le_refl, Nat.lt_irrefl]
  · intro f k hk
    have qe : ¬ n ≤ k := by omega
    have e : vp_updL (fun p => if 24 * t + j ≤ p ∧ p < 24 * t + j + k then μ.2 124 (p - (24 * t + j)) else μ.2 122 p) (24 * t + j + k) (μ.2 124 k) = fun p => if 24 * t + j ≤ p ∧ p < 24 * t + j + (k + 1) then μ.2 124 (p - (24 * t + j)) else μ.2 122 p := by
      funext q
      unfold vp_updL
      by_cases e1 : q = 24 * t + j + k
      · rw [if_pos e1, if_pos (by omega), e1, show 24 * t + j + k - (24 * t + j) = k by omega]
      · rw [if_neg e1]
        show (if 24 * t + j ≤ q ∧ q < 24 * t + j + k then μ.2 124 (q - (24 * t + j)) else μ.2 122 q) = _
        by_cases e2 : 24 * t + j ≤ q ∧ q < 24 * t + j + k
        · rw [if_pos e2, if_pos (by omega)]
        · rw [if_neg e2, if_neg (by omega)]
    simp (disch := omega) only [f_X8_copy_148, nI_add, pk_mul, nI_clamp, nI_eqE, nI_leE, nI_ltE, nI_eq0, nI_le0, nI_lt0, nI_ge0, nI_gt0, pk_rem, pk_sub, inb_t, gd_y, zl_e, bd_y, isB_n0, isB_n1, n0_eq, n1_eq, if_n0, if_n1, isB_if, not_true_eq_false, not_false_eq_true, ite_true, ite_false, Nat.le_refl, Nat.lt_irrefl, qe, rdB_k, sL_sB, e]
theorem o_copy : ok_copy II := by
  intro a1 a2 a3 a4 a5 μ I
  obtain ⟨-, -, -, i4, -⟩ := id I
  unfold f_X7_copy f_X8_copy
  by_cases c1 : bw a1 0 3 = true
  · by_cases c2 : bw a3 0 3 = true
    · obtain ⟨s, _, hs, _, rfl⟩ := bw_t c1
      obtain ⟨t, _, ht, _, rfl⟩ := bw_t c2
      have hs4 : s < 4 := by omega
      have ht4 : t < 4 := by omega
      obtain ⟨u1, ⟨zs, hzs, u2, u3⟩, us⟩ := i4 s hs4
      obtain ⟨v1, ⟨zt, hzt, v2, v3⟩, vs⟩ := i4 t ht4
      rcases u1 with ⟨j1, j2⟩ | ⟨j1, l, hl, j2, j3⟩
      · refine ⟨-11, μ, sI μ 113 0 (nI 0), ?_, ?_, I.fx FX.th⟩
        · simp (disch := omega) only [within_n, zl_e, bd_y, if_n0, n0_eq, n1_eq, Bool.false_eq_true, not_true_eq_false, not_false_eq_true, if_true, if_false, Nat.one_ne_zero, rM_rM, c1, c2, inb_t, gd_y, nI_clamp, j1]
        · simp (disch := omega) only [in_0_3, zl_e, bd_y, if_n0, n0_eq, n1_eq, Bool.false_eq_true, not_true_eq_false, not_false_eq_true, if_true, if_false, Nat.one_ne_zero, rM_rM, c1, c2, inb_t, gd_y, nI_clamp, rd_k, j2]
          rfl
      · rcases v1 with ⟨k1, k2⟩ | ⟨k1, l2, hl2, k2, k3⟩
        · refine ⟨-11, μ, sI μ 113 0 (nI 0), ?_, ?_, I.fx FX.th⟩
          · simp (disch := omega) only [within_n, zl_e, bd_y, if_n0, n0_eq, n1_eq, Bool.false_eq_true, not_true_eq_false, not_false_eq_true, if_true, if_false, Nat.one_ne_zero, rM_rM, c1, c2, inb_t, gd_y, nI_clamp, j1, k1]
          · simp (disch := omega) only [in_0_3, zl_e, bd_y, if_n0, n0_eq, n1_eq, Bool.false_eq_true, not_true_eq_false, not_false_eq_true, if_true, if_false, Nat.one_ne_zero, rM_rM, c1, c2, inb_t, gd_y, nI_clamp, rd_k, j3, nI_lt0, k2]
            rfl
        · by_cases c3 : l = l2
          · subst c3
            have wo1 : ∀ y : Mem, y.1 120 = μ.1 120 → y.1 121 = μ.1 121 → f_X8_wrongOf (nI s) (nI l) a2 a5 y = some (if rk zs a2 a5 = true then nI 0 else -13, y) := fun y e1 e2 => by
              rw [wo_e hs4 hzs hl (by rw [e1]; exact j3) (by rw [e2]; exact u3), if_pos rfl]
            have wo2 : ∀ y : Mem, y.1 120 = μ.1 120 → y.1 121 = μ.1 121 → f_X8_wrongOf (nI t) (nI l) a4 a5 y = some (if rk zt a4 a5 = true then nI 0 else -13, y) := fun y e1 e2 => by
              rw [wo_e ht4 hzt hl (by rw [e1]; exact k3) (by rw [e2]; exact v3), if_pos rfl]
            have m13 : ((-13 : Int32) = 0) = False := by decide
            by_cases q1 : rk zs a2 a5 = true
            · by_cases q2 : rk zt a4 a5 = true
              · obtain ⟨i, n, hin, hi31, hn31, rfl, rfl⟩ := rk_t2 q1
                obtain ⟨j, hjn, hj31, rfl⟩ := rk_t hn31 q2
                have cb : cpB (nI i) (nI j) (nI n) 24 24 = true := by
                  unfold cpB
                  rw [nI_clamp hi31, nI_clamp hj31, nI_clamp hn31]
                  simp [nI_pos hi31, nI_pos hj31, nI_pos hn31]
                  omega
                let X := sB μ (105 + t + 4) (va_cpy (μ.2 (105 + s + 4)) (μ.2 (105 + t + 4)) i j n)
                have X1 : X.1 = μ.1 := rfl
                have X122 : X.2 122 = μ.2 122 := rdB_k (by omega)
                let Y := sB (sI X 113 0 (nI 0)) 124 (fun k => if k < n then (sI X 113 0 (nI 0)).2 122 (24 * s + i + k) else (sI X 113 0 (nI 0)).2 124 k)
                refine ⟨nI n, X, sB Y 122 (fun p => if 24 * t + j ≤ p ∧ p < 24 * t + j + n then Y.2 124 (p - (24 * t + j)) else Y.2 122 p), ?_, ?_, ?_⟩
                · simp (disch := omega) only [within_n, zl_e, bd_y, if_n0, n0_eq, n1_eq, Bool.false_eq_true, not_true_eq_false, not_false_eq_true, if_true, if_false, Nat.one_ne_zero, rM_rM, c1, c2, inb_t, gd_y, nI_clamp, j1, k1, j2, k2, hr_e hzs u2, hr_e hzt v2, q1, q2, cb]
                  rfl
                · have w1 := wo1 (sI X 113 0 (nI 0)) (by rw [rd_k (by omega), X1]) (by rw [rd_k (by omega), X1])
                  have w2 := wo2 (sI X 113 0 (nI 0)) (by rw [rd_k (by omega), X1]) (by rw [rd_k (by omega), X1])
                  rw [if_pos q1] at w1
                  rw [if_pos q2] at w2
                  have x3 : (sI X 113 0 (nI 0)).1 120 s = nI l := by rw [rd_k (by omega), X1]; exact j3
                  have x4 : (sI X 113 0 (nI 0)).1 120 t = nI l := by rw [rd_k (by omega), X1]; exact k3
                  rw [zl_e]
                  simp (disch := omega) only [in_0_3, bd_y, c1, c2, if_true, n1_eq, if_false, inb_t, gd_y, nI_clamp, x3, x4, nI_lt0, nI_ge0, w1, w2, n0_eq]
                  rw [e8_copyA hs4 (by omega)]
                  exact e8_copyB ht4 (by omega)
                · refine I.sheets (fun k hk => by rw [rdB_1, rdB_1, rd_k (by omega), X1]) (fun q hq => by rw [rdB_1, rdB_1, rd_j hq, X1]) (fun b hb => ?_)
                  obtain ⟨_, _, i5⟩ := i4 b hb
                  refine (i4 b hb).cg (by rw [rdB_1, rdB_1, rd_k (by omega), X1]) (by rw [rdB_1, rdB_1, rd_k (by omega), X1]) (by rw [rdB_1, rdB_1, rd_k (by omega), X1]) (fun k hk => ?_)
                  have Y109 : Y.2 (109 + b) = X.2 (109 + b) := by
                    show (sB (sI X 113 0 (nI 0)) 124 _).2 (109 + b) = _
                    rw [rdB_k (by omega), rd_2]
                  have Y122 : Y.2 122 = μ.2 122 := by
                    show (sB (sI X 113 0 (nI 0)) 124 _).2 122 = _
                    rw [rdB_k (by omega), rd_2, X122]
                  rw [rdB_k (by omega), rdB_s, Y109, Y122]
                  have Y124 : ∀ q, q < n → Y.2 124 q = μ.2 122 (24 * s + i + q) := fun q hq => by
                    show (sB (sI X 113 0 (nI 0)) 124 _).2 124 q = _
                    rw [rdB_s, if_pos hq, rd_2, X122]
                  by_cases e : b = t
                  · subst e
                    have xb : X.2 (109 + b) k = va_cpy (μ.2 (105 + s + 4)) (μ.2 (105 + b + 4)) i j n k := by
                      show (sB μ (105 + b + 4) _).2 (109 + b) k = _
                      rw [show 109 + b = 105 + b + 4 by omega, rdB_s]
                    rw [xb]
                    by_cases c : j ≤ k ∧ k < j + n
                    · rw [pk_cpy_in c.1 c.2, if_pos (by omega), show 24 * b + k - (24 * b + j) = k - j by omega, Y124 (k - j) (by omega), show 105 + s + 4 = 109 + s by omega, us (i + (k - j)) (by omega), show 24 * s + (i + (k - j)) = 24 * s + i + (k - j) by omega]
                    · rw [pk_cpy_out (by omega), if_neg (by omega), show 105 + b + 4 = 109 + b by omega]
                      exact i5 k hk
                  · have xb : X.2 (109 + b) k = μ.2 (109 + b) k := by
                      show (sB μ (105 + t + 4) _).2 (109 + b) k = _
                      rw [rdB_k (by omega)]
                    rw [xb, if_neg (by omega)]
                    exact i5 k hk
              · refine ⟨-13, μ, sI μ 113 0 (nI 0), ?_, ?_, I.fx FX.th⟩
                · simp (disch := omega) only [within_n, zl_e, bd_y, if_n0, n0_eq, n1_eq, Bool.false_eq_true, not_true_eq_false, not_false_eq_true, if_true, if_false, Nat.one_ne_zero, rM_rM, c1, c2, inb_t, gd_y, nI_clamp, j1, k1, j2, k2, hr_e hzs u2, hr_e hzt v2, q1, q2]
                · have w1 := wo1 (sI μ 113 0 (nI 0)) (by rw [rd_k (by omega)]) (by rw [rd_k (by omega)])
                  have w2 := wo2 (sI μ 113 0 (nI 0)) (by rw [rd_k (by omega)]) (by rw [rd_k (by omega)])
                  rw [if_pos q1] at w1
                  rw [if_neg q2] at w2
                  simp (disch := omega) only [in_0_3, zl_e, bd_y, if_n0, n0_eq, n1_eq, Bool.false_eq_true, not_true_eq_false, not_false_eq_true, if_true, if_false, Nat.one_ne_zero, rM_rM, c1, c2, inb_t, gd_y, nI_clamp, rd_k, j3, k3, nI_lt0, nI_ge0, w1, w2, m13]
            · refine ⟨-13, μ, sI μ 113 0 (nI 0), ?_, ?_, I.fx FX.th⟩
              · simp (disch := omega) only [within_n, zl_e, bd_y, if_n0, n0_eq, n1_eq, Bool.false_eq_true, not_true_eq_false, not_false_eq_true, if_true, if_false, Nat.one_ne_zero, rM_rM, c1, c2, inb_t, gd_y, nI_clamp, j1, k1, j2, k2, hr_e hzs u2, q1]
              · have w1 := wo1 (sI μ 113 0 (nI 0)) (by rw [rd_k (by omega)]) (by rw [rd_k (by omega)])
                rw [if_neg q1] at w1
                simp (disch := omega) only [in_0_3, zl_e, bd_y, if_n0, n0_eq, n1_eq, Bool.false_eq_true, not_true_eq_false, not_false_eq_true, if_true, if_false, Nat.one_ne_zero, rM_rM, c1, c2, inb_t, gd_y, nI_clamp, rd_k, j3, k3, nI_lt0, nI_ge0, w1, m13]
          · refine ⟨-12, μ, sI μ 113 0 (nI 0), ?_, ?_, I.fx FX.th⟩
            · simp (disch := omega) only [within_n, zl_e, bd_y, if_n0, n0_eq, n1_eq, Bool.false_eq_true, not_true_eq_false, not_false_eq_true, if_true, if_false, Nat.one_ne_zero, rM_rM, c1, c2, inb_t, gd_y, nI_clamp, j1, k1, j2, k2, nI_eqE, c3]
            · simp (disch := omega) only [in_0_3, zl_e, bd_y, if_n0, n0_eq, n1_eq, Bool.false_eq_true, not_true_eq_false, not_false_eq_true, if_true, if_false, Nat.one_ne_zero, rM_rM, c1, c2, inb_t, gd_y, nI_clamp, rd_k, j3, k3, nI_lt0, nI_ge0, nI_eqE, c3]
    · refine ⟨-1, μ, sI μ 113 0 (nI 0), ?_, ?_, I.fx FX.th⟩
      · simp (disch := omega) only [within_n, zl_e, bd_y, if_n0, n0_eq, n1_eq, Bool.false_eq_true, not_true_eq_false, not_false_eq_true, if_true, if_false, Nat.one_ne_zero, rM_rM, c1, c2]
      · simp (disch := omega) only [in_0_3, zl_e, bd_y, if_n0, n0_eq, n1_eq, Bool.false_eq_true, not_true_eq_false, not_false_eq_true, if_true, if_false, Nat.one_ne_zero, rM_rM, c1, c2]
  · refine ⟨-1, μ, sI μ 113 0 (nI 0), ?_, ?_, I.fx FX.th⟩
    · simp (disch := omega) only [within_n, zl_e, bd_y, if_n0, n0_eq, n1_eq, Bool.false_eq_true, not_true_eq_false, not_false_eq_true, if_true, if_false, Nat.one_ne_zero, rM_rM, c1]
    · simp (disch := omega) only [in_0_3, zl_e, bd_y, if_n0, n0_eq, n1_eq, Bool.false_eq_true, not_true_eq_false, not_false_eq_true, if_true, if_false, Nat.one_ne_zero, rM_rM, c1]
/-! type -/
theorem nar_ch {v : Nat} (h : v < 65536) : vp_nar .char (((nI v).toUInt32 % 65536).toInt32) = nI v := by
  have e : ((nI v).toUInt32 % 65536).toInt32 = nI v := by
    rw [pk_char, pk_tn (by omega), Nat.mod_eq_of_lt h]
  rw [e]
  have := (pk_charN h).1
  unfold vp_nar
  rw [this]
theorem o_type : ok_type II := by
  intro a1 μ I
  obtain ⟨i1, i2, ⟨n, hn, t1, t2, t3⟩, i4, i5, i6⟩ := id I
  unfold f_X7_type f_X8_type
  by_cases c1 : bw a1 32 126 = true
  · by_cases c2 : n < 160
    · obtain ⟨v, hv1, hv2, _, rfl⟩ := bw_t c1
      refine ⟨nI (n + 1), sI (sI μ 103 n (nI v)) 93 0 (nI (n + 1)), sI (sI (sI (sI (sI μ 103 n (nI v)) 93 0 (nI (n + 1))) 113 0 (nI 0)) 118 n (nI v)) 113 7 (nI (n + 1)), ?_, ?_, ?_⟩
      · have ap : f_X5_append (nI v) μ = some (nI (n + 1), sI (sI μ 103 n (nI v)) 93 0 (nI (n + 1))) := by
          unfold f_X5_append
          simp (disch := omega) only [nI_add, pk_mul, nI_clamp, nI_eqE, nI_leE, nI_ltE, nI_eq0, nI_le0, nI_lt0, nI_ge0, nI_gt0, pk_rem, pk_sub, inb_t, gd_y, zl_e, bd_y, isB_n0, isB_n1, n0_eq, n1_eq, if_n0, if_n1, isB_if, not_true_eq_false, not_false_eq_true, ite_true, ite_false, Nat.le_refl, Nat.lt_irrefl, t1, nar_ch (show v < 65536 by omega), rd_k, rd_s]
        simp (disch := omega) only [within_n, zl_e, bd_y, if_n0, n0_eq, n1_eq, Bool.false_eq_true, not_true_eq_false, not_false_eq_true, if_true, if_false, Nat.one_ne_zero, rM_rM, c1, t1, nI_ltE, c2, ap]
      · have ne : ¬ n = 160 := by omega
        simp (disch := omega) only [in_32_126, zl_e, bd_y, if_n0, n0_eq, n1_eq, Bool.false_eq_true, not_true_eq_false, not_false_eq_true, if_true, if_false, Nat.one_ne_zero, rM_rM, c1, rd_j, rd_k, t2, nI_eqE, ne, nI_add, pk_mul, nI_clamp, nI_eqE, nI_leE, nI_ltE, nI_eq0, nI_le0, nI_lt0, nI_ge0, nI_gt0, pk_rem, pk_sub, inb_t, gd_y, zl_e, bd_y, isB_n0, isB_n1, n0_eq, n1_eq, if_n0, if_n1, isB_if, not_true_eq_false, not_false_eq_true, ite_true, ite_false, Nat.le_refl, Nat.lt_irrefl, rd_s]
      · have e1 : ∀ k, k ≠ 93 → k ≠ 103 → k ≠ 113 → k ≠ 118 → (sI (sI (sI (sI (sI μ 103 n (nI v)) 93 0 (nI (n + 1))) 113 0 (nI 0)) 118 n (nI v)) 113 7 (nI (n + 1))).1 k = μ.1 k := fun k h1 h2 h3 h4 => by
          rw [rd_k h3, rd_k h4, rd_k h3, rd_k h1, rd_k h2]
        have e2 : ∀ j, j ≠ 0 → j ≠ 7 → (sI (sI (sI (sI (sI μ 103 n (nI v)) 93 0 (nI (n + 1))) 113 0 (nI 0)) 118 n (nI v)) 113 7 (nI (n + 1))).1 113 j = μ.1 113 j := fun j h1 h2 => by
          rw [rd_j h2, rd_k (by omega), rd_j h1, rd_k (by omega), rd_k (by omega)]
        obtain ⟨σ, h, ia⟩ := i1
        refine ⟨⟨σ, h, ia.mem (e1 114 (by omega) (by omega) (by omega) (by omega)) (fun k h1 h2 => e1 k (by omega) (by omega) (by omega) (by omega)) (fun k h1 h2 => e1 k (by omega) (by omega) (by omega) (by omega)) (fun k h1 h2 => e1 k (by omega) (by omega) (by omega) (by omega))⟩, ?_, ⟨n + 1, by omega, ?_, rd_s, fun i hi => ?_⟩, fun s hs => ?_, ?_, ?_⟩
        · unfold IK
          rw [e1 0 (by omega) (by omega) (by omega) (by omega), e2 5 (by omega) (by omega)]
          rcases i2 with i2 | ⟨b1, b2, σ, h, b3⟩
          · exact Or.inl i2
          · exact Or.inr ⟨b1, b2, σ, h, b3.mem (e1 117 (by omega) (by omega) (by omega) (by omega)) (fun k h1 h2 => e1 k (by omega) (by omega) (by omega) (by omega)) (fun k h1 h2 => e1 k (by omega) (by omega) (by omega) (by omega)) (fun k h1 h2 => e1 k (by omega) (by omega) (by omega) (by omega))⟩
        · rw [rd_k (by omega), rd_k (by omega), rd_k (by omega), rd_s]
        · by_cases ei : i = n
          · subst ei
            refine ⟨v, hv1, hv2, ?_, ?_⟩
            · rw [rd_k (by omega), rd_k (by omega), rd_k (by omega), rd_k (by omega), rd_s]
            · rw [rd_k (by omega), rd_s]
          · obtain ⟨u, u1, u2, u3, u4⟩ := t3 i (by omega)
            refine ⟨u, u1, u2, ?_, ?_⟩
            · rw [rd_k (by omega), rd_k (by omega), rd_k (by omega), rd_k (by omega), rd_j ei]; exact u3
            · rw [rd_k (by omega), rd_j ei, rd_k (by omega), rd_k (by omega), rd_k (by omega)]; exact u4
        · exact (i4 s hs).cg (e1 _ (by omega) (by omega) (by omega) (by omega)) (by rw [e1 120 (by omega) (by omega) (by omega) (by omega)]) (by rw [e1 121 (by omega) (by omega) (by omega) (by omega)]) (i4 s hs).2.2
        · unfold L16; rw [e2 16 (by omega) (by omega)]; exact i5
        · unfold D17; rw [e2 17 (by omega) (by omega)]; exact i6
    · refine ⟨-3, μ, sI μ 113 0 (nI 0), ?_, ?_, I.fx FX.th⟩
      · simp (disch := omega) only [within_n, zl_e, bd_y, if_n0, n0_eq, n1_eq, Bool.false_eq_true, not_true_eq_false, not_false_eq_true, if_true, if_false, Nat.one_ne_zero, rM_rM, c1, t1, nI_ltE, c2]
      · simp (disch := omega) only [in_32_126, zl_e, bd_y, if_n0, n0_eq, n1_eq, Bool.false_eq_true, not_true_eq_false, not_false_eq_true, if_true, if_false, Nat.one_ne_zero, rM_rM, c1, rd_j, t2, nI_eqE, show n = 160 by omega]
  · refine ⟨-1, μ, sI μ 113 0 (nI 0), ?_, ?_, I.fx FX.th⟩
    · simp (disch := omega) only [within_n, zl_e, bd_y, if_n0, n0_eq, n1_eq, Bool.false_eq_true, not_true_eq_false, not_false_eq_true, if_true, if_false, Nat.one_ne_zero, rM_rM, c1]
    · simp (disch := omega) only [in_32_126, zl_e, bd_y, if_n0, n0_eq, n1_eq, Bool.false_eq_true, not_true_eq_false, not_false_eq_true, if_true, if_false, Nat.one_ne_zero, rM_rM, c1]
