/-! PURE PART: told, rule, count, seed, add, log, burn -/
theorem r_th {μ : Mem} {σ : St} (r : RR μ 114 σ) {k j : Nat} {v : Int32} (hk : k ≠ 114) : RR (sI μ k j v) 114 σ := fun i hi => by rw [rd_k (by omega)]; exact r i hi
theorem dn_ref {r : Nat} (hr : r < 9) : (nI r = (-1 : Int32)) = ((fun _ : Nat => false) r = true) := by
  rw [nI_neM (by omega) (by decide)]
  simp
theorem bt_z : bt (nI 0) = fun _ => false := funext (fun f => bt_0 f)

theorem o_told : ok_told II := by
  intro a1 a2 μ I
  obtain ⟨⟨σ, h, r, w, z, m, n, s, l, g⟩, -⟩ := id I
  have hn := w.n
  unfold f_X7_told f_X8_told
  by_cases c1 : br a1 (σ 0) = true
  · obtain ⟨q, hq, hq2, rfl⟩ := br_t' c1
    have q9 : q < 9 := by omega
    have dk := n2_isDark n w hq
    rw [a_out9 q9] at dk
    by_cases c2 : bw a2 0 7 = true
    · obtain ⟨v, hv, hv2, hv3, rfl⟩ := bw_t c2
      rcases (show v = 0 ∨ v = 1 ∨ v = 2 ∨ v = 3 ∨ v = 4 ∨ v = 5 ∨ v = 6 ∨ v = 7 by omega) with rfl | rfl | rfl | rfl | rfl | rfl | rfl | rfl
      · refine ⟨nI (σ (6 + 6 * q)), μ, rM (sI μ 113 0 (nI 0)) 114 σ, ?_, ?_, I.ref r⟩
        · simp (disch := omega) only [x7_isRock n.n hn, zl_e, bd_y, if_n0, n0_eq, n1_eq, Bool.false_eq_true, not_true_eq_false, not_false_eq_true, if_true, if_false, Nat.one_ne_zero, rM_rM, c1, inb_t, gd_y, nI_clamp, nI_eqE, Nat.reduceEqDiff, show μ.1 3 q = nI (σ (6 + 6 * q)) from n.2.1.1 q hq]
        · rw [← th_rM r]
          simp (disch := omega) only [x8_isRock hn, in_0_7, zl_e, bd_y, if_n0, n0_eq, n1_eq, Bool.false_eq_true, not_true_eq_false, not_false_eq_true, if_true, if_false, Nat.one_ne_zero, rM_rM, c1, c2, Nat.reduceLeDiff, Nat.reduceEqDiff, Nat.add_zero, nI_add, pk_mul, nI_clamp, nI_eqE, nI_leE, nI_ltE, nI_eq0, nI_le0, nI_lt0, nI_ge0, nI_gt0, pk_rem, pk_sub, inb_t, gd_y, zl_e, bd_y, isB_n0, isB_n1, n0_eq, n1_eq, if_n0, if_n1, isB_if, not_true_eq_false, not_false_eq_true, ite_true, ite_false, Nat.le_refl, Nat.lt_irrefl, rM_r, rM_k, rM_w, rM_c, rM_2, rd_s, rd_j, rd_k, sI_sI]
      · refine ⟨nI (σ (6 + 6 * q + 1)), μ, rM (sI μ 113 0 (nI 0)) 114 σ, ?_, ?_, I.ref r⟩
        · simp (disch := omega) only [x7_isRock n.n hn, zl_e, bd_y, if_n0, n0_eq, n1_eq, Bool.false_eq_true, not_true_eq_false, not_false_eq_true, if_true, if_false, Nat.one_ne_zero, rM_rM, c1, inb_t, gd_y, nI_clamp, nI_eqE, Nat.reduceEqDiff, n2_believed n w hq]
        · rw [← th_rM r]
          simp (disch := omega) only [x8_isRock hn, in_0_7, zl_e, bd_y, if_n0, n0_eq, n1_eq, Bool.false_eq_true, not_true_eq_false, not_false_eq_true, if_true, if_false, Nat.one_ne_zero, rM_rM, c1, c2, Nat.reduceLeDiff, Nat.reduceEqDiff, Nat.add_zero, nI_add, pk_mul, nI_clamp, nI_eqE, nI_leE, nI_ltE, nI_eq0, nI_le0, nI_lt0, nI_ge0, nI_gt0, pk_rem, pk_sub, inb_t, gd_y, zl_e, bd_y, isB_n0, isB_n1, n0_eq, n1_eq, if_n0, if_n1, isB_if, not_true_eq_false, not_false_eq_true, ite_true, ite_false, Nat.le_refl, Nat.lt_irrefl, rM_r, rM_k, rM_w, rM_c, rM_2, rd_s, rd_j, rd_k, sI_sI]
      · refine ⟨nI (σ (6 + 6 * q + 2)), μ, rM (sI μ 113 0 (nI 0)) 114 σ, ?_, ?_, I.ref r⟩
        · simp (disch := omega) only [x7_isRock n.n hn, zl_e, bd_y, if_n0, n0_eq, n1_eq, Bool.false_eq_true, not_true_eq_false, not_false_eq_true, if_true, if_false, Nat.one_ne_zero, rM_rM, c1, inb_t, gd_y, nI_clamp, nI_eqE, Nat.reduceEqDiff, show μ.1 4 q = nI (σ (6 + 6 * q + 2)) from n.2.1.2.1 q hq]
        · rw [← th_rM r]
          simp (disch := omega) only [x8_isRock hn, in_0_7, zl_e, bd_y, if_n0, n0_eq, n1_eq, Bool.false_eq_true, not_true_eq_false, not_false_eq_true, if_true, if_false, Nat.one_ne_zero, rM_rM, c1, c2, Nat.reduceLeDiff, Nat.reduceEqDiff, Nat.add_zero, nI_add, pk_mul, nI_clamp, nI_eqE, nI_leE, nI_ltE, nI_eq0, nI_le0, nI_lt0, nI_ge0, nI_gt0, pk_rem, pk_sub, inb_t, gd_y, zl_e, bd_y, isB_n0, isB_n1, n0_eq, n1_eq, if_n0, if_n1, isB_if, not_true_eq_false, not_false_eq_true, ite_true, ite_false, Nat.le_refl, Nat.lt_irrefl, rM_r, rM_k, rM_w, rM_c, rM_2, rd_s, rd_j, rd_k, sI_sI]
      · refine ⟨nI (σ (6 + 6 * q + 3)), μ, rM (sI μ 113 0 (nI 0)) 114 σ, ?_, ?_, I.ref r⟩
        · simp (disch := omega) only [x7_isRock n.n hn, zl_e, bd_y, if_n0, n0_eq, n1_eq, Bool.false_eq_true, not_true_eq_false, not_false_eq_true, if_true, if_false, Nat.one_ne_zero, rM_rM, c1, inb_t, gd_y, nI_clamp, nI_eqE, Nat.reduceEqDiff, show μ.1 5 q = nI (σ (6 + 6 * q + 3)) from n.2.1.2.2.1 q hq]
        · rw [← th_rM r]
          simp (disch := omega) only [x8_isRock hn, in_0_7, zl_e, bd_y, if_n0, n0_eq, n1_eq, Bool.false_eq_true, not_true_eq_false, not_false_eq_true, if_true, if_false, Nat.one_ne_zero, rM_rM, c1, c2, Nat.reduceLeDiff, Nat.reduceEqDiff, Nat.add_zero, nI_add, pk_mul, nI_clamp, nI_eqE, nI_leE, nI_ltE, nI_eq0, nI_le0, nI_lt0, nI_ge0, nI_gt0, pk_rem, pk_sub, inb_t, gd_y, zl_e, bd_y, isB_n0, isB_n1, n0_eq, n1_eq, if_n0, if_n1, isB_if, not_true_eq_false, not_false_eq_true, ite_true, ite_false, Nat.le_refl, Nat.lt_irrefl, rM_r, rM_k, rM_w, rM_c, rM_2, rd_s, rd_j, rd_k, sI_sI]
      · refine ⟨nI (σ (6 + 6 * q + 4)), μ, rM (sI μ 113 0 (nI 0)) 114 σ, ?_, ?_, I.ref r⟩
        · simp (disch := omega) only [x7_isRock n.n hn, zl_e, bd_y, if_n0, n0_eq, n1_eq, Bool.false_eq_true, not_true_eq_false, not_false_eq_true, if_true, if_false, Nat.one_ne_zero, rM_rM, c1, inb_t, gd_y, nI_clamp, nI_eqE, Nat.reduceEqDiff, show μ.1 6 q = nI (σ (6 + 6 * q + 4)) from n.2.1.2.2.2.1 q hq]
        · rw [← th_rM r]
          simp (disch := omega) only [x8_isRock hn, in_0_7, zl_e, bd_y, if_n0, n0_eq, n1_eq, Bool.false_eq_true, not_true_eq_false, not_false_eq_true, if_true, if_false, Nat.one_ne_zero, rM_rM, c1, c2, Nat.reduceLeDiff, Nat.reduceEqDiff, Nat.add_zero, nI_add, pk_mul, nI_clamp, nI_eqE, nI_leE, nI_ltE, nI_eq0, nI_le0, nI_lt0, nI_ge0, nI_gt0, pk_rem, pk_sub, inb_t, gd_y, zl_e, bd_y, isB_n0, isB_n1, n0_eq, n1_eq, if_n0, if_n1, isB_if, not_true_eq_false, not_false_eq_true, ite_true, ite_false, Nat.le_refl, Nat.lt_irrefl, rM_r, rM_k, rM_w, rM_c, rM_2, rd_s, rd_j, rd_k, sI_sI]
      · refine ⟨nI (σ (6 + 6 * q + 5)), μ, rM (sI μ 113 0 (nI 0)) 114 σ, ?_, ?_, I.ref r⟩
        · simp (disch := omega) only [x7_isRock n.n hn, zl_e, bd_y, if_n0, n0_eq, n1_eq, Bool.false_eq_true, not_true_eq_false, not_false_eq_true, if_true, if_false, Nat.one_ne_zero, rM_rM, c1, inb_t, gd_y, nI_clamp, nI_eqE, Nat.reduceEqDiff, show μ.1 7 q = nI (σ (6 + 6 * q + 5)) from n.2.1.2.2.2.2.1 q hq]
        · rw [← th_rM r]
          simp (disch := omega) only [x8_isRock hn, in_0_7, zl_e, bd_y, if_n0, n0_eq, n1_eq, Bool.false_eq_true, not_true_eq_false, not_false_eq_true, if_true, if_false, Nat.one_ne_zero, rM_rM, c1, c2, Nat.reduceLeDiff, Nat.reduceEqDiff, Nat.add_zero, nI_add, pk_mul, nI_clamp, nI_eqE, nI_leE, nI_ltE, nI_eq0, nI_le0, nI_lt0, nI_ge0, nI_gt0, pk_rem, pk_sub, inb_t, gd_y, zl_e, bd_y, isB_n0, isB_n1, n0_eq, n1_eq, if_n0, if_n1, isB_if, not_true_eq_false, not_false_eq_true, ite_true, ite_false, Nat.le_refl, Nat.lt_irrefl, rM_r, rM_k, rM_w, rM_c, rM_2, rd_s, rd_j, rd_k, sI_sI]
      · refine ⟨nI (if a_dk σ q = true then 1 else 0), μ, rM (sI μ 113 0 (nI 0)) 114 σ, ?_, ?_, I.ref r⟩
        · simp (disch := omega) only [x7_isRock n.n hn, zl_e, bd_y, if_n0, n0_eq, n1_eq, Bool.false_eq_true, not_true_eq_false, not_false_eq_true, if_true, if_false, Nat.one_ne_zero, rM_rM, c1, inb_t, gd_y, nI_clamp, nI_eqE, Nat.reduceEqDiff, dk, x7_asNumber]
        · rw [← th_rM r]
          simp (disch := omega) only [x8_isRock hn, in_0_7, zl_e, bd_y, if_n0, n0_eq, n1_eq, Bool.false_eq_true, not_true_eq_false, not_false_eq_true, if_true, if_false, Nat.one_ne_zero, rM_rM, c1, c2, Nat.reduceLeDiff, Nat.reduceEqDiff, Nat.add_zero, nI_add, pk_mul, nI_clamp, nI_eqE, nI_leE, nI_ltE, nI_eq0, nI_le0, nI_lt0, nI_ge0, nI_gt0, pk_rem, pk_sub, inb_t, gd_y, zl_e, bd_y, isB_n0, isB_n1, n0_eq, n1_eq, if_n0, if_n1, isB_if, not_true_eq_false, not_false_eq_true, ite_true, ite_false, Nat.le_refl, Nat.lt_irrefl, rM_r, rM_k, rM_w, rM_c, rM_2, rd_s, rd_j, rd_k, sI_sI, f_X8_told_79, e8_isDark w q9, if_num]
      · refine ⟨nI (if σ (6 + 6 * q) = 0 ∨ σ (6 + 6 * q) = 3 then 1 else 0), μ, rM (sI μ 113 0 (nI 0)) 114 σ, ?_, ?_, I.ref r⟩
        · simp (disch := omega) only [x7_isRock n.n hn, zl_e, bd_y, if_n0, n0_eq, n1_eq, Bool.false_eq_true, not_true_eq_false, not_false_eq_true, if_true, if_false, Nat.one_ne_zero, rM_rM, c1, inb_t, gd_y, nI_clamp, nI_eqE, Nat.reduceEqDiff, n2_isTrue n w hq, x7_asNumber]
        · rw [← th_rM r]
          simp (disch := omega) only [x8_isRock hn, in_0_7, zl_e, bd_y, if_n0, n0_eq, n1_eq, Bool.false_eq_true, not_true_eq_false, not_false_eq_true, if_true, if_false, Nat.one_ne_zero, rM_rM, c1, c2, Nat.reduceLeDiff, Nat.reduceEqDiff, Nat.add_zero, nI_add, pk_mul, nI_clamp, nI_eqE, nI_leE, nI_ltE, nI_eq0, nI_le0, nI_lt0, nI_ge0, nI_gt0, pk_rem, pk_sub, inb_t, gd_y, zl_e, bd_y, isB_n0, isB_n1, n0_eq, n1_eq, if_n0, if_n1, isB_if, not_true_eq_false, not_false_eq_true, ite_true, ite_false, Nat.le_refl, Nat.lt_irrefl, rM_r, rM_k, rM_w, rM_c, rM_2, rd_s, rd_j, rd_k, sI_sI, f_X8_told_79, e8_isTrue w q9, if_num]
    · have ne : ∀ k, k ≤ 7 → (a2 = nI k) = False := fun k hk => bw_ne c2 (by omega) hk (by omega)
      refine ⟨-1, μ, rM (sI μ 113 0 (nI 0)) 114 σ, ?_, ?_, I.ref r⟩
      · simp (disch := omega) only [x7_isRock n.n hn, zl_e, bd_y, if_n0, n0_eq, n1_eq, Bool.false_eq_true, not_true_eq_false, not_false_eq_true, if_true, if_false, Nat.one_ne_zero, rM_rM, c1, ne 0 (by omega), ne 1 (by omega), ne 2 (by omega), ne 3 (by omega), ne 4 (by omega), ne 5 (by omega), ne 6 (by omega), ne 7 (by omega)]
      · rw [← th_rM r]
        simp (disch := omega) only [x8_isRock hn, in_0_7, zl_e, bd_y, if_n0, n0_eq, n1_eq, Bool.false_eq_true, not_true_eq_false, not_false_eq_true, if_true, if_false, Nat.one_ne_zero, rM_rM, c1, c2]
  · refine ⟨-1, μ, rM (sI μ 113 0 (nI 0)) 114 σ, ?_, ?_, I.ref r⟩
    · simp (disch := omega) only [x7_isRock n.n hn, zl_e, bd_y, if_n0, n0_eq, n1_eq, Bool.false_eq_true, not_true_eq_false, not_false_eq_true, if_true, if_false, Nat.one_ne_zero, rM_rM, c1]
    · rw [← th_rM r]
      simp (disch := omega) only [x8_isRock hn, zl_e, bd_y, if_n0, n0_eq, n1_eq, Bool.false_eq_true, not_true_eq_false, not_false_eq_true, if_true, if_false, Nat.one_ne_zero, rM_rM, c1]

theorem o_rule : ok_rule II := by
  intro a1 a2 μ I
  obtain ⟨⟨σ, h, r, w, z, m, n, s, l, g⟩, -⟩ := id I
  have hn := w.n
  have h8 := w.ru
  unfold f_X7_rule f_X8_rule
  by_cases c1 : br a1 (σ 3) = true
  · obtain ⟨q, hq, hq2, rfl⟩ := br_t' c1
    by_cases c2 : bw a2 0 3 = true
    · obtain ⟨v, hv, hv2, hv3, rfl⟩ := bw_t c2
      rcases (show v = 0 ∨ v = 1 ∨ v = 2 ∨ v = 3 by omega) with rfl | rfl | rfl | rfl
      · refine ⟨nI (σ (1761 + 4 * q)), μ, rM (sI μ 113 0 (nI 0)) 114 σ, ?_, ?_, I.ref r⟩
        · simp (disch := omega) only [l.1, within_r, zl_e, bd_y, if_n0, n0_eq, n1_eq, Bool.false_eq_true, not_true_eq_false, not_false_eq_true, if_true, if_false, Nat.one_ne_zero, rM_rM, c1, inb_t, gd_y, nI_clamp, nI_eqE, Nat.reduceEqDiff, show μ.1 25 q = nI (σ (1761 + 4 * q)) from (l.2 q hq).1]
        · rw [← th_rM r]
          simp (disch := omega) only [nI_add, pk_mul, nI_clamp, nI_eqE, nI_leE, nI_ltE, nI_eq0, nI_le0, nI_lt0, nI_ge0, nI_gt0, pk_rem, inb_t, gd_y, zl_e, bd_y, isB_n0, isB_n1, n0_eq, n1_eq, if_n0, if_n1, isB_if, not_true_eq_false, not_false_eq_true, ite_true, ite_false, Nat.le_refl, Nat.lt_irrefl, rM_r, rM_k, rM_w, rM_c, rM_2, rd_s, rd_j, rd_k, sI_sI, in_r, in_0_3, zl_e, bd_y, if_n0, n0_eq, n1_eq, Bool.false_eq_true, not_true_eq_false, not_false_eq_true, if_true, if_false, Nat.one_ne_zero, rM_rM, c1, c2, Nat.add_zero]
      · refine ⟨nI (σ (1761 + 4 * q + 1)), μ, rM (sI μ 113 0 (nI 0)) 114 σ, ?_, ?_, I.ref r⟩
        · simp (disch := omega) only [l.1, within_r, zl_e, bd_y, if_n0, n0_eq, n1_eq, Bool.false_eq_true, not_true_eq_false, not_false_eq_true, if_true, if_false, Nat.one_ne_zero, rM_rM, c1, inb_t, gd_y, nI_clamp, nI_eqE, Nat.reduceEqDiff, show μ.1 26 q = nI (σ (1761 + 4 * q + 1)) from (l.2 q hq).2.1]
        · rw [← th_rM r]
          simp (disch := omega) only [nI_add, pk_mul, nI_clamp, nI_eqE, nI_leE, nI_ltE, nI_eq0, nI_le0, nI_lt0, nI_ge0, nI_gt0, pk_rem, inb_t, gd_y, zl_e, bd_y, isB_n0, isB_n1, n0_eq, n1_eq, if_n0, if_n1, isB_if, not_true_eq_false, not_false_eq_true, ite_true, ite_false, Nat.le_refl, Nat.lt_irrefl, rM_r, rM_k, rM_w, rM_c, rM_2, rd_s, rd_j, rd_k, sI_sI, in_r, in_0_3, zl_e, bd_y, if_n0, n0_eq, n1_eq, Bool.false_eq_true, not_true_eq_false, not_false_eq_true, if_true, if_false, Nat.one_ne_zero, rM_rM, c1, c2, Nat.add_zero]
      · refine ⟨nI (σ (1761 + 4 * q + 2)), μ, rM (sI μ 113 0 (nI 0)) 114 σ, ?_, ?_, I.ref r⟩
        · simp (disch := omega) only [l.1, within_r, zl_e, bd_y, if_n0, n0_eq, n1_eq, Bool.false_eq_true, not_true_eq_false, not_false_eq_true, if_true, if_false, Nat.one_ne_zero, rM_rM, c1, inb_t, gd_y, nI_clamp, nI_eqE, Nat.reduceEqDiff, show μ.1 27 q = nI (σ (1761 + 4 * q + 2)) from (l.2 q hq).2.2.1]
        · rw [← th_rM r]
          simp (disch := omega) only [nI_add, pk_mul, nI_clamp, nI_eqE, nI_leE, nI_ltE, nI_eq0, nI_le0, nI_lt0, nI_ge0, nI_gt0, pk_rem, inb_t, gd_y, zl_e, bd_y, isB_n0, isB_n1, n0_eq, n1_eq, if_n0, if_n1, isB_if, not_true_eq_false, not_false_eq_true, ite_true, ite_false, Nat.le_refl, Nat.lt_irrefl, rM_r, rM_k, rM_w, rM_c, rM_2, rd_s, rd_j, rd_k, sI_sI, in_r, in_0_3, zl_e, bd_y, if_n0, n0_eq, n1_eq, Bool.false_eq_true, not_true_eq_false, not_false_eq_true, if_true, if_false, Nat.one_ne_zero, rM_rM, c1, c2, Nat.add_zero]
      · refine ⟨nI (σ (1761 + 4 * q + 3)), μ, rM (sI μ 113 0 (nI 0)) 114 σ, ?_, ?_, I.ref r⟩
        · simp (disch := omega) only [l.1, within_r, zl_e, bd_y, if_n0, n0_eq, n1_eq, Bool.false_eq_true, not_true_eq_false, not_false_eq_true, if_true, if_false, Nat.one_ne_zero, rM_rM, c1, inb_t, gd_y, nI_clamp, nI_eqE, Nat.reduceEqDiff, show μ.1 28 q = nI (σ (1761 + 4 * q + 3)) from (l.2 q hq).2.2.2]
        · rw [← th_rM r]
          simp (disch := omega) only [nI_add, pk_mul, nI_clamp, nI_eqE, nI_leE, nI_ltE, nI_eq0, nI_le0, nI_lt0, nI_ge0, nI_gt0, pk_rem, inb_t, gd_y, zl_e, bd_y, isB_n0, isB_n1, n0_eq, n1_eq, if_n0, if_n1, isB_if, not_true_eq_false, not_false_eq_true, ite_true, ite_false, Nat.le_refl, Nat.lt_irrefl, rM_r, rM_k, rM_w, rM_c, rM_2, rd_s, rd_j, rd_k, sI_sI, in_r, in_0_3, zl_e, bd_y, if_n0, n0_eq, n1_eq, Bool.false_eq_true, not_true_eq_false, not_false_eq_true, if_true, if_false, Nat.one_ne_zero, rM_rM, c1, c2, Nat.add_zero]
    · have ne : ∀ k, k ≤ 3 → (a2 = nI k) = False := fun k hk => bw_ne c2 (by omega) hk (by omega)
      refine ⟨-1, μ, rM (sI μ 113 0 (nI 0)) 114 σ, ?_, ?_, I.ref r⟩
      · simp (disch := omega) only [l.1, within_r, zl_e, bd_y, if_n0, n0_eq, n1_eq, Bool.false_eq_true, not_true_eq_false, not_false_eq_true, if_true, if_false, Nat.one_ne_zero, rM_rM, c1, ne 0 (by omega), ne 1 (by omega), ne 2 (by omega), ne 3 (by omega)]
      · rw [← th_rM r]
        simp (disch := omega) only [nI_add, pk_mul, nI_clamp, nI_eqE, nI_leE, nI_ltE, nI_eq0, nI_le0, nI_lt0, nI_ge0, nI_gt0, pk_rem, inb_t, gd_y, zl_e, bd_y, isB_n0, isB_n1, n0_eq, n1_eq, if_n0, if_n1, isB_if, not_true_eq_false, not_false_eq_true, ite_true, ite_false, Nat.le_refl, Nat.lt_irrefl, rM_r, rM_k, rM_w, rM_c, rM_2, rd_s, rd_j, rd_k, sI_sI, in_r, in_0_3, zl_e, bd_y, if_n0, n0_eq, n1_eq, Bool.false_eq_true, not_true_eq_false, not_false_eq_true, if_true, if_false, Nat.one_ne_zero, rM_rM, c1, c2]
  · refine ⟨-1, μ, rM (sI μ 113 0 (nI 0)) 114 σ, ?_, ?_, I.ref r⟩
    · simp (disch := omega) only [l.1, within_r, zl_e, bd_y, if_n0, n0_eq, n1_eq, Bool.false_eq_true, not_true_eq_false, not_false_eq_true, if_true, if_false, Nat.one_ne_zero, rM_rM, c1]
    · rw [← th_rM r]
      simp (disch := omega) only [nI_add, pk_mul, nI_clamp, nI_eqE, nI_leE, nI_ltE, nI_eq0, nI_le0, nI_lt0, nI_ge0, nI_gt0, pk_rem, inb_t, gd_y, zl_e, bd_y, isB_n0, isB_n1, n0_eq, n1_eq, if_n0, if_n1, isB_if, not_true_eq_false, not_false_eq_true, ite_true, ite_false, Nat.le_refl, Nat.lt_irrefl, rM_r, rM_k, rM_w, rM_c, rM_2, rd_s, rd_j, rd_k, sI_sI, in_r, zl_e, bd_y, if_n0, n0_eq, n1_eq, Bool.false_eq_true, not_true_eq_false, not_false_eq_true, if_true, if_false, Nat.one_ne_zero, rM_rM, c1]

theorem o_count : ok_count II := by
  intro a1 μ I
  obtain ⟨⟨σ, h, r, w, z, m, n, s, l, g⟩, -⟩ := id I
  have hn := w.n
  unfold f_X7_count f_X8_count
  by_cases c1 : bw a1 0 7 = true
  · have m1 : μ.1 2 1 = nI (σ 1) := by rw [n.1.2.1, show min (σ 1) 999 = σ 1 by omega]
    have dn := n2_isDone (y := nI 0) n w
    rw [bt_z] at dn
    have aw := n2_allWaiting n
    rw [wait_sum n.2.2.2 n.1.2.2.2.2.2.1 w] at aw
    obtain ⟨v, hv, hv2, hv3, rfl⟩ := bw_t c1
    rcases (show v = 0 ∨ v = 1 ∨ v = 2 ∨ v = 3 ∨ v = 4 ∨ v = 5 ∨ v = 6 ∨ v = 7 by omega) with rfl | rfl | rfl | rfl | rfl | rfl | rfl | rfl
    · refine ⟨nI (σ 0), μ, rM (sI μ 113 0 (nI 0)) 114 σ, ?_, ?_, I.ref r⟩
      · simp (disch := omega) only [zl_e, bd_y, if_n0, n0_eq, n1_eq, Bool.false_eq_true, not_true_eq_false, not_false_eq_true, if_true, if_false, Nat.one_ne_zero, rM_rM, nI_eqE, Nat.reduceEqDiff, n.n]
      · rw [← th_rM r]
        simp (disch := omega) only [in_0_7, zl_e, bd_y, if_n0, n0_eq, n1_eq, Bool.false_eq_true, not_true_eq_false, not_false_eq_true, if_true, if_false, Nat.one_ne_zero, rM_rM, c1, Nat.reduceLeDiff, Nat.reduceEqDiff, nI_add, pk_mul, nI_clamp, nI_eqE, nI_leE, nI_ltE, nI_eq0, nI_le0, nI_lt0, nI_ge0, nI_gt0, pk_rem, pk_sub, inb_t, gd_y, zl_e, bd_y, isB_n0, isB_n1, n0_eq, n1_eq, if_n0, if_n1, isB_if, not_true_eq_false, not_false_eq_true, ite_true, ite_false, Nat.le_refl, Nat.lt_irrefl, rM_r, rM_k, rM_w, rM_c, rM_2, rd_s, rd_j, rd_k, sI_sI]
    · refine ⟨nI (σ 3), μ, rM (sI μ 113 0 (nI 0)) 114 σ, ?_, ?_, I.ref r⟩
      · simp (disch := omega) only [zl_e, bd_y, if_n0, n0_eq, n1_eq, Bool.false_eq_true, not_true_eq_false, not_false_eq_true, if_true, if_false, Nat.one_ne_zero, rM_rM, nI_eqE, Nat.reduceEqDiff, l.1]
      · rw [← th_rM r]
        simp (disch := omega) only [in_0_7, zl_e, bd_y, if_n0, n0_eq, n1_eq, Bool.false_eq_true, not_true_eq_false, not_false_eq_true, if_true, if_false, Nat.one_ne_zero, rM_rM, c1, Nat.reduceLeDiff, Nat.reduceEqDiff, nI_add, pk_mul, nI_clamp, nI_eqE, nI_leE, nI_ltE, nI_eq0, nI_le0, nI_lt0, nI_ge0, nI_gt0, pk_rem, pk_sub, inb_t, gd_y, zl_e, bd_y, isB_n0, isB_n1, n0_eq, n1_eq, if_n0, if_n1, isB_if, not_true_eq_false, not_false_eq_true, ite_true, ite_false, Nat.le_refl, Nat.lt_irrefl, rM_r, rM_k, rM_w, rM_c, rM_2, rd_s, rd_j, rd_k, sI_sI]
    · refine ⟨nI (σ 1), μ, rM (sI μ 113 0 (nI 0)) 114 σ, ?_, ?_, I.ref r⟩
      · simp (disch := omega) only [zl_e, bd_y, if_n0, n0_eq, n1_eq, Bool.false_eq_true, not_true_eq_false, not_false_eq_true, if_true, if_false, Nat.one_ne_zero, rM_rM, nI_eqE, Nat.reduceEqDiff, m1]
      · rw [← th_rM r]
        simp (disch := omega) only [in_0_7, zl_e, bd_y, if_n0, n0_eq, n1_eq, Bool.false_eq_true, not_true_eq_false, not_false_eq_true, if_true, if_false, Nat.one_ne_zero, rM_rM, c1, Nat.reduceLeDiff, Nat.reduceEqDiff, nI_add, pk_mul, nI_clamp, nI_eqE, nI_leE, nI_ltE, nI_eq0, nI_le0, nI_lt0, nI_ge0, nI_gt0, pk_rem, pk_sub, inb_t, gd_y, zl_e, bd_y, isB_n0, isB_n1, n0_eq, n1_eq, if_n0, if_n1, isB_if, not_true_eq_false, not_false_eq_true, ite_true, ite_false, Nat.le_refl, Nat.lt_irrefl, rM_r, rM_k, rM_w, rM_c, rM_2, rd_s, rd_j, rd_k, sI_sI]
    · refine ⟨nI (σ 2), μ, rM (sI μ 113 0 (nI 0)) 114 σ, ?_, ?_, I.ref r⟩
      · simp (disch := omega) only [zl_e, bd_y, if_n0, n0_eq, n1_eq, Bool.false_eq_true, not_true_eq_false, not_false_eq_true, if_true, if_false, Nat.one_ne_zero, rM_rM, nI_eqE, Nat.reduceEqDiff, n.1.2.2.1]
      · rw [← th_rM r]
        simp (disch := omega) only [in_0_7, zl_e, bd_y, if_n0, n0_eq, n1_eq, Bool.false_eq_true, not_true_eq_false, not_false_eq_true, if_true, if_false, Nat.one_ne_zero, rM_rM, c1, Nat.reduceLeDiff, Nat.reduceEqDiff, nI_add, pk_mul, nI_clamp, nI_eqE, nI_leE, nI_ltE, nI_eq0, nI_le0, nI_lt0, nI_ge0, nI_gt0, pk_rem, pk_sub, inb_t, gd_y, zl_e, bd_y, isB_n0, isB_n1, n0_eq, n1_eq, if_n0, if_n1, isB_if, not_true_eq_false, not_false_eq_true, ite_true, ite_false, Nat.le_refl, Nat.lt_irrefl, rM_r, rM_k, rM_w, rM_c, rM_2, rd_s, rd_j, rd_k, sI_sI]
    · refine ⟨nI (σ 4), μ, rM (sI μ 113 0 (nI 0)) 114 σ, ?_, ?_, I.ref r⟩
      · simp (disch := omega) only [zl_e, bd_y, if_n0, n0_eq, n1_eq, Bool.false_eq_true, not_true_eq_false, not_false_eq_true, if_true, if_false, Nat.one_ne_zero, rM_rM, nI_eqE, Nat.reduceEqDiff, g.1]
      · rw [← th_rM r]
        simp (disch := omega) only [in_0_7, zl_e, bd_y, if_n0, n0_eq, n1_eq, Bool.false_eq_true, not_true_eq_false, not_false_eq_true, if_true, if_false, Nat.one_ne_zero, rM_rM, c1, Nat.reduceLeDiff, Nat.reduceEqDiff, nI_add, pk_mul, nI_clamp, nI_eqE, nI_leE, nI_ltE, nI_eq0, nI_le0, nI_lt0, nI_ge0, nI_gt0, pk_rem, pk_sub, inb_t, gd_y, zl_e, bd_y, isB_n0, isB_n1, n0_eq, n1_eq, if_n0, if_n1, isB_if, not_true_eq_false, not_false_eq_true, ite_true, ite_false, Nat.le_refl, Nat.lt_irrefl, rM_r, rM_k, rM_w, rM_c, rM_2, rd_s, rd_j, rd_k, sI_sI]
    · refine ⟨nI (if a_dn (fun _ => false) σ = true then 1 else 0), μ, rM (sI μ 113 0 (nI 0)) 114 σ, ?_, ?_, I.ref r⟩
      · simp (disch := omega) only [zl_e, bd_y, if_n0, n0_eq, n1_eq, Bool.false_eq_true, not_true_eq_false, not_false_eq_true, if_true, if_false, Nat.one_ne_zero, rM_rM, nI_eqE, Nat.reduceEqDiff, dn, x7_asNumber]
      · rw [← th_rM r]
        simp (disch := omega) only [in_0_7, zl_e, bd_y, if_n0, n0_eq, n1_eq, Bool.false_eq_true, not_true_eq_false, not_false_eq_true, if_true, if_false, Nat.one_ne_zero, rM_rM, c1, Nat.reduceLeDiff, Nat.reduceEqDiff, nI_add, pk_mul, nI_clamp, nI_eqE, nI_leE, nI_ltE, nI_eq0, nI_le0, nI_lt0, nI_ge0, nI_gt0, pk_rem, pk_sub, inb_t, gd_y, zl_e, bd_y, isB_n0, isB_n1, n0_eq, n1_eq, if_n0, if_n1, isB_if, not_true_eq_false, not_false_eq_true, ite_true, ite_false, Nat.le_refl, Nat.lt_irrefl, rM_r, rM_k, rM_w, rM_c, rM_2, rd_s, rd_j, rd_k, sI_sI, e8_isDone w (fun r hr => dn_ref hr), if_num]
    · refine ⟨nI (if a_ul σ = true then 1 else 0), μ, rM (sI μ 113 0 (nI 0)) 114 σ, ?_, ?_, I.ref r⟩
      · simp (disch := omega) only [zl_e, bd_y, if_n0, n0_eq, n1_eq, Bool.false_eq_true, not_true_eq_false, not_false_eq_true, if_true, if_false, Nat.one_ne_zero, rM_rM, nI_eqE, Nat.reduceEqDiff, n2_isUnlike n w, x7_asNumber]
      · rw [← th_rM r]
        simp (disch := omega) only [in_0_7, zl_e, bd_y, if_n0, n0_eq, n1_eq, Bool.false_eq_true, not_true_eq_false, not_false_eq_true, if_true, if_false, Nat.one_ne_zero, rM_rM, c1, Nat.reduceLeDiff, Nat.reduceEqDiff, nI_add, pk_mul, nI_clamp, nI_eqE, nI_leE, nI_ltE, nI_eq0, nI_le0, nI_lt0, nI_ge0, nI_gt0, pk_rem, pk_sub, inb_t, gd_y, zl_e, bd_y, isB_n0, isB_n1, n0_eq, n1_eq, if_n0, if_n1, isB_if, not_true_eq_false, not_false_eq_true, ite_true, ite_false, Nat.le_refl, Nat.lt_irrefl, rM_r, rM_k, rM_w, rM_c, rM_2, rd_s, rd_j, rd_k, sI_sI, e8_isUnlike w, if_num]
    · refine ⟨nI (a_wt σ), μ, rM (sI μ 113 0 (nI 0)) 114 σ, ?_, ?_, I.ref r⟩
      · simp (disch := omega) only [zl_e, bd_y, if_n0, n0_eq, n1_eq, Bool.false_eq_true, not_true_eq_false, not_false_eq_true, if_true, if_false, Nat.one_ne_zero, rM_rM, nI_eqE, Nat.reduceEqDiff, aw]
      · rw [← th_rM r]
        simp (disch := omega) only [in_0_7, zl_e, bd_y, if_n0, n0_eq, n1_eq, Bool.false_eq_true, not_true_eq_false, not_false_eq_true, if_true, if_false, Nat.one_ne_zero, rM_rM, c1, Nat.reduceLeDiff, Nat.reduceEqDiff, nI_add, pk_mul, nI_clamp, nI_eqE, nI_leE, nI_ltE, nI_eq0, nI_le0, nI_lt0, nI_ge0, nI_gt0, pk_rem, pk_sub, inb_t, gd_y, zl_e, bd_y, isB_n0, isB_n1, n0_eq, n1_eq, if_n0, if_n1, isB_if, not_true_eq_false, not_false_eq_true, ite_true, ite_false, Nat.le_refl, Nat.lt_irrefl, rM_r, rM_k, rM_w, rM_c, rM_2, rd_s, rd_j, rd_k, sI_sI, e8_dueMany w]
  · refine ⟨-1, μ, rM (sI μ 113 0 (nI 0)) 114 σ, ?_, ?_, I.ref r⟩
    · simp (disch := omega) only [bw_ne c1 (show 0 ≤ 0 by omega) (show 0 ≤ 7 by omega) (by omega), bw_ne c1 (show 0 ≤ 1 by omega) (show 1 ≤ 7 by omega) (by omega), bw_ne c1 (show 0 ≤ 2 by omega) (show 2 ≤ 7 by omega) (by omega), bw_ne c1 (show 0 ≤ 3 by omega) (show 3 ≤ 7 by omega) (by omega), bw_ne c1 (show 0 ≤ 4 by omega) (show 4 ≤ 7 by omega) (by omega), bw_ne c1 (show 0 ≤ 5 by omega) (show 5 ≤ 7 by omega) (by omega), bw_ne c1 (show 0 ≤ 6 by omega) (show 6 ≤ 7 by omega) (by omega), bw_ne c1 (show 0 ≤ 7 by omega) (show 7 ≤ 7 by omega) (by omega), zl_e, bd_y, if_n0, n0_eq, n1_eq, Bool.false_eq_true, not_true_eq_false, not_false_eq_true, if_true, if_false, Nat.one_ne_zero, rM_rM, c1]
    · rw [← th_rM r]
      simp (disch := omega) only [in_0_7, zl_e, bd_y, if_n0, n0_eq, n1_eq, Bool.false_eq_true, not_true_eq_false, not_false_eq_true, if_true, if_false, Nat.one_ne_zero, rM_rM, c1]

theorem o_seed : ok_seed II := by
  intro a1 μ I
  obtain ⟨⟨σ, h, r, w, z, m, n, s, l, g⟩, -⟩ := id I
  have hn := w.n
  unfold f_X7_seed f_X8_seed
  by_cases c1 : (0 : Int32) ≤ a1
  · obtain ⟨v, hv, rfl⟩ := nI_of (x := a1) (Int32.not_lt.mpr c1)
    have k3 := n.1.2.2.2.1
    have r' := r_th (k := 2) (j := 3) (v := nI v) r (by omega)
    refine ⟨nI (σ 5), sI μ 2 3 (nI v), rM (sI (sI μ 2 3 (nI v)) 113 0 (nI 0)) 114 (nu σ 5 v), ?_, ?_, ?_⟩
    · simp (disch := omega) only [zl_e, bd_y, if_n0, n0_eq, n1_eq, Bool.false_eq_true, not_true_eq_false, not_false_eq_true, if_true, if_false, Nat.one_ne_zero, rM_rM, c1, k3]
    · rw [← th_rM r']
      simp (disch := omega) only [zl_e, bd_y, if_n0, n0_eq, n1_eq, Bool.false_eq_true, not_true_eq_false, not_false_eq_true, if_true, if_false, Nat.one_ne_zero, rM_rM, c1, nI_add, pk_mul, nI_clamp, nI_eqE, nI_leE, nI_ltE, nI_eq0, nI_le0, nI_lt0, nI_ge0, nI_gt0, pk_rem, pk_sub, inb_t, gd_y, zl_e, bd_y, isB_n0, isB_n1, n0_eq, n1_eq, if_n0, if_n1, isB_if, not_true_eq_false, not_false_eq_true, ite_true, ite_false, Nat.le_refl, Nat.lt_irrefl, rM_r, rM_k, rM_w, rM_c, rM_2, rd_s, rd_j, rd_k, sI_sI]
    · exact I.fin (FS.w (by omega)) (w.up (by rw [bd_5]; omega)) (z.up (by omega) (by omega)) (by rw [nu_n (by omega)]; exact m) (n.draw hn) (by rw [rd_j (by omega)]; exact s) ((l.mem (fun k h1 h2 => rd_k (by omega))).st w.ru (nu_n (by omega)) (fun j h1 h2 => nu_n (by omega))) ((g.mem (fun k h1 h2 => rd_k (by omega))).st w.lo (nu_n (by omega)) (fun j h1 h2 => nu_n (by omega)))
  · refine ⟨-1, μ, rM (sI μ 113 0 (nI 0)) 114 σ, ?_, ?_, I.ref r⟩
    · simp (disch := omega) only [eq_self, zl_e, bd_y, if_n0, n0_eq, n1_eq, Bool.false_eq_true, not_true_eq_false, not_false_eq_true, if_true, if_false, Nat.one_ne_zero, rM_rM, c1]
    · rw [← th_rM r]
      simp (disch := omega) only [eq_self, zl_e, bd_y, if_n0, n0_eq, n1_eq, Bool.false_eq_true, not_true_eq_false, not_false_eq_true, if_true, if_false, Nat.one_ne_zero, rM_rM, c1]

theorem o_burn : ok_burn II := by
  intro  μ I
  obtain ⟨⟨σ, h, r, w, z, m, n, s, l, g⟩, -⟩ := id I
  have hn := w.n
  unfold f_X7_burn f_X8_burn
  have k3 := g.1
  have h12 := w.lo
  have r' := r_th (k := 29) (j := 0) (v := nI 0) r (by omega)
  refine ⟨nI (σ 4), sI μ 29 0 (nI 0), rM (sI (sI μ 29 0 (nI 0)) 113 0 (nI 0)) 114 (nu σ 4 0), ?_, ?_, ?_⟩
  · simp (disch := omega) only [zl_e, bd_y, if_n0, n0_eq, n1_eq, Bool.false_eq_true, not_true_eq_false, not_false_eq_true, if_true, if_false, Nat.one_ne_zero, rM_rM, k3]
  · rw [← th_rM r']
    simp (disch := omega) only [zl_e, bd_y, if_n0, n0_eq, n1_eq, Bool.false_eq_true, not_true_eq_false, not_false_eq_true, if_true, if_false, Nat.one_ne_zero, rM_rM, nI_add, pk_mul, nI_clamp, nI_eqE, nI_leE, nI_ltE, nI_eq0, nI_le0, nI_lt0, nI_ge0, nI_gt0, pk_rem, pk_sub, inb_t, gd_y, zl_e, bd_y, isB_n0, isB_n1, n0_eq, n1_eq, if_n0, if_n1, isB_if, not_true_eq_false, not_false_eq_true, ite_true, ite_false, Nat.le_refl, Nat.lt_irrefl, rM_r, rM_k, rM_w, rM_c, rM_2, rd_s, rd_j, rd_k, sI_sI]
  · refine I.fin (FS.w (by omega)) (w.up (Nat.zero_le _)) (z.up (by omega) (by omega)) (by rw [nu_n (by omega)]; exact m) ((n.mem hn (fun k h1 h2 => rd_k (by omega))).st hn (fun j h1 h2 h3 => nu_n h3)) (by rw [rd_k (by omega)]; exact s) ((l.mem (fun k h1 h2 => rd_k (by omega))).st w.ru (nu_n (by omega)) (fun j h1 h2 => nu_n (by omega))) ⟨by rw [rd_s, nu_s], fun i hi => ?_⟩
    rw [nu_s] at hi
    omega

/-- one rule more -/
theorem NL.app {μ : Mem} {k a b c d : Nat} {σ : St} (l : NL μ k σ) (h8 : σ 3 < 8) : f_X0_append k (nI a) (nI b) (nI c) (nI d) μ = some (nI (σ 3 + 1), sI (sI (sI (sI (sI μ (k + 1) (σ 3) (nI a)) (k + 2) (σ 3) (nI b)) (k + 3) (σ 3) (nI c)) (k + 4) (σ 3) (nI d)) k 0 (nI (σ 3 + 1))) := by
  unfold f_X0_append
  simp (disch := omega) only [nI_add, pk_mul, nI_clamp, nI_eqE, nI_leE, nI_ltE, nI_eq0, nI_le0, nI_lt0, nI_ge0, nI_gt0, pk_rem, pk_sub, inb_t, gd_y, zl_e, bd_y, isB_n0, isB_n1, n0_eq, n1_eq, if_n0, if_n1, isB_if, not_true_eq_false, not_false_eq_true, ite_true, ite_false, Nat.le_refl, Nat.lt_irrefl, l.1, rd_k, rd_s]
theorem NL.up {μ : Mem} {k a b c d : Nat} {σ τ : St} (l : NL μ k σ) (h8 : σ 3 < 8) (e3 : τ 3 = σ 3 + 1) (e0 : τ (1761 + 4 * σ 3) = a) (e1 : τ (1761 + 4 * σ 3 + 1) = b) (e2 : τ (1761 + 4 * σ 3 + 2) = c) (e4 : τ (1761 + 4 * σ 3 + 3) = d) (e : ∀ i, i < σ 3 → τ (1761 + 4 * i) = σ (1761 + 4 * i) ∧ τ (1761 + 4 * i + 1) = σ (1761 + 4 * i + 1) ∧ τ (1761 + 4 * i + 2) = σ (1761 + 4 * i + 2) ∧ τ (1761 + 4 * i + 3) = σ (1761 + 4 * i + 3)) : NL (sI (sI (sI (sI (sI μ (k + 1) (σ 3) (nI a)) (k + 2) (σ 3) (nI b)) (k + 3) (σ 3) (nI c)) (k + 4) (σ 3) (nI d)) k 0 (nI (σ 3 + 1))) k τ := by
  refine ⟨by rw [rd_s, e3], fun i hi => ?_⟩
  rw [e3] at hi
  by_cases q : i = σ 3
  · subst q
    rw [e0, e1, e2, e4]
    simp (disch := omega) only [rd_k, rd_s]
    exact ⟨trivial, trivial, trivial, trivial⟩
  · obtain ⟨l1, l2, l3, l4⟩ := l.2 i (by omega)
    obtain ⟨t1, t2, t3, t4⟩ := e i (by omega)
    rw [t1, t2, t3, t4]
    simp (disch := omega) only [rd_k, rd_j]
    exact ⟨l1, l2, l3, l4⟩
theorem NG.app {μ : Mem} {k a b c : Nat} {σ : St} (l : NG μ k σ) (h8 : σ 4 < 12) : f_X1_append k (nI a) (nI b) (nI c) μ = some (nI (σ 4 + 1), sI (sI (sI (sI μ (k + 1) (σ 4) (nI a)) (k + 2) (σ 4) (nI b)) (k + 3) (σ 4) (nI c)) k 0 (nI (σ 4 + 1))) := by
  unfold f_X1_append
  simp (disch := omega) only [nI_add, pk_mul, nI_clamp, nI_eqE, nI_leE, nI_ltE, nI_eq0, nI_le0, nI_lt0, nI_ge0, nI_gt0, pk_rem, pk_sub, inb_t, gd_y, zl_e, bd_y, isB_n0, isB_n1, n0_eq, n1_eq, if_n0, if_n1, isB_if, not_true_eq_false, not_false_eq_true, ite_true, ite_false, Nat.le_refl, Nat.lt_irrefl, l.1, rd_k, rd_s]
theorem NG.up {μ : Mem} {k a b c : Nat} {σ τ : St} (l : NG μ k σ) (h8 : σ 4 < 12) (e3 : τ 4 = σ 4 + 1) (e0 : τ (1793 + 3 * σ 4) = a) (e1 : τ (1793 + 3 * σ 4 + 1) = b) (e2 : τ (1793 + 3 * σ 4 + 2) = c) (e : ∀ i, i < σ 4 → τ (1793 + 3 * i) = σ (1793 + 3 * i) ∧ τ (1793 + 3 * i + 1) = σ (1793 + 3 * i + 1) ∧ τ (1793 + 3 * i + 2) = σ (1793 + 3 * i + 2)) : NG (sI (sI (sI (sI μ (k + 1) (σ 4) (nI a)) (k + 2) (σ 4) (nI b)) (k + 3) (σ 4) (nI c)) k 0 (nI (σ 4 + 1))) k τ := by
  refine ⟨by rw [rd_s, e3], fun i hi => ?_⟩
  rw [e3] at hi
  by_cases q : i = σ 4
  · subst q
    rw [e0, e1, e2]
    simp (disch := omega) only [rd_k, rd_s]
    exact ⟨trivial, trivial, trivial⟩
  · obtain ⟨l1, l2, l3⟩ := l.2 i (by omega)
    obtain ⟨t1, t2, t3⟩ := e i (by omega)
    rw [t1, t2, t3]
    simp (disch := omega) only [rd_k, rd_j]
    exact ⟨l1, l2, l3⟩

theorem o_add : ok_add II := by
  intro a1 a2 a3 a4 μ I
  obtain ⟨⟨σ, h, r, w, z, m, n, s, l, g⟩, -⟩ := id I
  have hn := w.n
  have h8 := w.ru
  unfold f_X7_add f_X8_add
  by_cases c1 : bw a1 0 2 = true
  · by_cases c2 : bw a2 0 9 = true
    · by_cases c3 : bw a3 0 2 = true
      · by_cases c4 : bw a4 0 2 = true
        · by_cases c5 : σ 3 < 8
          · obtain ⟨a, _, ha, _, rfl⟩ := bw_t c1
            obtain ⟨b, _, hb, _, rfl⟩ := bw_t c2
            obtain ⟨c, _, hc, _, rfl⟩ := bw_t c3
            obtain ⟨d, _, hd, _, rfl⟩ := bw_t c4
            have ap := l.app (a := a) (b := b) (c := c) (d := d) c5
            refine ⟨nI (σ 3 + 1), sI (sI (sI (sI (sI μ (24 + 1) (σ 3) (nI a)) (24 + 2) (σ 3) (nI b)) (24 + 3) (σ 3) (nI c)) (24 + 4) (σ 3) (nI d)) 24 0 (nI (σ 3 + 1)), rM (sI (sI (sI (sI (sI (sI μ (24 + 1) (σ 3) (nI a)) (24 + 2) (σ 3) (nI b)) (24 + 3) (σ 3) (nI c)) (24 + 4) (σ 3) (nI d)) 24 0 (nI (σ 3 + 1))) 113 0 (nI 0)) 114 (nu (nu (nu (nu (nu σ (1761 + 4 * σ 3) a) (1761 + 4 * σ 3 + 1) b) (1761 + 4 * σ 3 + 2) c) (1761 + 4 * σ 3 + 3) d) 3 (σ 3 + 1)), ?_, ?_, ?_⟩
            · simp (disch := omega) only [within_n, l.1, nI_ltE, zl_e, bd_y, if_n0, n0_eq, n1_eq, Bool.false_eq_true, not_true_eq_false, not_false_eq_true, if_true, if_false, Nat.one_ne_zero, rM_rM, c1, c2, c3, c4, c5, ap]
            · rw [← th_rM (σ := σ) (fun j hj => by simp (disch := omega) only [rd_k]; exact r j hj)]
              have ne8 : ¬ σ 3 = 8 := by omega
              simp (disch := omega) only [in_0_2, in_0_9, zl_e, bd_y, if_n0, n0_eq, n1_eq, Bool.false_eq_true, not_true_eq_false, not_false_eq_true, if_true, if_false, Nat.one_ne_zero, rM_rM, c1, c2, c3, c4, ne8, nI_add, pk_mul, nI_clamp, nI_eqE, nI_leE, nI_ltE, nI_eq0, nI_le0, nI_lt0, nI_ge0, nI_gt0, pk_rem, pk_sub, inb_t, gd_y, zl_e, bd_y, isB_n0, isB_n1, n0_eq, n1_eq, if_n0, if_n1, isB_if, not_true_eq_false, not_false_eq_true, ite_true, ite_false, Nat.le_refl, Nat.lt_irrefl, rM_r, rM_k, rM_w, rM_c, rM_2, rd_s, rd_j, rd_k, sI_sI, nu_n, nu_s]
            · refine I.fin (h := h) ?_ ?_ ?_ ?_ ?_ ?_ (l.up c5 nu_s ?_ ?_ ?_ ?_ ?_) ?_
              · exact ((((FS.w (by omega)).t (FS.w (by omega))).t (FS.w (by omega))).t (FS.w (by omega))).t (FS.w (by omega))
              · exact ((((w.up (by rw [bd_r0 c5]; exact ha)).up (by rw [bd_r1 c5]; exact hb)).up (by rw [bd_r2 c5]; exact hc)).up (by rw [bd_r3 c5]; exact hd)).up (by rw [bd_3]; omega)
              · exact ((((z.up (by omega) (by omega)).up (by omega) (by omega)).up (by omega) (by omega)).up (by omega) (by omega)).up (by omega) (by omega)
              · simp (disch := omega) only [nu_n]; exact m
              · exact (n.mem hn (fun k h1 h2 => by simp (disch := omega) only [rd_k])).st hn (fun j h1 h2 h3 => by simp (disch := omega) only [nu_n])
              · simp (disch := omega) only [rd_k]; exact s
              · simp (disch := omega) only [nu_n, nu_s]
              · simp (disch := omega) only [nu_n, nu_s]
              · simp (disch := omega) only [nu_n, nu_s]
              · simp (disch := omega) only [nu_n, nu_s]
              · intro i hi
                simp (disch := omega) only [nu_n]
                exact ⟨trivial, trivial, trivial, trivial⟩
              · exact (g.mem (fun k h1 h2 => by simp (disch := omega) only [rd_k])).st w.lo (by simp (disch := omega) only [nu_n]) (fun j h1 h2 => by simp (disch := omega) only [nu_n])
          · refine ⟨-3, μ, rM (sI μ 113 0 (nI 0)) 114 σ, ?_, ?_, I.ref r⟩
            · simp (disch := omega) only [within_n, l.1, nI_ltE, zl_e, bd_y, if_n0, n0_eq, n1_eq, Bool.false_eq_true, not_true_eq_false, not_false_eq_true, if_true, if_false, Nat.one_ne_zero, rM_rM, c1, c2, c3, c4, c5]
            · rw [← th_rM r]
              simp (disch := omega) only [in_0_2, in_0_9, nI_add, pk_mul, nI_clamp, nI_eqE, nI_leE, nI_ltE, nI_eq0, nI_le0, nI_lt0, nI_ge0, nI_gt0, pk_rem, pk_sub, inb_t, gd_y, zl_e, bd_y, isB_n0, isB_n1, n0_eq, n1_eq, if_n0, if_n1, isB_if, not_true_eq_false, not_false_eq_true, ite_true, ite_false, Nat.le_refl, Nat.lt_irrefl, rM_r, rM_k, rM_w, rM_c, rM_2, rd_s, rd_j, rd_k, sI_sI, show σ 3 = 8 by omega, zl_e, bd_y, if_n0, n0_eq, n1_eq, Bool.false_eq_true, not_true_eq_false, not_false_eq_true, if_true, if_false, Nat.one_ne_zero, rM_rM, c1, c2, c3, c4, c5]
        · refine ⟨-1, μ, rM (sI μ 113 0 (nI 0)) 114 σ, ?_, ?_, I.ref r⟩
          · simp (disch := omega) only [within_n, l.1, nI_ltE, zl_e, bd_y, if_n0, n0_eq, n1_eq, Bool.false_eq_true, not_true_eq_false, not_false_eq_true, if_true, if_false, Nat.one_ne_zero, rM_rM, c1, c2, c3, c4]
          · rw [← th_rM r]
            simp (disch := omega) only [in_0_2, in_0_9, nI_add, pk_mul, nI_clamp, nI_eqE, nI_leE, nI_ltE, nI_eq0, nI_le0, nI_lt0, nI_ge0, nI_gt0, pk_rem, pk_sub, inb_t, gd_y, zl_e, bd_y, isB_n0, isB_n1, n0_eq, n1_eq, if_n0, if_n1, isB_if, not_true_eq_false, not_false_eq_true, ite_true, ite_false, Nat.le_refl, Nat.lt_irrefl, rM_r, rM_k, rM_w, rM_c, rM_2, rd_s, rd_j, rd_k, sI_sI, zl_e, bd_y, if_n0, n0_eq, n1_eq, Bool.false_eq_true, not_true_eq_false, not_false_eq_true, if_true, if_false, Nat.one_ne_zero, rM_rM, c1, c2, c3, c4]
      · refine ⟨-1, μ, rM (sI μ 113 0 (nI 0)) 114 σ, ?_, ?_, I.ref r⟩
        · simp (disch := omega) only [within_n, l.1, nI_ltE, zl_e, bd_y, if_n0, n0_eq, n1_eq, Bool.false_eq_true, not_true_eq_false, not_false_eq_true, if_true, if_false, Nat.one_ne_zero, rM_rM, c1, c2, c3]
        · rw [← th_rM r]
          simp (disch := omega) only [in_0_2, in_0_9, nI_add, pk_mul, nI_clamp, nI_eqE, nI_leE, nI_ltE, nI_eq0, nI_le0, nI_lt0, nI_ge0, nI_gt0, pk_rem, pk_sub, inb_t, gd_y, zl_e, bd_y, isB_n0, isB_n1, n0_eq, n1_eq, if_n0, if_n1, isB_if, not_true_eq_false, not_false_eq_true, ite_true, ite_false, Nat.le_refl, Nat.lt_irrefl, rM_r, rM_k, rM_w, rM_c, rM_2, rd_s, rd_j, rd_k, sI_sI, zl_e, bd_y, if_n0, n0_eq, n1_eq, Bool.false_eq_true, not_true_eq_false, not_false_eq_true, if_true, if_false, Nat.one_ne_zero, rM_rM, c1, c2, c3]
    · refine ⟨-1, μ, rM (sI μ 113 0 (nI 0)) 114 σ, ?_, ?_, I.ref r⟩
      · simp (disch := omega) only [within_n, l.1, nI_ltE, zl_e, bd_y, if_n0, n0_eq, n1_eq, Bool.false_eq_true, not_true_eq_false, not_false_eq_true, if_true, if_false, Nat.one_ne_zero, rM_rM, c1, c2]
      · rw [← th_rM r]
        simp (disch := omega) only [in_0_2, in_0_9, nI_add, pk_mul, nI_clamp, nI_eqE, nI_leE, nI_ltE, nI_eq0, nI_le0, nI_lt0, nI_ge0, nI_gt0, pk_rem, pk_sub, inb_t, gd_y, zl_e, bd_y, isB_n0, isB_n1, n0_eq, n1_eq, if_n0, if_n1, isB_if, not_true_eq_false, not_false_eq_true, ite_true, ite_false, Nat.le_refl, Nat.lt_irrefl, rM_r, rM_k, rM_w, rM_c, rM_2, rd_s, rd_j, rd_k, sI_sI, zl_e, bd_y, if_n0, n0_eq, n1_eq, Bool.false_eq_true, not_true_eq_false, not_false_eq_true, if_true, if_false, Nat.one_ne_zero, rM_rM, c1, c2]
  · refine ⟨-1, μ, rM (sI μ 113 0 (nI 0)) 114 σ, ?_, ?_, I.ref r⟩
    · simp (disch := omega) only [within_n, l.1, nI_ltE, zl_e, bd_y, if_n0, n0_eq, n1_eq, Bool.false_eq_true, not_true_eq_false, not_false_eq_true, if_true, if_false, Nat.one_ne_zero, rM_rM, c1]
    · rw [← th_rM r]
      simp (disch := omega) only [in_0_2, in_0_9, nI_add, pk_mul, nI_clamp, nI_eqE, nI_leE, nI_ltE, nI_eq0, nI_le0, nI_lt0, nI_ge0, nI_gt0, pk_rem, pk_sub, inb_t, gd_y, zl_e, bd_y, isB_n0, isB_n1, n0_eq, n1_eq, if_n0, if_n1, isB_if, not_true_eq_false, not_false_eq_true, ite_true, ite_false, Nat.le_refl, Nat.lt_irrefl, rM_r, rM_k, rM_w, rM_c, rM_2, rd_s, rd_j, rd_k, sI_sI, zl_e, bd_y, if_n0, n0_eq, n1_eq, Bool.false_eq_true, not_true_eq_false, not_false_eq_true, if_true, if_false, Nat.one_ne_zero, rM_rM, c1]

theorem o_log : ok_log II := by
  intro a1 a2 a3 μ I
  obtain ⟨⟨σ, h, r, w, z, m, n, s, l, g⟩, -⟩ := id I
  have hn := w.n
  have h8 := w.lo
  unfold f_X7_log f_X8_log
  by_cases c1 : bw a1 0 8 = true
  · by_cases c2 : bw a2 0 8 = true
    · by_cases c3 : a1 = a2
      · refine ⟨-1, μ, rM (sI μ 113 0 (nI 0)) 114 σ, ?_, ?_, I.ref r⟩
        · simp (disch := omega) only [within_n, g.1, nI_ltE, zl_e, bd_y, if_n0, n0_eq, n1_eq, Bool.false_eq_true, not_true_eq_false, not_false_eq_true, if_true, if_false, Nat.one_ne_zero, rM_rM, c1, c2, c3, eq_self]
        · rw [← th_rM r]
          simp (disch := omega) only [in_0_8, in_0_1, nI_add, pk_mul, nI_clamp, nI_eqE, nI_leE, nI_ltE, nI_eq0, nI_le0, nI_lt0, nI_ge0, nI_gt0, pk_rem, pk_sub, inb_t, gd_y, zl_e, bd_y, isB_n0, isB_n1, n0_eq, n1_eq, if_n0, if_n1, isB_if, not_true_eq_false, not_false_eq_true, ite_true, ite_false, Nat.le_refl, Nat.lt_irrefl, rM_r, rM_k, rM_w, rM_c, rM_2, rd_s, rd_j, rd_k, sI_sI, zl_e, bd_y, if_n0, n0_eq, n1_eq, Bool.false_eq_true, not_true_eq_false, not_false_eq_true, if_true, if_false, Nat.one_ne_zero, rM_rM, c1, c2, c3, eq_self]
      · by_cases c4 : bw a3 0 1 = true
        · by_cases c5 : σ 4 < 12
          · obtain ⟨a, _, ha, _, rfl⟩ := bw_t c1
            obtain ⟨b, _, hb, _, rfl⟩ := bw_t c2
            obtain ⟨c, _, hc, _, rfl⟩ := bw_t c4
            have ap := g.app (a := a) (b := b) (c := c) c5
            refine ⟨nI (σ 4 + 1), sI (sI (sI (sI μ (29 + 1) (σ 4) (nI a)) (29 + 2) (σ 4) (nI b)) (29 + 3) (σ 4) (nI c)) 29 0 (nI (σ 4 + 1)), rM (sI (sI (sI (sI (sI μ (29 + 1) (σ 4) (nI a)) (29 + 2) (σ 4) (nI b)) (29 + 3) (σ 4) (nI c)) 29 0 (nI (σ 4 + 1))) 113 0 (nI 0)) 114 (nu (nu (nu (nu σ (1793 + 3 * σ 4) a) (1793 + 3 * σ 4 + 1) b) (1793 + 3 * σ 4 + 2) c) 4 (σ 4 + 1)), ?_, ?_, ?_⟩
            · simp (disch := omega) only [within_n, g.1, nI_ltE, zl_e, bd_y, if_n0, n0_eq, n1_eq, Bool.false_eq_true, not_true_eq_false, not_false_eq_true, if_true, if_false, Nat.one_ne_zero, rM_rM, c1, c2, c3, c4, c5, ap]
            · rw [← th_rM (σ := σ) (fun j hj => by simp (disch := omega) only [rd_k]; exact r j hj)]
              have ne8 : ¬ σ 4 = 12 := by omega
              simp (disch := omega) only [in_0_8, in_0_1, zl_e, bd_y, if_n0, n0_eq, n1_eq, Bool.false_eq_true, not_true_eq_false, not_false_eq_true, if_true, if_false, Nat.one_ne_zero, rM_rM, c1, c2, c3, c4, ne8, nI_add, pk_mul, nI_clamp, nI_eqE, nI_leE, nI_ltE, nI_eq0, nI_le0, nI_lt0, nI_ge0, nI_gt0, pk_rem, pk_sub, inb_t, gd_y, zl_e, bd_y, isB_n0, isB_n1, n0_eq, n1_eq, if_n0, if_n1, isB_if, not_true_eq_false, not_false_eq_true, ite_true, ite_false, Nat.le_refl, Nat.lt_irrefl, rM_r, rM_k, rM_w, rM_c, rM_2, rd_s, rd_j, rd_k, sI_sI, nu_n, nu_s]
            · refine I.fin (h := h) ?_ ?_ ?_ ?_ ?_ ?_ ?_ (g.up c5 nu_s ?_ ?_ ?_ ?_)
              · exact (((FS.w (by omega)).t (FS.w (by omega))).t (FS.w (by omega))).t (FS.w (by omega))
              · exact (((w.up (by rw [bd_g0 c5]; exact ha)).up (by rw [bd_g1 c5]; exact hb)).up (by rw [bd_g2 c5]; exact hc)).up (by rw [bd_4]; omega)
              · exact (((z.up (by omega) (by omega)).up (by omega) (by omega)).up (by omega) (by omega)).up (by omega) (by omega)
              · simp (disch := omega) only [nu_n]; exact m
              · exact (n.mem hn (fun k h1 h2 => by simp (disch := omega) only [rd_k])).st hn (fun j h1 h2 h3 => by simp (disch := omega) only [nu_n])
              · simp (disch := omega) only [rd_k]; exact s
              · exact (l.mem (fun k h1 h2 => by simp (disch := omega) only [rd_k])).st w.ru (by simp (disch := omega) only [nu_n]) (fun j h1 h2 => by simp (disch := omega) only [nu_n])
              · simp (disch := omega) only [nu_n, nu_s]
              · simp (disch := omega) only [nu_n, nu_s]
              · simp (disch := omega) only [nu_n, nu_s]
              · intro i hi
                simp (disch := omega) only [nu_n]
                exact ⟨trivial, trivial, trivial⟩
          · refine ⟨-3, μ, rM (sI μ 113 0 (nI 0)) 114 σ, ?_, ?_, I.ref r⟩
            · simp (disch := omega) only [within_n, g.1, nI_ltE, zl_e, bd_y, if_n0, n0_eq, n1_eq, Bool.false_eq_true, not_true_eq_false, not_false_eq_true, if_true, if_false, Nat.one_ne_zero, rM_rM, c1, c2, c3, c4, c5]
            · rw [← th_rM r]
              simp (disch := omega) only [in_0_8, in_0_1, nI_add, pk_mul, nI_clamp, nI_eqE, nI_leE, nI_ltE, nI_eq0, nI_le0, nI_lt0, nI_ge0, nI_gt0, pk_rem, pk_sub, inb_t, gd_y, zl_e, bd_y, isB_n0, isB_n1, n0_eq, n1_eq, if_n0, if_n1, isB_if, not_true_eq_false, not_false_eq_true, ite_true, ite_false, Nat.le_refl, Nat.lt_irrefl, rM_r, rM_k, rM_w, rM_c, rM_2, rd_s, rd_j, rd_k, sI_sI, show σ 4 = 12 by omega, zl_e, bd_y, if_n0, n0_eq, n1_eq, Bool.false_eq_true, not_true_eq_false, not_false_eq_true, if_true, if_false, Nat.one_ne_zero, rM_rM, c1, c2, c3, c4, c5]
        · refine ⟨-1, μ, rM (sI μ 113 0 (nI 0)) 114 σ, ?_, ?_, I.ref r⟩
          · simp (disch := omega) only [within_n, g.1, nI_ltE, zl_e, bd_y, if_n0, n0_eq, n1_eq, Bool.false_eq_true, not_true_eq_false, not_false_eq_true, if_true, if_false, Nat.one_ne_zero, rM_rM, c1, c2, c3, c4]
          · rw [← th_rM r]
            simp (disch := omega) only [in_0_8, in_0_1, nI_add, pk_mul, nI_clamp, nI_eqE, nI_leE, nI_ltE, nI_eq0, nI_le0, nI_lt0, nI_ge0, nI_gt0, pk_rem, pk_sub, inb_t, gd_y, zl_e, bd_y, isB_n0, isB_n1, n0_eq, n1_eq, if_n0, if_n1, isB_if, not_true_eq_false, not_false_eq_true, ite_true, ite_false, Nat.le_refl, Nat.lt_irrefl, rM_r, rM_k, rM_w, rM_c, rM_2, rd_s, rd_j, rd_k, sI_sI, zl_e, bd_y, if_n0, n0_eq, n1_eq, Bool.false_eq_true, not_true_eq_false, not_false_eq_true, if_true, if_false, Nat.one_ne_zero, rM_rM, c1, c2, c3, c4]
    · refine ⟨-1, μ, rM (sI μ 113 0 (nI 0)) 114 σ, ?_, ?_, I.ref r⟩
      · simp (disch := omega) only [within_n, g.1, nI_ltE, zl_e, bd_y, if_n0, n0_eq, n1_eq, Bool.false_eq_true, not_true_eq_false, not_false_eq_true, if_true, if_false, Nat.one_ne_zero, rM_rM, c1, c2]
      · rw [← th_rM r]
        simp (disch := omega) only [in_0_8, in_0_1, nI_add, pk_mul, nI_clamp, nI_eqE, nI_leE, nI_ltE, nI_eq0, nI_le0, nI_lt0, nI_ge0, nI_gt0, pk_rem, pk_sub, inb_t, gd_y, zl_e, bd_y, isB_n0, isB_n1, n0_eq, n1_eq, if_n0, if_n1, isB_if, not_true_eq_false, not_false_eq_true, ite_true, ite_false, Nat.le_refl, Nat.lt_irrefl, rM_r, rM_k, rM_w, rM_c, rM_2, rd_s, rd_j, rd_k, sI_sI, zl_e, bd_y, if_n0, n0_eq, n1_eq, Bool.false_eq_true, not_true_eq_false, not_false_eq_true, if_true, if_false, Nat.one_ne_zero, rM_rM, c1, c2]
  · refine ⟨-1, μ, rM (sI μ 113 0 (nI 0)) 114 σ, ?_, ?_, I.ref r⟩
    · simp (disch := omega) only [within_n, g.1, nI_ltE, zl_e, bd_y, if_n0, n0_eq, n1_eq, Bool.false_eq_true, not_true_eq_false, not_false_eq_true, if_true, if_false, Nat.one_ne_zero, rM_rM, c1]
    · rw [← th_rM r]
      simp (disch := omega) only [in_0_8, in_0_1, nI_add, pk_mul, nI_clamp, nI_eqE, nI_leE, nI_ltE, nI_eq0, nI_le0, nI_lt0, nI_ge0, nI_gt0, pk_rem, pk_sub, inb_t, gd_y, zl_e, bd_y, isB_n0, isB_n1, n0_eq, n1_eq, if_n0, if_n1, isB_if, not_true_eq_false, not_false_eq_true, ite_true, ite_false, Nat.le_refl, Nat.lt_irrefl, rM_r, rM_k, rM_w, rM_c, rM_2, rd_s, rd_j, rd_k, sI_sI, zl_e, bd_y, if_n0, n0_eq, n1_eq, Bool.false_eq_true, not_true_eq_false, not_false_eq_true, if_true, if_false, Nat.one_ne_zero, rM_rM, c1]
