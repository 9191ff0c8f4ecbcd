/-! PURE PART: the first calls -/
theorem bw_ne {a : Int32} {l h k : Nat} (e : ¬ bw a l h = true) (h1 : l ≤ k) (h2 : k ≤ h) (hk : k < 2 ^ 31) : (a = nI k) = False := by
  apply eq_false
  intro q
  apply e
  unfold bw
  rw [q, nI_toInt hk, Bool.and_eq_true, decide_eq_true_eq, decide_eq_true_eq]
  omega
theorem x7_asNumber {c : Prop} [Decidable c] {μ : Mem} : f_X7_asNumber (nI (if c then 1 else 0)) μ = some (nI (if c then 1 else 0), μ) := by
  unfold f_X7_asNumber
  by_cases h : c
  · simp only [h, if_true, n1_eq, if_false]
  · simp only [h, if_false, n0_eq, if_true]
theorem if_num {α : Type} {c : Prop} [Decidable c] {μ : α} : (if ¬ c then some (nI 0, μ) else some (nI 1, μ)) = some (nI (if c then 1 else 0), μ) := by
  by_cases h : c <;> simp [h]
theorem a_out9 {σ : St} {q : Nat} (h : q < 9) : a_out 9 σ q = a_dk σ q := by
  unfold a_out
  simp [show q ≠ 9 by omega]

theorem o_turn : ok_turn II := by
  intro a1 a2 μ I
  obtain ⟨⟨σ, h, r, w, z, m, n, s, l, g⟩, -⟩ := id I
  have hn := w.n
  unfold f_X7_turn f_X8_turn
  by_cases c1 : br a1 (σ 0) = true
  · by_cases c2 : bw a2 0 5 = true
    · obtain ⟨q, hq, hq2, rfl⟩ := br_t' c1
      obtain ⟨v, hv, hv2, hv3, rfl⟩ := bw_t c2
      have k3 : μ.1 3 q = nI (σ (6 + 6 * q)) := n.2.1.1 q hq
      have r' : RR (sI μ 3 q (nI v)) 114 σ := fun j hj => by rw [rd_k (by omega)]; exact r j hj
      refine ⟨nI (σ (6 + 6 * q)), sI μ 3 q (nI v), rM (sI (sI μ 3 q (nI v)) 113 0 (nI 0)) 114 (nu σ (6 + 6 * q) v), ?_, ?_, ?_⟩
      · simp (disch := omega) only [x7_isRock n.n hn, within_n, zl_e, bd_y, if_n0, n0_eq, n1_eq, Bool.false_eq_true, not_true_eq_false, not_false_eq_true, if_true, if_false, Nat.one_ne_zero, rM_rM, c1, c2, inb_t, gd_y, nI_clamp, k3]
      · rw [← th_rM r']
        simp (disch := omega) only [x8_isRock hn, in_0_5, zl_e, bd_y, if_n0, n0_eq, n1_eq, Bool.false_eq_true, not_true_eq_false, not_false_eq_true, if_true, if_false, Nat.one_ne_zero, rM_rM, c1, c2, nI_add, pk_mul, nI_clamp, nI_eqE, nI_leE, nI_ltE, nI_eq0, nI_le0, nI_lt0, nI_ge0, nI_gt0, pk_rem, pk_sub, inb_t, gd_y, zl_e, bd_y, isB_n0, isB_n1, n0_eq, n1_eq, if_n0, if_n1, isB_if, not_true_eq_false, not_false_eq_true, ite_true, ite_false, Nat.le_refl, Nat.lt_irrefl, rM_r, rM_k, rM_w, rM_c, rM_2, rd_s, rd_j, rd_k, sI_sI]
      · exact I.fin (FS.w (by omega)) (w.up (by rw [bd_k (by omega)]; exact hv2)) (z.up (by omega) (by omega)) (by rw [nu_n (by omega)]; exact m) (n.kind hn hq) (by rw [rd_k (by omega)]; exact s) ((l.mem (fun k h1 h2 => rd_k (by omega))).st w.ru (nu_n (by omega)) (fun j h1 h2 => nu_n (by omega))) ((g.mem (fun k h1 h2 => rd_k (by omega))).st w.lo (nu_n (by omega)) (fun j h1 h2 => nu_n (by omega)))
    · refine ⟨-1, μ, rM (sI μ 113 0 (nI 0)) 114 σ, ?_, ?_, I.ref r⟩
      · simp (disch := omega) only [x7_isRock n.n hn, within_n, zl_e, bd_y, if_n0, n0_eq, n1_eq, Bool.false_eq_true, not_true_eq_false, not_false_eq_true, if_true, if_false, Nat.one_ne_zero, rM_rM, c1, c2]
      · rw [← th_rM r]
        simp (disch := omega) only [x8_isRock hn, in_0_5, zl_e, bd_y, if_n0, n0_eq, n1_eq, Bool.false_eq_true, not_true_eq_false, not_false_eq_true, if_true, if_false, Nat.one_ne_zero, rM_rM, c1, c2]
  · refine ⟨-1, μ, rM (sI μ 113 0 (nI 0)) 114 σ, ?_, ?_, I.ref r⟩
    · simp (disch := omega) only [x7_isRock n.n hn, within_n, zl_e, bd_y, if_n0, n0_eq, n1_eq, Bool.false_eq_true, not_true_eq_false, not_false_eq_true, if_true, if_false, Nat.one_ne_zero, rM_rM, c1]
    · rw [← th_rM r]
      simp (disch := omega) only [x8_isRock hn, in_0_5, zl_e, bd_y, if_n0, n0_eq, n1_eq, Bool.false_eq_true, not_true_eq_false, not_false_eq_true, if_true, if_false, Nat.one_ne_zero, rM_rM, c1]

theorem o_dark : ok_dark II := by
  intro a1 a2 a3 μ I
  obtain ⟨⟨σ, h, r, w, z, m, n, s, l, g⟩, -⟩ := id I
  have hn := w.n
  unfold f_X7_dark f_X8_dark
  by_cases c1 : br a1 (σ 0) = true
  · by_cases c2 : bw a2 0 99 = true
    · by_cases c3 : bw a3 0 100 = true
      · obtain ⟨q, hq, hq2, rfl⟩ := br_t' c1
        obtain ⟨u, hu, hu2, hu3, rfl⟩ := bw_t c2
        obtain ⟨v, hv, hv2, hv3, rfl⟩ := bw_t c3
        have q9 : q < 9 := by omega
        have n1 : NN (sI μ 6 q (nI u)) 2 (nu σ (6 + 6 * q + 4) u) h 9 := n.from_ hn hq
        have n2 : NN (sI (sI μ 6 q (nI u)) 7 q (nI v)) 2 (nu (nu σ (6 + 6 * q + 4) u) (6 + 6 * q + 5) v) h 9 := n1.until_ (by rw [nu_n (by omega)]; exact hn) (by rw [nu_n (by omega)]; exact hq)
        have w1 : WF (nu (nu σ (6 + 6 * q + 4) u) (6 + 6 * q + 5) v) := (w.up (by rw [bd_f q9]; exact hu2)).up (by rw [bd_u q9]; exact hv2)
        have dk := n2_isDark (r := q) n2 w1 (by rw [nu_n (by omega), nu_n (by omega)]; exact hq)
        rw [a_out9 q9] at dk
        have r' : RR (sI (sI μ 6 q (nI u)) 7 q (nI v)) 114 σ := fun j hj => by rw [rd_k (by omega), rd_k (by omega)]; exact r j hj
        refine ⟨nI (if a_dk (nu (nu σ (6 + 6 * q + 4) u) (6 + 6 * q + 5) v) q = true then 1 else 0), sI (sI μ 6 q (nI u)) 7 q (nI v), rM (sI (sI (sI μ 6 q (nI u)) 7 q (nI v)) 113 0 (nI 0)) 114 (nu (nu σ (6 + 6 * q + 4) u) (6 + 6 * q + 5) v), ?_, ?_, ?_⟩
        · simp (disch := omega) only [x7_isRock n.n hn, within_n, zl_e, bd_y, if_n0, n0_eq, n1_eq, Bool.false_eq_true, not_true_eq_false, not_false_eq_true, if_true, if_false, Nat.one_ne_zero, rM_rM, c1, c2, c3, inb_t, gd_y, nI_clamp, dk, x7_asNumber]
        · rw [← th_rM r']
          simp (disch := omega) only [x8_isRock hn, in_0_99, in_0_100, zl_e, bd_y, if_n0, n0_eq, n1_eq, Bool.false_eq_true, not_true_eq_false, not_false_eq_true, if_true, if_false, Nat.one_ne_zero, rM_rM, c1, c2, c3, nI_add, pk_mul, nI_clamp, nI_eqE, nI_leE, nI_ltE, nI_eq0, nI_le0, nI_lt0, nI_ge0, nI_gt0, pk_rem, pk_sub, inb_t, gd_y, zl_e, bd_y, isB_n0, isB_n1, n0_eq, n1_eq, if_n0, if_n1, isB_if, not_true_eq_false, not_false_eq_true, ite_true, ite_false, Nat.le_refl, Nat.lt_irrefl, rM_r, rM_k, rM_w, rM_c, rM_2, rd_s, rd_j, rd_k, sI_sI]
          rw [e8_isDark w1 q9]
          simp only [zl_e, bd_y, if_n0, n0_eq, n1_eq, Bool.false_eq_true, not_true_eq_false, not_false_eq_true, if_true, if_false, Nat.one_ne_zero, rM_rM, if_num]
        · exact I.fin ((FS.w (by omega)).t (FS.w (by omega))) w1 ((z.up (by omega) (by omega)).up (by omega) (by omega)) (by rw [nu_n (by omega), nu_n (by omega)]; exact m) n2 (by rw [rd_k (by omega), rd_k (by omega)]; exact s) (((l.mem (fun k h1 h2 => by rw [rd_k (by omega), rd_k (by omega)])).st w.ru (by rw [nu_n (by omega), nu_n (by omega)]) (fun j h1 h2 => by rw [nu_n (by omega), nu_n (by omega)]))) (((g.mem (fun k h1 h2 => by rw [rd_k (by omega), rd_k (by omega)])).st w.lo (by rw [nu_n (by omega), nu_n (by omega)]) (fun j h1 h2 => by rw [nu_n (by omega), nu_n (by omega)])))
      · refine ⟨-1, μ, rM (sI μ 113 0 (nI 0)) 114 σ, ?_, ?_, I.ref r⟩
        · simp (disch := omega) only [x7_isRock n.n hn, within_n, zl_e, bd_y, if_n0, n0_eq, n1_eq, Bool.false_eq_true, not_true_eq_false, not_false_eq_true, if_true, if_false, Nat.one_ne_zero, rM_rM, c1, c2, c3]
        · rw [← th_rM r]
          simp (disch := omega) only [x8_isRock hn, in_0_99, in_0_100, zl_e, bd_y, if_n0, n0_eq, n1_eq, Bool.false_eq_true, not_true_eq_false, not_false_eq_true, if_true, if_false, Nat.one_ne_zero, rM_rM, c1, c2, c3]
    · refine ⟨-1, μ, rM (sI μ 113 0 (nI 0)) 114 σ, ?_, ?_, I.ref r⟩
      · simp (disch := omega) only [x7_isRock n.n hn, within_n, zl_e, bd_y, if_n0, n0_eq, n1_eq, Bool.false_eq_true, not_true_eq_false, not_false_eq_true, if_true, if_false, Nat.one_ne_zero, rM_rM, c1, c2]
      · rw [← th_rM r]
        simp (disch := omega) only [x8_isRock hn, in_0_99, in_0_100, zl_e, bd_y, if_n0, n0_eq, n1_eq, Bool.false_eq_true, not_true_eq_false, not_false_eq_true, if_true, if_false, Nat.one_ne_zero, rM_rM, c1, c2]
  · refine ⟨-1, μ, rM (sI μ 113 0 (nI 0)) 114 σ, ?_, ?_, I.ref r⟩
    · simp (disch := omega) only [x7_isRock n.n hn, within_n, zl_e, bd_y, if_n0, n0_eq, n1_eq, Bool.false_eq_true, not_true_eq_false, not_false_eq_true, if_true, if_false, Nat.one_ne_zero, rM_rM, c1]
    · rw [← th_rM r]
      simp (disch := omega) only [x8_isRock hn, in_0_99, in_0_100, zl_e, bd_y, if_n0, n0_eq, n1_eq, Bool.false_eq_true, not_true_eq_false, not_false_eq_true, if_true, if_false, Nat.one_ne_zero, rM_rM, c1]

theorem o_delay : ok_delay II := by
  intro a1 a2 a3 μ I
  obtain ⟨⟨σ, h, r, w, z, m, n, s, l, g⟩, -⟩ := id I
  have hn := w.n
  unfold f_X7_delay f_X7_isPair f_X8_delay
  by_cases c1 : br a1 (σ 0) = true
  · by_cases c2 : br a2 (σ 0) = true
    · by_cases c3 : a1 = a2
      · refine ⟨-1, μ, rM (sI μ 113 0 (nI 0)) 114 σ, ?_, ?_, I.ref r⟩
        · simp (disch := omega) only [x7_isRock n.n hn, within_n, zl_e, bd_y, if_n0, n0_eq, n1_eq, Bool.false_eq_true, not_true_eq_false, not_false_eq_true, if_true, if_false, Nat.one_ne_zero, rM_rM, c1, c2, c3, eq_self]
        · rw [← th_rM r]
          simp (disch := omega) only [x8_isRock hn, in_1_9, zl_e, bd_y, if_n0, n0_eq, n1_eq, Bool.false_eq_true, not_true_eq_false, not_false_eq_true, if_true, if_false, Nat.one_ne_zero, rM_rM, c1, c2, c3, eq_self]
      · by_cases c4 : bw a3 1 9 = true
        · obtain ⟨p, hp, hp2, rfl⟩ := br_t' c1
          obtain ⟨q, hq, hq2, rfl⟩ := br_t' c2
          obtain ⟨v, hv, hv2, hv3, rfl⟩ := bw_t c4
          have hne : p ≠ q := fun e => c3 (by rw [e])
          have k3 : μ.1 (9 + p) q = nI (σ (60 + 9 * p + q)) := n.2.1.2.2.2.2.2 p q hp hq hne
          have r' : RR (sI μ (9 + p) q (nI v)) 114 σ := fun j hj => by rw [rd_k (by omega)]; exact r j hj
          refine ⟨nI (σ (60 + 9 * p + q)), sI μ (9 + p) q (nI v), rM (sI (sI μ (9 + p) q (nI v)) 113 0 (nI 0)) 114 (nu σ (60 + 9 * p + q) v), ?_, ?_, ?_⟩
          · simp (disch := omega) only [x7_isRock n.n hn, within_n, zl_e, bd_y, if_n0, n0_eq, n1_eq, Bool.false_eq_true, not_true_eq_false, not_false_eq_true, if_true, if_false, Nat.one_ne_zero, rM_rM, c1, c2, c3, c4, inb_t, gd_y, nI_clamp, k3]
          · rw [← th_rM r']
            simp (disch := omega) only [x8_isRock hn, in_1_9, zl_e, bd_y, if_n0, n0_eq, n1_eq, Bool.false_eq_true, not_true_eq_false, not_false_eq_true, if_true, if_false, Nat.one_ne_zero, rM_rM, c1, c2, c3, c4, nI_add, pk_mul, nI_clamp, nI_eqE, nI_leE, nI_ltE, nI_eq0, nI_le0, nI_lt0, nI_ge0, nI_gt0, pk_rem, pk_sub, inb_t, gd_y, zl_e, bd_y, isB_n0, isB_n1, n0_eq, n1_eq, if_n0, if_n1, isB_if, not_true_eq_false, not_false_eq_true, ite_true, ite_false, Nat.le_refl, Nat.lt_irrefl, rM_r, rM_k, rM_w, rM_c, rM_2, rd_s, rd_j, rd_k, sI_sI]
          · exact I.fin (FS.w (by omega)) (w.up (by rw [bd_l (by omega) (by omega)]; exact hv2)) (z.up (by omega) (by omega)) (by rw [nu_n (by omega)]; exact m) (n.del hn hp hq) (by rw [rd_k (by omega)]; exact s) ((l.mem (fun k h1 h2 => rd_k (by omega))).st w.ru (nu_n (by omega)) (fun j h1 h2 => nu_n (by omega))) ((g.mem (fun k h1 h2 => rd_k (by omega))).st w.lo (nu_n (by omega)) (fun j h1 h2 => nu_n (by omega)))
        · refine ⟨-1, μ, rM (sI μ 113 0 (nI 0)) 114 σ, ?_, ?_, I.ref r⟩
          · simp (disch := omega) only [x7_isRock n.n hn, within_n, zl_e, bd_y, if_n0, n0_eq, n1_eq, Bool.false_eq_true, not_true_eq_false, not_false_eq_true, if_true, if_false, Nat.one_ne_zero, rM_rM, c1, c2, c3, c4]
          · rw [← th_rM r]
            simp (disch := omega) only [x8_isRock hn, in_1_9, zl_e, bd_y, if_n0, n0_eq, n1_eq, Bool.false_eq_true, not_true_eq_false, not_false_eq_true, if_true, if_false, Nat.one_ne_zero, rM_rM, c1, c2, c3, c4]
    · refine ⟨-1, μ, rM (sI μ 113 0 (nI 0)) 114 σ, ?_, ?_, I.ref r⟩
      · simp (disch := omega) only [x7_isRock n.n hn, within_n, zl_e, bd_y, if_n0, n0_eq, n1_eq, Bool.false_eq_true, not_true_eq_false, not_false_eq_true, if_true, if_false, Nat.one_ne_zero, rM_rM, c1, c2]
      · rw [← th_rM r]
        simp (disch := omega) only [x8_isRock hn, in_1_9, zl_e, bd_y, if_n0, n0_eq, n1_eq, Bool.false_eq_true, not_true_eq_false, not_false_eq_true, if_true, if_false, Nat.one_ne_zero, rM_rM, c1, c2]
  · refine ⟨-1, μ, rM (sI μ 113 0 (nI 0)) 114 σ, ?_, ?_, I.ref r⟩
    · simp (disch := omega) only [x7_isRock n.n hn, within_n, zl_e, bd_y, if_n0, n0_eq, n1_eq, Bool.false_eq_true, not_true_eq_false, not_false_eq_true, if_true, if_false, Nat.one_ne_zero, rM_rM, c1]
    · rw [← th_rM r]
      simp (disch := omega) only [x8_isRock hn, in_1_9, zl_e, bd_y, if_n0, n0_eq, n1_eq, Bool.false_eq_true, not_true_eq_false, not_false_eq_true, if_true, if_false, Nat.one_ne_zero, rM_rM, c1]

theorem o_heard : ok_heard II := by
  intro a1 a2 μ I
  obtain ⟨⟨σ, h, r, w, z, m, n, s, l, g⟩, -⟩ := id I
  have hn := w.n
  unfold f_X7_heard f_X8_heard
  by_cases c1 : br a1 (σ 0) = true
  · by_cases c2 : br a2 (σ 0) = true
    · obtain ⟨p, hp, hp2, rfl⟩ := br_t' c1
      obtain ⟨q, hq, hq2, rfl⟩ := br_t' c2
      refine ⟨nI (a_hb σ p q), μ, rM (sI μ 113 0 (nI 0)) 114 σ, ?_, ?_, I.ref r⟩
      · simp (disch := omega) only [x7_isRock n.n hn, zl_e, bd_y, if_n0, n0_eq, n1_eq, Bool.false_eq_true, not_true_eq_false, not_false_eq_true, if_true, if_false, Nat.one_ne_zero, rM_rM, c1, c2, n2_colourOf n w hp hq]
      · rw [← th_rM r]
        simp (disch := omega) only [x8_isRock hn, zl_e, bd_y, if_n0, n0_eq, n1_eq, Bool.false_eq_true, not_true_eq_false, not_false_eq_true, if_true, if_false, Nat.one_ne_zero, rM_rM, c1, c2, e8_heardBy (show p < 9 by omega) (show q < 9 by omega)]
    · refine ⟨-1, μ, rM (sI μ 113 0 (nI 0)) 114 σ, ?_, ?_, I.ref r⟩
      · simp (disch := omega) only [x7_isRock n.n hn, zl_e, bd_y, if_n0, n0_eq, n1_eq, Bool.false_eq_true, not_true_eq_false, not_false_eq_true, if_true, if_false, Nat.one_ne_zero, rM_rM, c1, c2]
      · rw [← th_rM r]
        simp (disch := omega) only [x8_isRock hn, zl_e, bd_y, if_n0, n0_eq, n1_eq, Bool.false_eq_true, not_true_eq_false, not_false_eq_true, if_true, if_false, Nat.one_ne_zero, rM_rM, c1, c2]
  · refine ⟨-1, μ, rM (sI μ 113 0 (nI 0)) 114 σ, ?_, ?_, I.ref r⟩
    · simp (disch := omega) only [x7_isRock n.n hn, zl_e, bd_y, if_n0, n0_eq, n1_eq, Bool.false_eq_true, not_true_eq_false, not_false_eq_true, if_true, if_false, Nat.one_ne_zero, rM_rM, c1]
    · rw [← th_rM r]
      simp (disch := omega) only [x8_isRock hn, zl_e, bd_y, if_n0, n0_eq, n1_eq, Bool.false_eq_true, not_true_eq_false, not_false_eq_true, if_true, if_false, Nat.one_ne_zero, rM_rM, c1]

theorem o_counts : ok_counts II := by
  intro a1 a2 μ I
  obtain ⟨⟨σ, h, r, w, z, m, n, s, l, g⟩, -⟩ := id I
  have hn := w.n
  unfold f_X7_counts f_X8_counts
  by_cases c1 : br a1 (σ 0) = true
  · by_cases c2 : bw a2 0 2 = true
    · obtain ⟨p, hp, hp2, rfl⟩ := br_t' c1
      obtain ⟨q, hq, hq2, hq3, rfl⟩ := bw_t c2
      refine ⟨nI (a_cb σ p q (σ 0)), μ, rM (sI μ 113 0 (nI 0)) 114 σ, ?_, ?_, I.ref r⟩
      · simp (disch := omega) only [x7_isRock n.n hn, within_n, zl_e, bd_y, if_n0, n0_eq, n1_eq, Bool.false_eq_true, not_true_eq_false, not_false_eq_true, if_true, if_false, Nat.one_ne_zero, rM_rM, c1, c2, n2_counted n w hp hq2]
      · rw [← th_rM r]
        simp (disch := omega) only [x8_isRock hn, in_0_2, zl_e, bd_y, if_n0, n0_eq, n1_eq, Bool.false_eq_true, not_true_eq_false, not_false_eq_true, if_true, if_false, Nat.one_ne_zero, rM_rM, c1, c2, e8_countBy w (show p < 9 by omega) hq2]
    · refine ⟨-1, μ, rM (sI μ 113 0 (nI 0)) 114 σ, ?_, ?_, I.ref r⟩
      · simp (disch := omega) only [x7_isRock n.n hn, within_n, zl_e, bd_y, if_n0, n0_eq, n1_eq, Bool.false_eq_true, not_true_eq_false, not_false_eq_true, if_true, if_false, Nat.one_ne_zero, rM_rM, c1, c2]
      · rw [← th_rM r]
        simp (disch := omega) only [x8_isRock hn, in_0_2, zl_e, bd_y, if_n0, n0_eq, n1_eq, Bool.false_eq_true, not_true_eq_false, not_false_eq_true, if_true, if_false, Nat.one_ne_zero, rM_rM, c1, c2]
  · refine ⟨-1, μ, rM (sI μ 113 0 (nI 0)) 114 σ, ?_, ?_, I.ref r⟩
    · simp (disch := omega) only [x7_isRock n.n hn, within_n, zl_e, bd_y, if_n0, n0_eq, n1_eq, Bool.false_eq_true, not_true_eq_false, not_false_eq_true, if_true, if_false, Nat.one_ne_zero, rM_rM, c1]
    · rw [← th_rM r]
      simp (disch := omega) only [x8_isRock hn, in_0_2, zl_e, bd_y, if_n0, n0_eq, n1_eq, Bool.false_eq_true, not_true_eq_false, not_false_eq_true, if_true, if_false, Nat.one_ne_zero, rM_rM, c1]

theorem o_due : ok_due II := by
  intro a1 a2 a3 μ I
  obtain ⟨⟨σ, h, r, w, z, m, n, s, l, g⟩, -⟩ := id I
  have hn := w.n
  unfold f_X7_due f_X7_isPair f_X8_due
  by_cases c1 : br a1 (σ 0) = true
  · by_cases c2 : br a2 (σ 0) = true
    · by_cases c3 : a1 = a2
      · refine ⟨-1, μ, rM (sI μ 113 0 (nI 0)) 114 σ, ?_, ?_, I.ref r⟩
        · simp (disch := omega) only [x7_isRock n.n hn, within_n, zl_e, bd_y, if_n0, n0_eq, n1_eq, Bool.false_eq_true, not_true_eq_false, not_false_eq_true, if_true, if_false, Nat.one_ne_zero, rM_rM, c1, c2, c3, eq_self]
        · rw [← th_rM r]
          simp (disch := omega) only [x8_isRock hn, in_0_18, zl_e, bd_y, if_n0, n0_eq, n1_eq, Bool.false_eq_true, not_true_eq_false, not_false_eq_true, if_true, if_false, Nat.one_ne_zero, rM_rM, c1, c2, c3, eq_self]
      · by_cases c4 : bw a3 0 18 = true
        · obtain ⟨p, hp, hp2, rfl⟩ := br_t' c1
          obtain ⟨q, hq, hq2, rfl⟩ := br_t' c2
          obtain ⟨v, hv, hv2, hv3, rfl⟩ := bw_t c4
          have hne : p ≠ q := fun e => c3 (by rw [e])
          have wt := n2_waiting (t := p) (f := q) (s := v) n w (by omega) (by omega) (by omega)
          have hd := w.du (show q < 9 by omega) (show p < 9 by omega) (Nat.mod_lt (σ 1 + v) (show 19 > 0 by decide))
          have hm := w.m
          refine ⟨nI (if σ (222 + 19 * (9 * q + p) + (σ 1 + v) % 19) = 0 then 2 else σ (222 + 19 * (9 * q + p) + (σ 1 + v) % 19) - 1), μ, rM (sI μ 113 0 (nI 0)) 114 σ, ?_, ?_, I.ref r⟩
          · simp (disch := omega) only [x7_isRock n.n hn, within_n, zl_e, bd_y, if_n0, n0_eq, n1_eq, Bool.false_eq_true, not_true_eq_false, not_false_eq_true, if_true, if_false, Nat.one_ne_zero, rM_rM, c1, c2, c3, c4, wt]
          · rw [← th_rM r]
            simp (disch := omega) only [x8_isRock hn, in_0_18, zl_e, bd_y, if_n0, n0_eq, n1_eq, Bool.false_eq_true, not_true_eq_false, not_false_eq_true, if_true, if_false, Nat.one_ne_zero, rM_rM, c1, c2, c3, c4, nI_add, pk_mul, nI_clamp, nI_eqE, nI_leE, nI_ltE, nI_eq0, nI_le0, nI_lt0, nI_ge0, nI_gt0, pk_rem, pk_sub, inb_t, gd_y, zl_e, bd_y, isB_n0, isB_n1, n0_eq, n1_eq, if_n0, if_n1, isB_if, not_true_eq_false, not_false_eq_true, ite_true, ite_false, Nat.le_refl, Nat.lt_irrefl, rM_r, rM_k, rM_w, rM_c, rM_2, rd_s, rd_j, rd_k, sI_sI]
            by_cases e : σ (222 + 19 * (9 * q + p) + (σ 1 + v) % 19) = 0
            · simp only [e, if_true]
            · rw [if_neg e, if_neg e]
        · refine ⟨-1, μ, rM (sI μ 113 0 (nI 0)) 114 σ, ?_, ?_, I.ref r⟩
          · simp (disch := omega) only [x7_isRock n.n hn, within_n, zl_e, bd_y, if_n0, n0_eq, n1_eq, Bool.false_eq_true, not_true_eq_false, not_false_eq_true, if_true, if_false, Nat.one_ne_zero, rM_rM, c1, c2, c3, c4]
          · rw [← th_rM r]
            simp (disch := omega) only [x8_isRock hn, in_0_18, zl_e, bd_y, if_n0, n0_eq, n1_eq, Bool.false_eq_true, not_true_eq_false, not_false_eq_true, if_true, if_false, Nat.one_ne_zero, rM_rM, c1, c2, c3, c4]
    · refine ⟨-1, μ, rM (sI μ 113 0 (nI 0)) 114 σ, ?_, ?_, I.ref r⟩
      · simp (disch := omega) only [x7_isRock n.n hn, within_n, zl_e, bd_y, if_n0, n0_eq, n1_eq, Bool.false_eq_true, not_true_eq_false, not_false_eq_true, if_true, if_false, Nat.one_ne_zero, rM_rM, c1, c2]
      · rw [← th_rM r]
        simp (disch := omega) only [x8_isRock hn, in_0_18, zl_e, bd_y, if_n0, n0_eq, n1_eq, Bool.false_eq_true, not_true_eq_false, not_false_eq_true, if_true, if_false, Nat.one_ne_zero, rM_rM, c1, c2]
  · refine ⟨-1, μ, rM (sI μ 113 0 (nI 0)) 114 σ, ?_, ?_, I.ref r⟩
    · simp (disch := omega) only [x7_isRock n.n hn, within_n, zl_e, bd_y, if_n0, n0_eq, n1_eq, Bool.false_eq_true, not_true_eq_false, not_false_eq_true, if_true, if_false, Nat.one_ne_zero, rM_rM, c1]
    · rw [← th_rM r]
      simp (disch := omega) only [x8_isRock hn, in_0_18, zl_e, bd_y, if_n0, n0_eq, n1_eq, Bool.false_eq_true, not_true_eq_false, not_false_eq_true, if_true, if_false, Nat.one_ne_zero, rM_rM, c1]
