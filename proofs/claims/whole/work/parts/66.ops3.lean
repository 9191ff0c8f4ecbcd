/-! PURE PART: minutes -/
theorem II.fin2 {μ μ1 μ2 : Mem} {σ : St} {h : Nat} (a : II μ) (f : FS μ μ2) (e : ∀ k, k < 113 → μ2.1 k = μ1.1 k) (r : RR μ2 114 σ) (w : WF σ) (z : ZR σ) (m : σ 1 ≤ 999) (n : NN μ1 2 σ h 9) (s : isB (μ1.1 2 6) = true) (l : NL μ1 24 σ) (g : NG μ1 29 σ) : II μ2 :=
  a.fs (σ := σ) (h := h) f ⟨r, w, z, m, n.mem w.n (fun k h1 h2 => e k (by omega)), by rw [e 2 (by omega)]; exact s, l.mem (fun k h1 h2 => e k (by omega)), g.mem (fun k h1 h2 => e k (by omega))⟩
/-- n minutes: the state, and what was sent -/
def a_n (lot : Bool) (σ : St) : Nat → St × Nat
  | 0 => (σ, 0)
  | i + 1 => (a_go lot 9 (a_n lot σ i).1, (a_n lot σ i).2 + (a_act lot 9 (a_n lot σ i).1).2)
theorem a_n_w {lot : Bool} {σ : St} (w : WF σ) (z : ZR σ) (m : σ 1 ≤ 999) : ∀ i, i ≤ 60 → WF (a_n lot σ i).1 ∧ ZR (a_n lot σ i).1 ∧ (a_n lot σ i).1 1 = σ 1 + i ∧ (∀ j, j ≠ 1 → j ≠ 2 → KA j → (j < 141 ∨ 1761 ≤ j) → (a_n lot σ i).1 j = σ j) := by
  intro i
  induction i with
  | zero => intro _; exact ⟨w, z, rfl, fun _ _ _ _ _ => rfl⟩
  | succ i ih =>
    intro hi
    obtain ⟨g1, g2, g3, g4⟩ := ih (by omega)
    refine ⟨a_go_w g1 (by omega), a_go_z g2 g1.n, ?_, fun j h1 h2 h3 h4 => ?_⟩
    · show a_go lot 9 (a_n lot σ i).1 1 = _
      rw [a_go_1 g1.n, g3]
      omega
    · show a_go lot 9 (a_n lot σ i).1 j = _
      rw [a_go_n g1.n h1 h2 h3 h4, g4 j h1 h2 h3 h4]
theorem x7_gone {μ : Mem} {lot : Bool} {σ : St} {h k : Nat} (w : WF σ) (z : ZR σ) (m : σ 1 ≤ 999) (n : NN μ 2 σ h 9) (s : isB (μ.1 2 6) = true) (l : NL μ 24 σ) (hk : k ≤ 60) : ∃ μ1 h', f_X7_passMinutes_38 (nI k) (nI (if lot = true then 1 else 0)) zfu (nI 0) (nI 0) μ = some (nI (a_n lot σ k).2, μ1) ∧ NN μ1 2 (a_n lot σ k).1 h' 9 ∧ FB 2 μ μ1 ∧ isB (μ1.1 2 6) = true := by
  have L := lp_rel (fun f i (x : Int32 × Mem) => f_X7_passMinutes_38 (nI k) (nI (if lot = true then 1 else 0)) f x.1 (nI i) x.2) (fun i x => x.1 = nI (a_n lot σ i).2 ∧ (∃ h', NN x.2 2 (a_n lot σ i).1 h' 9) ∧ FB 2 μ x.2 ∧ isB (x.2.1 2 6) = true) k (fun x => x.1 = nI (a_n lot σ k).2 ∧ (∃ h', NN x.2 2 (a_n lot σ k).1 h' 9) ∧ FB 2 μ x.2 ∧ isB (x.2.1 2 6) = true) ?_ ?_ zfu 0 (nI 0, μ) (by omega) (by unfold zfu; omega) ⟨rfl, ⟨h, n⟩, FB.r, s⟩
  · obtain ⟨x, g1, g2, ⟨h', g3⟩, g4, g5⟩ := L
    exact ⟨x.2, h', by rw [← g2]; exact g1, g3, g4, g5⟩
  · intro f x g
    refine ⟨x, ?_, g⟩
    simp (disch := omega) only [f_X7_passMinutes_38, nI_add, pk_mul, nI_clamp, nI_eqE, nI_leE, nI_ltE, nI_eq0, nI_le0, nI_lt0, nI_ge0, nI_gt0, pk_rem, pk_sub, inb_t, gd_y, zl_e, bd_y, isB_n0, isB_n1, n0_eq, n1_eq, if_n0, if_n1, isB_if, not_true_eq_false, not_false_eq_true, ite_true, ite_false, Nat.le_refl, Nat.lt_irrefl]
  · intro f i x hi ⟨g2, ⟨h', g3⟩, g4, g5⟩
    left
    obtain ⟨x1, x2⟩ := x
    simp only at *
    subst g2
    obtain ⟨w1, z1, m1, k1⟩ := a_n_w (lot := lot) w z m i (by omega)
    have li : NL x2 24 (a_n lot σ i).1 := (l.fb g4 (by omega)).st w.ru (k1 3 (by omega) (by omega) KA3 (by omega)) (fun j h1 h2 => k1 j (by omega) (by omega) (by unfold KA; omega) (by omega))
    obtain ⟨x3, p1, p2, p3, p4⟩ := n2_pass (lot := lot) g3 w1 z1 (by omega) li (by omega)
    have qe : ¬ k ≤ i := by omega
    refine ⟨(nI ((a_n lot σ i).2 + (a_act lot 9 (a_n lot σ i).1).2), x3), ⟨rfl, ⟨_, p2⟩, g4.t p3, ?_⟩, ?_⟩
    · rcases p4 with p4 | ⟨p4, _⟩
      · rw [p4]; exact isB_n1
      · rw [p4]; exact isB_n0
    · simp (disch := omega) only [f_X7_passMinutes_38, nI_add, pk_mul, nI_clamp, nI_eqE, nI_leE, nI_ltE, nI_eq0, nI_le0, nI_lt0, nI_ge0, nI_gt0, pk_rem, pk_sub, inb_t, gd_y, zl_e, bd_y, isB_n0, isB_n1, n0_eq, n1_eq, if_n0, if_n1, isB_if, not_true_eq_false, not_false_eq_true, ite_true, ite_false, Nat.le_refl, Nat.lt_irrefl, qe, p1]
theorem x8_gone {μ : Mem} {lot : Bool} {σ : St} {k : Nat} (w : WF σ) (z : ZR σ) (m : σ 1 ≤ 999) (hL : L16 μ lot) (hD : D17 μ 9) (hk : k ≤ 60) : ∃ c, f_X8_gone (nI k) (rM μ 114 σ) = some (nI (a_n lot σ k).2, rM (sI μ 113 18 c) 114 (a_n lot σ k).1) := by
  unfold f_X8_gone
  have L := lp_rel (fun f i (x : Int32 × Mem) => f_X8_gone_4 (nI k) f x.1 (nI i) x.2) (fun i x => x.1 = nI (a_n lot σ i).2 ∧ ∃ c, x.2 = rM (sI μ 113 18 c) 114 (a_n lot σ i).1) k (fun x => x.1 = nI (a_n lot σ k).2 ∧ ∃ c, x.2 = rM (sI μ 113 18 c) 114 (a_n lot σ k).1) ?_ ?_ zfu 0 (nI 0, rM μ 114 σ) (by omega) (by unfold zfu; omega) ⟨rfl, μ.1 113 18, congrArg (fun m => rM m 114 σ) (sI_id rfl).symm⟩
  · obtain ⟨x, g1, g2, c, g3⟩ := L
    exact ⟨c, by rw [← g2, ← g3]; exact g1⟩
  · intro f x g
    refine ⟨x, ?_, g⟩
    simp (disch := omega) only [f_X8_gone_4, nI_add, pk_mul, nI_clamp, nI_eqE, nI_leE, nI_ltE, nI_eq0, nI_le0, nI_lt0, nI_ge0, nI_gt0, pk_rem, pk_sub, inb_t, gd_y, zl_e, bd_y, isB_n0, isB_n1, n0_eq, n1_eq, if_n0, if_n1, isB_if, not_true_eq_false, not_false_eq_true, ite_true, ite_false, Nat.le_refl, Nat.lt_irrefl]
  · intro f i x hi ⟨g2, c, g3⟩
    left
    obtain ⟨x1, x2⟩ := x
    simp only at *
    subst g2
    subst g3
    obtain ⟨w1, z1, m1, k1⟩ := a_n_w (lot := lot) w z m i (by omega)
    have qe : ¬ k ≤ i := by omega
    have go := e8_goes (μ := sI μ 113 18 c) (k := 114) (d := 9) (lot := lot) (by omega) hL.s hD.s w1
    rw [sI_sI] at go
    refine ⟨(nI ((a_n lot σ i).2 + (a_act lot 9 (a_n lot σ i).1).2), rM (sI μ 113 18 (nI (a_act lot 9 (a_n lot σ i).1).2)) 114 (a_go lot 9 (a_n lot σ i).1)), ⟨rfl, _, rfl⟩, ?_⟩
    simp (disch := omega) only [f_X8_gone_4, nI_add, pk_mul, nI_clamp, nI_eqE, nI_leE, nI_ltE, nI_eq0, nI_le0, nI_lt0, nI_ge0, nI_gt0, pk_rem, pk_sub, inb_t, gd_y, zl_e, bd_y, isB_n0, isB_n1, n0_eq, n1_eq, if_n0, if_n1, isB_if, not_true_eq_false, not_false_eq_true, ite_true, ite_false, Nat.le_refl, Nat.lt_irrefl, qe, go, rM_r, rM_k, rM_w, rM_c, rM_2, rd_s, rd_j, rd_k, sI_sI]
theorem NL.n {μ : Mem} {k : Nat} {lot : Bool} {σ : St} (l : NL μ k σ) (w : WF σ) (z : ZR σ) (m : σ 1 ≤ 999) {i : Nat} (hi : i ≤ 60) : NL μ k (a_n lot σ i).1 :=
  l.st w.ru ((a_n_w w z m i hi).2.2.2 3 (by omega) (by omega) KA3 (by omega)) (fun j h1 h2 => (a_n_w w z m i hi).2.2.2 j (by omega) (by omega) (by unfold KA; omega) (by omega))
theorem NG.n {μ : Mem} {k : Nat} {lot : Bool} {σ : St} (g : NG μ k σ) (w : WF σ) (z : ZR σ) (m : σ 1 ≤ 999) {i : Nat} (hi : i ≤ 60) : NG μ k (a_n lot σ i).1 :=
  g.st w.lo ((a_n_w w z m i hi).2.2.2 4 (by omega) (by omega) (by unfold KA; omega) (by omega)) (fun j h1 h2 => (a_n_w w z m i hi).2.2.2 j (by omega) (by omega) (by unfold KA; omega) (by omega))
theorem D17.t {μ : Mem} {d j : Nat} {v : Int32} (h : D17 μ d) (hj : j ≠ 17) : D17 (sI μ 113 j v) d := by
  unfold D17
  rw [rd_j (by omega)]
  exact h
theorem L16.t {μ : Mem} {lot : Bool} {j : Nat} {v : Int32} (h : L16 μ lot) (hj : j ≠ 16) : L16 (sI μ 113 j v) lot := by
  unfold L16
  rw [rd_j (by omega)]
  exact h
theorem L16.fb {μ μ1 : Mem} {lot : Bool} (h : L16 μ lot) (f : FB 2 μ μ1) : L16 μ1 lot := by
  unfold L16
  rw [f.2 113 (by omega)]
  exact h
theorem D17.fb {μ μ1 : Mem} {d : Nat} (h : D17 μ d) (f : FB 2 μ μ1) : D17 μ1 d := by
  unfold D17
  rw [f.2 113 (by omega)]
  exact h
theorem o_minute : ok_minute II := by
  intro μ I
  obtain ⟨⟨σ, h, r, w, z, m, n, s, l, g⟩, -, -, -, hL, hD⟩ := id I
  have hn := w.n
  have m1 : μ.1 2 1 = nI (σ 1) := by rw [n.1.2.1, show min (σ 1) 999 = σ 1 by omega]
  unfold f_X7_minute f_X8_minute
  by_cases c1 : σ 1 < 999
  · obtain ⟨μ1, p1, p2, p3, p4⟩ := n2_pass (lot := false) n w z (by omega) l (by omega)
    simp only [Bool.false_eq_true, if_false] at p1
    have r1 : RR μ1 114 σ := fun j hj => by rw [p3.2 114 (by omega)]; exact r j hj
    have go := e8_goes (μ := sI μ1 113 0 (nI 0)) (k := 114) (d := 9) (lot := false) (by omega) ((hL.fb p3).t (by omega)) ((hD.fb p3).t (by omega)) w
    refine ⟨nI (a_act false 9 σ).2, μ1, rM (sI (sI μ1 113 0 (nI 0)) 113 18 (nI (a_act false 9 σ).2)) 114 (a_go false 9 σ), ?_, ?_, ?_⟩
    · simp (disch := omega) only [m1, nI_ltE, c1, zl_e, bd_y, if_n0, n0_eq, n1_eq, Bool.false_eq_true, not_true_eq_false, not_false_eq_true, if_true, if_false, Nat.one_ne_zero, rM_rM, p1]
    · rw [← th_rM r1]
      have ne : ¬ σ 1 = 999 := by omega
      simp (disch := omega) only [zl_e, bd_y, if_n0, n0_eq, n1_eq, Bool.false_eq_true, not_true_eq_false, not_false_eq_true, if_true, if_false, Nat.one_ne_zero, rM_rM, nI_add, pk_mul, nI_clamp, nI_eqE, nI_leE, nI_ltE, nI_eq0, nI_le0, nI_lt0, nI_ge0, nI_gt0, pk_rem, pk_sub, inb_t, gd_y, zl_e, bd_y, isB_n0, isB_n1, n0_eq, n1_eq, if_n0, if_n1, isB_if, not_true_eq_false, not_false_eq_true, ite_true, ite_false, Nat.le_refl, Nat.lt_irrefl, rM_r, rM_k, rM_w, rM_c, rM_2, rd_s, rd_j, rd_k, sI_sI, ne, go]
    · have f1 : FS μ (rM (sI (sI μ1 113 0 (nI 0)) 113 18 (nI (a_act false 9 σ).2)) 114 (a_go false 9 σ)) := (((FS.fb p3).t (FS.th (Or.inl rfl))).t (FS.th (Or.inr rfl))).t (FS.rm (Or.inl rfl))
      refine I.fin2 (μ1 := μ1) f1 (fun k hk => by rw [rM_k (by omega), rd_k (by omega), rd_k (by omega)]) rM_rr (a_go_w w (by omega)) (a_go_z z hn) (by rw [a_go_1 hn]; omega) p2 ?_ ?_ ?_
      · rcases p4 with p4 | ⟨p4, _⟩
        · rw [p4]; exact isB_n1
        · rw [p4]; exact isB_n0
      · exact (l.fb p3 (by omega)).st w.ru (a_go_n hn (by omega) (by omega) KA3 (by omega)) (fun j h1 h2 => a_go_n hn (by omega) (by omega) (by unfold KA; omega) (by omega))
      · exact (g.mem (fun k h1 h2 => p3.2 k (by omega))).st w.lo (a_go_n hn (by omega) (by omega) (by unfold KA; omega) (by omega)) (fun j h1 h2 => a_go_n hn (by omega) (by omega) (by unfold KA; omega) (by omega))
  · refine ⟨-3, μ, rM (sI μ 113 0 (nI 0)) 114 σ, ?_, ?_, I.ref r⟩
    · simp (disch := omega) only [m1, nI_ltE, c1, zl_e, bd_y, if_n0, n0_eq, n1_eq, Bool.false_eq_true, not_true_eq_false, not_false_eq_true, if_true, if_false, Nat.one_ne_zero, rM_rM]
    · rw [← th_rM r]
      simp (disch := omega) only [zl_e, bd_y, if_n0, n0_eq, n1_eq, Bool.false_eq_true, not_true_eq_false, not_false_eq_true, if_true, if_false, Nat.one_ne_zero, rM_rM, nI_add, pk_mul, nI_clamp, nI_eqE, nI_leE, nI_ltE, nI_eq0, nI_le0, nI_lt0, nI_ge0, nI_gt0, pk_rem, pk_sub, inb_t, gd_y, zl_e, bd_y, isB_n0, isB_n1, n0_eq, n1_eq, if_n0, if_n1, isB_if, not_true_eq_false, not_false_eq_true, ite_true, ite_false, Nat.le_refl, Nat.lt_irrefl, rM_r, rM_k, rM_w, rM_c, rM_2, rd_s, rd_j, rd_k, sI_sI, show σ 1 = 999 by omega]
theorem o_night : ok_night II := by
  intro a1 μ I
  obtain ⟨⟨σ, h, r, w, z, m, n, s, l, g⟩, -, -, -, hL, hD⟩ := id I
  have hn := w.n
  have m1 : μ.1 2 1 = nI (σ 1) := by rw [n.1.2.1, show min (σ 1) 999 = σ 1 by omega]
  unfold f_X7_night f_X7_passMinutes f_X8_night
  by_cases c1 : bw a1 1 60 = true
  · obtain ⟨k, hk1, hk, hk3, rfl⟩ := bw_t c1
    by_cases c2 : σ 1 + k ≤ 999
    · obtain ⟨μ1, h', p1, p2, p3, p4⟩ := x7_gone (lot := false) (k := k) w z m n s l hk
      simp only [Bool.false_eq_true, if_false] at p1
      have r1 : RR μ1 114 σ := fun j hj => by rw [p3.2 114 (by omega)]; exact r j hj
      obtain ⟨c, go⟩ := x8_gone (μ := sI μ1 113 0 (nI 0)) (lot := false) (k := k) w z m ((hL.fb p3).t (by omega)) ((hD.fb p3).t (by omega)) hk
      obtain ⟨w2, z2, m2, k2⟩ := a_n_w (lot := false) w z m k hk
      refine ⟨nI (a_n false σ k).2, μ1, rM (sI (sI μ1 113 0 (nI 0)) 113 18 c) 114 (a_n false σ k).1, ?_, ?_, ?_⟩
      · simp (disch := omega) only [within_n, m1, nI_add, nI_leE, c1, c2, zl_e, bd_y, if_n0, n0_eq, n1_eq, Bool.false_eq_true, not_true_eq_false, not_false_eq_true, if_true, if_false, Nat.one_ne_zero, rM_rM, p1]
      · rw [← th_rM r1]
        simp (disch := omega) only [in_1_60, zl_e, bd_y, if_n0, n0_eq, n1_eq, Bool.false_eq_true, not_true_eq_false, not_false_eq_true, if_true, if_false, Nat.one_ne_zero, rM_rM, c1, nI_add, pk_mul, nI_clamp, nI_eqE, nI_leE, nI_ltE, nI_eq0, nI_le0, nI_lt0, nI_ge0, nI_gt0, pk_rem, pk_sub, inb_t, gd_y, zl_e, bd_y, isB_n0, isB_n1, n0_eq, n1_eq, if_n0, if_n1, isB_if, not_true_eq_false, not_false_eq_true, ite_true, ite_false, Nat.le_refl, Nat.lt_irrefl, rM_r, rM_k, rM_w, rM_c, rM_2, rd_s, rd_j, rd_k, sI_sI, c2, go]
      · have f1 : FS μ (rM (sI (sI μ1 113 0 (nI 0)) 113 18 c) 114 (a_n false σ k).1) := (((FS.fb p3).t (FS.th (Or.inl rfl))).t (FS.th (Or.inr rfl))).t (FS.rm (Or.inl rfl))
        exact I.fin2 (μ1 := μ1) f1 (fun k hk => by rw [rM_k (by omega), rd_k (by omega), rd_k (by omega)]) rM_rr w2 z2 (by omega) p2 p4 ((l.fb p3 (by omega)).n w z m hk) ((g.mem (fun k h1 h2 => p3.2 k (by omega))).n w z m hk)
    · refine ⟨-3, μ, rM (sI μ 113 0 (nI 0)) 114 σ, ?_, ?_, I.ref r⟩
      · simp (disch := omega) only [within_n, m1, nI_add, nI_leE, c1, c2, zl_e, bd_y, if_n0, n0_eq, n1_eq, Bool.false_eq_true, not_true_eq_false, not_false_eq_true, if_true, if_false, Nat.one_ne_zero, rM_rM]
      · rw [← th_rM r]
        simp (disch := omega) only [in_1_60, zl_e, bd_y, if_n0, n0_eq, n1_eq, Bool.false_eq_true, not_true_eq_false, not_false_eq_true, if_true, if_false, Nat.one_ne_zero, rM_rM, c1, nI_add, pk_mul, nI_clamp, nI_eqE, nI_leE, nI_ltE, nI_eq0, nI_le0, nI_lt0, nI_ge0, nI_gt0, pk_rem, pk_sub, inb_t, gd_y, zl_e, bd_y, isB_n0, isB_n1, n0_eq, n1_eq, if_n0, if_n1, isB_if, not_true_eq_false, not_false_eq_true, ite_true, ite_false, Nat.le_refl, Nat.lt_irrefl, rM_r, rM_k, rM_w, rM_c, rM_2, rd_s, rd_j, rd_k, sI_sI, c2]
  · refine ⟨-1, μ, rM (sI μ 113 0 (nI 0)) 114 σ, ?_, ?_, I.ref r⟩
    · simp (disch := omega) only [within_n, c1, zl_e, bd_y, if_n0, n0_eq, n1_eq, Bool.false_eq_true, not_true_eq_false, not_false_eq_true, if_true, if_false, Nat.one_ne_zero, rM_rM]
    · rw [← th_rM r]
      simp (disch := omega) only [in_1_60, zl_e, bd_y, if_n0, n0_eq, n1_eq, Bool.false_eq_true, not_true_eq_false, not_false_eq_true, if_true, if_false, Nat.one_ne_zero, rM_rM, c1]
theorem o_lots : ok_lots II := by
  intro a1 μ I
  obtain ⟨⟨σ, h, r, w, z, m, n, s, l, g⟩, -, -, -, hL, hD⟩ := id I
  have hn := w.n
  have m1 : μ.1 2 1 = nI (σ 1) := by rw [n.1.2.1, show min (σ 1) 999 = σ 1 by omega]
  unfold f_X7_lots f_X7_passMinutes f_X8_lots
  by_cases c1 : bw a1 1 60 = true
  · obtain ⟨k, hk1, hk, hk3, rfl⟩ := bw_t c1
    by_cases c2 : σ 1 + k ≤ 999
    · obtain ⟨μ1, h', p1, p2, p3, p4⟩ := x7_gone (lot := true) (k := k) w z m n s l hk
      simp only [if_true] at p1
      have r1 : RR μ1 114 σ := fun j hj => by rw [p3.2 114 (by omega)]; exact r j hj
      obtain ⟨c, go⟩ := x8_gone (μ := sI (sI μ1 113 0 (nI 0)) 113 16 (nI 1)) (lot := true) (k := k) w z m (by unfold L16; rw [rd_s]; rfl) (((hD.fb p3).t (by omega)).t (by omega)) hk
      obtain ⟨w2, z2, m2, k2⟩ := a_n_w (lot := true) w z m k hk
      refine ⟨nI (a_n true σ k).2, μ1, rM (sI (sI (sI (sI μ1 113 0 (nI 0)) 113 16 (nI 1)) 113 18 c) 113 16 (nI 0)) 114 (a_n true σ k).1, ?_, ?_, ?_⟩
      · simp (disch := omega) only [within_n, m1, nI_add, nI_leE, c1, c2, zl_e, bd_y, if_n0, n0_eq, n1_eq, Bool.false_eq_true, not_true_eq_false, not_false_eq_true, if_true, if_false, Nat.one_ne_zero, rM_rM, p1]
      · rw [← th_rM r1]
        simp (disch := omega) only [in_1_60, zl_e, bd_y, if_n0, n0_eq, n1_eq, Bool.false_eq_true, not_true_eq_false, not_false_eq_true, if_true, if_false, Nat.one_ne_zero, rM_rM, c1, nI_add, pk_mul, nI_clamp, nI_eqE, nI_leE, nI_ltE, nI_eq0, nI_le0, nI_lt0, nI_ge0, nI_gt0, pk_rem, pk_sub, inb_t, gd_y, zl_e, bd_y, isB_n0, isB_n1, n0_eq, n1_eq, if_n0, if_n1, isB_if, not_true_eq_false, not_false_eq_true, ite_true, ite_false, Nat.le_refl, Nat.lt_irrefl, rM_r, rM_k, rM_w, rM_c, rM_2, rd_s, rd_j, rd_k, sI_sI, c2, go]
      · have f0 : FS μ μ1 := FS.fb p3
        have f1 : FS μ (rM (sI (sI (sI (sI μ1 113 0 (nI 0)) 113 16 (nI 1)) 113 18 c) 113 16 (nI 0)) 114 (a_n true σ k).1) := by
          refine ⟨fun q hq => ?_, fun j hj => ?_, f0.2.2⟩
          · rw [rM_k (by omega), rd_k (by omega), rd_k (by omega), rd_k (by omega), rd_k (by omega)]; exact f0.1 q hq
          · rw [rM_k (by omega)]
            rcases (show j = 16 ∨ j ≠ 16 by omega) with e | e
            · rw [e, rd_s]
              have := hL
              unfold L16 at this
              rw [this]
              rfl
            · rw [rd_j (by omega), rd_j (by omega), rd_j (by omega), rd_j (by omega)]; exact f0.2.1 j hj
        exact I.fin2 (μ1 := μ1) f1 (fun k hk => by rw [rM_k (by omega), rd_k (by omega), rd_k (by omega), rd_k (by omega), rd_k (by omega)]) rM_rr w2 z2 (by omega) p2 p4 ((l.fb p3 (by omega)).n w z m hk) ((g.mem (fun k h1 h2 => p3.2 k (by omega))).n w z m hk)
    · refine ⟨-3, μ, rM (sI μ 113 0 (nI 0)) 114 σ, ?_, ?_, I.ref r⟩
      · simp (disch := omega) only [within_n, m1, nI_add, nI_leE, c1, c2, zl_e, bd_y, if_n0, n0_eq, n1_eq, Bool.false_eq_true, not_true_eq_false, not_false_eq_true, if_true, if_false, Nat.one_ne_zero, rM_rM]
      · rw [← th_rM r]
        simp (disch := omega) only [in_1_60, zl_e, bd_y, if_n0, n0_eq, n1_eq, Bool.false_eq_true, not_true_eq_false, not_false_eq_true, if_true, if_false, Nat.one_ne_zero, rM_rM, c1, nI_add, pk_mul, nI_clamp, nI_eqE, nI_leE, nI_ltE, nI_eq0, nI_le0, nI_lt0, nI_ge0, nI_gt0, pk_rem, pk_sub, inb_t, gd_y, zl_e, bd_y, isB_n0, isB_n1, n0_eq, n1_eq, if_n0, if_n1, isB_if, not_true_eq_false, not_false_eq_true, ite_true, ite_false, Nat.le_refl, Nat.lt_irrefl, rM_r, rM_k, rM_w, rM_c, rM_2, rd_s, rd_j, rd_k, sI_sI, c2]
  · refine ⟨-1, μ, rM (sI μ 113 0 (nI 0)) 114 σ, ?_, ?_, I.ref r⟩
    · simp (disch := omega) only [within_n, c1, zl_e, bd_y, if_n0, n0_eq, n1_eq, Bool.false_eq_true, not_true_eq_false, not_false_eq_true, if_true, if_false, Nat.one_ne_zero, rM_rM]
    · rw [← th_rM r]
      simp (disch := omega) only [in_1_60, zl_e, bd_y, if_n0, n0_eq, n1_eq, Bool.false_eq_true, not_true_eq_false, not_false_eq_true, if_true, if_false, Nat.one_ne_zero, rM_rM, c1]
