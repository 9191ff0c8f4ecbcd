/-! PURE PART: trials, call by call -/
def FT (μ x : Mem) : Prop := x.2 = μ.2 ∧ ∀ k, (k < 65 ∨ 93 ≤ k) → x.1 k = μ.1 k
theorem FT.r {μ : Mem} : FT μ μ := ⟨rfl, fun _ _ => rfl⟩
theorem FT.t {μ μ1 μ2 : Mem} (h : FT μ μ1) (g : FT μ1 μ2) : FT μ μ2 := ⟨g.1.trans h.1, fun k hk => (g.2 k hk).trans (h.2 k hk)⟩
theorem FT.w {k j : Nat} {μ : Mem} {v : Int32} (h1 : 65 ≤ k) (h2 : k < 93) : FT μ (sI μ k j v) := ⟨rfl, fun k' hk => rd_k (by omega)⟩
theorem FT.fb {μ x : Mem} (f : FB 66 μ x) : FT μ x := ⟨f.1, fun k hk => f.2 k (by omega)⟩
theorem FT.fl {μ x : Mem} (f : FL 88 5 μ x) : FT μ x := ⟨f.1, fun k hk => f.2 k (by omega)⟩
theorem FX.ft {μ x : Mem} (f : FT μ x) : FX μ x := ⟨fun k hk => Or.inr (Or.inr (f.2 k (by omega))), by rw [f.2 93 (by omega)], fun j _ => by rw [f.2 113 (by omega)], fun k _ => by rw [f.1]⟩
/-- the class's state, as trials take it -/
def NW (μ : Mem) (σ : St) (h k1 : Nat) : Prop := WF σ ∧ ZR σ ∧ σ 1 ≤ 999 ∧ NN μ 2 σ h 9 ∧ isB (μ.1 2 6) = true ∧ NL μ k1 σ
theorem NW.ft {μ x : Mem} {σ : St} {h : Nat} (a : NW μ σ h 24) (f : FT μ x) : NW x σ h 24 := by
  obtain ⟨w, z, m, n, s, l⟩ := a
  exact ⟨w, z, m, n.mem w.n (fun k h1 h2 => f.2 k (by omega)), by rw [f.2 2 (by omega)]; exact s, l.mem (fun k h1 h2 => f.2 k (by omega))⟩
theorem NW.fb {μ x : Mem} {σ : St} {h : Nat} (a : NW μ σ h 88) (f : FB 66 μ x) : NW x σ h 88 := by
  obtain ⟨w, z, m, n, s, l⟩ := a
  exact ⟨w, z, m, n.mem w.n (fun k h1 h2 => f.2 k (by omega)), by rw [f.2 2 (by omega)]; exact s, l.mem (fun k h1 h2 => f.2 k (by omega))⟩
theorem NW.fb' {μ x : Mem} {σ : St} {h k1 : Nat} (hk : k1 = 24 ∨ k1 = 88) (a : NW μ σ h k1) (f : FB 66 μ x) : NW x σ h k1 := by
  obtain ⟨w, z, m, n, s, l⟩ := a
  exact ⟨w, z, m, n.mem w.n (fun k h1 h2 => f.2 k (by omega)), by rw [f.2 2 (by omega)]; exact s, l.mem (fun k h1 h2 => f.2 k (by omega))⟩
theorem n6_dn {μ : Mem} {σ : St} {h k1 : Nat} (a : NW μ σ h k1) (hk : k1 = 24 ∨ k1 = 88) : ∃ x x', f_X6_begin (nI 0) μ = some x ∧ f_X6_until k1 (nI 0) (nI 0) x = some (nI (a_un (a_dn (fun _ => false)) 9 61 0 σ), x') ∧ FB 66 μ x' := by
  obtain ⟨w, z, m, n, s, l⟩ := a
  obtain ⟨x, g1, g2, g3, g4⟩ := n6_begin (x := nI 0) n w s
  rw [a_lr_z] at g2
  obtain ⟨x', u1, u2⟩ := n6_until (k1 := k1) (a2 := nI 0) (a3 := nI 0) (p := a_dn (fun _ => false)) GP_dn g2 w z (by omega) (l.fb g3 (by omega)) (by omega) (fun μ' h' τ c w' _ _ => by rw [at_done c w', bt_z]) (fun e => absurd e (by rw [nI_eqE (by omega) (by omega)]; omega))
  exact ⟨x, x', g1, u1, g3.t u2⟩
theorem n6_unl {μ : Mem} {σ : St} {h k1 : Nat} {v : Int32} (a : NW μ σ h k1) (hk : k1 = 24 ∨ k1 = 88) : ∃ x x', f_X6_begin v μ = some x ∧ f_X6_until k1 (nI 1) (nI 0) x = some (nI (a_un a_ul 9 61 0 (a_lr v σ (σ 0))), x') ∧ FB 66 μ x' := by
  obtain ⟨w, z, m, n, s, l⟩ := a
  have hn := w.n
  obtain ⟨x, g1, g2, g3, g4⟩ := n6_begin (x := v) n w s
  have lr : NL x k1 (a_lr v σ (σ 0)) := (l.fb g3 (by omega)).st w.ru (a_lr_n (by omega)) (fun j h1 h2 => a_lr_n (by omega))
  obtain ⟨x', u1, u2⟩ := n6_until (k1 := k1) (a2 := nI 1) (a3 := nI 0) (p := a_ul) GP_ul g2 (a_lr_w w hn) (a_lr_ZR z hn) (by rw [a_lr_n (by omega)]; omega) lr (by omega) (fun μ' h' τ c w' _ _ => at_ul c w') (fun _ => rfl)
  exact ⟨x, x', g1, u1, g3.t u2⟩
/-! frames of the reference's trials -/
def FZ (μ y : Mem) : Prop := y.2 = μ.2 ∧ (∀ k, k ≠ 113 → k ≠ 115 → k ≠ 116 → k ≠ 123 → y.1 k = μ.1 k) ∧ (∀ j, j ≠ 0 → j ≠ 17 → j ≠ 18 → y.1 113 j = μ.1 113 j)
theorem FZ.r {μ : Mem} : FZ μ μ := ⟨rfl, fun _ _ _ _ _ => rfl, fun _ _ _ _ => rfl⟩
theorem FZ.t {μ μ1 μ2 : Mem} (f : FZ μ μ1) (g : FZ μ1 μ2) : FZ μ μ2 := ⟨g.1.trans f.1, fun k a b c d => (g.2.1 k a b c d).trans (f.2.1 k a b c d), fun j a b c => (g.2.2 j a b c).trans (f.2.2 j a b c)⟩
theorem FZ.w {μ : Mem} {j : Nat} {v : Int32} (hj : j = 0 ∨ j = 17 ∨ j = 18) : FZ μ (sI μ 113 j v) := ⟨rfl, fun k a b c d => rd_k a, fun i a b c => rd_j (by omega)⟩
theorem FZ.rm {μ : Mem} {τ : St} {k : Nat} (hk : k = 115 ∨ k = 116) : FZ μ (rM μ k τ) := ⟨rfl, fun q a b c d => rM_k (by omega), fun j a b c => by rw [rM_k (by omega)]⟩
theorem FZ.k {μ : Mem} {k j : Nat} {v : Int32} (hk : k = 115 ∨ k = 116 ∨ k = 123) : FZ μ (sI μ k j v) := ⟨rfl, fun q a b c d => rd_k (by omega), fun j a b c => by rw [rd_k (by omega)]⟩
theorem FZ.rx {μ : Mem} {v : Int32} {τ : St} : FZ μ (rM (sI μ 113 18 v) 116 τ) := (FZ.w (by omega)).t (FZ.rm (by omega))
theorem FZ.rr {μ y : Mem} {σ : St} (f : FZ μ y) (r : RR μ 114 σ) : RR y 114 σ := fun j hj => by rw [f.2.1 114 (by omega) (by omega) (by omega) (by omega)]; exact r j hj
theorem FZ.l {μ y : Mem} {lot : Bool} (f : FZ μ y) (h : L16 μ lot) : L16 y lot := by
  unfold L16
  rw [f.2.2 16 (by omega) (by omega) (by omega)]
  exact h
theorem FX.fz {μ y : Mem} (f : FZ μ y) (h17 : y.1 113 17 = μ.1 113 17) : FX μ y := by
  refine ⟨fun k hk => Or.inr (Or.inr (f.2.1 k (by omega) (by omega) (by omega) (by omega))), by rw [f.2.1 93 (by omega) (by omega) (by omega) (by omega)], fun j hj => ?_, fun k _ => by rw [f.1]⟩
  by_cases e : j = 17
  · rw [e]; exact h17
  · exact f.2.2 j (by omega) e (by omega)
theorem D17.ft {μ x : Mem} {d : Nat} (h : D17 μ d) (e : x.1 113 17 = μ.1 113 17) : D17 x d := by
  unfold D17
  rw [e]
  exact h
theorem L16.ft {μ x : Mem} {lot : Bool} (h : L16 μ lot) (f : FT μ x) : L16 x lot := by
  unfold L16
  rw [f.2 113 (by omega)]
  exact h
theorem rx17 {μ : Mem} {c : Int32} {τ : St} : (rM (sI μ 113 18 c) 116 τ).1 113 17 = μ.1 113 17 := by rw [rM_k (by omega), rd_j (by omega)]
theorem o_behind : ok_behind II := by
  intro a1 a2 a3 μ I
  obtain ⟨⟨σ, h, r, w, z, m, n, s, l, g⟩, -, -, -, hL, hD⟩ := id I
  have hn := w.n
  unfold f_X7_behind f_X8_behind
  by_cases c1 : br a1 (σ 0) = true
  · by_cases c2 : bw a2 0 60 = true
    · by_cases c3 : bw a3 0 1 = true
      · obtain ⟨q, hq, hq2, rfl⟩ := br_t' c1
        obtain ⟨k, _, hk, _, rfl⟩ := bw_t c2
        obtain ⟨v, _, hv, _, rfl⟩ := bw_t c3
        obtain ⟨x, τ, h', p1, p2, p3, p4, p5⟩ := n6_run (k1 := 24) (n := k) n w z s (by omega) l (by omega) hk
        have ft := FT.fb p5
        have t0 : τ 0 = σ 0 := by rw [p3 0 (by omega)]; exact (a_it_1 w (by omega) k (by omega)).2.2
        have rx : RR (sI x 113 0 (nI 0)) 114 σ := fun j hj => by rw [rd_k (by omega), ft.2 114 (by omega)]; exact r j hj
        have lx : L16 (sI x 113 0 (nI 0)) false := (hL.ft ft).t (by omega)
        have dx : D17 (sI x 113 0 (nI 0)) 9 := (hD.ft (by rw [ft.2 113 (by omega)])).t (by omega)
        obtain ⟨c, tr⟩ := e8_tries (n := k) rx (by omega) w (by omega) lx dx hk
        have fz : FX μ (rM (sI (sI x 113 0 (nI 0)) 113 18 c) 116 (a_it 9 σ k)) := (FX.ft ft).t (FX.th.t (FX.rx (by omega)))
        have b7 : f_X8_isRock (nI q) (sI x 113 0 (nI 0)) = some (nI (if br (nI q) (σ 0) = true then 1 else 0), sI x 113 0 (nI 0)) := by
          have := x8_isRock (μ := sI x 113 0 (nI 0)) (a := nI q) hn
          rw [rM_o rx] at this
          exact this
        have lt : f_X6_later (nI k) μ = some (66, x) := by unfold f_X6_later; rw [p1, bd_y]
        rcases (show v = 0 ∨ v = 1 by omega) with rfl | rfl
        · refine ⟨nI (a_it 9 σ k (6 + 6 * q + 2)), x, rM (sI (sI x 113 0 (nI 0)) 113 18 c) 116 (a_it 9 σ k), ?_, ?_, I.fx fz⟩
          · have sh : x.1 68 q = nI (a_it 9 σ k (6 + 6 * q + 2)) := by
              rw [← p3 _ (by omega)]
              exact p2.2.1.2.1 q (by rw [t0]; exact hq)
            simp (disch := omega) only [x7_isRock n.n hn, within_n, zl_e, bd_y, if_n0, n0_eq, n1_eq, Bool.false_eq_true, not_true_eq_false, not_false_eq_true, if_true, if_false, Nat.one_ne_zero, rM_rM, c1, c2, c3, lt, decide_true, gd_y, inb_t, nI_clamp, sh]
          · simp (disch := omega) only [b7, in_0_60, in_0_1, zl_e, bd_y, if_n0, n0_eq, n1_eq, Bool.false_eq_true, not_true_eq_false, not_false_eq_true, if_true, if_false, Nat.one_ne_zero, rM_rM, c1, c2, c3, tr, f_X8_behind_66, nI_add, pk_mul, nI_clamp, nI_eqE, nI_leE, nI_ltE, nI_eq0, nI_le0, nI_lt0, nI_ge0, nI_gt0, pk_rem, pk_sub, inb_t, gd_y, zl_e, bd_y, isB_n0, isB_n1, n0_eq, n1_eq, if_n0, if_n1, isB_if, not_true_eq_false, not_false_eq_true, ite_true, ite_false, Nat.le_refl, Nat.lt_irrefl, rM_r, rM_k, rM_w, rM_c, rM_2, rd_s, rd_j, rd_k, sI_sI]
        · refine ⟨nI (a_it 9 σ k (6 + 6 * q + 1)), x, rM (sI (sI x 113 0 (nI 0)) 113 18 c) 116 (a_it 9 σ k), ?_, ?_, I.fx fz⟩
          · have bl := n2_believed (r := q) p2 p4 (by rw [t0]; exact hq)
            rw [p3 _ (by omega)] at bl
            simp (disch := omega) only [x7_isRock n.n hn, within_n, zl_e, bd_y, if_n0, n0_eq, n1_eq, Bool.false_eq_true, not_true_eq_false, not_false_eq_true, if_true, if_false, Nat.one_ne_zero, rM_rM, c1, c2, c3, lt, decide_true, gd_y, bl]
          · simp (disch := omega) only [b7, in_0_60, in_0_1, zl_e, bd_y, if_n0, n0_eq, n1_eq, Bool.false_eq_true, not_true_eq_false, not_false_eq_true, if_true, if_false, Nat.one_ne_zero, rM_rM, c1, c2, c3, tr, f_X8_behind_66, nI_add, pk_mul, nI_clamp, nI_eqE, nI_leE, nI_ltE, nI_eq0, nI_le0, nI_lt0, nI_ge0, nI_gt0, pk_rem, pk_sub, inb_t, gd_y, zl_e, bd_y, isB_n0, isB_n1, n0_eq, n1_eq, if_n0, if_n1, isB_if, not_true_eq_false, not_false_eq_true, ite_true, ite_false, Nat.le_refl, Nat.lt_irrefl, rM_r, rM_k, rM_w, rM_c, rM_2, rd_s, rd_j, rd_k, sI_sI]
      · refine ⟨-1, μ, rM (sI μ 113 0 (nI 0)) 114 σ, ?_, ?_, I.ref r⟩
        · simp (disch := omega) only [x7_isRock n.n hn, within_n, zl_e, bd_y, if_n0, n0_eq, n1_eq, Bool.false_eq_true, not_true_eq_false, not_false_eq_true, if_true, if_false, Nat.one_ne_zero, rM_rM, c1, c2, c3]
        · rw [← th_rM r]
          simp (disch := omega) only [x8_isRock hn, in_0_60, in_0_1, zl_e, bd_y, if_n0, n0_eq, n1_eq, Bool.false_eq_true, not_true_eq_false, not_false_eq_true, if_true, if_false, Nat.one_ne_zero, rM_rM, c1, c2, c3]
    · refine ⟨-1, μ, rM (sI μ 113 0 (nI 0)) 114 σ, ?_, ?_, I.ref r⟩
      · simp (disch := omega) only [x7_isRock n.n hn, within_n, zl_e, bd_y, if_n0, n0_eq, n1_eq, Bool.false_eq_true, not_true_eq_false, not_false_eq_true, if_true, if_false, Nat.one_ne_zero, rM_rM, c1, c2]
      · rw [← th_rM r]
        simp (disch := omega) only [x8_isRock hn, in_0_60, zl_e, bd_y, if_n0, n0_eq, n1_eq, Bool.false_eq_true, not_true_eq_false, not_false_eq_true, if_true, if_false, Nat.one_ne_zero, rM_rM, c1, c2]
  · refine ⟨-1, μ, rM (sI μ 113 0 (nI 0)) 114 σ, ?_, ?_, I.ref r⟩
    · simp (disch := omega) only [x7_isRock n.n hn, zl_e, bd_y, if_n0, n0_eq, n1_eq, Bool.false_eq_true, not_true_eq_false, not_false_eq_true, if_true, if_false, Nat.one_ne_zero, rM_rM, c1]
    · rw [← th_rM r]
      simp (disch := omega) only [x8_isRock hn, zl_e, bd_y, if_n0, n0_eq, n1_eq, Bool.false_eq_true, not_true_eq_false, not_false_eq_true, if_true, if_false, Nat.one_ne_zero, rM_rM, c1]
theorem when33 {a : Int32} {v : Nat} {μ : Mem} (hv : v ≤ 61) : f_X7_when_33 a (nI v) μ = some (if v = 61 then -4 else nI v, μ) := by
  unfold f_X7_when_33
  simp (disch := omega) only [nI_eqE]
  split <;> rfl
theorem o_when : ok_when II := by
  intro a1 μ I
  obtain ⟨⟨σ, h, r, w, z, m, n, s, l, g⟩, -, -, -, hL, hD⟩ := id I
  have hn := w.n
  have nw : NW μ σ h 24 := ⟨w, z, m, n, s, l⟩
  unfold f_X7_when f_X8_when
  by_cases c1 : bw a1 0 1 = true
  · obtain ⟨v, _, hv, _, rfl⟩ := bw_t c1
    rcases (show v = 0 ∨ v = 1 by omega) with rfl | rfl
    · obtain ⟨x0, x, p1, p2, p5⟩ := n6_dn nw (by omega)
      have ft := FT.fb p5
      have rx : RR (sI x 113 0 (nI 0)) 114 σ := fun j hj => by rw [rd_k (by omega), ft.2 114 (by omega)]; exact r j hj
      have lx : L16 (sI x 113 0 (nI 0)) false := (hL.ft ft).t (by omega)
      have dx : D17 (sI x 113 0 (nI 0)) 9 := (hD.ft (by rw [ft.2 113 (by omega)])).t (by omega)
      obtain ⟨c, τ, tr⟩ := e8_doneBy (y := -1) (but := fun _ => false) rx (by omega) w (by omega) lx dx (fun r hr => dn_ref hr)
      have fz : FX μ (rM (sI (sI x 113 0 (nI 0)) 113 18 c) 116 τ) := (FX.ft ft).t (FX.th.t (FX.rx (by omega)))
      have le := a_un_le (p := a_dn (fun _ => false)) (d := 9) 61 0 σ (by omega)
      refine ⟨if a_un (a_dn (fun _ => false)) 9 61 0 σ = 61 then -4 else nI (a_un (a_dn (fun _ => false)) 9 61 0 σ), x, rM (sI (sI x 113 0 (nI 0)) 113 18 c) 116 τ, ?_, ?_, I.fx fz⟩
      · simp (disch := omega) only [within_n, zl_e, bd_y, if_n0, n0_eq, n1_eq, Bool.false_eq_true, not_true_eq_false, not_false_eq_true, if_true, if_false, Nat.one_ne_zero, rM_rM, c1, f_X6_doneFromNow, p1, p2, when33 le]
      · simp (disch := omega) only [in_0_1, zl_e, bd_y, if_n0, n0_eq, n1_eq, Bool.false_eq_true, not_true_eq_false, not_false_eq_true, if_true, if_false, Nat.one_ne_zero, rM_rM, c1, tr, nI_eqE]
        split <;> rfl
    · obtain ⟨x0, x, p1, p2, p5⟩ := n6_unl (v := nI 0) nw (by omega)
      rw [a_lr_z] at p2
      have ft := FT.fb p5
      have rx : RR (sI x 113 0 (nI 0)) 114 σ := fun j hj => by rw [rd_k (by omega), ft.2 114 (by omega)]; exact r j hj
      have lx : L16 (sI x 113 0 (nI 0)) false := (hL.ft ft).t (by omega)
      have dx : D17 (sI x 113 0 (nI 0)) 9 := (hD.ft (by rw [ft.2 113 (by omega)])).t (by omega)
      obtain ⟨c, τ, tr⟩ := e8_whenU (y := nI 1) rx w (by omega) lx dx
      have fz : FX μ (rM (sI (sI x 113 0 (nI 0)) 113 18 c) 116 τ) := (FX.ft ft).t (FX.th.t (FX.rx (by omega)))
      have le := a_un_le (p := a_ul) (d := 9) 61 0 σ (by omega)
      refine ⟨if a_un a_ul 9 61 0 σ = 61 then -4 else nI (a_un a_ul 9 61 0 σ), x, rM (sI (sI x 113 0 (nI 0)) 113 18 c) 116 τ, ?_, ?_, I.fx fz⟩
      · simp (disch := omega) only [within_n, zl_e, bd_y, if_n0, n0_eq, n1_eq, Bool.false_eq_true, not_true_eq_false, not_false_eq_true, if_true, if_false, Nat.one_ne_zero, rM_rM, c1, f_X6_unlikeWith, p1, p2, when33 le]
      · simp (disch := omega) only [in_0_1, zl_e, n0_eq, n1_eq, if_n0, if_true, if_false, not_true_eq_false, c1, Nat.one_ne_zero]
        rw [bd_y]
        simp only [n1_eq, if_false]
        exact tr
  · refine ⟨-1, μ, rM (sI μ 113 0 (nI 0)) 114 σ, ?_, ?_, I.ref r⟩
    · simp (disch := omega) only [within_n, zl_e, bd_y, if_n0, n0_eq, n1_eq, Bool.false_eq_true, not_true_eq_false, not_false_eq_true, if_true, if_false, Nat.one_ne_zero, rM_rM, c1]
    · rw [← th_rM r]
      simp (disch := omega) only [in_0_1, zl_e, bd_y, if_n0, n0_eq, n1_eq, Bool.false_eq_true, not_true_eq_false, not_false_eq_true, if_true, if_false, Nat.one_ne_zero, rM_rM, c1]
theorem o_holds : ok_holds II := by
  intro a1 μ I
  obtain ⟨⟨σ, h, r, w, z, m, n, s, l, g⟩, -, -, -, hL, hD⟩ := id I
  have hn := w.n
  have nw : NW μ σ h 24 := ⟨w, z, m, n, s, l⟩
  unfold f_X7_holds f_X8_holds
  by_cases c1 : bw a1 0 (2 ^ σ 0 - 1) = true
  · obtain ⟨x0, x, p1, p2, p5⟩ := n6_unl (v := a1) nw (by omega)
    have ft := FT.fb p5
    have rx : RR (sI x 113 0 (nI 0)) 114 σ := fun j hj => by rw [rd_k (by omega), ft.2 114 (by omega)]; exact r j hj
    have lx : L16 (sI x 113 0 (nI 0)) false := (hL.ft ft).t (by omega)
    have dx : D17 (sI x 113 0 (nI 0)) 9 := (hD.ft (by rw [ft.2 113 (by omega)])).t (by omega)
    obtain ⟨c, τ, tr⟩ := e8_holdsBy (x := a1) rx (by omega) w (by omega) lx dx
    have fz : FX μ (rM (sI (sI x 113 0 (nI 0)) 113 18 c) 116 τ) := (FX.ft ft).t (FX.th.t (FX.rx (by omega)))
    have le := a_un_le (p := a_ul) (d := 9) 61 0 (a_lr a1 σ (σ 0)) (by omega)
    refine ⟨nI (if a_un a_ul 9 61 0 (a_lr a1 σ (σ 0)) = 61 then 1 else 0), x, rM (sI (sI x 113 0 (nI 0)) 113 18 c) 116 τ, ?_, ?_, I.fx fz⟩
    · simp (disch := omega) only [x7_isSet n.n hn, zl_e, bd_y, if_n0, n0_eq, n1_eq, Bool.false_eq_true, not_true_eq_false, not_false_eq_true, if_true, if_false, Nat.one_ne_zero, rM_rM, c1, f_X6_unlikeWith, p1, p2, nI_eqE, f_X7_holds_28]
      by_cases e : a_un a_ul 9 61 0 (a_lr a1 σ (σ 0)) = 61
      · simp only [e, if_true]
        unfold f_X7_asNumber
        simp only [n1_eq, if_false, bd_y]
      · simp only [e, if_false]
        unfold f_X7_asNumber
        simp only [n0_eq, if_true, bd_y]
    · have x0' : (sI x 113 0 (nI 0)).1 114 0 = nI (σ 0) := rx 0 (by omega)
      simp (disch := omega) only [nI_add, pk_mul, nI_clamp, nI_eqE, nI_leE, nI_ltE, nI_eq0, nI_le0, nI_lt0, nI_ge0, nI_gt0, pk_rem, inb_t, gd_y, zl_e, bd_y, isB_n0, isB_n1, n0_eq, n1_eq, if_n0, if_n1, isB_if, not_true_eq_false, not_false_eq_true, ite_true, ite_false, Nat.le_refl, Nat.lt_irrefl, x0', in_s, zl_e, bd_y, if_n0, n0_eq, n1_eq, Bool.false_eq_true, not_true_eq_false, not_false_eq_true, if_true, if_false, Nat.one_ne_zero, rM_rM, c1, tr, if_num]
  · refine ⟨-1, μ, rM (sI μ 113 0 (nI 0)) 114 σ, ?_, ?_, I.ref r⟩
    · simp (disch := omega) only [x7_isSet n.n hn, zl_e, bd_y, if_n0, n0_eq, n1_eq, Bool.false_eq_true, not_true_eq_false, not_false_eq_true, if_true, if_false, Nat.one_ne_zero, rM_rM, c1]
    · rw [← th_rM r]
      simp (disch := omega) only [nI_add, pk_mul, nI_clamp, nI_eqE, nI_leE, nI_ltE, nI_eq0, nI_le0, nI_lt0, nI_ge0, nI_gt0, pk_rem, inb_t, gd_y, zl_e, bd_y, isB_n0, isB_n1, n0_eq, n1_eq, if_n0, if_n1, isB_if, not_true_eq_false, not_false_eq_true, ite_true, ite_false, Nat.le_refl, Nat.lt_irrefl, rM_r, rM_k, rM_w, rM_c, rM_2, rd_s, rd_j, rd_k, sI_sI, in_s, zl_e, bd_y, if_n0, n0_eq, n1_eq, Bool.false_eq_true, not_true_eq_false, not_false_eq_true, if_true, if_false, Nat.one_ne_zero, rM_rM, c1]
