/-! PURE PART: the darkest, the worst, who is borne, the least -/
def bst_p (s : Option (Nat × Nat)) (code v : Nat) : Option (Nat × Nat) := match s with
  | none => some (code, v)
  | some (c, m) => if m < v then some (code, v) else some (c, m)
def bst_i (s : Option (Nat × Nat)) : Int32 := match s with
  | none => -4
  | some (c, _) => nI c
def bst_m (s : Option (Nat × Nat)) : Int32 := match s with
  | none => -1
  | some (_, m) => nI m
def bst_b (s : Option (Nat × Nat)) : Prop := ∀ c m, s = some (c, m) → c ≤ 100 ∧ m ≤ 61
theorem kp_B {s : Option (Nat × Nat)} {code v : Nat} (h : bst_b s) (hc : code ≤ 100) (hv : v ≤ 61) : bst_b (bst_p s code v) := by
  intro c m e
  unfold bst_p at e
  split at e
  · cases e; exact ⟨hc, hv⟩
  · rename_i c' m'
    split at e
    · cases e; exact ⟨hc, hv⟩
    · cases e; exact h c m rfl
theorem kM_le {s : Option (Nat × Nat)} {code v : Nat} (h : bst_b s) (hv : v ≤ 61) : (nI v ≤ bst_m s) = ¬ (bst_p s code v = some (code, v) ∧ (∀ c m, s = some (c, m) → m < v)) := by
  cases s with
  | none =>
    have : ¬ nI v ≤ (-1 : Int32) := by
      rw [Int32.le_iff_toInt_le, nI_toInt (by omega), show (-1 : Int32).toInt = -1 by decide]
      omega
    show (nI v ≤ (-1 : Int32)) = _
    rw [eq_false this]
    symm
    apply eq_false
    intro q
    exact q ⟨rfl, fun c m e => by cases e⟩
  | some p =>
    obtain ⟨c, m⟩ := p
    have hb := h c m rfl
    show (nI v ≤ nI m) = _
    rw [nI_leE (by omega) (by omega)]
    apply propext
    constructor
    · intro q z
      have := z.2 c m rfl
      omega
    · intro q
      by_cases z : m < v
      · exact absurd ⟨by unfold bst_p; simp [z], fun c' m' e => by cases e; exact z⟩ q
      · omega
theorem kp_no {s : Option (Nat × Nat)} {code v : Nat} (h : bst_b s) (hv : v ≤ 61) (q : nI v ≤ bst_m s) : bst_p s code v = s := by
  cases s with
  | none =>
    have : ¬ nI v ≤ (-1 : Int32) := by
      rw [Int32.le_iff_toInt_le, nI_toInt (by omega), show (-1 : Int32).toInt = -1 by decide]
      omega
    exact absurd q this
  | some p =>
    obtain ⟨c, m⟩ := p
    have hb := h c m rfl
    have q' : nI v ≤ nI m := q
    rw [nI_leE (by omega) (by omega)] at q'
    unfold bst_p
    simp [show ¬ m < v by omega]
theorem kp_yes {s : Option (Nat × Nat)} {code v : Nat} (h : bst_b s) (hv : v ≤ 61) (q : ¬ nI v ≤ bst_m s) : bst_p s code v = some (code, v) := by
  cases s with
  | none => rfl
  | some p =>
    obtain ⟨c, m⟩ := p
    have hb := h c m rfl
    have q' : ¬ nI v ≤ nI m := q
    rw [nI_leE (by omega) (by omega)] at q'
    unfold bst_p
    simp [show m < v by omega]
/-- the class's best so far -/
def BST (x : Mem) (s : Option (Nat × Nat)) : Prop := x.1 65 7 = bst_m s ∧ (s ≠ none → x.1 65 6 = bst_i s)
theorem BST.fb {x y : Mem} {s : Option (Nat × Nat)} (k : BST x s) (f : FB 66 x y) : BST y s := by
  unfold BST
  rw [f.2 65 (by omega)]
  exact k
theorem n6_keep {x : Mem} {s : Option (Nat × Nat)} {code v : Nat} (k : BST x s) (h : bst_b s) (hv : v ≤ 61) : ∃ y, f_X6_keepIfLater (nI code) (nI v) x = some y ∧ BST y (bst_p s code v) ∧ FT x y := by
  unfold f_X6_keepIfLater
  rw [k.1]
  by_cases q : nI v ≤ bst_m s
  · rw [if_pos q, kp_no h hv q]
    exact ⟨x, rfl, k, FT.r⟩
  · rw [if_neg q, kp_yes h hv q, zl_e, zl_e]
    exact ⟨_, rfl, ⟨rd_s, fun _ => by rw [rd_j (by omega), rd_s]; rfl⟩, (FT.w (by omega) (by omega)).t (FT.w (by omega) (by omega))⟩
/-! darkest -/
def a_dv (σ : St) (r : Nat) : Nat := a_un (a_dn (fun f => decide (f = r))) r 61 0 σ
def a_ds (σ : St) : Nat → Option (Nat × Nat)
  | 0 => none
  | i + 1 => bst_p (a_ds σ i) i (a_dv σ i)
theorem a_dv_le {σ : St} {r : Nat} : a_dv σ r ≤ 61 := a_un_le 61 0 σ (by omega)
theorem a_ds_B {σ : St} : ∀ i, i ≤ 9 → bst_b (a_ds σ i) := by
  intro i
  induction i with
  | zero => intro _ c m e; cases e
  | succ i ih => intro hi; exact kp_B (ih (by omega)) (by omega) a_dv_le
theorem NN.black {μ : Mem} {b h r : Nat} {σ : St} (c : NN μ b σ h 9) (hn : σ 0 ≤ 9) (hr : r < 9) : NN (sI μ b 5 (nI 1 <<< (nI r &&& 31))) b σ h r := by
  obtain ⟨⟨c0, c1, c2, c3, c4, c5, c6⟩, cA, cH, cR⟩ := c
  refine ⟨⟨?_, ?_, ?_, ?_, ?_, c5, fun q hq => ?_⟩, cA.mem hn (fun k h1 h2 => rd_k (by omega)), cH.mem (fun k h1 h2 => rd_k (by omega)), cR.mem (fun k h1 h2 => rd_k (by omega))⟩
  · rw [rd_j (by omega)]; exact c0
  · rw [rd_j (by omega)]; exact c1
  · rw [rd_j (by omega)]; exact c2
  · rw [rd_j (by omega)]; exact c3
  · rw [rd_j (by omega)]; exact c4
  · rw [rd_s, bt_1 (by omega)]
theorem bt_1f {r : Nat} (hr : r < 32) : bt (nI 1 <<< (nI r &&& 31)) = fun f => decide (f = r) := funext (fun f => bt_1 hr f)
theorem n6_dark {μ : Mem} {σ : St} {h r : Nat} (a : NW μ σ h 24) (hr : r < 9) : ∃ x x', f_X6_begin (nI 0) μ = some x ∧ f_X6_until 24 (nI 0) (nI 1 <<< (nI r &&& 31)) (sI x 66 5 (nI 1 <<< (nI r &&& 31))) = some (nI (a_dv σ r), x') ∧ FB 66 μ x' := by
  obtain ⟨w, z, m, n, s, l⟩ := a
  obtain ⟨x, g1, g2, g3, g4⟩ := n6_begin (x := nI 0) n w s
  rw [a_lr_z] at g2
  have g5 : FB 66 μ (sI x 66 5 (nI 1 <<< (nI r &&& 31))) := g3.t (FB.w (by omega) (by omega))
  obtain ⟨x', u1, u2⟩ := n6_until (k1 := 24) (a2 := nI 0) (a3 := nI 1 <<< (nI r &&& 31)) (p := a_dn (fun f => decide (f = r))) GP_dn (g2.black w.n hr) w z (by omega) (l.fb g5 (by omega)) (by omega) (fun μ' h' τ c w' _ _ => by rw [at_done c w', bt_1f (by omega)]) (fun e => absurd e (by rw [nI_eqE (by omega) (by omega)]; omega))
  exact ⟨x, x', g1, u1, g5.t u2⟩
theorem x7_findDarkest {μ : Mem} {σ : St} {h : Nat} (a : NW μ σ h 24) : ∃ x, f_X6_findDarkest μ = some x ∧ BST x (a_ds σ (σ 0)) ∧ FT μ x := by
  have hn := a.1.n
  unfold f_X6_findDarkest
  rw [zl_e]
  have L := lp_rel (fun n i (x : Mem) => f_X6_findDarkest_7 n (nI i) x) (fun i x => BST x (a_ds σ i) ∧ FT μ x) (σ 0) (fun x => BST x (a_ds σ (σ 0)) ∧ FT μ x) ?_ ?_ zfu 0 (sI μ 65 7 (-1)) (by omega) (by unfold zfu; omega) ⟨⟨rd_s, fun q => absurd rfl q⟩, FT.w (by omega) (by omega)⟩
  · obtain ⟨x, g1, g2, g3⟩ := L
    exact ⟨x, g1, g2, g3⟩
  · intro n x ⟨g1, g2⟩
    have nx := a.ft g2
    refine ⟨x, ?_, g1, g2⟩
    simp (disch := omega) only [f_X6_findDarkest_7, nI_add, pk_mul, nI_clamp, nI_eqE, nI_leE, nI_ltE, nI_eq0, nI_le0, nI_lt0, nI_ge0, nI_gt0, pk_rem, pk_sub, inb_t, gd_y, zl_e, bd_y, isB_n0, isB_n1, n0_eq, n1_eq, if_n0, if_n1, isB_if, not_true_eq_false, not_false_eq_true, ite_true, ite_false, Nat.le_refl, Nat.lt_irrefl, nx.2.2.2.1.n]
  · intro n i x hi ⟨g1, g2⟩
    left
    have nx := a.ft g2
    have qe : ¬ σ 0 ≤ i := by omega
    obtain ⟨y0, y, p1, p2, p3⟩ := n6_dark (r := i) nx (by omega)
    obtain ⟨y2, q1, q2, q3⟩ := n6_keep (code := i) (v := a_dv σ i) (g1.fb p3) (a_ds_B i (by omega)) a_dv_le
    refine ⟨y2, ⟨q2, g2.t ((FT.fb p3).t q3)⟩, ?_⟩
    simp (disch := omega) only [f_X6_findDarkest_7, nI_add, pk_mul, nI_clamp, nI_eqE, nI_leE, nI_ltE, nI_eq0, nI_le0, nI_lt0, nI_ge0, nI_gt0, pk_rem, pk_sub, inb_t, gd_y, zl_e, bd_y, isB_n0, isB_n1, n0_eq, n1_eq, if_n0, if_n1, isB_if, not_true_eq_false, not_false_eq_true, ite_true, ite_false, Nat.le_refl, Nat.lt_irrefl, nx.2.2.2.1.n, qe, p1, p2, q1]
theorem e8_darkest {μ : Mem} {σ : St} {a1 : Int32} (r : RR μ 114 σ) (w : WF σ) (m : σ 1 ≤ 999) (hL : L16 μ false) : ∃ y, f_X8_darkest_25 a1 (fun x2 x3 μ => f_X8_darkest_86 a1 x2 x3 μ) zfu (-4) (-1) (nI 0) μ = f_X8_darkest_86 a1 (bst_i (a_ds σ (σ 0))) (bst_m (a_ds σ (σ 0))) y ∧ FZ μ y := by
  have hn := w.n
  have L : ∀ f i y, i ≤ σ 0 → σ 0 - i < f → FZ μ y → ∃ y', f_X8_darkest_25 a1 (fun x2 x3 μ => f_X8_darkest_86 a1 x2 x3 μ) f (bst_i (a_ds σ i)) (bst_m (a_ds σ i)) (nI i) y = f_X8_darkest_86 a1 (bst_i (a_ds σ (σ 0))) (bst_m (a_ds σ (σ 0))) y' ∧ FZ μ y' := by
    intro f
    induction f with
    | zero => intro i y _ h; omega
    | succ f ih =>
      intro i y hi hf fz
      have r0 : y.1 114 0 = nI (σ 0) := fz.rr r 0 (by omega)
      by_cases e : i = σ 0
      · subst e
        refine ⟨y, ?_, fz⟩
        simp (disch := omega) only [f_X8_darkest_25, nI_add, pk_mul, nI_clamp, nI_eqE, nI_leE, nI_ltE, nI_eq0, nI_le0, nI_lt0, nI_ge0, nI_gt0, pk_rem, pk_sub, inb_t, gd_y, zl_e, bd_y, isB_n0, isB_n1, n0_eq, n1_eq, if_n0, if_n1, isB_if, not_true_eq_false, not_false_eq_true, ite_true, ite_false, Nat.le_refl, Nat.lt_irrefl, r0]
      · have qe : ¬ σ 0 ≤ i := by omega
        have f1 : FZ μ (sI y 113 17 (nI i)) := fz.t (FZ.w (by omega))
        have dd : D17 (sI y 113 17 (nI i)) i := by
          unfold D17
          rw [rd_s, if_pos (by omega)]
        obtain ⟨c, τ, db⟩ := e8_doneBy (y := nI i) (but := fun f => decide (f = i)) (f1.rr r) (by omega) w (by omega) (f1.l hL) dd (fun q hq => by rw [nI_eqE (by omega) (by omega), decide_eq_true_eq])
        obtain ⟨y', g1, g2⟩ := ih (i + 1) (rM (sI (sI y 113 17 (nI i)) 113 18 c) 116 τ) (by omega) (by omega) (f1.t FZ.rx)
        refine ⟨y', ?_, g2⟩
        rw [← g1]
        have kb := a_ds_B (σ := σ) i (by omega)
        have vl := a_dv_le (σ := σ) (r := i)
        have un : a_ds σ (i + 1) = bst_p (a_ds σ i) i (a_dv σ i) := rfl
        have db' : f_X8_doneBy 114 (nI i) (sI y 113 17 (nI i)) = some (nI (a_dv σ i), rM (sI (sI y 113 17 (nI i)) 113 18 c) 116 τ) := db
        rw [un]
        simp (disch := omega) only [f_X8_darkest_25, f_X8_darkest_66, f_X8_darkest_79, nI_add, pk_mul, nI_clamp, nI_eqE, nI_leE, nI_ltE, nI_eq0, nI_le0, nI_lt0, nI_ge0, nI_gt0, pk_rem, pk_sub, inb_t, gd_y, zl_e, bd_y, isB_n0, isB_n1, n0_eq, n1_eq, if_n0, if_n1, isB_if, not_true_eq_false, not_false_eq_true, ite_true, ite_false, Nat.le_refl, Nat.lt_irrefl, r0, qe, db']
        by_cases q : nI (a_dv σ i) ≤ bst_m (a_ds σ i)
        · simp only [if_pos q, kp_no kb vl q]
        · simp only [if_neg q, kp_yes kb vl q]
          rfl
  exact L zfu 0 μ (by omega) (by unfold zfu; omega) FZ.r
theorem fin86 {a1 : Int32} {s : Option (Nat × Nat)} {y : Mem} (h : bst_b s) : f_X8_darkest_86 a1 (bst_i s) (bst_m s) y = some (if a1 = 0 ∨ s = none then bst_i s else bst_m s, sI y 113 17 (-1)) := by
  unfold f_X8_darkest_86 f_X8_darkest_101
  rw [zl_e]
  by_cases q : a1 = 0
  · rw [if_pos q, if_pos (Or.inl q)]
  · rw [if_neg q]
    cases s with
    | none => rw [if_pos (show bst_i none = -4 from rfl), if_pos (Or.inr rfl)]
    | some p =>
      obtain ⟨c, m⟩ := p
      have hb := h c m rfl
      have ne : ¬ bst_i (some (c, m)) = -4 := by
        show ¬ nI c = -4
        rw [nI_neM (by omega) (by decide)]
        exact id
      rw [if_neg ne, if_neg (by simp [q])]
theorem o_darkest : ok_darkest II := by
  intro a1 μ I
  obtain ⟨⟨σ, h, r, w, z, m, n, s, l, g⟩, -, -, -, hL, hD⟩ := id I
  have hn := w.n
  have nw : NW μ σ h 24 := ⟨w, z, m, n, s, l⟩
  unfold f_X7_darkest f_X8_darkest
  by_cases c1 : bw a1 0 1 = true
  · by_cases c2 : σ 0 = 0
    · obtain ⟨y, g1, g2⟩ := e8_darkest (a1 := a1) (μ := sI μ 113 0 (nI 0)) (σ := σ) (fun j hj => by rw [rd_k (by omega)]; exact r j hj) w m (hL.t (by omega))
      rw [c2] at g1
      refine ⟨-4, μ, sI y 113 17 (-1), ?_, ?_, ?_⟩
      · simp (disch := omega) only [within_n, zl_e, bd_y, if_n0, n0_eq, n1_eq, Bool.false_eq_true, not_true_eq_false, not_false_eq_true, if_true, if_false, Nat.one_ne_zero, rM_rM, c1, n.n, c2, nI_eq0]
      · simp (disch := omega) only [in_0_1, zl_e, bd_y, if_n0, n0_eq, n1_eq, Bool.false_eq_true, not_true_eq_false, not_false_eq_true, if_true, if_false, Nat.one_ne_zero, rM_rM, c1]
        rw [g1, fin86 (fun c m e => by cases e), if_pos (show a1 = 0 ∨ a_ds σ 0 = none from Or.inr rfl)]
        rfl
      · refine I.fx (FX.th.t ((FX.fz (g2.t (FZ.w (by omega))) ?_)))
        rw [rd_s, rd_j (by omega)]
        have := hD
        unfold D17 at this
        rw [this]
        rfl
    · obtain ⟨x, p1, p2, p3⟩ := x7_findDarkest nw
      obtain ⟨y, g1, g2⟩ := e8_darkest (a1 := a1) (μ := sI x 113 0 (nI 0)) (σ := σ) (fun j hj => by rw [rd_k (by omega), p3.2 114 (by omega)]; exact r j hj) w m ((hL.ft p3).t (by omega))
      have kb := a_ds_B (σ := σ) (σ 0) (by omega)
      have sn : a_ds σ (σ 0) ≠ none := by
        have : ∀ i, 0 < i → a_ds σ i ≠ none := by
          intro i hi
          cases i with
          | zero => omega
          | succ i =>
            show bst_p (a_ds σ i) i (a_dv σ i) ≠ none
            unfold bst_p
            split
            · intro q; cases q
            · split <;> (intro q; cases q)
        exact this _ (by omega)
      have k1 := p2.1
      have k2 := p2.2 sn
      refine ⟨if a1 = 0 then bst_i (a_ds σ (σ 0)) else bst_m (a_ds σ (σ 0)), x, sI y 113 17 (-1), ?_, ?_, ?_⟩
      · simp (disch := omega) only [within_n, zl_e, bd_y, if_n0, n0_eq, n1_eq, Bool.false_eq_true, not_true_eq_false, not_false_eq_true, if_true, if_false, Nat.one_ne_zero, rM_rM, c1, n.n, c2, nI_eq0, p1, k1, k2]
        split <;> rfl
      · simp (disch := omega) only [in_0_1, zl_e, bd_y, if_n0, n0_eq, n1_eq, Bool.false_eq_true, not_true_eq_false, not_false_eq_true, if_true, if_false, Nat.one_ne_zero, rM_rM, c1]
        rw [g1, fin86 kb]
        by_cases q : a1 = 0
        · simp only [q, true_or, if_true]
        · simp only [q, sn, or_self, if_false]
      · refine I.fx ((FX.ft p3).t (FX.th.t ((FX.fz (g2.t (FZ.w (by omega))) ?_))))
        rw [rd_s, rd_j (by omega), p3.2 113 (by omega)]
        have := hD
        unfold D17 at this
        rw [this]
        rfl
  · refine ⟨-1, μ, rM (sI μ 113 0 (nI 0)) 114 σ, ?_, ?_, I.ref r⟩
    · simp (disch := omega) only [within_n, zl_e, bd_y, if_n0, n0_eq, n1_eq, Bool.false_eq_true, not_true_eq_false, not_false_eq_true, if_true, if_false, Nat.one_ne_zero, rM_rM, c1]
    · rw [← th_rM r]
      simp (disch := omega) only [in_0_1, zl_e, bd_y, if_n0, n0_eq, n1_eq, Bool.false_eq_true, not_true_eq_false, not_false_eq_true, if_true, if_false, Nat.one_ne_zero, rM_rM, c1]
