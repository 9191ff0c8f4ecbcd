/-! PURE PART: the worst pair; who is borne; the least number -/
def a_wv (σ : St) (f t : Nat) : Nat := a_un (a_dn (fun _ => false)) 9 61 0 (nu σ (60 + 9 * f + t) 9)
theorem a_wv_le {σ : St} {f t : Nat} : a_wv σ f t ≤ 61 := a_un_le 61 0 _ (by omega)
def a_w1 (σ : St) (f : Nat) (s : Option (Nat × Nat)) : Nat → Option (Nat × Nat)
  | 0 => s
  | t + 1 => if f = t then a_w1 σ f s t else bst_p (a_w1 σ f s t) (10 * f + t) (a_wv σ f t)
def a_w2 (σ : St) : Nat → Option (Nat × Nat)
  | 0 => none
  | f + 1 => a_w1 σ f (a_w2 σ f) (σ 0)
theorem a_w1_B {σ : St} {f : Nat} {s : Option (Nat × Nat)} (h : bst_b s) (hf : f < 9) : ∀ t, t ≤ 9 → bst_b (a_w1 σ f s t) := by
  intro t
  induction t with
  | zero => intro _; exact h
  | succ t ih =>
    intro ht
    show bst_b (if f = t then a_w1 σ f s t else bst_p (a_w1 σ f s t) (10 * f + t) (a_wv σ f t))
    split
    · exact ih (by omega)
    · exact kp_B (ih (by omega)) (by omega) a_wv_le
theorem a_w2_B {σ : St} (hn : σ 0 ≤ 9) : ∀ f, f ≤ 9 → bst_b (a_w2 σ f) := by
  intro f
  induction f with
  | zero => intro _ c m e; cases e
  | succ f ih => intro hf; exact a_w1_B (ih (by omega)) (by omega) _ hn
theorem n6_wst {μ : Mem} {σ : St} {h f t : Nat} (a : NW μ σ h 24) (hf : f < σ 0) (ht : t < σ 0) : ∃ x x', f_X6_begin (nI 0) μ = some x ∧ f_X6_until 24 (nI 0) (nI 0) (sI x (73 + f) t (nI 9)) = some (nI (a_wv σ f t), x') ∧ FB 66 μ x' := by
  obtain ⟨w, z, m, n, s, l⟩ := a
  have hn := w.n
  obtain ⟨x, g1, g2, g3, g4⟩ := n6_begin (x := nI 0) n w s
  rw [a_lr_z] at g2
  have g5 : FB 66 μ (sI x (73 + f) t (nI 9)) := g3.t (FB.w (by omega) (by omega))
  have n2 : NN (sI x (73 + f) t (nI 9)) 66 (nu σ (60 + 9 * f + t) 9) _ 9 := g2.del hn hf ht
  obtain ⟨x', u1, u2⟩ := n6_until (k1 := 24) (a2 := nI 0) (a3 := nI 0) (p := a_dn (fun _ => false)) GP_dn n2 (w.up (by rw [bd_l (by omega) (by omega)]; omega)) (z.up (by omega) (by omega)) (by rw [nu_n (by omega)]; omega) ((l.fb g5 (by omega)).st w.ru (nu_n (by omega)) (fun j h1 h2 => nu_n (by omega))) (by omega) (fun μ' h' τ c w' _ _ => by rw [at_done c w', bt_z]) (fun e => absurd e (by rw [nI_eqE (by omega) (by omega)]; omega))
  exact ⟨x, x', g1, u1, g5.t u2⟩
theorem x7_findWorst {μ : Mem} {σ : St} {h : Nat} (a : NW μ σ h 24) : ∃ x, f_X6_findWorst μ = some x ∧ BST x (a_w2 σ (σ 0)) ∧ FT μ x := by
  have hn := a.1.n
  unfold f_X6_findWorst
  rw [zl_e]
  have inner : ∀ (kx : Int32 → Mem → Option Mem) (f : Nat), f < σ 0 → ∀ fu t x, t ≤ σ 0 → σ 0 - t < fu → BST x (a_w1 σ f (a_w2 σ f) t) → FT μ x → ∃ x', f_X6_findWorst_20 kx fu (nI f) (nI t) x = kx (nI f) x' ∧ BST x' (a_w1 σ f (a_w2 σ f) (σ 0)) ∧ FT μ x' := by
    intro kx f hf fu
    induction fu with
    | zero => intro t x _ h; omega
    | succ fu ih =>
      intro t x ht hfu bx fx
      have nx := a.ft fx
      by_cases e : t = σ 0
      · subst e
        refine ⟨x, ?_, bx, fx⟩
        simp (disch := omega) only [f_X6_findWorst_20, nI_add, pk_mul, nI_clamp, nI_eqE, nI_leE, nI_ltE, nI_eq0, nI_le0, nI_lt0, nI_ge0, nI_gt0, pk_rem, pk_sub, inb_t, gd_y, zl_e, bd_y, isB_n0, isB_n1, n0_eq, n1_eq, if_n0, if_n1, isB_if, not_true_eq_false, not_false_eq_true, ite_true, ite_false, Nat.le_refl, Nat.lt_irrefl, nx.2.2.2.1.n]
      · have qe : ¬ σ 0 ≤ t := by omega
        have un : a_w1 σ f (a_w2 σ f) (t + 1) = if f = t then a_w1 σ f (a_w2 σ f) t else bst_p (a_w1 σ f (a_w2 σ f) t) (10 * f + t) (a_wv σ f t) := rfl
        by_cases e2 : f = t
        · rw [if_pos e2] at un
          obtain ⟨x', g1, g2, g3⟩ := ih (t + 1) x (by omega) (by omega) (by rw [un]; exact bx) fx
          refine ⟨x', ?_, g2, g3⟩
          rw [← g1]
          subst e2
          simp (disch := omega) only [f_X6_findWorst_20, f_X6_findWorst_74, nI_add, pk_mul, nI_clamp, nI_eqE, nI_leE, nI_ltE, nI_eq0, nI_le0, nI_lt0, nI_ge0, nI_gt0, pk_rem, pk_sub, inb_t, gd_y, zl_e, bd_y, isB_n0, isB_n1, n0_eq, n1_eq, if_n0, if_n1, isB_if, not_true_eq_false, not_false_eq_true, ite_true, ite_false, Nat.le_refl, Nat.lt_irrefl, nx.2.2.2.1.n, qe]
        · rw [if_neg e2] at un
          obtain ⟨y0, y, p1, p2, p3⟩ := n6_wst (f := f) (t := t) nx hf (by omega)
          obtain ⟨y2, q1, q2, q3⟩ := n6_keep (code := 10 * f + t) (v := a_wv σ f t) (bx.fb p3) (a_w1_B (a_w2_B hn f (by omega)) (by omega) t (by omega)) a_wv_le
          obtain ⟨x', g1, g2, g3⟩ := ih (t + 1) y2 (by omega) (by omega) (by rw [un]; exact q2) (fx.t ((FT.fb p3).t q3))
          refine ⟨x', ?_, g2, g3⟩
          rw [← g1]
          simp (disch := omega) only [f_X6_findWorst_20, f_X6_findWorst_74, nI_add, pk_mul, nI_clamp, nI_eqE, nI_leE, nI_ltE, nI_eq0, nI_le0, nI_lt0, nI_ge0, nI_gt0, pk_rem, pk_sub, inb_t, gd_y, zl_e, bd_y, isB_n0, isB_n1, n0_eq, n1_eq, if_n0, if_n1, isB_if, not_true_eq_false, not_false_eq_true, ite_true, ite_false, Nat.le_refl, Nat.lt_irrefl, nx.2.2.2.1.n, qe, e2, p1, p2, q1]
  have outer : ∀ fu f x, f ≤ σ 0 → σ 0 - f < fu → BST x (a_w2 σ f) → FT μ x → ∃ x', f_X6_findWorst_7 fu (nI f) x = some x' ∧ BST x' (a_w2 σ (σ 0)) ∧ FT μ x' := by
    intro fu
    induction fu with
    | zero => intro f x _ h; omega
    | succ fu ih =>
      intro f x hf hfu bx fx
      have nx := a.ft fx
      by_cases e : f = σ 0
      · subst e
        refine ⟨x, ?_, bx, fx⟩
        simp (disch := omega) only [f_X6_findWorst_7, nI_add, pk_mul, nI_clamp, nI_eqE, nI_leE, nI_ltE, nI_eq0, nI_le0, nI_lt0, nI_ge0, nI_gt0, pk_rem, pk_sub, inb_t, gd_y, zl_e, bd_y, isB_n0, isB_n1, n0_eq, n1_eq, if_n0, if_n1, isB_if, not_true_eq_false, not_false_eq_true, ite_true, ite_false, Nat.le_refl, Nat.lt_irrefl, nx.2.2.2.1.n]
      · have qe : ¬ σ 0 ≤ f := by omega
        obtain ⟨x', g1, g2, g3⟩ := inner (fun x1 μ => f_X6_findWorst_80 (fun x1 μ => f_X6_findWorst_7 fu x1 μ) x1 μ) f (by omega) zfu 0 x (by omega) (by unfold zfu; omega) bx fx
        obtain ⟨x2, h1, h2, h3⟩ := ih (f + 1) x' (by omega) (by omega) g2 g3
        refine ⟨x2, ?_, h2, h3⟩
        simp (disch := omega) only [f_X6_findWorst_7, nI_add, pk_mul, nI_clamp, nI_eqE, nI_leE, nI_ltE, nI_eq0, nI_le0, nI_lt0, nI_ge0, nI_gt0, pk_rem, pk_sub, inb_t, gd_y, zl_e, bd_y, isB_n0, isB_n1, n0_eq, n1_eq, if_n0, if_n1, isB_if, not_true_eq_false, not_false_eq_true, ite_true, ite_false, Nat.le_refl, Nat.lt_irrefl, nx.2.2.2.1.n, qe]
        rw [g1, ← h1]
        simp only [f_X6_findWorst_80, nI_add]
  exact outer zfu 0 (sI μ 65 7 (-1)) (by omega) (by unfold zfu; omega) ⟨rd_s, fun q => absurd rfl q⟩ (FT.w (by omega) (by omega))
theorem e8_worst {μ : Mem} {σ : St} {a1 : Int32} (r : RR μ 114 σ) (w : WF σ) (m : σ 1 ≤ 999) (hL : L16 μ false) (hD : D17 μ 9) : ∃ y, f_X8_worst_25 a1 (fun x2 x3 μ => f_X8_worst_141 a1 x2 x3 μ) zfu (-4) (-1) (nI 0) μ = f_X8_worst_141 a1 (bst_i (a_w2 σ (σ 0))) (bst_m (a_w2 σ (σ 0))) y ∧ FZ μ y ∧ y.1 113 17 = μ.1 113 17 := by
  have hn := w.n
  have inner : ∀ (kx : Int32 → Int32 → Int32 → Mem → Option (Int32 × Mem)) (f : Nat), f < σ 0 → ∀ fu t y, t ≤ σ 0 → σ 0 - t < fu → FZ μ y → y.1 113 17 = μ.1 113 17 → ∃ y', f_X8_worst_39 a1 kx fu (bst_i (a_w1 σ f (a_w2 σ f) t)) (bst_m (a_w1 σ f (a_w2 σ f) t)) (nI f) (nI t) y = kx (bst_i (a_w1 σ f (a_w2 σ f) (σ 0))) (bst_m (a_w1 σ f (a_w2 σ f) (σ 0))) (nI f) y' ∧ FZ μ y' ∧ y'.1 113 17 = μ.1 113 17 := by
    intro kx f hf fu
    induction fu with
    | zero => intro t x _ h; omega
    | succ fu ih =>
      intro t y ht hfu fz y17
      have r0 : y.1 114 0 = nI (σ 0) := fz.rr r 0 (by omega)
      by_cases e : t = σ 0
      · subst e
        refine ⟨y, ?_, fz, y17⟩
        simp (disch := omega) only [f_X8_worst_39, nI_add, pk_mul, nI_clamp, nI_eqE, nI_leE, nI_ltE, nI_eq0, nI_le0, nI_lt0, nI_ge0, nI_gt0, pk_rem, pk_sub, inb_t, gd_y, zl_e, bd_y, isB_n0, isB_n1, n0_eq, n1_eq, if_n0, if_n1, isB_if, not_true_eq_false, not_false_eq_true, ite_true, ite_false, Nat.le_refl, Nat.lt_irrefl, r0]
      · have qe : ¬ σ 0 ≤ t := by omega
        have un : a_w1 σ f (a_w2 σ f) (t + 1) = if f = t then a_w1 σ f (a_w2 σ f) t else bst_p (a_w1 σ f (a_w2 σ f) t) (10 * f + t) (a_wv σ f t) := rfl
        by_cases e2 : f = t
        · rw [if_pos e2] at un
          obtain ⟨y', g1, g2, g3⟩ := ih (t + 1) y (by omega) (by omega) fz y17
          rw [un] at g1
          refine ⟨y', ?_, g2, g3⟩
          rw [← g1]
          subst e2
          simp (disch := omega) only [f_X8_worst_39, f_X8_worst_129, nI_add, pk_mul, nI_clamp, nI_eqE, nI_leE, nI_ltE, nI_eq0, nI_le0, nI_lt0, nI_ge0, nI_gt0, pk_rem, pk_sub, inb_t, gd_y, zl_e, bd_y, isB_n0, isB_n1, n0_eq, n1_eq, if_n0, if_n1, isB_if, not_true_eq_false, not_false_eq_true, ite_true, ite_false, Nat.le_refl, Nat.lt_irrefl, r0, qe]
        · rw [if_neg e2] at un
          have cp := e8_copies (fz.rr r) (k1 := 115) (by omega)
          have w' : WF (nu σ (60 + 9 * f + t) 9) := w.up (by rw [bd_l (by omega) (by omega)]; omega)
          have f1 : FZ μ (rM y 115 (nu σ (60 + 9 * f + t) 9)) := fz.t (FZ.rm (by omega))
          have y17' : (rM y 115 (nu σ (60 + 9 * f + t) 9)).1 113 17 = μ.1 113 17 := by rw [rM_k (by omega)]; exact y17
          obtain ⟨c, τ, db⟩ := e8_doneBy (k1 := 115) (μ := rM y 115 (nu σ (60 + 9 * f + t) 9)) (y := -1) (but := fun _ => false) rM_rr (by omega) w' (by rw [nu_n (by omega)]; omega) (f1.l hL) (hD.ft y17') (fun r hr => dn_ref hr)
          obtain ⟨y', g1, g2, g3⟩ := ih (t + 1) (rM (sI (rM y 115 (nu σ (60 + 9 * f + t) 9)) 113 18 c) 116 τ) (by omega) (by omega) (f1.t FZ.rx) (by rw [rx17]; exact y17')
          refine ⟨y', ?_, g2, g3⟩
          rw [← g1]
          have kb := a_w1_B (σ := σ) (a_w2_B hn f (by omega)) (show f < 9 by omega) t (by omega)
          have vl := a_wv_le (σ := σ) (f := f) (t := t)
          have db' : f_X8_doneBy 115 (-1) (rM y 115 (nu σ (60 + 9 * f + t) 9)) = some (nI (a_wv σ f t), rM (sI (rM y 115 (nu σ (60 + 9 * f + t) 9)) 113 18 c) 116 τ) := db
          rw [un]
          simp (disch := omega) only [f_X8_worst_39, f_X8_worst_115, f_X8_worst_128, f_X8_worst_129, nI_add, pk_mul, nI_clamp, nI_eqE, nI_leE, nI_ltE, nI_eq0, nI_le0, nI_lt0, nI_ge0, nI_gt0, pk_rem, pk_sub, inb_t, gd_y, zl_e, bd_y, isB_n0, isB_n1, n0_eq, n1_eq, if_n0, if_n1, isB_if, not_true_eq_false, not_false_eq_true, ite_true, ite_false, Nat.le_refl, Nat.lt_irrefl, r0, qe, e2, cp, rM_w, db']
          by_cases q : nI (a_wv σ f t) ≤ bst_m (a_w1 σ f (a_w2 σ f) t)
          · simp only [if_pos q, kp_no kb vl q]
          · simp only [if_neg q, kp_yes kb vl q]
            rfl
  have outer : ∀ fu f y, f ≤ σ 0 → σ 0 - f < fu → FZ μ y → y.1 113 17 = μ.1 113 17 → ∃ y', f_X8_worst_25 a1 (fun x2 x3 μ => f_X8_worst_141 a1 x2 x3 μ) fu (bst_i (a_w2 σ f)) (bst_m (a_w2 σ f)) (nI f) y = f_X8_worst_141 a1 (bst_i (a_w2 σ (σ 0))) (bst_m (a_w2 σ (σ 0))) y' ∧ FZ μ y' ∧ y'.1 113 17 = μ.1 113 17 := by
    intro fu
    induction fu with
    | zero => intro f x _ h; omega
    | succ fu ih =>
      intro f y hf hfu fz y17
      have r0 : y.1 114 0 = nI (σ 0) := fz.rr r 0 (by omega)
      by_cases e : f = σ 0
      · subst e
        refine ⟨y, ?_, fz, y17⟩
        simp (disch := omega) only [f_X8_worst_25, nI_add, pk_mul, nI_clamp, nI_eqE, nI_leE, nI_ltE, nI_eq0, nI_le0, nI_lt0, nI_ge0, nI_gt0, pk_rem, pk_sub, inb_t, gd_y, zl_e, bd_y, isB_n0, isB_n1, n0_eq, n1_eq, if_n0, if_n1, isB_if, not_true_eq_false, not_false_eq_true, ite_true, ite_false, Nat.le_refl, Nat.lt_irrefl, r0]
      · have qe : ¬ σ 0 ≤ f := by omega
        obtain ⟨y', g1, g2, g3⟩ := inner (fun x2 x3 x4 μ => f_X8_worst_135 a1 (fun x2 x3 x4 μ => f_X8_worst_25 a1 (fun x2 x3 μ => f_X8_worst_141 a1 x2 x3 μ) fu x2 x3 x4 μ) (fun x2 x3 μ => f_X8_worst_141 a1 x2 x3 μ) x2 x3 x4 μ) f (by omega) zfu 0 y (by omega) (by unfold zfu; omega) fz y17
        obtain ⟨y2, h1, h2, h3⟩ := ih (f + 1) y' (by omega) (by omega) g2 g3
        refine ⟨y2, ?_, h2, h3⟩
        rw [← h1]
        simp (disch := omega) only [f_X8_worst_25, nI_add, pk_mul, nI_clamp, nI_eqE, nI_leE, nI_ltE, nI_eq0, nI_le0, nI_lt0, nI_ge0, nI_gt0, pk_rem, pk_sub, inb_t, gd_y, zl_e, bd_y, isB_n0, isB_n1, n0_eq, n1_eq, if_n0, if_n1, isB_if, not_true_eq_false, not_false_eq_true, ite_true, ite_false, Nat.le_refl, Nat.lt_irrefl, r0, qe]
        have g1' := g1
        simp only [a_w1] at g1'
        rw [g1']
        simp only [f_X8_worst_135, nI_add]
        rfl
  exact outer zfu 0 μ (by omega) (by unfold zfu; omega) FZ.r rfl
theorem fin141 {a1 : Int32} {s : Option (Nat × Nat)} {y : Mem} (h : bst_b s) : f_X8_worst_141 a1 (bst_i s) (bst_m s) y = some (if a1 = 0 ∨ s = none then bst_i s else bst_m s, y) := by
  unfold f_X8_worst_141 f_X8_worst_151
  by_cases q : a1 = 0
  · rw [if_pos q, if_pos (Or.inl q)]
  · rw [if_neg q]
    cases s with
    | none => rw [if_pos (show bst_i none = -4 from rfl), if_pos (Or.inr rfl)]
    | some p =>
      obtain ⟨c, m⟩ := p
      have hb := h c m rfl
      have ne : ¬ bst_i (some (c, m)) = -4 := by
        show ¬ nI c = -4
        rw [nI_neM (by omega) (by decide)]
        exact id
      rw [if_neg ne, if_neg (by simp [q])]
theorem bst_p_some {s : Option (Nat × Nat)} {c v : Nat} : bst_p s c v ≠ none := by
  unfold bst_p
  split
  · intro q; cases q
  · split <;> (intro q; cases q)
theorem a_w1_some {σ : St} {f : Nat} {s : Option (Nat × Nat)} (h : s ≠ none) : ∀ t, a_w1 σ f s t ≠ none := by
  intro t
  induction t with
  | zero => exact h
  | succ t ih =>
    show (if f = t then a_w1 σ f s t else bst_p (a_w1 σ f s t) (10 * f + t) (a_wv σ f t)) ≠ none
    split
    · exact ih
    · exact bst_p_some
theorem a_w2_some {σ : St} (h2 : 2 ≤ σ 0) : a_w2 σ (σ 0) ≠ none := by
  have : ∀ f, 1 ≤ f → a_w2 σ f ≠ none := by
    intro f
    induction f with
    | zero => intro h; omega
    | succ f ih =>
      intro _
      show a_w1 σ f (a_w2 σ f) (σ 0) ≠ none
      by_cases e : f = 0
      · subst e
        have : ∀ t, 2 ≤ t → a_w1 σ 0 (a_w2 σ 0) t ≠ none := by
          intro t
          induction t with
          | zero => intro h; omega
          | succ t ih2 =>
            intro ht
            show (if 0 = t then a_w1 σ 0 (a_w2 σ 0) t else bst_p (a_w1 σ 0 (a_w2 σ 0) t) (10 * 0 + t) (a_wv σ 0 t)) ≠ none
            rw [if_neg (by omega)]
            exact bst_p_some
        exact this _ h2
      · exact a_w1_some (ih (by omega)) _
  exact this _ (by omega)
theorem a_w2_none {σ : St} (h2 : σ 0 < 2) : a_w2 σ (σ 0) = none := by
  rcases (show σ 0 = 0 ∨ σ 0 = 1 by omega) with e | e
  · rw [e]; rfl
  · have : a_w2 σ 1 = a_w1 σ 0 none (σ 0) := rfl
    rw [e, this, e]
    show (if 0 = 0 then none else _) = none
    rfl
theorem o_worst : ok_worst II := by
  intro a1 μ I
  obtain ⟨⟨σ, h, r, w, z, m, n, s, l, g⟩, -, -, -, hL, hD⟩ := id I
  have hn := w.n
  have nw : NW μ σ h 24 := ⟨w, z, m, n, s, l⟩
  unfold f_X7_worst f_X8_worst
  by_cases c1 : bw a1 0 1 = true
  · by_cases c2 : 2 ≤ σ 0
    · obtain ⟨x, p1, p2, p3⟩ := x7_findWorst nw
      obtain ⟨y, g1, g2, g3⟩ := e8_worst (a1 := a1) (μ := sI x 113 0 (nI 0)) (σ := σ) (fun j hj => by rw [rd_k (by omega), p3.2 114 (by omega)]; exact r j hj) w m ((hL.ft p3).t (by omega)) ((hD.ft (by rw [p3.2 113 (by omega)])).t (by omega))
      have kb := a_w2_B hn (σ 0) (by omega)
      have sn := a_w2_some c2
      have k1 := p2.1
      have k2 := p2.2 sn
      refine ⟨if a1 = 0 then bst_i (a_w2 σ (σ 0)) else bst_m (a_w2 σ (σ 0)), x, y, ?_, ?_, I.fx ((FX.ft p3).t (FX.th.t (FX.fz g2 g3)))⟩
      · simp (disch := omega) only [within_n, zl_e, bd_y, if_n0, n0_eq, n1_eq, Bool.false_eq_true, not_true_eq_false, not_false_eq_true, if_true, if_false, Nat.one_ne_zero, rM_rM, c1, n.n, c2, nI_leE, p1, k1, k2]
        split <;> rfl
      · simp (disch := omega) only [in_0_1, zl_e, bd_y, if_n0, n0_eq, n1_eq, Bool.false_eq_true, not_true_eq_false, not_false_eq_true, if_true, if_false, Nat.one_ne_zero, rM_rM, c1]
        rw [g1, fin141 kb]
        by_cases q : a1 = 0
        · simp only [q, true_or, if_true]
        · simp only [q, sn, or_self, if_false]
    · obtain ⟨y, g1, g2, g3⟩ := e8_worst (a1 := a1) (μ := sI μ 113 0 (nI 0)) (σ := σ) (fun j hj => by rw [rd_k (by omega)]; exact r j hj) w m (hL.t (by omega)) (hD.t (by omega))
      have sn := a_w2_none (σ := σ) (by omega)
      refine ⟨-4, μ, y, ?_, ?_, I.fx (FX.th.t (FX.fz g2 g3))⟩
      · simp (disch := omega) only [within_n, zl_e, bd_y, if_n0, n0_eq, n1_eq, Bool.false_eq_true, not_true_eq_false, not_false_eq_true, if_true, if_false, Nat.one_ne_zero, rM_rM, c1, n.n, c2, nI_leE]
      · simp (disch := omega) only [in_0_1, zl_e, bd_y, if_n0, n0_eq, n1_eq, Bool.false_eq_true, not_true_eq_false, not_false_eq_true, if_true, if_false, Nat.one_ne_zero, rM_rM, c1]
        rw [g1, fin141 (a_w2_B hn (σ 0) (by omega)), sn, if_pos (Or.inr rfl)]
        rfl
  · refine ⟨-1, μ, rM (sI μ 113 0 (nI 0)) 114 σ, ?_, ?_, I.ref r⟩
    · simp (disch := omega) only [within_n, zl_e, bd_y, if_n0, n0_eq, n1_eq, Bool.false_eq_true, not_true_eq_false, not_false_eq_true, if_true, if_false, Nat.one_ne_zero, rM_rM, c1]
    · rw [← th_rM r]
      simp (disch := omega) only [in_0_1, zl_e, bd_y, if_n0, n0_eq, n1_eq, Bool.false_eq_true, not_true_eq_false, not_false_eq_true, if_true, if_false, Nat.one_ne_zero, rM_rM, c1]
