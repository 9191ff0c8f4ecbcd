/-! PURE PART: the class's night, method by method -/
theorem NN.n {μ : Mem} {b h d : Nat} {σ : St} (c : NN μ b σ h d) : μ.1 b 0 = nI (σ 0) := c.1.1
theorem n2_isDark' {μ : Mem} {b h d r : Nat} {σ : St} (cS : NS μ b σ h d) (cA : NA μ b σ) (w : WF σ) (hr : r < σ 0) : f_X2_isDark b (nI r) μ = some (nI (if a_out d σ r = true then 1 else 0), μ) := by
  have hn := w.n
  have r9 : r < 9 := by omega
  have hm := w.m
  have hf := w.f r9
  have hu := w.u r9
  obtain ⟨c0, c1, c2, c3, c4, c5, c6⟩ := cS
  obtain ⟨a1, a2, a3, a4, a5, a6⟩ := cA
  unfold f_X2_isDark f_X2_isDark_37 a_out a_dk
  rw [bt_sh _ (by omega), c6 r r9]
  simp (disch := omega) only [nI_add, pk_mul, nI_clamp, nI_eqE, nI_leE, nI_ltE, nI_eq0, nI_le0, nI_lt0, nI_ge0, nI_gt0, pk_rem, pk_sub, inb_t, gd_y, zl_e, bd_y, isB_n0, isB_n1, n0_eq, n1_eq, if_n0, if_n1, isB_if, not_true_eq_false, not_false_eq_true, ite_true, ite_false, Nat.le_refl, Nat.lt_irrefl, c1, a4 r hr, a5 r hr]
  by_cases e : r = d
  · simp [e]
  · simp only [e, decide_false, Bool.false_eq_true, not_false_eq_true, if_true, Bool.false_or]
    by_cases e1 : min (σ 1) 999 < σ (6 + 6 * r + 4)
    · rw [if_pos e1, if_neg (by simp; omega)]
    · rw [if_neg e1]
      by_cases e2 : σ (6 + 6 * r + 5) ≤ min (σ 1) 999
      · rw [if_pos e2, if_neg (by simp; omega)]
      · rw [if_neg e2, if_pos (by simp; omega)]
theorem n2_isDark {μ : Mem} {b h d r : Nat} {σ : St} (c : NN μ b σ h d) (w : WF σ) (hr : r < σ 0) : f_X2_isDark b (nI r) μ = some (nI (if a_out d σ r = true then 1 else 0), μ) := n2_isDark' c.1 c.2.1 w hr
theorem n2_isTrue {μ : Mem} {b h d r : Nat} {σ : St} (c : NN μ b σ h d) (w : WF σ) (hr : r < σ 0) : f_X2_isTrue b (nI r) μ = some (nI (if σ (6 + 6 * r) = 0 ∨ σ (6 + 6 * r) = 3 then 1 else 0), μ) := by
  have hn := w.n
  have hk := w.k (show r < 9 by omega)
  unfold f_X2_isTrue f_X2_isTrue_19
  simp (disch := omega) only [nI_add, pk_mul, nI_clamp, nI_eqE, nI_leE, nI_ltE, nI_eq0, nI_le0, nI_lt0, nI_ge0, nI_gt0, pk_rem, pk_sub, inb_t, gd_y, zl_e, bd_y, isB_n0, isB_n1, n0_eq, n1_eq, if_n0, if_n1, isB_if, not_true_eq_false, not_false_eq_true, ite_true, ite_false, Nat.le_refl, Nat.lt_irrefl, c.2.1.1 r hr]
  by_cases c1 : σ (6 + 6 * r) = 0
  · rw [if_pos c1, if_pos (Or.inl c1)]
  · rw [if_neg c1]
    by_cases c2 : σ (6 + 6 * r) = 3
    · rw [if_pos c2, if_pos (Or.inr c2)]
    · rw [if_neg c2, if_neg (by omega)]
theorem a_hb_self {σ : St} {r : Nat} : a_hb σ r r = σ (6 + 6 * r + 1) := if_pos rfl
theorem n2_believed {μ : Mem} {b h d r : Nat} {σ : St} (c : NN μ b σ h d) (w : WF σ) (hr : r < σ 0) : f_X2_believed b (nI r) μ = some (nI (σ (6 + 6 * r + 1)), μ) := by
  have hn := w.n
  have hb := w.b (show r < 9 by omega)
  unfold f_X2_believed
  simp (disch := omega) only [nI_add, pk_mul, nI_clamp, nI_eqE, nI_leE, nI_ltE, nI_eq0, nI_le0, nI_lt0, nI_ge0, nI_gt0, pk_rem, pk_sub, inb_t, gd_y, zl_e, bd_y, isB_n0, isB_n1, n0_eq, n1_eq, if_n0, if_n1, isB_if, not_true_eq_false, not_false_eq_true, ite_true, ite_false, Nat.le_refl, Nat.lt_irrefl]
  rw [bt_sh _ (by omega), c.2.2.1 1 r r (by omega) hr, a_hb_self]
  by_cases e : σ (6 + 6 * r + 1) = 1
  · simp [e, hr]
  · have : σ (6 + 6 * r + 1) = 0 := by omega
    simp [this]
theorem n2_bitColour {x y : Int32} {r : Nat} {μ : Mem} (hr : r < 32) : f_X2_bitColour x y (nI r) μ = some (nI (if bt x r = true then 0 else if bt y r = true then 1 else 2), μ) := by
  unfold f_X2_bitColour
  rw [bt_sh _ hr, bt_sh _ hr]
  simp only [if_n0]
  cases bt x r <;> cases bt y r <;> simp
theorem n2_colourOf {μ : Mem} {b h d r f : Nat} {σ : St} (c : NN μ b σ h d) (w : WF σ) (hr : r < σ 0) (hf : f < σ 0) : f_X2_colourOf b (nI r) (nI f) μ = some (nI (a_hb σ r f), μ) := by
  have hn := w.n
  have hb := w.hb (show r < 9 by omega) (show f < 9 by omega)
  unfold f_X2_colourOf
  simp (disch := omega) only [nI_add, pk_mul, nI_clamp, nI_eqE, nI_leE, nI_ltE, nI_eq0, nI_le0, nI_lt0, nI_ge0, nI_gt0, pk_rem, pk_sub, inb_t, gd_y, zl_e, bd_y, isB_n0, isB_n1, n0_eq, n1_eq, if_n0, if_n1, isB_if, not_true_eq_false, not_false_eq_true, ite_true, ite_false, Nat.le_refl, Nat.lt_irrefl]
  rw [n2_bitColour (by omega), c.2.2.1 0 r f (by omega) hr, c.2.2.1 1 r f (by omega) hr]
  simp only [Option.bind_some, decide_eq_true_eq, hf, true_and]
  congr 2
  by_cases e0 : a_hb σ r f = 0
  · simp [e0]
  · by_cases e1 : a_hb σ r f = 1
    · simp [e1]
    · rw [if_neg e0, if_neg e1, show a_hb σ r f = 2 by omega]
theorem n2_counted {μ : Mem} {b h d r q : Nat} {σ : St} (c : NN μ b σ h d) (w : WF σ) (hr : r < σ 0) (hq : q ≤ 2) : f_X2_counted b (nI r) (nI q) μ = some (nI (a_cb σ r q (σ 0)), μ) := by
  have hn := w.n
  unfold f_X2_counted f_X2_counted_33
  simp (disch := omega) only [nI_add, pk_mul, nI_clamp, nI_eqE, nI_leE, nI_ltE, nI_eq0, nI_le0, nI_lt0, nI_ge0, nI_gt0, pk_rem, pk_sub, inb_t, gd_y, zl_e, bd_y, isB_n0, isB_n1, n0_eq, n1_eq, if_n0, if_n1, isB_if, not_true_eq_false, not_false_eq_true, ite_true, ite_false, Nat.le_refl, Nat.lt_irrefl]
  by_cases e : q = 2
  · subst e
    simp only [if_true]
    rw [bc_e]
    · simp only [Option.bind_some]
      rw [pc_cb (σ := σ) (r := r) (c := 2) (n := σ 0) _ 9 (by omega), show min 9 (σ 0) = σ 0 by omega]
      intro k hk
      rw [bt_or, c.2.2.1 0 r k (by omega) hr, c.2.2.1 1 r k (by omega) hr]
      by_cases k1 : k < σ 0
      · simp only [k1, true_and, if_true]
        by_cases z0 : a_hb σ r k = 0
        · simp [z0]
        · by_cases z1 : a_hb σ r k = 1
          · simp [z1]
          · simp [z0, z1]; omega
      · simp [k1]
    · intro f h1 h2
      rw [bt_or, c.2.2.1 0 r f (by omega) hr, c.2.2.1 1 r f (by omega) hr]
      simp [show ¬ f < σ 0 by omega]
  · simp only [e, if_false]
    rw [bc_e]
    · simp only [Option.bind_some]
      rw [pc_cb (σ := σ) (r := r) (c := q) (n := σ 0) _ 9 (by omega), show min 9 (σ 0) = σ 0 by omega]
      intro k hk
      rw [c.2.2.1 q r k (by omega) hr]
      simp [e]
    · intro f h1 h2
      rw [c.2.2.1 q r f (by omega) hr]
      simp [show ¬ f < σ 0 by omega]
theorem n2_waiting {μ : Mem} {b h d t f s : Nat} {σ : St} (c : NN μ b σ h d) (w : WF σ) (ht : t < 9) (hf : f < 9) (hs : s < 19) : f_X2_waiting b (nI t) (nI f) (nI s) μ = some (nI (if σ (222 + 19 * (9 * f + t) + (σ 1 + s) % 19) = 0 then 2 else σ (222 + 19 * (9 * f + t) + (σ 1 + s) % 19) - 1), μ) := by
  have hd := w.du hf ht (Nat.mod_lt (σ 1 + s) (show 19 > 0 by decide))
  have h19 := c.1.2.2.2.2.2.1
  unfold f_X2_waiting f_X2_ringPlace
  simp (disch := omega) only [nI_add, pk_mul, nI_clamp, nI_eqE, nI_leE, nI_ltE, nI_eq0, nI_le0, nI_lt0, nI_ge0, nI_gt0, pk_rem, pk_sub, inb_t, gd_y, zl_e, bd_y, isB_n0, isB_n1, n0_eq, n1_eq, if_n0, if_n1, isB_if, not_true_eq_false, not_false_eq_true, ite_true, ite_false, Nat.le_refl, Nat.lt_irrefl, c.1.2.2.2.2.1]
  rw [n2_bitColour (by omega), c.2.2.2 0 s t f (by omega) hs ht, c.2.2.2 1 s t f (by omega) hs ht]
  simp only [Option.bind_some, decide_eq_true_eq, hf, true_and]
  congr 2
  by_cases e0 : σ (222 + 19 * (9 * f + t) + (σ 1 + s) % 19) = 0
  · simp [e0]
  · by_cases e1 : σ (222 + 19 * (9 * f + t) + (σ 1 + s) % 19) = 1
    · simp [e1]
    · rw [if_neg (by omega), if_pos (by omega), if_neg e0, show σ (222 + 19 * (9 * f + t) + (σ 1 + s) % 19) = 2 by omega]
/-! one rock hears -/
theorem hear_rg {μ : Mem} {b h d t : Nat} {σ : St} (t9 : t < 9) (h19 : h < 19) (cR : NR μ b (a_hX d σ (fun f t' => decide (f < σ 0) && decide (t' < t))) h) {q f : Nat} (hq : q < 2) : bt (μ.1 (b + 20 + q) (h * 9 + t)) f = decide (f < 9 ∧ σ (222 + 19 * (9 * f + t) + σ 1 % 19) = q + 1) := by
  have X1 : a_hX d σ (fun f t' => decide (f < σ 0) && decide (t' < t)) 1 = σ 1 := a_hX_o (by omega)
  have hmod : σ 1 % 19 < 19 := Nat.mod_lt _ (by decide)
  have e := cR q 0 t f hq (by omega) t9
  rw [X1, show (h + 0) % 19 = h by omega, show (σ 1 + 0) % 19 = σ 1 % 19 by omega] at e
  rw [e]
  by_cases hf : f < 9
  · rw [a_hX_d hf t9 hmod, if_neg (by simp)]
  · simp [hf]
theorem hear_ring {μ μ' : Mem} {b h d t : Nat} {σ : St} (hn : σ 0 ≤ 9) (z : ZR σ) (h19 : h < 19) (ht : t < σ 0) (cR : NR μ b (a_hX d σ (fun f t' => decide (f < σ 0) && decide (t' < t))) h) (e : ∀ q j, q < 2 → μ'.1 (b + 20 + q) j = if j = h * 9 + t then nI 0 else μ.1 (b + 20 + q) j) : NR μ' b (a_hX d σ (fun f t' => decide (f < σ 0) && decide (t' < t + 1))) h := by
  have X1 : a_hX d σ (fun f t' => decide (f < σ 0) && decide (t' < t)) 1 = σ 1 := a_hX_o (by omega)
  have Y1 : a_hX d σ (fun f t' => decide (f < σ 0) && decide (t' < t + 1)) 1 = σ 1 := a_hX_o (by omega)
  intro q s t' f hq hs ht'
  have hm : (σ 1 + s) % 19 < 19 := Nat.mod_lt _ (by decide)
  rw [e q _ hq]
  by_cases c1 : (h + s) % 19 * 9 + t' = h * 9 + t
  · rw [if_pos c1, bt_0]
    have c2 : t' = t := by omega
    have c3 : s = 0 := by omega
    symm
    rw [decide_eq_false_iff_not]
    intro ⟨hf, g⟩
    rw [Y1, a_hX_d hf ht' hm] at g
    by_cases c4 : f < σ 0
    · have c5 : (σ 1 + s) % 19 = σ 1 % 19 ∧ (decide (f < σ 0) && decide (t' < t + 1)) = true := ⟨by rw [c3, Nat.add_zero], by simp [c4]; omega⟩
      rw [if_pos c5] at g
      omega
    · have z0 := z f t' _ hf ht' hm (by omega)
      rw [z0] at g
      split at g <;> omega
  · rw [if_neg c1, cR q s t' f hq hs ht', X1, Y1]
    by_cases hf : f < 9
    · rw [a_hX_d hf ht' hm, a_hX_d hf ht' hm]
      have c5 : ((σ 1 + s) % 19 = σ 1 % 19 ∧ (decide (f < σ 0) && decide (t' < t + 1)) = true) ↔ ((σ 1 + s) % 19 = σ 1 % 19 ∧ (decide (f < σ 0) && decide (t' < t)) = true) := by
        simp only [Bool.and_eq_true, decide_eq_true_eq]
        omega
      simp only [c5]
    · simp [hf]
theorem hb_hX {d r f t : Nat} {σ : St} (hf : f < σ 0) (hn : σ 0 ≤ 9) (hr : r < 9) : a_hb (a_hX d σ (fun f t' => decide (f < σ 0) && decide (t' < t))) r f = if r = f then σ (6 + 6 * r + 1) else if r < t ∧ 0 < σ (222 + 19 * (9 * f + r) + σ 1 % 19) ∧ a_out d σ r = false then σ (222 + 19 * (9 * f + r) + σ 1 % 19) - 1 else σ (141 + 9 * r + f) := by
  unfold a_hb
  rw [a_hX_o (by omega), a_hX_h (by omega) (by omega)]
  simp [hf]
/-- bits of who hears -/
theorem hear_bit {c D : Nat} {x y g : Bool} {B H : Nat} {e1 : Prop} [Decidable e1] (hD : D ≤ 2) (z : e1 → D = 0) (hx : x = decide ((if e1 then B else H) = c)) (hy : y = decide (D = c + 1)) (hg : g = decide (D = (1 - c) + 1)) (hc : c < 2) : (x && !g || y) = decide ((if e1 then B else if 0 < D then D - 1 else H) = c) := by
  subst hx hy hg
  by_cases q : e1
  · have := z q
    subst this
    simp [q]
  · simp only [q, if_false]
    rcases (show c = 0 ∨ c = 1 by omega) with rfl | rfl
    · rcases (show D = 0 ∨ D = 1 ∨ D = 2 by omega) with rfl | rfl | rfl <;> simp
    · rcases (show D = 0 ∨ D = 1 ∨ D = 2 by omega) with rfl | rfl | rfl <;> simp
theorem hear_has {μ μ' : Mem} {b h d t : Nat} {σ : St} (w : WF σ) (z : ZR σ) (h19 : h < 19) (ht : t < σ 0) (o : a_out d σ t = false) (cH : NH μ b (a_hX d σ (fun f t' => decide (f < σ 0) && decide (t' < t)))) (cR : NR μ b (a_hX d σ (fun f t' => decide (f < σ 0) && decide (t' < t))) h) (e1 : ∀ q r, q < 2 → r ≠ t → μ'.1 (b + 17 + q) r = μ.1 (b + 17 + q) r) (e2 : ∀ q, q < 2 → μ'.1 (b + 17 + q) t = (μ.1 (b + 17 + q) t &&& (μ.1 (b + 20 + (1 - q)) (h * 9 + t) ^^^ (-1))) ||| μ.1 (b + 20 + q) (h * 9 + t)) : NH μ' b (a_hX d σ (fun f t' => decide (f < σ 0) && decide (t' < t + 1))) := by
  have hn := w.n
  have t9 : t < 9 := by omega
  have hmod : σ 1 % 19 < 19 := Nat.mod_lt _ (by decide)
  have X0 : a_hX d σ (fun f t' => decide (f < σ 0) && decide (t' < t)) 0 = σ 0 := a_hX_o (by omega)
  have Y0 : a_hX d σ (fun f t' => decide (f < σ 0) && decide (t' < t + 1)) 0 = σ 0 := a_hX_o (by omega)
  intro q r f hq hr
  rw [Y0] at hr
  rw [Y0]
  have old := cH q r f hq (by rw [X0]; exact hr)
  rw [X0] at old
  by_cases c1 : r = t
  · subst c1
    rw [e2 q hq, bt_or, bt_and]
    have rg0 := hear_rg (f := f) t9 h19 cR hq
    have rg1 := hear_rg (f := f) (q := 1 - q) t9 h19 cR (by omega)
    by_cases hf : f < σ 0
    · rw [hb_hX hf hn t9] at old ⊢
      simp only [hf, true_and, Nat.lt_irrefl, false_and, if_false] at old
      simp only [show f < 9 by omega, true_and] at rg0 rg1
      rw [bt_not _ (by omega)]
      have k := hear_bit (w.du (show f < 9 by omega) t9 hmod) (fun e : r = f => z f r _ (by omega) t9 hmod (by omega)) old rg0 rg1 hq
      rw [k]
      simp [hf, o]
    · simp only [hf, false_and, decide_false] at old ⊢
      have r0 : bt (μ.1 (b + 20 + q) (h * 9 + r)) f = false := by
        rw [rg0, decide_eq_false_iff_not]
        intro ⟨f9, g⟩
        rw [z f r _ f9 t9 hmod (by omega)] at g
        omega
      rw [old, r0]
      simp
  · rw [e1 q r hq c1, old]
    by_cases hf : f < σ 0
    · rw [hb_hX hf hn (by omega), hb_hX hf hn (by omega)]
      have c2 : (r < t + 1) = (r < t) := propext (by omega)
      simp only [c2]
    · simp [hf]
theorem n2_hear {μ : Mem} {b h d t : Nat} {σ : St} (w : WF σ) (z : ZR σ) (ht : t < σ 0) (c : NN μ b (a_hX d σ (fun f t' => decide (f < σ 0) && decide (t' < t))) h d) : ∃ μ', f_X2_hear b (nI t) μ = some μ' ∧ NN μ' b (a_hX d σ (fun f t' => decide (f < σ 0) && decide (t' < t + 1))) h d ∧ FB b μ μ' ∧ μ'.1 b = μ.1 b := by
  have hn := w.n
  have t9 : t < 9 := by omega
  have wX : WF (a_hX d σ (fun f t' => decide (f < σ 0) && decide (t' < t))) := a_hX_w w
  have X0 : a_hX d σ (fun f t' => decide (f < σ 0) && decide (t' < t)) 0 = σ 0 := a_hX_o (by omega)
  have Xo : a_out d (a_hX d σ (fun f t' => decide (f < σ 0) && decide (t' < t))) t = a_out d σ t := by
    unfold a_out a_dk
    rw [a_hX_o (by omega), a_hX_o (by omega), a_hX_o (by omega)]
  have XY : ∀ j, j < 141 → a_hX d σ (fun f t' => decide (f < σ 0) && decide (t' < t + 1)) j = a_hX d σ (fun f t' => decide (f < σ 0) && decide (t' < t)) j := by
    intro j hj
    rw [a_hX_o (by omega), a_hX_o (by omega)]
  obtain ⟨cS, cA, cH, cR⟩ := c
  have h4 := cS.2.2.2.2.1
  have h19 := cS.2.2.2.2.2.1
  unfold f_X2_hear f_X2_ringPlace
  simp (disch := omega) only [nI_add, pk_mul, nI_clamp, nI_eqE, nI_leE, nI_ltE, nI_eq0, nI_le0, nI_lt0, nI_ge0, nI_gt0, pk_rem, pk_sub, inb_t, gd_y, bd_y, isB_n0, isB_n1, n0_eq, n1_eq, if_n0, if_n1, isB_if, not_true_eq_false, not_false_eq_true, ite_true, ite_false, Nat.le_refl, Nat.lt_irrefl, h4]
  simp only [zl_e]
  have dk' : f_X2_isDark b (nI t) (sI (sI μ (b + 20 + 0) (h * 9 + t) (nI 0)) (b + 20 + 1) (h * 9 + t) (nI 0)) = some (nI (if a_out d σ t = true then 1 else 0), sI (sI μ (b + 20 + 0) (h * 9 + t) (nI 0)) (b + 20 + 1) (h * 9 + t) (nI 0)) := by
    rw [← Xo]
    exact n2_isDark' (cS.mem (fun j _ => by rw [rd_k (by omega), rd_k (by omega)])) (cA.mem (by rw [X0]; exact hn) (fun k h1 h2 => by rw [rd_k (by omega), rd_k (by omega)])) wX (by rw [X0]; exact ht)
  rw [dk']
  simp only [Option.bind_some, if_n0]
  have rng : ∀ q j, q < 2 → (sI (sI μ (b + 20 + 0) (h * 9 + t) (nI 0)) (b + 20 + 1) (h * 9 + t) (nI 0)).1 (b + 20 + q) j = if j = h * 9 + t then nI 0 else μ.1 (b + 20 + q) j := by
    intro q j hq
    rcases (show q = 0 ∨ q = 1 by omega) with rfl | rfl
    · rw [rd_k (by omega)]
      by_cases e : j = h * 9 + t
      · rw [e, rd_s, if_pos rfl]
      · rw [rd_j e, if_neg e]
    · by_cases e : j = h * 9 + t
      · rw [e, rd_s, if_pos rfl]
      · rw [rd_j e, rd_k (by omega), if_neg e]
  by_cases o : a_out d σ t = true
  · rw [if_neg (by simp [o])]
    refine ⟨_, rfl, ⟨?_, ?_, ?_, hear_ring hn z h19 ht cR rng⟩, (FB.w (by omega) (by omega)).t (FB.w (by omega) (by omega)), by rw [rd_k (by omega), rd_k (by omega)]⟩
    · exact (cS.mem (fun j _ => by rw [rd_k (by omega), rd_k (by omega)])).st (XY 0 (by omega)) (XY 1 (by omega)) (XY 2 (by omega)) (XY 5 (by omega))
    · exact (cA.mem (by rw [X0]; exact hn) (fun k h1 h2 => by rw [rd_k (by omega), rd_k (by omega)])).st (by rw [X0]; exact hn) (fun j hj => XY j (by omega))
    · refine (cH.mem (fun k h1 h2 => by rw [rd_k (by omega), rd_k (by omega)])).st (by rw [X0]; exact hn) (XY 0 (by omega)) (fun r hr => XY _ (by omega)) (fun j h1 h2 => ?_)
      obtain ⟨f, t', hf, ht', rfl⟩ := ix_h h1 h2
      rw [a_hX_h hf ht', a_hX_h hf ht']
      by_cases c1 : t' = t
      · subst c1; rw [if_neg (by simp [o]), if_neg (by simp [o])]
      · have c2 : decide (t' < t + 1) = decide (t' < t) := by
          apply decide_eq_decide.mpr; omega
        rw [c2]
  · rw [if_pos o]
    refine ⟨_, rfl, ⟨?_, ?_, ?_, ?_⟩, (((FB.w (by omega) (by omega)).t (FB.w (by omega) (by omega))).t (FB.w (by omega) (by omega))).t (FB.w (by omega) (by omega)), by rw [rd_k (by omega), rd_k (by omega), rd_k (by omega), rd_k (by omega)]⟩
    · exact (cS.mem (fun j _ => by rw [rd_k (by omega), rd_k (by omega), rd_k (by omega), rd_k (by omega)])).st (XY 0 (by omega)) (XY 1 (by omega)) (XY 2 (by omega)) (XY 5 (by omega))
    · exact (cA.mem (by rw [X0]; exact hn) (fun k h1 h2 => by rw [rd_k (by omega), rd_k (by omega), rd_k (by omega), rd_k (by omega)])).st (by rw [X0]; exact hn) (fun j hj => XY j (by omega))
    · refine hear_has w z h19 ht (by simpa using o) cH cR ?_ ?_
      · intro q r hq c1
        rcases (show q = 0 ∨ q = 1 by omega) with rfl | rfl
        · rw [rd_k (by omega), rd_j c1, rd_k (by omega), rd_k (by omega)]
        · rw [rd_j c1, rd_k (by omega), rd_k (by omega), rd_k (by omega)]
      · intro q hq
        rcases (show q = 0 ∨ q = 1 by omega) with rfl | rfl
        · rw [rd_k (by omega), rd_s, rd_k (by omega), rd_k (by omega)]
        · rw [rd_s, rd_k (by omega), rd_k (by omega), rd_k (by omega)]
    · exact hear_ring hn z h19 ht cR (fun q j hq => by rw [rd_k (by omega), rd_k (by omega)]; exact rng q j hq)
