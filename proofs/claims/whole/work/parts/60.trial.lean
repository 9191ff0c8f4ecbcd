/-! PURE PART: trials of the class -/
theorem rdA_s {μ : Mem} {k : Nat} {f : Nat → Int32} : (sA μ k f).1 k = f := by simp [sA, va_up]
theorem rdA_k {μ : Mem} {k k' : Nat} {f : Nat → Int32} (h : k' ≠ k) : (sA μ k f).1 k' = μ.1 k' := by simp [sA, va_up, h]
theorem cpy_lt {f g : Nat → Int32} {n j : Nat} (h : j < n) : va_cpy f g 0 0 n j = f j := by
  rw [pk_cpy_in (by omega) (by omega)]
  congr 1
  omega
theorem FB.a {b k : Nat} {μ : Mem} {f : Nat → Int32} (h1 : b ≤ k) (h2 : k < b + 22) : FB b μ (sA μ k f) := ⟨rfl, fun k' hk => rdA_k (by omega)⟩
theorem cp9 : cpB (nI 0) (nI 0) (nI 9) 9 9 = true := by decide
theorem cp171 : cpB (nI 0) (nI 0) (nI 171) 171 171 = true := by decide
/-- how far a night is copied -/
def BC (b k : Nat) (μ x : Mem) : Prop := FB b μ x ∧ (∀ j, j < 7 → x.1 b j = μ.1 k j) ∧ (∀ a j, 1 ≤ a → a < 6 → j < 9 → x.1 (b + a) j = μ.1 (k + a) j)
theorem BC.up {b k q : Nat} {μ x : Mem} {f : Nat → Int32} (h : BC b k μ x) (h1 : b + 7 ≤ q) (h2 : q < b + 22) : BC b k μ (sA x q f) :=
  ⟨h.1.t (FB.a (by omega) h2), fun j hj => by rw [rdA_k (by omega)]; exact h.2.1 j hj, fun a j h3 h4 hj => by rw [rdA_k (by omega)]; exact h.2.2 a j h3 h4 hj⟩
theorem n2_become0 {μ : Mem} {b k : Nat} (hb : isB (μ.1 k 6) = true) (hd : b + 22 ≤ k ∨ k + 22 ≤ b) : ∃ x, BC b k μ x ∧ f_X2_become b k μ = f_X2_become_133 b k (fun μ => f_X2_become_164 b k μ) zfu (nI 0) x := by
  unfold f_X2_become
  simp (disch := omega) only [zl_e, cp9, gd_y, nI_clamp, rd_k, rd_j, hb]
  refine ⟨_, ⟨?_, ?_, ?_⟩, rfl⟩
  · exact ((((((((((((FB.w (by omega) (by omega)).t (FB.w (by omega) (by omega))).t (FB.w (by omega) (by omega))).t (FB.w (by omega) (by omega))).t (FB.w (by omega) (by omega))).t (FB.w (by omega) (by omega))).t (FB.w (by omega) (by omega))).t (FB.a (by omega) (by omega))).t (FB.a (by omega) (by omega))).t (FB.a (by omega) (by omega))).t (FB.a (by omega) (by omega))).t (FB.a (by omega) (by omega)))
  · intro j hj
    rw [rdA_k (by omega), rdA_k (by omega), rdA_k (by omega), rdA_k (by omega), rdA_k (by omega)]
    rcases (show j = 0 ∨ j = 1 ∨ j = 2 ∨ j = 3 ∨ j = 4 ∨ j = 5 ∨ j = 6 by omega) with rfl | rfl | rfl | rfl | rfl | rfl | rfl <;> simp (disch := omega) only [rd_s, rd_j]
  · intro a j h1 h2 hj
    rcases (show a = 1 ∨ a = 2 ∨ a = 3 ∨ a = 4 ∨ a = 5 by omega) with rfl | rfl | rfl | rfl | rfl
    · rw [rdA_k (by omega), rdA_k (by omega), rdA_k (by omega), rdA_k (by omega), rdA_s, cpy_lt hj]
    · rw [rdA_k (by omega), rdA_k (by omega), rdA_k (by omega), rdA_s, cpy_lt hj, rdA_k (by omega)]
      simp (disch := omega) only [rd_k]
    · rw [rdA_k (by omega), rdA_k (by omega), rdA_s, cpy_lt hj, rdA_k (by omega), rdA_k (by omega)]
      simp (disch := omega) only [rd_k]
    · rw [rdA_k (by omega), rdA_s, cpy_lt hj, rdA_k (by omega), rdA_k (by omega), rdA_k (by omega)]
      simp (disch := omega) only [rd_k]
    · rw [rdA_s, cpy_lt hj, rdA_k (by omega), rdA_k (by omega), rdA_k (by omega), rdA_k (by omega)]
      simp (disch := omega) only [rd_k]
theorem n2_become {μ : Mem} {b k h d : Nat} {σ : St} (c : NN μ k σ h d) (hn : σ 0 ≤ 9) (hb : isB (μ.1 k 6) = true) (hd : b + 22 ≤ k ∨ k + 22 ≤ b) : ∃ μ', f_X2_become b k μ = some μ' ∧ NN μ' b σ h d ∧ FB b μ μ' ∧ μ'.1 b 6 = μ.1 k 6 := by
  obtain ⟨x0, g0, e0⟩ := n2_become0 hb hd
  rw [e0]
  have L := lp_rel (fun n i (x : Mem) => f_X2_become_133 b k (fun μ => f_X2_become_164 b k μ) n (nI i) x) (fun i x => BC b k μ x ∧ ∀ a j, a < i → j < 9 → x.1 (b + 7 + a) j = μ.1 (k + 7 + a) j) 9 (fun x => (BC b k μ x ∧ ∀ a j, a < 9 → j < 9 → x.1 (b + 7 + a) j = μ.1 (k + 7 + a) j) ∧ ∀ c, c < 2 → (∀ j, j < 9 → x.1 (b + 17 + c) j = μ.1 (k + 17 + c) j) ∧ (∀ j, j < 171 → x.1 (b + 20 + c) j = μ.1 (k + 20 + c) j)) ?_ ?_ zfu 0 x0 (by omega) (by unfold zfu; omega) ⟨g0, fun a j ha => absurd ha (by omega)⟩
  · obtain ⟨x, g1, ⟨⟨g2, g3, g4⟩, g5⟩, g6⟩ := L
    refine ⟨x, g1, ⟨?_, ?_, ?_, ?_⟩, g2, g3 6 (by omega)⟩
    · obtain ⟨c0, c1, c2, c3, c4, c5, c6⟩ := c.1
      refine ⟨?_, ?_, ?_, ?_, ?_, c5, ?_⟩
      · rw [g3 0 (by omega)]; exact c0
      · rw [g3 1 (by omega)]; exact c1
      · rw [g3 2 (by omega)]; exact c2
      · rw [g3 3 (by omega)]; exact c3
      · rw [g3 4 (by omega)]; exact c4
      · rw [g3 5 (by omega)]; exact c6
    · obtain ⟨a1, a2, a3, a4, a5, a6⟩ := c.2.1
      refine ⟨fun r hr => ?_, fun r hr => ?_, fun r hr => ?_, fun r hr => ?_, fun r hr => ?_, fun a q ha hq hne => ?_⟩
      · rw [g4 1 r (by omega) (by omega) (by omega)]; exact a1 r hr
      · rw [g4 2 r (by omega) (by omega) (by omega)]; exact a2 r hr
      · rw [g4 3 r (by omega) (by omega) (by omega)]; exact a3 r hr
      · rw [g4 4 r (by omega) (by omega) (by omega)]; exact a4 r hr
      · rw [g4 5 r (by omega) (by omega) (by omega)]; exact a5 r hr
      · rw [g5 a q (by omega) (by omega)]; exact a6 a q ha hq hne
    · intro q r f hq hr
      rw [(g6 q hq).1 r (by omega)]
      exact c.2.2.1 q r f hq hr
    · intro q s t f hq hs ht
      rw [(g6 q hq).2 _ (by omega)]
      exact c.2.2.2 q s t f hq hs ht
  · intro n x ⟨g1, g2⟩
    have M := lp_rel (fun n i (x : Mem) => f_X2_become_166 b k n (nI i) x) (fun i x => (BC b k μ x ∧ ∀ a j, a < 9 → j < 9 → x.1 (b + 7 + a) j = μ.1 (k + 7 + a) j) ∧ ∀ c, c < i → (∀ j, j < 9 → x.1 (b + 17 + c) j = μ.1 (k + 17 + c) j) ∧ (∀ j, j < 171 → x.1 (b + 20 + c) j = μ.1 (k + 20 + c) j)) 2 (fun x => (BC b k μ x ∧ ∀ a j, a < 9 → j < 9 → x.1 (b + 7 + a) j = μ.1 (k + 7 + a) j) ∧ ∀ c, c < 2 → (∀ j, j < 9 → x.1 (b + 17 + c) j = μ.1 (k + 17 + c) j) ∧ (∀ j, j < 171 → x.1 (b + 20 + c) j = μ.1 (k + 20 + c) j)) ?_ ?_ zfu 0 x (by omega) (by unfold zfu; omega) ⟨⟨g1, g2⟩, fun c hc => absurd hc (by omega)⟩
    · obtain ⟨ρ, q1, q2⟩ := M
      refine ⟨ρ, ?_, q2⟩
      simp (disch := omega) only [f_X2_become_133, f_X2_become_164, nI_add, pk_mul, nI_clamp, nI_eqE, nI_leE, nI_ltE, nI_eq0, nI_le0, nI_lt0, nI_ge0, nI_gt0, pk_rem, pk_sub, inb_t, gd_y, zl_e, bd_y, isB_n0, isB_n1, n0_eq, n1_eq, if_n0, if_n1, isB_if, not_true_eq_false, not_false_eq_true, ite_true, ite_false, Nat.le_refl, Nat.lt_irrefl]
      exact q1
    · intro n x g
      refine ⟨x, ?_, g⟩
      simp (disch := omega) only [f_X2_become_166, nI_add, pk_mul, nI_clamp, nI_eqE, nI_leE, nI_ltE, nI_eq0, nI_le0, nI_lt0, nI_ge0, nI_gt0, pk_rem, pk_sub, inb_t, gd_y, zl_e, bd_y, isB_n0, isB_n1, n0_eq, n1_eq, if_n0, if_n1, isB_if, not_true_eq_false, not_false_eq_true, ite_true, ite_false, Nat.le_refl, Nat.lt_irrefl]
      rw [if_pos (by omega)]
    · intro n i x hi ⟨⟨g1, g2⟩, g3⟩
      left
      have qe : ¬ 1 < i := by omega
      refine ⟨_, ?_, by simp (disch := omega) only [f_X2_become_166, nI_add, pk_mul, nI_clamp, nI_eqE, nI_leE, nI_ltE, nI_eq0, nI_le0, nI_lt0, nI_ge0, nI_gt0, pk_rem, pk_sub, inb_t, gd_y, zl_e, bd_y, isB_n0, isB_n1, n0_eq, n1_eq, if_n0, if_n1, isB_if, not_true_eq_false, not_false_eq_true, ite_true, ite_false, Nat.le_refl, Nat.lt_irrefl, qe, cp9, cp171]; rfl⟩
      refine ⟨⟨(g1.up (by omega) (by omega)).up (by omega) (by omega), fun a j ha hj => by rw [rdA_k (by omega), rdA_k (by omega)]; exact g2 a j ha hj⟩, fun c hc => ?_⟩
      by_cases e : c = i
      · subst e
        refine ⟨fun j hj => ?_, fun j hj => ?_⟩
        · rw [rdA_k (by omega), rdA_s, cpy_lt hj, g1.1.2 _ (by omega)]
        · rw [rdA_s, cpy_lt hj, rdA_k (by omega), g1.1.2 _ (by omega)]
      · refine ⟨fun j hj => ?_, fun j hj => ?_⟩
        · rw [rdA_k (by omega), rdA_k (by omega)]; exact (g3 c (by omega)).1 j hj
        · rw [rdA_k (by omega), rdA_k (by omega)]; exact (g3 c (by omega)).2 j hj
  · intro n i x hi ⟨g1, g2⟩
    left
    have qe : ¬ 9 ≤ i := by omega
    refine ⟨_, ?_, by simp (disch := omega) only [f_X2_become_133, nI_add, pk_mul, nI_clamp, nI_eqE, nI_leE, nI_ltE, nI_eq0, nI_le0, nI_lt0, nI_ge0, nI_gt0, pk_rem, pk_sub, inb_t, gd_y, zl_e, bd_y, isB_n0, isB_n1, n0_eq, n1_eq, if_n0, if_n1, isB_if, not_true_eq_false, not_false_eq_true, ite_true, ite_false, Nat.le_refl, Nat.lt_irrefl, qe, cp9]; rfl⟩
    refine ⟨g1.up (by omega) (by omega), fun a j ha hj => ?_⟩
    by_cases e : a = i
    · subst e
      rw [rdA_s, cpy_lt hj, g1.1.2 _ (by omega)]
    · rw [rdA_k (by omega)]; exact g2 a j (by omega) hj
/-! liars from now on -/
def a_lr (x : Int32) (σ : St) (i : Nat) : St := fun j => if 6 ≤ j ∧ j < 6 + 6 * i ∧ (j - 6) % 6 = 0 ∧ bt x ((j - 6) / 6) = true then 1 else σ j
theorem a_lr_k {x : Int32} {σ : St} {i r : Nat} : a_lr x σ i (6 + 6 * r) = if r < i ∧ bt x r = true then 1 else σ (6 + 6 * r) := by
  unfold a_lr
  have e1 : (6 + 6 * r - 6) % 6 = 0 := by omega
  have e2 : (6 + 6 * r - 6) / 6 = r := by omega
  rw [e1, e2]
  by_cases c : r < i
  · simp [c, show 6 + 6 * r < 6 + 6 * i by omega]
  · rw [if_neg (by omega), if_neg (by omega)]
theorem a_lr_n {x : Int32} {σ : St} {i j : Nat} (h : j < 6 ∨ (j - 6) % 6 ≠ 0 ∨ 6 + 6 * i ≤ j) : a_lr x σ i j = σ j := by
  unfold a_lr
  rw [if_neg]
  intro ⟨h1, h2, h3, _⟩
  omega
theorem a_lr_z {σ : St} {i : Nat} : a_lr (nI 0) σ i = σ := by
  funext j
  unfold a_lr
  rw [if_neg]
  intro ⟨_, _, _, h⟩
  rw [bt_0] at h
  cases h
theorem a_lr_0 {x : Int32} {σ : St} : a_lr x σ 0 = σ := by
  funext j
  exact a_lr_n (by omega)
theorem a_lr_s {x : Int32} {σ : St} {i : Nat} : a_lr x σ (i + 1) = if bt x i = true then nu (a_lr x σ i) (6 + 6 * i) 1 else a_lr x σ i := by
  funext j
  by_cases c : j = 6 + 6 * i
  · subst c
    by_cases q : bt x i = true
    · rw [a_lr_k, if_pos ⟨by omega, q⟩, if_pos q, nu_s]
    · rw [a_lr_k, if_neg (fun z => q z.2), if_neg q, a_lr_k, if_neg (by omega)]
  · have : a_lr x σ (i + 1) j = a_lr x σ i j := by
      unfold a_lr
      have : (6 ≤ j ∧ j < 6 + 6 * (i + 1) ∧ (j - 6) % 6 = 0 ∧ bt x ((j - 6) / 6) = true) ↔ (6 ≤ j ∧ j < 6 + 6 * i ∧ (j - 6) % 6 = 0 ∧ bt x ((j - 6) / 6) = true) := by
        constructor
        · intro ⟨h1, h2, h3, h4⟩; exact ⟨h1, by omega, h3, h4⟩
        · intro ⟨h1, h2, h3, h4⟩; exact ⟨h1, by omega, h3, h4⟩
      simp only [this]
    rw [this]
    split
    · rw [nu_n c]
    · rfl
theorem a_lr_w {x : Int32} {σ : St} {i : Nat} (w : WF σ) (hi : i ≤ 9) : WF (a_lr x σ i) := by
  intro j hj
  unfold a_lr
  split
  · rename_i q
    obtain ⟨h1, h2, h3, _⟩ := q
    have : j = 6 + 6 * ((j - 6) / 6) := by omega
    rw [this, bd_k (by omega)]
    omega
  · exact w j hj
theorem a_lr_ZR {x : Int32} {σ : St} {i : Nat} (z : ZR σ) (hi : i ≤ 9) : ZR (a_lr x σ i) := by
  intro f t s hf ht hs hc
  rw [a_lr_n (by omega)] at hc
  rw [a_lr_n (by omega)]
  exact z f t s hf ht hs hc
theorem n6_begin {μ : Mem} {x : Int32} {h d : Nat} {σ : St} (c : NN μ 2 σ h d) (w : WF σ) (hb : isB (μ.1 2 6) = true) : ∃ μ', f_X6_begin x μ = some μ' ∧ NN μ' 66 (a_lr x σ (σ 0)) h d ∧ FB 66 μ μ' ∧ μ'.1 66 6 = μ.1 2 6 := by
  have hn := w.n
  obtain ⟨x0, g1, g2, g3, g4⟩ := n2_become (b := 66) c hn hb (by omega)
  unfold f_X6_begin
  rw [g1, bd_y]
  have L := lp_rel (fun n i (y : Mem) => f_X6_begin_13 x n (nI i) y) (fun i y => NN y 66 (a_lr x σ i) h d ∧ FB 66 μ y ∧ y.1 66 6 = μ.1 2 6) (σ 0) (fun y => NN y 66 (a_lr x σ (σ 0)) h d ∧ FB 66 μ y ∧ y.1 66 6 = μ.1 2 6) ?_ ?_ zfu 0 x0 (by omega) (by unfold zfu; omega) ⟨by rw [a_lr_0]; exact g2, g3, g4⟩
  · obtain ⟨y, q1, q2, q3, q4⟩ := L
    exact ⟨y, q1, q2, q3, q4⟩
  · intro n y ⟨q1, q2, q3⟩
    have e0 := q1.n
    rw [a_lr_n (by omega)] at e0
    refine ⟨y, ?_, q1, q2, q3⟩
    simp (disch := omega) only [f_X6_begin_13, nI_add, pk_mul, nI_clamp, nI_eqE, nI_leE, nI_ltE, nI_eq0, nI_le0, nI_lt0, nI_ge0, nI_gt0, pk_rem, pk_sub, inb_t, gd_y, zl_e, bd_y, isB_n0, isB_n1, n0_eq, n1_eq, if_n0, if_n1, isB_if, not_true_eq_false, not_false_eq_true, ite_true, ite_false, Nat.le_refl, Nat.lt_irrefl, e0]
  · intro n i y hi ⟨q1, q2, q3⟩
    left
    have e0 := q1.n
    rw [a_lr_n (by omega)] at e0
    have qe : ¬ σ 0 ≤ i := by omega
    have eN : a_lr x σ i 0 = σ 0 := a_lr_n (by omega)
    by_cases e : bt x i = true
    · refine ⟨sI y 67 i (nI 1), ⟨?_, q2.t (FB.w (by omega) (by omega)), by rw [rd_k (by omega)]; exact q3⟩, ?_⟩
      · rw [a_lr_s, if_pos e]
        obtain ⟨cS, ⟨a1, a2, a3, a4, a5, a6⟩, cH, cR⟩ := q1
        refine ⟨(cS.mem (fun j hj => by rw [rd_k (by omega)])).st (nu_n (by omega)) (nu_n (by omega)) (nu_n (by omega)) (nu_n (by omega)), ?_, (cH.mem (fun k h1 h2 => rd_k (by omega))).st (by rw [eN]; exact hn) (nu_n (by omega)) (fun r' _ => nu_n (by omega)) (fun j h1 h2 => nu_n (by omega)), (cR.mem (fun k h1 h2 => rd_k (by omega))).st (nu_n (by omega)) (fun j h1 h2 => nu_n (by omega))⟩
        unfold NA
        rw [nu_n (by omega)]
        refine ⟨fun r' h' => ?_, fun r' h' => ?_, fun r' h' => ?_, fun r' h' => ?_, fun r' h' => ?_, fun a q ha hq hne => ?_⟩
        · by_cases e2 : r' = i
          · subst e2; rw [rd_s, nu_s]
          · rw [rd_j e2, nu_n (by omega)]; exact a1 r' h'
        · rw [rd_k (by omega), nu_n (by omega)]; exact a2 r' h'
        · rw [rd_k (by omega), nu_n (by omega)]; exact a3 r' h'
        · rw [rd_k (by omega), nu_n (by omega)]; exact a4 r' h'
        · rw [rd_k (by omega), nu_n (by omega)]; exact a5 r' h'
        · rw [rd_k (by omega), nu_n (by omega)]; exact a6 a q ha hq hne
      · simp (disch := omega) only [f_X6_begin_13, f_X6_begin_42, nI_add, pk_mul, nI_clamp, nI_eqE, nI_leE, nI_ltE, nI_eq0, nI_le0, nI_lt0, nI_ge0, nI_gt0, pk_rem, pk_sub, inb_t, gd_y, zl_e, bd_y, isB_n0, isB_n1, n0_eq, n1_eq, if_n0, if_n1, isB_if, not_true_eq_false, not_false_eq_true, ite_true, ite_false, Nat.le_refl, Nat.lt_irrefl, e0, qe, bt_sh, e, Nat.one_ne_zero]
    · refine ⟨y, ⟨by rw [a_lr_s, if_neg e]; exact q1, q2, q3⟩, ?_⟩
      simp (disch := omega) only [f_X6_begin_13, f_X6_begin_42, nI_add, pk_mul, nI_clamp, nI_eqE, nI_leE, nI_ltE, nI_eq0, nI_le0, nI_lt0, nI_ge0, nI_gt0, pk_rem, pk_sub, inb_t, gd_y, zl_e, bd_y, isB_n0, isB_n1, n0_eq, n1_eq, if_n0, if_n1, isB_if, not_true_eq_false, not_false_eq_true, ite_true, ite_false, Nat.le_refl, Nat.lt_irrefl, e0, qe, bt_sh, e, Bool.false_eq_true]
