/-! PURE PART: rules that can be left out -/
theorem or_nI {a b : Nat} : nI a ||| nI b = nI (a ||| b) := by
  apply bt_ext
  intro f hf
  rw [bt_or, bt_nI _ _ hf, bt_nI _ _ hf, bt_nI _ _ hf, Nat.testBit_or]
theorem p8 : ∀ r, r < 10 → 2 ^ (3 * r) = 8 ^ r := by decide
theorem p8le : ∀ r, r < 10 → 1 ≤ 8 ^ r ∧ 8 ^ r ≤ 134217728 := by decide
theorem oct {a v r : Nat} (hr : r < 9) (ha : a < 8 ^ r) (hv : v < 8) : nI a ||| (nI v <<< (nI (3 * r) &&& 31)) = nI (a + v * 8 ^ r) := by
  have p := p8 r (by omega)
  have q := p8le r (by omega)
  have q9 : 8 ^ r ≤ 16777216 := by
    have : ∀ r, r < 9 → 8 ^ r ≤ 16777216 := by decide
    exact this r hr
  have vb : v * 8 ^ r ≤ 7 * 8 ^ r := Nat.mul_le_mul_right _ (by omega)
  rw [pk_shlN (nI (3 * r) &&& 31) (3 * r) (sm_lt (3 * r) (by omega)) (by rw [p]; omega), or_nI]
  congr 1
  rw [Nat.or_comm, Nat.mul_comm, ← Nat.two_pow_add_eq_or_of_lt (by rw [p]; exact ha), p, Nat.add_comm, Nat.mul_comm]
def a_dg (σ τ : St) (r : Nat) : Nat := if a_tr σ r = true then τ (6 + 6 * r + 2) * 2 + τ (6 + 6 * r + 1) else 0
def a_oc (σ τ : St) (n : Nat) : Nat := sm (fun r => a_dg σ τ r * 8 ^ r) n
theorem sm8 {g : Nat → Nat} (h : ∀ r, r < 9 → g r < 8) : ∀ n, n ≤ 9 → sm (fun r => g r * 8 ^ r) n < 8 ^ n := by
  intro n
  induction n with
  | zero => intro _; exact Nat.lt_of_lt_of_le Nat.zero_lt_one (Nat.le_refl 1)
  | succ n ih =>
    intro hn
    have i := ih (by omega)
    have g8 : g n * 8 ^ n ≤ 7 * 8 ^ n := Nat.mul_le_mul_right _ (by have := h n (by omega); omega)
    show sm (fun r => g r * 8 ^ r) n + g n * 8 ^ n < 8 ^ (n + 1)
    rw [Nat.pow_succ]
    omega
theorem sm8_inj {g k : Nat → Nat} (hg : ∀ r, r < 9 → g r < 8) (hk : ∀ r, r < 9 → k r < 8) : ∀ n, n ≤ 9 → (sm (fun r => g r * 8 ^ r) n = sm (fun r => k r * 8 ^ r) n ↔ ∀ r, r < n → g r = k r) := by
  intro n
  induction n with
  | zero => intro _; exact ⟨fun _ r hr => absurd hr (by omega), fun _ => rfl⟩
  | succ n ih =>
    intro hn
    have a1 := sm8 hg n (by omega)
    have a2 := sm8 hk n (by omega)
    have e1 : sm (fun r => g r * 8 ^ r) (n + 1) = sm (fun r => g r * 8 ^ r) n + g n * 8 ^ n := rfl
    have e2 : sm (fun r => k r * 8 ^ r) (n + 1) = sm (fun r => k r * 8 ^ r) n + k n * 8 ^ n := rfl
    rw [e1, e2]
    have pos : 0 < 8 ^ n := Nat.pow_pos (by omega)
    constructor
    · intro e
      have d : (sm (fun r => g r * 8 ^ r) n + g n * 8 ^ n) / 8 ^ n = (sm (fun r => k r * 8 ^ r) n + k n * 8 ^ n) / 8 ^ n := by rw [e]
      rw [Nat.add_mul_div_right _ _ pos, Nat.add_mul_div_right _ _ pos, Nat.div_eq_of_lt a1, Nat.div_eq_of_lt a2, Nat.zero_add, Nat.zero_add] at d
      rw [d] at e
      have e' : sm (fun r => g r * 8 ^ r) n = sm (fun r => k r * 8 ^ r) n := by omega
      intro r hr
      by_cases q : r = n
      · rw [q]; exact d
      · exact (ih (by omega)).mp e' r (by omega)
    · intro e
      rw [(ih (by omega)).mpr (fun r hr => e r (by omega)), e n (by omega)]
theorem a_dg_8 {σ τ : St} (w : WF τ) {r : Nat} (hr : r < 9) : a_dg σ τ r < 8 := by
  have := w.s hr
  have := w.b hr
  unfold a_dg
  split <;> omega
theorem n2_outcome {μ : Mem} {b h d : Nat} {σ τ : St} (c : NN μ b τ h d) (w : WF τ) (ht : ∀ r, r < 9 → a_tr τ r = a_tr σ r) : f_X2_outcome b μ = some (nI (a_oc σ τ (τ 0)), μ) := by
  have hn := w.n
  unfold f_X2_outcome a_oc
  refine lp_eq (fun n i => f_X2_outcome_4 b n (nI (sm (fun r => a_dg σ τ r * 8 ^ r) i)) (nI i) μ) (τ 0) _ ?_ ?_ zfu 0 (by omega) (by unfold zfu; omega)
  · intro n
    simp (disch := omega) only [f_X2_outcome_4, nI_add, pk_mul, nI_clamp, nI_eqE, nI_leE, nI_ltE, nI_eq0, nI_le0, nI_lt0, nI_ge0, nI_gt0, pk_rem, pk_sub, inb_t, gd_y, zl_e, bd_y, isB_n0, isB_n1, n0_eq, n1_eq, if_n0, if_n1, isB_if, not_true_eq_false, not_false_eq_true, ite_true, ite_false, Nat.le_refl, Nat.lt_irrefl, c.n]
  · intro n i hi
    have qe : ¬ τ 0 ≤ i := by omega
    have tr := n2_isTrue c w hi
    rw [a_tr_if, ht i (by omega)] at tr
    have un : sm (fun r => a_dg σ τ r * 8 ^ r) (i + 1) = sm (fun r => a_dg σ τ r * 8 ^ r) i + a_dg σ τ i * 8 ^ i := rfl
    have d8 := a_dg_8 (σ := σ) w (show i < 9 by omega)
    have lt := sm8 (g := a_dg σ τ) (fun r hr => a_dg_8 w hr) i (by omega)
    rw [un]
    by_cases q : a_tr σ i = true
    · have dg : a_dg σ τ i = τ (6 + 6 * i + 2) * 2 + τ (6 + 6 * i + 1) := by unfold a_dg; rw [if_pos q]
      rw [dg] at d8 ⊢
      have oc := oct (show i < 9 by omega) lt d8
      simp (disch := omega) only [f_X2_outcome_4, f_X2_outcome_41, nI_add, pk_mul, nI_clamp, nI_eqE, nI_leE, nI_ltE, nI_eq0, nI_le0, nI_lt0, nI_ge0, nI_gt0, pk_rem, pk_sub, inb_t, gd_y, zl_e, bd_y, isB_n0, isB_n1, n0_eq, n1_eq, if_n0, if_n1, isB_if, not_true_eq_false, not_false_eq_true, ite_true, ite_false, Nat.le_refl, Nat.lt_irrefl, c.n, qe, tr, q, Nat.one_ne_zero, c.2.1.2.1 i hi, n2_believed c w hi, oc]
    · have dg : a_dg σ τ i = 0 := by unfold a_dg; rw [if_neg q]
      rw [dg, Nat.zero_mul]
      simp (disch := omega) only [f_X2_outcome_4, f_X2_outcome_41, nI_add, pk_mul, nI_clamp, nI_eqE, nI_leE, nI_ltE, nI_eq0, nI_le0, nI_lt0, nI_ge0, nI_gt0, pk_rem, pk_sub, inb_t, gd_y, zl_e, bd_y, isB_n0, isB_n1, n0_eq, n1_eq, if_n0, if_n1, isB_if, not_true_eq_false, not_false_eq_true, ite_true, ite_false, Nat.le_refl, Nat.lt_irrefl, c.n, qe, tr, q, Bool.false_eq_true, Nat.add_zero]
/-- whether all true ones come to the same without rule i -/
def a_sp (σ : St) (i : Nat) : Bool := decide (pc (fun r => a_tr σ r && !decide (3 * a_it 9 σ 60 (6 + 6 * r + 2) + a_it 9 σ 60 (6 + 6 * r + 1) = 3 * a_it 9 (a_bo σ i) 60 (6 + 6 * r + 2) + a_it 9 (a_bo σ i) 60 (6 + 6 * r + 1))) (σ 0) = 0)
def a_sv (σ : St) : Nat → Int32
  | 0 => nI 0
  | i + 1 => if a_sp σ i = true then a_sv σ i ||| (nI 1 <<< (nI i &&& 31)) else a_sv σ i
theorem sp_iff {σ : St} {i : Nat} (w : WF σ) (m : σ 1 ≤ 999) : (a_oc σ (a_it 9 (a_bo σ i) 60) (σ 0) = a_oc σ (a_it 9 σ 60) (σ 0)) ↔ (a_sp σ i = true) := by
  have hn := w.n
  have w1 := (a_it_1 (d := 9) w (by omega) 60 (by omega)).1
  have w2 := (a_it_1 (d := 9) (a_bo_w (q := i) w) (by rw [a_bo_n (by omega) (by omega)]; omega) 60 (by omega)).1
  unfold a_oc
  rw [sm8_inj (fun r hr => a_dg_8 w2 hr) (fun r hr => a_dg_8 w1 hr) (σ 0) hn]
  unfold a_sp
  rw [decide_eq_true_eq, pc_0]
  constructor
  · intro e r hr
    have := e r hr
    unfold a_dg at this
    by_cases q : a_tr σ r = true
    · rw [if_pos q, if_pos q] at this
      have b1 := w1.b (show r < 9 by omega)
      have b2 := w2.b (show r < 9 by omega)
      have : 3 * a_it 9 σ 60 (6 + 6 * r + 2) + a_it 9 σ 60 (6 + 6 * r + 1) = 3 * a_it 9 (a_bo σ i) 60 (6 + 6 * r + 2) + a_it 9 (a_bo σ i) 60 (6 + 6 * r + 1) := by omega
      simp [this]
    · simp [q]
  · intro e r hr
    have := e r hr
    unfold a_dg
    by_cases q : a_tr σ r = true
    · rw [if_pos q, if_pos q]
      have b1 := w1.b (show r < 9 by omega)
      have b2 := w2.b (show r < 9 by omega)
      simp only [q, Bool.true_and, Bool.not_eq_false', decide_eq_true_eq] at this
      omega
    · rw [if_neg q, if_neg q]
theorem a_oc_lt {σ τ : St} (w : WF τ) {n : Nat} (hn : n ≤ 9) : a_oc σ τ n < 2 ^ 31 := by
  have := sm8 (g := a_dg σ τ) (fun r hr => a_dg_8 w hr) n hn
  have p := p8le n (by omega)
  unfold a_oc
  omega
theorem a_oc_cg {σ τ ρ : St} {n : Nat} (hn : n ≤ 9) (h : ∀ j, j ≠ 1 → τ j = ρ j) : a_oc σ τ n = a_oc σ ρ n := by
  unfold a_oc
  apply sm_cg
  intro r hr
  unfold a_dg
  rw [h _ (by omega), h _ (by omega)]
theorem a_tr_it {σ τ : St} {d k : Nat} (w : WF σ) (m : σ 1 ≤ 999) (hk : k ≤ 60) (h : ∀ j, j ≠ 1 → τ j = a_it d σ k j) {r : Nat} (hr : r < 9) : a_tr τ r = a_tr σ r := by
  apply a_tr_st
  rw [h _ (by omega)]
  exact a_it_k w (by omega) (by omega) (by omega) (by unfold KA; omega) (by omega) k (by omega)
theorem ZR.bo {σ : St} {q : Nat} (z : ZR σ) : ZR (a_bo σ q) := fun f t s hf ht hs hc => by
  rw [a_bo_n (by omega) (by omega)] at hc
  rw [a_bo_n (by omega) (by omega)]
  exact z f t s hf ht hs hc
theorem x7_spare {μ : Mem} {σ : St} {h : Nat} (a : NW μ σ h 24) : ∃ x, f_X6_spareRules μ = some (a_sv σ (σ 3), x) ∧ FT μ x := by
  obtain ⟨w, z, m, n, s, l⟩ := id a
  have hn := w.n
  have h8 := w.ru
  unfold f_X6_spareRules
  obtain ⟨x0, τ, h', p1, p2, p3, p4, p5⟩ := n6_run (k1 := 24) (n := 60) n w z s (by omega) l (by omega) (by omega)
  have t0 : τ 0 = σ 0 := by rw [p3 0 (by omega)]; exact (a_it_1 w (by omega) 60 (by omega)).2.2
  have oc := n2_outcome (σ := σ) p2 p4 (fun r hr => a_tr_it w m (by omega) p3 hr)
  rw [t0, a_oc_cg hn p3] at oc
  rw [p1, bd_y, oc, bd_y]
  have L := lp_rel (fun f i (y : Int32 × Mem) => f_X6_spareRules_22 f (nI (a_oc σ (a_it 9 σ 60) (σ 0))) y.1 (nI i) y.2) (fun i y => y.1 = a_sv σ i ∧ FT μ y.2) (σ 3) (fun y => y.1 = a_sv σ (σ 3) ∧ FT μ y.2) ?_ ?_ zfu 0 (nI 0, x0) (by omega) (by unfold zfu; omega) ⟨rfl, FT.fb p5⟩
  · obtain ⟨y, g1, g2, g3⟩ := L
    exact ⟨y.2, by rw [← g2]; exact g1, g3⟩
  · intro f y ⟨g1, g2⟩
    refine ⟨y, ?_, g1, g2⟩
    have l0 := (a.ft g2).2.2.2.2.2.1
    simp (disch := omega) only [f_X6_spareRules_22, nI_add, pk_mul, nI_clamp, nI_eqE, nI_leE, nI_ltE, nI_eq0, nI_le0, nI_lt0, nI_ge0, nI_gt0, pk_rem, pk_sub, inb_t, gd_y, zl_e, bd_y, isB_n0, isB_n1, n0_eq, n1_eq, if_n0, if_n1, isB_if, not_true_eq_false, not_false_eq_true, ite_true, ite_false, Nat.le_refl, Nat.lt_irrefl, l0]
  · intro f i y hi ⟨g1, g2⟩
    left
    obtain ⟨y1, y2⟩ := y
    simp only at *
    subst g1
    obtain ⟨_, _, _, ny, sy, ly⟩ := a.ft g2
    have qe : ¬ σ 3 ≤ i := by omega
    obtain ⟨y3, b1, b2, b3⟩ := n0_without (b := 88) (k := 24) (a2 := nI i) (q := i) ly w (by omega) (fun j hj => nI_eqE (by omega) (by omega))
    have wb := a_bo_w (q := i) w
    have nb : NN y3 2 (a_bo σ i) h 9 := (ny.mem hn (fun q h1 h2 => b3.2 q (by omega))).st hn (fun j h1 h2 h3 => a_bo_n h2 (by omega))
    obtain ⟨y4, τ2, h2, r1, r2, r3, r4, r5⟩ := n6_run (k1 := 88) (n := 60) nb wb z.bo (by rw [b3.2 2 (by omega)]; exact sy) (by rw [a_bo_n (by omega) (by omega)]; omega) b2 (by omega) (by omega)
    have mb : a_bo σ i 1 ≤ 999 := by rw [a_bo_n (by omega) (by omega)]; exact m
    have t2 : τ2 0 = σ 0 := by rw [r3 0 (by omega), (a_it_1 wb (by omega) 60 (by omega)).2.2]; exact a_bo_n (by omega) (by omega)
    have oc2 := n2_outcome (σ := σ) r2 r4 (fun r hr => by rw [a_tr_it wb mb (by omega) r3 hr]; exact a_tr_st (a_bo_n (by omega) (by omega)))
    rw [t2, a_oc_cg hn r3] at oc2
    have w1 := (a_it_1 (d := 9) w (by omega) 60 (by omega)).1
    have w2 := (a_it_1 (d := 9) wb (by omega) 60 (by omega)).1
    have o1 := a_oc_lt (σ := σ) w1 hn
    have o2 := a_oc_lt (σ := σ) w2 hn
    have iff := sp_iff (i := i) w m
    have l0 := ly.1
    have un : a_sv σ (i + 1) = if a_sp σ i = true then a_sv σ i ||| (nI 1 <<< (nI i &&& 31)) else a_sv σ i := rfl
    refine ⟨(a_sv σ (i + 1), y4), ⟨rfl, g2.t ((FT.fl b3).t (FT.fb r5))⟩, ?_⟩
    rw [un]
    simp (disch := omega) only [f_X6_spareRules_22, f_X6_spareRules_72, nI_add, pk_mul, nI_clamp, nI_eqE, nI_leE, nI_ltE, nI_eq0, nI_le0, nI_lt0, nI_ge0, nI_gt0, pk_rem, pk_sub, inb_t, gd_y, zl_e, bd_y, isB_n0, isB_n1, n0_eq, n1_eq, if_n0, if_n1, isB_if, not_true_eq_false, not_false_eq_true, ite_true, ite_false, Nat.le_refl, Nat.lt_irrefl, l0, qe, b1, r1, oc2, iff]
    by_cases q : a_sp σ i = true
    · simp only [q, if_true]
    · simp only [q, Bool.false_eq_true, if_false]
/-! the reference -/
def a_sh (σ : St) (i k : Nat) : St := fun j => if 1761 + 4 * i ≤ j ∧ j < 1761 + k then σ (j + 4) else σ j
theorem a_sh_0 {σ : St} {i : Nat} : a_sh σ i (4 * i) = σ := by
  funext j
  unfold a_sh
  rw [if_neg (by omega)]
theorem a_sh_s {σ : St} {i k : Nat} (h : 4 * i ≤ k) : nu (a_sh σ i k) (1761 + k) (a_sh σ i k (1761 + k + 4)) = a_sh σ i (k + 1) := by
  funext j
  unfold nu a_sh
  by_cases e : j = 1761 + k
  · rw [if_pos e, if_neg (by omega), if_pos (by omega), e]
  · rw [if_neg e]
    by_cases c : 1761 + 4 * i ≤ j ∧ j < 1761 + k
    · rw [if_pos c, if_pos (by omega)]
    · rw [if_neg c, if_neg (by omega)]
theorem a_sh_bo {σ : St} {i : Nat} (hi : i < σ 3) : nu (a_sh σ i 28) 3 (a_sh σ i 28 3 - 1) = a_bo σ i := by
  funext j
  unfold nu a_bo a_sh
  by_cases e : j = 3
  · rw [if_pos e, if_pos e, if_neg (by omega), if_pos hi]
  · rw [if_neg e, if_neg e]
    by_cases c : 1761 + 4 * i ≤ j ∧ j < 1761 + 28
    · rw [if_pos c, if_pos (by omega)]
    · rw [if_neg c, if_neg (by omega)]
theorem a_sh_w {σ : St} {i k : Nat} (w : WF σ) (hk : k ≤ 28) : WF (a_sh σ i k) := by
  intro j hj
  unfold a_sh
  split
  · rename_i q
    have hb : bd j = bd (j + 4) := by
      have : ∀ j, j < 28 → bd (1761 + j) = bd (1761 + j + 4) := by decide
      have := this (j - 1761) (by omega)
      rw [show 1761 + (j - 1761) = j by omega] at this
      exact this
    rw [hb]
    exact w (j + 4) (by omega)
  · exact w j hj
def EN (y : Mem) (σ : St) : Prop := ∀ r, r < 9 → y.1 123 r = nI (3 * a_it 9 σ 60 (6 + 6 * r + 2) + a_it 9 σ 60 (6 + 6 * r + 1))
theorem e8_spare {μ : Mem} {σ : St} (r : RR μ 114 σ) (w : WF σ) (m : σ 1 ≤ 999) (hL : L16 μ false) (hD : D17 μ 9) : ∃ y, (Option.bind (f_X8_tries 114 (nI 60) μ) fun p3_ => f_X8_spare_19 (fun x1 μ => f_X8_spare_68 x1 μ) zfu (nI 0) (nI 0) p3_) = some (a_sv σ (σ 3), y) ∧ FZ μ y ∧ y.1 113 17 = μ.1 113 17 := by
  have hn := w.n
  have h8 := w.ru
  have w1 := (a_it_1 (d := 9) w (by omega) 60 (by omega)).1
  obtain ⟨c, tr⟩ := e8_tries (k1 := 114) (n := 60) r (by omega) w (by omega) hL hD (by omega)
  rw [tr, bd_y]
  -- the ends
  have ends : ∃ y, f_X8_spare_19 (fun x1 μ => f_X8_spare_68 x1 μ) zfu (nI 0) (nI 0) (rM (sI μ 113 18 c) 116 (a_it 9 σ 60)) = f_X8_spare_68 (nI 0) y ∧ FZ μ y ∧ y.1 113 17 = μ.1 113 17 ∧ EN y σ := by
    have L : ∀ fu i y, i ≤ 9 → 9 - i < fu → FZ μ y → y.1 113 17 = μ.1 113 17 → RR y 116 (a_it 9 σ 60) → (∀ q, q < i → y.1 123 q = nI (3 * a_it 9 σ 60 (6 + 6 * q + 2) + a_it 9 σ 60 (6 + 6 * q + 1))) → ∃ y', f_X8_spare_19 (fun x1 μ => f_X8_spare_68 x1 μ) fu (nI 0) (nI i) y = f_X8_spare_68 (nI 0) y' ∧ FZ μ y' ∧ y'.1 113 17 = μ.1 113 17 ∧ EN y' σ := by
      intro fu
      induction fu with
      | zero => intro i y _ h; omega
      | succ fu ih =>
        intro i y hi hfu fz y17 ry en
        by_cases e : i = 9
        · subst e
          refine ⟨y, ?_, fz, y17, en⟩
          simp (disch := omega) only [f_X8_spare_19, nI_add, pk_mul, nI_clamp, nI_eqE, nI_leE, nI_ltE, nI_eq0, nI_le0, nI_lt0, nI_ge0, nI_gt0, pk_rem, pk_sub, inb_t, gd_y, zl_e, bd_y, isB_n0, isB_n1, n0_eq, n1_eq, if_n0, if_n1, isB_if, not_true_eq_false, not_false_eq_true, ite_true, ite_false, Nat.le_refl, Nat.lt_irrefl]
        · have qe : ¬ 9 ≤ i := by omega
          have e1 := ry (6 + 6 * i + 2) (by omega)
          have e2 := ry (6 + 6 * i + 1) (by omega)
          obtain ⟨y', g1, g2⟩ := ih (i + 1) (sI y 123 i (nI (3 * a_it 9 σ 60 (6 + 6 * i + 2) + a_it 9 σ 60 (6 + 6 * i + 1)))) (by omega) (by omega) (fz.t (FZ.k (by omega))) (by rw [rd_k (by omega)]; exact y17) (fun j hj => by rw [rd_k (by omega)]; exact ry j hj) (fun q hq => by
            by_cases eq : q = i
            · subst eq; rw [rd_s]
            · rw [rd_j eq]; exact en q (by omega))
          refine ⟨y', ?_, g2⟩
          rw [← g1]
          simp (disch := omega) only [f_X8_spare_19, nI_add, pk_mul, nI_clamp, nI_eqE, nI_leE, nI_ltE, nI_eq0, nI_le0, nI_lt0, nI_ge0, nI_gt0, pk_rem, pk_sub, inb_t, gd_y, zl_e, bd_y, isB_n0, isB_n1, n0_eq, n1_eq, if_n0, if_n1, isB_if, not_true_eq_false, not_false_eq_true, ite_true, ite_false, Nat.le_refl, Nat.lt_irrefl, qe, e1, e2]
    exact L zfu 0 _ (by omega) (by unfold zfu; omega) FZ.rx rx17 rM_rr (fun q hq => absurd hq (by omega))
  obtain ⟨y0, e0, fz0, y017, en0⟩ := ends
  rw [e0]
  unfold f_X8_spare_68
  have L : ∀ fu i y, i ≤ σ 3 → σ 3 - i < fu → FZ μ y → y.1 113 17 = μ.1 113 17 → EN y σ → ∃ y', f_X8_spare_70 fu (a_sv σ i) (nI i) y = some (a_sv σ (σ 3), y') ∧ FZ μ y' ∧ y'.1 113 17 = μ.1 113 17 := by
    intro fu
    induction fu with
    | zero => intro i y _ h; omega
    | succ fu ih =>
      intro i y hi hfu fz y17 en
      have r3 : y.1 114 3 = nI (σ 3) := fz.rr r 3 (by omega)
      by_cases e : i = σ 3
      · subst e
        refine ⟨y, ?_, fz, y17⟩
        simp (disch := omega) only [f_X8_spare_70, nI_add, pk_mul, nI_clamp, nI_eqE, nI_leE, nI_ltE, nI_eq0, nI_le0, nI_lt0, nI_ge0, nI_gt0, pk_rem, pk_sub, inb_t, gd_y, zl_e, bd_y, isB_n0, isB_n1, n0_eq, n1_eq, if_n0, if_n1, isB_if, not_true_eq_false, not_false_eq_true, ite_true, ite_false, Nat.le_refl, Nat.lt_irrefl, r3]
      · have qe : ¬ σ 3 ≤ i := by omega
        have cp := e8_copies (fz.rr r) (k1 := 115) (by omega)
        -- the rules move up
        have mv : ∀ kx : Int32 → Int32 → Mem → Option (Int32 × Mem), f_X8_spare_95 kx zfu (a_sv σ i) (nI i) (nI (4 * i)) (rM y 115 σ) = kx (a_sv σ i) (nI i) (rM y 115 (a_sh σ i 28)) := by
          intro kx
          have M : ∀ f k, 4 * i ≤ k → k ≤ 28 → 28 - k < f → f_X8_spare_95 kx f (a_sv σ i) (nI i) (nI k) (rM y 115 (a_sh σ i k)) = kx (a_sv σ i) (nI i) (rM y 115 (a_sh σ i 28)) := by
            intro f
            induction f with
            | zero => intro k _ _ h; omega
            | succ f ihf =>
              intro k h1 h2 h3
              by_cases ek : k = 28
              · subst ek
                simp (disch := omega) only [f_X8_spare_95, nI_add, pk_mul, nI_clamp, nI_eqE, nI_leE, nI_ltE, nI_eq0, nI_le0, nI_lt0, nI_ge0, nI_gt0, pk_rem, pk_sub, inb_t, gd_y, zl_e, bd_y, isB_n0, isB_n1, n0_eq, n1_eq, if_n0, if_n1, isB_if, not_true_eq_false, not_false_eq_true, ite_true, ite_false, Nat.le_refl, Nat.lt_irrefl]
              · have qk : ¬ 28 ≤ k := by omega
                rw [← ihf (k + 1) (by omega) (by omega) (by omega), ← a_sh_s h1]
                simp (disch := omega) only [f_X8_spare_95, nI_add, pk_mul, nI_clamp, nI_eqE, nI_leE, nI_ltE, nI_eq0, nI_le0, nI_lt0, nI_ge0, nI_gt0, pk_rem, pk_sub, inb_t, gd_y, zl_e, bd_y, isB_n0, isB_n1, n0_eq, n1_eq, if_n0, if_n1, isB_if, not_true_eq_false, not_false_eq_true, ite_true, ite_false, Nat.le_refl, Nat.lt_irrefl, qk, rM_r, rM_w]
          have := M zfu (4 * i) (Nat.le_refl _) (by omega) (by unfold zfu; omega)
          rw [a_sh_0] at this
          exact this
        have wb := a_bo_w (q := i) w
        have mb : a_bo σ i 1 ≤ 999 := by rw [a_bo_n (by omega) (by omega)]; exact m
        have f1 : FZ μ (rM y 115 (a_bo σ i)) := fz.t (FZ.rm (by omega))
        have y17' : (rM y 115 (a_bo σ i)).1 113 17 = μ.1 113 17 := by rw [rM_k (by omega)]; exact y17
        obtain ⟨c2, tr2⟩ := e8_tries (k1 := 115) (μ := rM y 115 (a_bo σ i)) (n := 60) rM_rr (by omega) wb (by omega) (f1.l hL) (hD.ft y17') (by omega)
        have w2 := (a_it_1 (d := 9) wb (by omega) 60 (by omega)).1
        generalize hY : rM (sI (rM y 115 (a_bo σ i)) 113 18 c2) 116 (a_it 9 (a_bo σ i) 60) = Y at tr2
        have fY : FZ μ Y := by rw [← hY]; exact f1.t FZ.rx
        have Y17 : Y.1 113 17 = μ.1 113 17 := by rw [← hY, rx17]; exact y17'
        have eY : EN Y σ := fun q hq => by rw [← hY, rM_k (by omega), rd_k (by omega), rM_k (by omega)]; exact en q hq
        have rY : RR Y 116 (a_it 9 (a_bo σ i) 60) := by rw [← hY]; exact rM_rr
        have r4 := fY.rr r
        -- all true ones alike
        have cmp : ∀ kx : Int32 → Int32 → Int32 → Mem → Option (Int32 × Mem), f_X8_spare_154 kx zfu (a_sv σ i) (nI i) (nI 1) (nI 0) Y = kx (a_sv σ i) (nI i) (nI (if a_sp σ i = true then 1 else 0)) Y := by
          intro kx
          unfold a_sp
          refine lp_eq (fun f q => f_X8_spare_154 kx f (a_sv σ i) (nI i) (nI (if decide (pc (fun r => a_tr σ r && !decide (3 * a_it 9 σ 60 (6 + 6 * r + 2) + a_it 9 σ 60 (6 + 6 * r + 1) = 3 * a_it 9 (a_bo σ i) 60 (6 + 6 * r + 2) + a_it 9 (a_bo σ i) 60 (6 + 6 * r + 1))) q = 0) = true then 1 else 0)) (nI q) Y) (σ 0) _ ?_ ?_ zfu 0 (by omega) (by unfold zfu; omega)
          · intro f
            have z0 : Y.1 114 0 = nI (σ 0) := r4 0 (by omega)
            simp (disch := omega) only [f_X8_spare_154, nI_add, pk_mul, nI_clamp, nI_eqE, nI_leE, nI_ltE, nI_eq0, nI_le0, nI_lt0, nI_ge0, nI_gt0, pk_rem, pk_sub, inb_t, gd_y, zl_e, bd_y, isB_n0, isB_n1, n0_eq, n1_eq, if_n0, if_n1, isB_if, not_true_eq_false, not_false_eq_true, ite_true, ite_false, Nat.le_refl, Nat.lt_irrefl, z0]
          · intro f q hq
            have z0 : Y.1 114 0 = nI (σ 0) := r4 0 (by omega)
            have qq : ¬ σ 0 ≤ q := by omega
            have q9 : q < 9 := by omega
            have is := e8_isTrue (μ := Y) (k := 114) w q9
            rw [rM_o r4, a_tr_if] at is
            have b1 := w1.b q9
            have b2 := w2.b q9
            have s1 := w1.s q9
            have s2 := w2.s q9
            have x1 := rY (6 + 6 * q + 2) (by omega)
            have x2 := rY (6 + 6 * q + 1) (by omega)
            have x3 := eY q q9
            have un : pc (fun r => a_tr σ r && !decide (3 * a_it 9 σ 60 (6 + 6 * r + 2) + a_it 9 σ 60 (6 + 6 * r + 1) = 3 * a_it 9 (a_bo σ i) 60 (6 + 6 * r + 2) + a_it 9 (a_bo σ i) 60 (6 + 6 * r + 1))) (q + 1) = pc (fun r => a_tr σ r && !decide (3 * a_it 9 σ 60 (6 + 6 * r + 2) + a_it 9 σ 60 (6 + 6 * r + 1) = 3 * a_it 9 (a_bo σ i) 60 (6 + 6 * r + 2) + a_it 9 (a_bo σ i) 60 (6 + 6 * r + 1))) q + (if (a_tr σ q && !decide (3 * a_it 9 σ 60 (6 + 6 * q + 2) + a_it 9 σ 60 (6 + 6 * q + 1) = 3 * a_it 9 (a_bo σ i) 60 (6 + 6 * q + 2) + a_it 9 (a_bo σ i) 60 (6 + 6 * q + 1))) = true then 1 else 0) := rfl
            rw [un]
            simp (disch := omega) only [f_X8_spare_154, f_X8_spare_224, f_X8_spare_228, f_X8_spare_229, nI_add, pk_mul, nI_clamp, nI_eqE, nI_leE, nI_ltE, nI_eq0, nI_le0, nI_lt0, nI_ge0, nI_gt0, pk_rem, pk_sub, inb_t, gd_y, zl_e, bd_y, isB_n0, isB_n1, n0_eq, n1_eq, if_n0, if_n1, isB_if, not_true_eq_false, not_false_eq_true, ite_true, ite_false, Nat.le_refl, Nat.lt_irrefl, z0, qq, is, x1, x2, x3]
            by_cases c0 : pc (fun r => a_tr σ r && !decide (3 * a_it 9 σ 60 (6 + 6 * r + 2) + a_it 9 σ 60 (6 + 6 * r + 1) = 3 * a_it 9 (a_bo σ i) 60 (6 + 6 * r + 2) + a_it 9 (a_bo σ i) 60 (6 + 6 * r + 1))) q = 0
            · cases q1 : a_tr σ q
              · simp [c0]
              · by_cases q2 : 3 * a_it 9 σ 60 (6 + 6 * q + 2) + a_it 9 σ 60 (6 + 6 * q + 1) = 3 * a_it 9 (a_bo σ i) 60 (6 + 6 * q + 2) + a_it 9 (a_bo σ i) 60 (6 + 6 * q + 1)
                · simp [c0, q2]
                · simp [c0, q2]
            · simp [c0]
        obtain ⟨y', g1, g2, g3⟩ := ih (i + 1) Y (by omega) (by omega) fY Y17 eY
        refine ⟨y', ?_, g2, g3⟩
        rw [← g1]
        have un : a_sv σ (i + 1) = if a_sp σ i = true then a_sv σ i ||| (nI 1 <<< (nI i &&& 31)) else a_sv σ i := rfl
        have s3 : a_sh σ i 28 3 = σ 3 := by unfold a_sh; rw [if_neg (by omega)]
        have bo := a_sh_bo (σ := σ) (i := i) (by omega)
        rw [s3] at bo
        rw [un]
        simp (disch := omega) only [f_X8_spare_70, nI_add, pk_mul, nI_clamp, nI_eqE, nI_leE, nI_ltE, nI_eq0, nI_le0, nI_lt0, nI_ge0, nI_gt0, pk_rem, pk_sub, inb_t, gd_y, zl_e, bd_y, isB_n0, isB_n1, n0_eq, n1_eq, if_n0, if_n1, isB_if, not_true_eq_false, not_false_eq_true, ite_true, ite_false, Nat.le_refl, Nat.lt_irrefl, r3, qe, cp]
        rw [mv]
        simp (disch := omega) only [f_X8_spare_129, nI_add, pk_mul, nI_clamp, nI_eqE, nI_leE, nI_ltE, nI_eq0, nI_le0, nI_lt0, nI_ge0, nI_gt0, pk_rem, pk_sub, inb_t, gd_y, zl_e, bd_y, isB_n0, isB_n1, n0_eq, n1_eq, if_n0, if_n1, isB_if, not_true_eq_false, not_false_eq_true, ite_true, ite_false, Nat.le_refl, Nat.lt_irrefl, rM_r, s3, rM_w, bo, tr2]
        rw [cmp]
        by_cases q : a_sp σ i = true
        · simp (disch := omega) only [f_X8_spare_236, f_X8_spare_248, nI_add, pk_mul, nI_clamp, nI_eqE, nI_leE, nI_ltE, nI_eq0, nI_le0, nI_lt0, nI_ge0, nI_gt0, pk_rem, pk_sub, inb_t, gd_y, zl_e, bd_y, isB_n0, isB_n1, n0_eq, n1_eq, if_n0, if_n1, isB_if, not_true_eq_false, not_false_eq_true, ite_true, ite_false, Nat.le_refl, Nat.lt_irrefl, q, Nat.one_ne_zero]
        · simp (disch := omega) only [f_X8_spare_236, f_X8_spare_248, nI_add, pk_mul, nI_clamp, nI_eqE, nI_leE, nI_ltE, nI_eq0, nI_le0, nI_lt0, nI_ge0, nI_gt0, pk_rem, pk_sub, inb_t, gd_y, zl_e, bd_y, isB_n0, isB_n1, n0_eq, n1_eq, if_n0, if_n1, isB_if, not_true_eq_false, not_false_eq_true, ite_true, ite_false, Nat.le_refl, Nat.lt_irrefl, q, Bool.false_eq_true, o0]
  exact L zfu 0 y0 (by omega) (by unfold zfu; omega) fz0 y017 en0
theorem o_spare : ok_spare II := by
  intro μ I
  obtain ⟨⟨σ, h, r, w, z, m, n, s, l, g⟩, -, -, -, hL, hD⟩ := id I
  have nw : NW μ σ h 24 := ⟨w, z, m, n, s, l⟩
  obtain ⟨x, p1, p2⟩ := x7_spare nw
  obtain ⟨y, g1, g2, g3⟩ := e8_spare (μ := sI x 113 0 (nI 0)) (σ := σ) (fun j hj => by rw [rd_k (by omega), p2.2 114 (by omega)]; exact r j hj) w m ((hL.ft p2).t (by omega)) ((hD.ft (by rw [p2.2 113 (by omega)])).t (by omega))
  refine ⟨a_sv σ (σ 3), x, y, ?_, ?_, I.fx ((FX.ft p2).t (FX.th.t (FX.fz g2 g3)))⟩
  · unfold f_X7_spare
    rw [p1, bd_y]
  · unfold f_X8_spare
    rw [zl_e]
    exact g1
