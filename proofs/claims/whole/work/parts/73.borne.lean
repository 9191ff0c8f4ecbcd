/-! PURE PART: who is borne, the least number -/
def a_hp (σ : St) (S : Nat) : Bool := decide (a_un a_ul 9 61 0 (a_lr (nI S) σ (σ 0)) = 61)
def a_bd (σ : St) (k S : Nat) : Bool := decide (pc (fun f => S.testBit f) 9 = k) && !a_hp σ S
def a_ha (σ : St) (k : Nat) : Bool := decide (pc (a_bd σ k) (2 ^ σ 0) = 0)
theorem x6_borne1 {μ : Mem} {σ : St} {h k1 k : Nat} {a2 : Int32} {kx : Int32 → Mem → Option (Int32 × Mem)} (a : NW μ σ h k1) (hk : k1 = 24 ∨ k1 = 88) (hk2 : k ≤ 2) : ∀ fu S x, S ≤ 2 ^ σ 0 → 2 ^ σ 0 - S < fu → (∀ j, j < S → a_bd σ k j = false) → FB 66 μ x → ∃ x', FB 66 μ x' ∧ (a_ha σ k = true → f_X6_borne_10 k1 a2 kx fu (nI k) (nI S) x = kx (nI k) x') ∧ (a_ha σ k = false → f_X6_borne_10 k1 a2 kx fu (nI k) (nI S) x = some (nI k - nI 1, x')) := by
  have hn := a.1.n
  have pw := pow_le (σ 0) hn
  intro fu
  induction fu with
  | zero => intro S x _ h; omega
  | succ fu ih =>
    intro S x hS hfu hb fx
    have nx := a.fb' hk fx
    have n0 := nx.2.2.2.1.n
    by_cases e : S = 2 ^ σ 0
    · have ha : a_ha σ k = true := by
        unfold a_ha
        rw [decide_eq_true_eq]
        exact pc_0.mpr (by rw [← e]; exact hb)
      refine ⟨x, fx, fun _ => ?_, fun q => absurd (ha.symm.trans q) (by simp)⟩
      rw [e]
      simp (disch := omega) only [f_X6_borne_10, nI_add, pk_mul, nI_clamp, nI_eqE, nI_leE, nI_ltE, nI_eq0, nI_le0, nI_lt0, nI_ge0, nI_gt0, pk_rem, pk_sub, inb_t, gd_y, zl_e, bd_y, isB_n0, isB_n1, n0_eq, n1_eq, if_n0, if_n1, isB_if, not_true_eq_false, not_false_eq_true, ite_true, ite_false, Nat.le_refl, Nat.lt_irrefl, n0, sh_pow (σ 0) hn]
    · have qe : ¬ 2 ^ σ 0 ≤ S := by omega
      have bc := bc_e (x := nI S) (μ := x) (fun f h1 h2 => by rw [bt_nI S f h2]; exact tb_no (n := 9) (by omega) h1)
      have pb : pc (bt (nI S)) 9 = pc (fun f => S.testBit f) 9 := pc_cg (fun f hf => bt_nI S f (by omega))
      rw [pb] at bc
      have p9 := pc_le (p := fun f => S.testBit f) (n := 9)
      by_cases c1 : pc (fun f => S.testBit f) 9 = k
      · obtain ⟨y0, y, p1, p2, p3⟩ := n6_unl (v := nI S) nx hk
        have le := a_un_le (p := a_ul) (d := 9) 61 0 (a_lr (nI S) σ (σ 0)) (by omega)
        by_cases c2 : a_un a_ul 9 61 0 (a_lr (nI S) σ (σ 0)) = 61
        · have hS' : a_bd σ k S = false := by
            unfold a_bd a_hp
            simp [c2]
          obtain ⟨x', g1, g2, g3⟩ := ih (S + 1) y (by omega) (by omega) (fun j hj => by
            by_cases ej : j < S
            · exact hb j ej
            · rw [show j = S by omega]; exact hS') (fx.t p3)
          have st : f_X6_borne_10 k1 a2 kx (fu + 1) (nI k) (nI S) x = f_X6_borne_10 k1 a2 kx fu (nI k) (nI (S + 1)) y := by
            simp (disch := omega) only [f_X6_borne_10, f_X6_borne_55, nI_add, pk_mul, nI_clamp, nI_eqE, nI_leE, nI_ltE, nI_eq0, nI_le0, nI_lt0, nI_ge0, nI_gt0, pk_rem, pk_sub, inb_t, gd_y, zl_e, bd_y, isB_n0, isB_n1, n0_eq, n1_eq, if_n0, if_n1, isB_if, not_true_eq_false, not_false_eq_true, ite_true, ite_false, Nat.le_refl, Nat.lt_irrefl, n0, sh_pow (σ 0) hn, qe, bc, c1, p1, p2, c2]
          exact ⟨x', g1, fun q => by rw [st]; exact g2 q, fun q => by rw [st]; exact g3 q⟩
        · have hS' : a_bd σ k S = true := by
            unfold a_bd a_hp
            simp [c1, c2]
          have ha : a_ha σ k = false := by
            unfold a_ha
            rw [decide_eq_false_iff_not]
            intro q
            have := pc_0.mp q S (by omega)
            rw [hS'] at this
            cases this
          refine ⟨y, fx.t p3, fun q => absurd (ha.symm.trans q) (by simp), fun _ => ?_⟩
          simp (disch := omega) only [f_X6_borne_10, nI_add, pk_mul, nI_clamp, nI_eqE, nI_leE, nI_ltE, nI_eq0, nI_le0, nI_lt0, nI_ge0, nI_gt0, pk_rem, inb_t, gd_y, zl_e, bd_y, isB_n0, isB_n1, n0_eq, n1_eq, if_n0, if_n1, isB_if, not_true_eq_false, not_false_eq_true, ite_true, ite_false, Nat.le_refl, Nat.lt_irrefl, n0, sh_pow (σ 0) hn, qe, bc, c1, p1, p2, c2]
      · have hS' : a_bd σ k S = false := by
          unfold a_bd
          simp [c1]
        obtain ⟨x', g1, g2, g3⟩ := ih (S + 1) x (by omega) (by omega) (fun j hj => by
          by_cases ej : j < S
          · exact hb j ej
          · rw [show j = S by omega]; exact hS') fx
        have st : f_X6_borne_10 k1 a2 kx (fu + 1) (nI k) (nI S) x = f_X6_borne_10 k1 a2 kx fu (nI k) (nI (S + 1)) x := by
          simp (disch := omega) only [f_X6_borne_10, f_X6_borne_55, nI_add, pk_mul, nI_clamp, nI_eqE, nI_leE, nI_ltE, nI_eq0, nI_le0, nI_lt0, nI_ge0, nI_gt0, pk_rem, pk_sub, inb_t, gd_y, zl_e, bd_y, isB_n0, isB_n1, n0_eq, n1_eq, if_n0, if_n1, isB_if, not_true_eq_false, not_false_eq_true, ite_true, ite_false, Nat.le_refl, Nat.lt_irrefl, n0, sh_pow (σ 0) hn, qe, bc, c1]
        exact ⟨x', g1, fun q => by rw [st]; exact g2 q, fun q => by rw [st]; exact g3 q⟩
theorem x6_borne {μ : Mem} {σ : St} {h k1 M : Nat} (a : NW μ σ h k1) (hk : k1 = 24 ∨ k1 = 88) (hM : M ≤ 2) : ∃ x, f_X6_borne k1 (nI M) μ = some (nI (a_ff (fun k => !a_ha σ k) (M + 1)) - nI 1, x) ∧ FB 66 μ x := by
  have hn := a.1.n
  have pw := pow_le (σ 0) hn
  unfold f_X6_borne
  have L : ∀ fu k x, k ≤ M + 1 → M + 1 - k < fu → (∀ j, j < k → (!a_ha σ j) = false) → FB 66 μ x → ∃ x', f_X6_borne_2 k1 (nI M) fu (nI k) x = some (nI (a_ff (fun k => !a_ha σ k) (M + 1)) - nI 1, x') ∧ FB 66 μ x' := by
    intro fu
    induction fu with
    | zero => intro k x _ h; omega
    | succ fu ih =>
      intro k x hkM hfu hb fx
      by_cases e : k = M + 1
      · subst e
        refine ⟨x, ?_, fx⟩
        rw [a_ff_n hb, pk_sub (by omega)]
        simp (disch := omega) only [f_X6_borne_2, nI_add, pk_mul, nI_clamp, nI_eqE, nI_leE, nI_ltE, nI_eq0, nI_le0, nI_lt0, nI_ge0, nI_gt0, pk_rem, pk_sub, inb_t, gd_y, zl_e, bd_y, isB_n0, isB_n1, n0_eq, n1_eq, if_n0, if_n1, isB_if, not_true_eq_false, not_false_eq_true, ite_true, ite_false, Nat.le_refl, Nat.lt_irrefl]
        rw [if_pos (by omega)]
        rfl
      · have qe : ¬ M < k := by omega
        obtain ⟨y, g1, g2, g3⟩ := x6_borne1 (a2 := nI M) (k := k) (kx := fun x3 μ => f_X6_borne_61 k1 (nI M) (fun x3 μ => f_X6_borne_2 k1 (nI M) fu x3 μ) x3 μ) a hk (by omega) zfu 0 x (by omega) (by unfold zfu; omega) (fun j hj => absurd hj (by omega)) fx
        by_cases c : a_ha σ k = true
        · obtain ⟨x', h1, h2⟩ := ih (k + 1) y (by omega) (by omega) (fun j hj => by
            by_cases ej : j < k
            · exact hb j ej
            · rw [show j = k by omega, c]; rfl) g1
          refine ⟨x', ?_, h2⟩
          rw [← h1]
          simp (disch := omega) only [f_X6_borne_2, nI_add, pk_mul, nI_clamp, nI_eqE, nI_leE, nI_ltE, nI_eq0, nI_le0, nI_lt0, nI_ge0, nI_gt0, pk_rem, pk_sub, inb_t, gd_y, zl_e, bd_y, isB_n0, isB_n1, n0_eq, n1_eq, if_n0, if_n1, isB_if, not_true_eq_false, not_false_eq_true, ite_true, ite_false, Nat.le_refl, Nat.lt_irrefl, qe]
          rw [g2 c]
          simp only [f_X6_borne_61, nI_add]
        · have c' : a_ha σ k = false := by simpa using c
          refine ⟨y, ?_, g1⟩
          rw [a_ff_lt (k := k) (by omega) (by simp [c']) hb]
          simp (disch := omega) only [f_X6_borne_2, nI_add, pk_mul, nI_clamp, nI_eqE, nI_leE, nI_ltE, nI_eq0, nI_le0, nI_lt0, nI_ge0, nI_gt0, pk_rem, inb_t, gd_y, zl_e, bd_y, isB_n0, isB_n1, n0_eq, n1_eq, if_n0, if_n1, isB_if, not_true_eq_false, not_false_eq_true, ite_true, ite_false, Nat.le_refl, Nat.lt_irrefl, qe]
          rw [g3 c']
  exact L zfu 0 μ (by omega) (by unfold zfu; omega) (fun j hj => absurd hj (by omega)) FB.r
/-! the reference -/
def FY (μ y : Mem) : Prop := y.2 = μ.2 ∧ (∀ k, k ≠ 113 → k ≠ 116 → y.1 k = μ.1 k) ∧ (∀ j, j ≠ 18 → y.1 113 j = μ.1 113 j)
theorem FY.r {μ : Mem} : FY μ μ := ⟨rfl, fun _ _ _ => rfl, fun _ _ => rfl⟩
theorem FY.t {μ μ1 μ2 : Mem} (f : FY μ μ1) (g : FY μ1 μ2) : FY μ μ2 := ⟨g.1.trans f.1, fun k a b => (g.2.1 k a b).trans (f.2.1 k a b), fun j a => (g.2.2 j a).trans (f.2.2 j a)⟩
theorem FY.rx {μ : Mem} {v : Int32} {τ : St} : FY μ (rM (sI μ 113 18 v) 116 τ) := ⟨rfl, fun k a b => by rw [rM_k b, rd_k a], fun j a => by rw [rM_k (by omega), rd_j a]⟩
theorem FZ.fy {μ y : Mem} (f : FY μ y) : FZ μ y := ⟨f.1, fun k a _ c _ => f.2.1 k a c, fun j _ _ c => f.2.2 j c⟩
theorem FY.rr {μ y : Mem} {σ : St} {k : Nat} (f : FY μ y) (r : RR μ k σ) (h1 : k ≠ 113) (h2 : k ≠ 116) : RR y k σ := fun j hj => by rw [f.2.1 k h1 h2]; exact r j hj
theorem FY.l {μ y : Mem} {lot : Bool} (f : FY μ y) (h : L16 μ lot) : L16 y lot := by unfold L16; rw [f.2.2 16 (by omega)]; exact h
theorem FY.d {μ y : Mem} {d : Nat} (f : FY μ y) (h : D17 μ d) : D17 y d := by unfold D17; rw [f.2.2 17 (by omega)]; exact h
theorem e8_holdsAll {μ : Mem} {σ : St} {k1 k : Nat} (r : RR μ k1 σ) (hk : k1 = 114 ∨ k1 = 115) (w : WF σ) (m : σ 1 ≤ 999) (hL : L16 μ false) (hD : D17 μ 9) (hk2 : k ≤ 2) : ∃ y, f_X8_holdsAll k1 (nI k) μ = some (nI (if a_ha σ k = true then 1 else 0), y) ∧ FY μ y := by
  have hn := w.n
  have pw := pow_le (σ 0) hn
  unfold f_X8_holdsAll
  have L : ∀ fu S y, S ≤ 2 ^ σ 0 → 2 ^ σ 0 - S < fu → (∀ j, j < S → a_bd σ k j = false) → FY μ y → ∃ y', f_X8_holdsAll_5 k1 (nI k) fu (nI 1) (nI S) y = some (nI (if a_ha σ k = true then 1 else 0), y') ∧ FY μ y' := by
    intro fu
    induction fu with
    | zero => intro S y _ h; omega
    | succ fu ih =>
      intro S y hS hfu hb fy
      have ry := fy.rr r (by omega) (by omega)
      have r0 : y.1 k1 0 = nI (σ 0) := ry 0 (by omega)
      by_cases e : S = 2 ^ σ 0
      · have ha : a_ha σ k = true := by
          unfold a_ha
          rw [decide_eq_true_eq]
          exact pc_0.mpr (by rw [← e]; exact hb)
        refine ⟨y, ?_, fy⟩
        rw [e, ha]
        simp (disch := omega) only [f_X8_holdsAll_5, nI_add, pk_mul, nI_clamp, nI_eqE, nI_leE, nI_ltE, nI_eq0, nI_le0, nI_lt0, nI_ge0, nI_gt0, pk_rem, pk_sub, inb_t, gd_y, zl_e, bd_y, isB_n0, isB_n1, n0_eq, n1_eq, if_n0, if_n1, isB_if, not_true_eq_false, not_false_eq_true, ite_true, ite_false, Nat.le_refl, Nat.lt_irrefl, r0, sh_pow (σ 0) hn]
      · have qe : ¬ 2 ^ σ 0 ≤ S := by omega
        have p9 := pc_le (p := fun f => S.testBit f) (n := 9)
        by_cases c1 : pc (fun f => S.testBit f) 9 = k
        · obtain ⟨c, τ, hb1⟩ := e8_holdsBy (x := nI S) ry (by omega) w (by omega) (fy.l hL) (fy.d hD)
          by_cases c2 : a_un a_ul 9 61 0 (a_lr (nI S) σ (σ 0)) = 61
          · have hS' : a_bd σ k S = false := by
              unfold a_bd a_hp
              simp [c2]
            obtain ⟨y', g1, g2⟩ := ih (S + 1) (rM (sI y 113 18 c) 116 τ) (by omega) (by omega) (fun j hj => by
              by_cases ej : j < S
              · exact hb j ej
              · rw [show j = S by omega]; exact hS') (fy.t FY.rx)
            refine ⟨y', ?_, g2⟩
            rw [← g1]
            simp (disch := omega) only [f_X8_holdsAll_5, f_X8_holdsAll_38, f_X8_holdsAll_43, nI_add, pk_mul, nI_clamp, nI_eqE, nI_leE, nI_ltE, nI_eq0, nI_le0, nI_lt0, nI_ge0, nI_gt0, pk_rem, pk_sub, inb_t, gd_y, zl_e, bd_y, isB_n0, isB_n1, n0_eq, n1_eq, if_n0, if_n1, isB_if, not_true_eq_false, not_false_eq_true, ite_true, ite_false, Nat.le_refl, Nat.lt_irrefl, r0, sh_pow (σ 0) hn, qe, e8_ones, c1, hb1, c2, Nat.one_ne_zero]
          · have hS' : a_bd σ k S = true := by
              unfold a_bd a_hp
              simp [c1, c2]
            have ha : a_ha σ k = false := by
              unfold a_ha
              rw [decide_eq_false_iff_not]
              intro q
              have := pc_0.mp q S (by omega)
              rw [hS'] at this
              cases this
            have fy2 := fy.t (FY.rx (v := c) (τ := τ))
            have r1 : (rM (sI y 113 18 c) 116 τ).1 k1 0 = nI (σ 0) := fy2.rr r (by omega) (by omega) 0 (by omega)
            refine ⟨rM (sI y 113 18 c) 116 τ, ?_, fy2⟩
            rw [ha]
            obtain ⟨fu', rfl⟩ : ∃ fu', fu = fu' + 1 := ⟨fu - 1, by omega⟩
            simp (disch := omega) only [f_X8_holdsAll_5, f_X8_holdsAll_38, f_X8_holdsAll_43, nI_add, pk_mul, nI_clamp, nI_eqE, nI_leE, nI_ltE, nI_eq0, nI_le0, nI_lt0, nI_ge0, nI_gt0, pk_rem, pk_sub, inb_t, gd_y, zl_e, bd_y, isB_n0, isB_n1, n0_eq, n1_eq, if_n0, if_n1, isB_if, not_true_eq_false, not_false_eq_true, ite_true, ite_false, Nat.le_refl, Nat.lt_irrefl, r0, r1, sh_pow (σ 0) hn, qe, e8_ones, c1, hb1, c2, Nat.one_ne_zero, Bool.false_eq_true, ite_self]
        · have hS' : a_bd σ k S = false := by
            unfold a_bd
            simp [c1]
          obtain ⟨y', g1, g2⟩ := ih (S + 1) y (by omega) (by omega) (fun j hj => by
            by_cases ej : j < S
            · exact hb j ej
            · rw [show j = S by omega]; exact hS') fy
          refine ⟨y', ?_, g2⟩
          rw [← g1]
          simp (disch := omega) only [f_X8_holdsAll_5, f_X8_holdsAll_38, f_X8_holdsAll_43, nI_add, pk_mul, nI_clamp, nI_eqE, nI_leE, nI_ltE, nI_eq0, nI_le0, nI_lt0, nI_ge0, nI_gt0, pk_rem, pk_sub, inb_t, gd_y, zl_e, bd_y, isB_n0, isB_n1, n0_eq, n1_eq, if_n0, if_n1, isB_if, not_true_eq_false, not_false_eq_true, ite_true, ite_false, Nat.le_refl, Nat.lt_irrefl, r0, sh_pow (σ 0) hn, qe, e8_ones, c1, Nat.one_ne_zero]
  exact L zfu 0 μ (by omega) (by unfold zfu; omega) (fun j hj => absurd hj (by omega)) FY.r
theorem e8_bears {μ : Mem} {σ : St} (r : RR μ 114 σ) (w : WF σ) (m : σ 1 ≤ 999) (hL : L16 μ false) (hD : D17 μ 9) : ∃ y, f_X8_bears_7 (fun x1 μ => f_X8_bears_30 x1 μ) zfu (nI 0) μ = f_X8_bears_30 (nI (a_ff (fun k => !a_ha σ k) 3)) y ∧ FY μ y := by
  have L : ∀ fu k y, k ≤ 3 → 3 - k < fu → (∀ j, j < k → (!a_ha σ j) = false) → FY μ y → ∃ y', f_X8_bears_7 (fun x1 μ => f_X8_bears_30 x1 μ) fu (nI k) y = f_X8_bears_30 (nI (a_ff (fun k => !a_ha σ k) 3)) y' ∧ FY μ y' := by
    intro fu
    induction fu with
    | zero => intro k y _ h; omega
    | succ fu ih =>
      intro k y hk hfu hb fy
      by_cases e : k = 3
      · subst e
        refine ⟨y, ?_, fy⟩
        rw [a_ff_n hb]
        simp (disch := omega) only [f_X8_bears_7, nI_add, pk_mul, nI_clamp, nI_eqE, nI_leE, nI_ltE, nI_eq0, nI_le0, nI_lt0, nI_ge0, nI_gt0, pk_rem, pk_sub, inb_t, gd_y, zl_e, bd_y, isB_n0, isB_n1, n0_eq, n1_eq, if_n0, if_n1, isB_if, not_true_eq_false, not_false_eq_true, ite_true, ite_false, Nat.le_refl, Nat.lt_irrefl]
      · have qe : ¬ 3 ≤ k := by omega
        obtain ⟨y1, g1, g2⟩ := e8_holdsAll (k := k) (fy.rr r (by omega) (by omega)) (by omega) w m (fy.l hL) (fy.d hD) (by omega)
        by_cases c : a_ha σ k = true
        · obtain ⟨y', h1, h2⟩ := ih (k + 1) y1 (by omega) (by omega) (fun j hj => by
            by_cases ej : j < k
            · exact hb j ej
            · rw [show j = k by omega, c]; rfl) (fy.t g2)
          refine ⟨y', ?_, h2⟩
          rw [← h1]
          simp (disch := omega) only [f_X8_bears_7, nI_add, pk_mul, nI_clamp, nI_eqE, nI_leE, nI_ltE, nI_eq0, nI_le0, nI_lt0, nI_ge0, nI_gt0, pk_rem, pk_sub, inb_t, gd_y, zl_e, bd_y, isB_n0, isB_n1, n0_eq, n1_eq, if_n0, if_n1, isB_if, not_true_eq_false, not_false_eq_true, ite_true, ite_false, Nat.le_refl, Nat.lt_irrefl, qe, g1, c, Nat.one_ne_zero]
        · have c' : a_ha σ k = false := by simpa using c
          refine ⟨y1, ?_, fy.t g2⟩
          rw [a_ff_lt (k := k) (by omega) (by simp [c']) hb]
          simp (disch := omega) only [f_X8_bears_7, nI_add, pk_mul, nI_clamp, nI_eqE, nI_leE, nI_ltE, nI_eq0, nI_le0, nI_lt0, nI_ge0, nI_gt0, pk_rem, pk_sub, inb_t, gd_y, zl_e, bd_y, isB_n0, isB_n1, n0_eq, n1_eq, if_n0, if_n1, isB_if, not_true_eq_false, not_false_eq_true, ite_true, ite_false, Nat.le_refl, Nat.lt_irrefl, qe, g1, c', Bool.false_eq_true]
  exact L zfu 0 μ (by omega) (by unfold zfu; omega) (fun j hj => absurd hj (by omega)) FY.r
theorem o_bears : ok_bears II := by
  intro μ I
  obtain ⟨⟨σ, h, r, w, z, m, n, s, l, g⟩, -, -, -, hL, hD⟩ := id I
  have nw : NW μ σ h 24 := ⟨w, z, m, n, s, l⟩
  obtain ⟨x, p1, p2⟩ := x6_borne (M := 2) nw (by omega) (by omega)
  have ft := FT.fb p2
  obtain ⟨y, g1, g2⟩ := e8_bears (μ := sI x 113 0 (nI 0)) (σ := σ) (fun j hj => by rw [rd_k (by omega), ft.2 114 (by omega)]; exact r j hj) w m ((hL.ft ft).t (by omega)) ((hD.ft (by rw [ft.2 113 (by omega)])).t (by omega))
  have le := a_ff_le (p := fun k => !a_ha σ k) (n := 3)
  have p1' : f_X6_borne 24 (nI 2) μ = some (nI (a_ff (fun k => !a_ha σ k) 3) - nI 1, x) := p1
  have fx : FX μ y := (FX.ft ft).t (FX.th.t (FX.fz (FZ.fy g2) (g2.2.2 17 (by omega))))
  by_cases c : a_ff (fun k => !a_ha σ k) 3 = 0
  · refine ⟨-4, x, y, ?_, ?_, I.fx fx⟩
    · unfold f_X7_bears f_X6_mostBorne
      rw [p1', bd_y, bd_y, c, if_neg (show ¬ (0 : Int32) ≤ nI 0 - nI 1 by decide)]
    · unfold f_X8_bears
      rw [zl_e, g1, c]
      unfold f_X8_bears_30
      simp (disch := omega) only [zl_e, bd_y, if_n0, n0_eq, n1_eq, Bool.false_eq_true, not_true_eq_false, not_false_eq_true, if_true, if_false, Nat.one_ne_zero, rM_rM]
  · refine ⟨nI (a_ff (fun k => !a_ha σ k) 3 - 1), x, y, ?_, ?_, I.fx fx⟩
    · unfold f_X7_bears f_X6_mostBorne
      rw [p1', bd_y, bd_y, pk_sub (by omega), if_pos (nI_pos' (by omega))]
    · unfold f_X8_bears
      rw [zl_e, g1]
      unfold f_X8_bears_30
      simp (disch := omega) only [nI_eq0, c, if_false, pk_sub]
/-! the least number -/
def a_wn (σ : St) (v i : Nat) : St := fun j => if 1761 ≤ j ∧ j < 1761 + 4 * i ∧ (j - 1761) % 4 = 1 then v else σ j
theorem a_wn_0 {σ : St} {v : Nat} : a_wn σ v 0 = σ := by
  funext j
  unfold a_wn
  rw [if_neg (by omega)]
theorem a_wn_s {σ : St} {v i : Nat} : nu (a_wn σ v i) (1761 + 4 * i + 1) v = a_wn σ v (i + 1) := by
  funext j
  unfold nu a_wn
  by_cases e : j = 1761 + 4 * i + 1
  · rw [if_pos e, if_pos (by omega)]
  · rw [if_neg e]
    by_cases c : 1761 ≤ j ∧ j < 1761 + 4 * i ∧ (j - 1761) % 4 = 1
    · rw [if_pos c, if_pos (by omega)]
    · rw [if_neg c, if_neg (by omega)]
theorem a_wn_n {σ : St} {v i j : Nat} (h : j < 1761 ∨ (j - 1761) % 4 ≠ 1) : a_wn σ v i j = σ j := by
  unfold a_wn
  rw [if_neg (by omega)]
theorem a_wn_y {σ : St} {v i j : Nat} (h : j < i) : a_wn σ v i (1761 + 4 * j + 1) = v := by
  unfold a_wn
  rw [if_pos (by omega)]
theorem a_wn_w {σ : St} {v i : Nat} (w : WF σ) (hv : v ≤ 9) (hi : i ≤ 8) : WF (a_wn σ v i) := by
  intro j hj
  unfold a_wn
  split
  · rename_i q
    obtain ⟨h1, h2, h3⟩ := q
    have : j = 1761 + 4 * ((j - 1761) / 4) + 1 := by omega
    rw [this, bd_r1 (by omega)]
    exact hv
  · exact w j hj
theorem fill_e {μ : Mem} {k nq : Nat} {v : Int32} (h : nq < 1000) : f_J7_fill_53178 k nq v μ = some (sA μ k (fun j => if j < nq then v else μ.1 k j)) := by
  unfold f_J7_fill_53178
  rw [zl_e]
  refine Eq.trans ?_ (lp_eq (fun n i => f_J7_fill_53178_5 k nq v n (nI i) (nI nq) (sA μ k (fun j => if j < i then v else μ.1 k j))) nq _ ?_ ?_ zfu 0 (by omega) (by unfold zfu; omega))
  · have : (fun j => if j < 0 then v else μ.1 k j) = μ.1 k := by funext j; simp
    simp only [this, sA_self]
    rfl
  · intro n
    simp (disch := omega) only [f_J7_fill_53178_5, nI_add, pk_mul, nI_clamp, nI_eqE, nI_leE, nI_ltE, nI_eq0, nI_le0, nI_lt0, nI_ge0, nI_gt0, pk_rem, pk_sub, inb_t, gd_y, zl_e, bd_y, isB_n0, isB_n1, n0_eq, n1_eq, if_n0, if_n1, isB_if, not_true_eq_false, not_false_eq_true, ite_true, ite_false, Nat.le_refl, Nat.lt_irrefl]
  · intro n i hi
    have qe : ¬ nq ≤ i := by omega
    have e : upd (fun j => if j < i then v else μ.1 k j) i v = fun j => if j < i + 1 then v else μ.1 k j := by
      funext j
      unfold upd
      by_cases e1 : j = i
      · subst e1; simp
      · by_cases e2 : j < i
        · simp [e1, e2, show j < i + 1 by omega]
        · simp [e1, e2, show ¬ j < i + 1 by omega]
    simp (disch := omega) only [f_J7_fill_53178_5, nI_add, pk_mul, nI_clamp, nI_eqE, nI_leE, nI_ltE, nI_eq0, nI_le0, nI_lt0, nI_ge0, nI_gt0, pk_rem, pk_sub, inb_t, gd_y, zl_e, bd_y, isB_n0, isB_n1, n0_eq, n1_eq, if_n0, if_n1, isB_if, not_true_eq_false, not_false_eq_true, ite_true, ite_false, Nat.le_refl, Nat.lt_irrefl, qe, sI_sA, e]
theorem n0_number {μ : Mem} {b k v : Nat} {σ : St} (l : NL μ k σ) (w : WF σ) (hd : b + 5 ≤ k ∨ k + 5 ≤ b) : ∃ μ', f_X0_becomeWithNumber b k (nI v) μ = some μ' ∧ NL μ' b (a_wn σ v (σ 3)) ∧ FL b 5 μ μ' := by
  have h8 := w.ru
  obtain ⟨x, g1, g2, g3⟩ := n0_become (b := b) l w hd
  refine ⟨sA x (b + 2) (fun j => if j < 8 then nI v else x.1 (b + 2) j), ?_, ?_, ?_⟩
  · unfold f_X0_becomeWithNumber
    rw [g1, bd_y, fill_e (by omega), bd_y]
  · obtain ⟨l0, l1⟩ := g2
    unfold NL
    rw [a_wn_n (by omega)]
    refine ⟨by rw [rdA_k (by omega)]; exact l0, fun i hi => ?_⟩
    obtain ⟨q1, q2, q3, q4⟩ := l1 i hi
    rw [a_wn_n (by omega), a_wn_y hi, a_wn_n (by omega), a_wn_n (by omega)]
    refine ⟨by rw [rdA_k (by omega)]; exact q1, ?_, by rw [rdA_k (by omega)]; exact q3, by rw [rdA_k (by omega)]; exact q4⟩
    rw [rdA_s, if_pos (by omega)]
  · exact g3.t ⟨rfl, fun q hq => rdA_k (by omega)⟩
/-- whether a law of this number will do -/
def a_ok (σ : St) (k m v : Nat) : Bool := decide (a_un (a_dn (fun _ => false)) 9 61 0 (a_wn σ v (σ 3)) ≤ m) && decide (a_ff (fun e => !a_ha (a_wn σ v (σ 3)) e) (k + 1) = k + 1)
theorem x7_least {μ : Mem} {σ : St} {h k m : Nat} (a : NW μ σ h 24) (hk : k ≤ 2) (hm : m ≤ 60) : ∃ x, f_X6_leastNumber (nI k) (nI m) μ = some (if a_ff (a_ok σ k m) 10 < 10 then nI (a_ff (a_ok σ k m) 10) else -4, x) ∧ FT μ x := by
  unfold f_X6_leastNumber
  have L : ∀ fu v x, v ≤ 10 → 10 - v < fu → (∀ j, j < v → a_ok σ k m j = false) → FT μ x → ∃ x', f_X6_leastNumber_2 (nI k) (nI m) fu (nI v) x = some (if a_ff (a_ok σ k m) 10 < 10 then nI (a_ff (a_ok σ k m) 10) else -4, x') ∧ FT μ x' := by
    intro fu
    induction fu with
    | zero => intro v x _ h; omega
    | succ fu ih =>
      intro v x hv hfu hb fx
      by_cases e : v = 10
      · subst e
        refine ⟨x, ?_, fx⟩
        rw [a_ff_n hb, if_neg (by omega)]
        simp (disch := omega) only [f_X6_leastNumber_2, nI_add, pk_mul, nI_clamp, nI_eqE, nI_leE, nI_ltE, nI_eq0, nI_le0, nI_lt0, nI_ge0, nI_gt0, pk_rem, pk_sub, inb_t, gd_y, zl_e, bd_y, isB_n0, isB_n1, n0_eq, n1_eq, if_n0, if_n1, isB_if, not_true_eq_false, not_false_eq_true, ite_true, ite_false, Nat.le_refl, Nat.lt_irrefl]
        rw [if_pos (by omega)]
      · have qe : ¬ 9 < v := by omega
        obtain ⟨w, z, m1, n, s, l⟩ := a.ft fx
        have hn := w.n
        have h8 := w.ru
        obtain ⟨y, b1, b2, b3⟩ := n0_number (b := 88) (v := v) l w (by omega)
        have w' := a_wn_w (v := v) (i := σ 3) w (by omega) h8
        have z' : ZR (a_wn σ v (σ 3)) := fun f t q hf ht hq hc => by
          rw [a_wn_n (by omega)] at hc
          rw [a_wn_n (by omega)]
          exact z f t q hf ht hq hc
        have ny : NW y (a_wn σ v (σ 3)) h 88 := ⟨w', z', by rw [a_wn_n (by omega)]; exact m1, (n.mem hn (fun q h1 h2 => b3.2 q (by omega))).st hn (fun j h1 h2 h3 => a_wn_n (by omega)), by rw [b3.2 2 (by omega)]; exact s, b2⟩
        obtain ⟨y0, y1, d1, d2, d3⟩ := n6_dn ny (by omega)
        have le := a_un_le (p := a_dn (fun _ => false)) (d := 9) 61 0 (a_wn σ v (σ 3)) (by omega)
        by_cases c1 : m < a_un (a_dn (fun _ => false)) 9 61 0 (a_wn σ v (σ 3))
        · have no : a_ok σ k m v = false := by
            unfold a_ok
            simp [show ¬ a_un (a_dn (fun _ => false)) 9 61 0 (a_wn σ v (σ 3)) ≤ m by omega]
          obtain ⟨x', g1, g2⟩ := ih (v + 1) y1 (by omega) (by omega) (fun j hj => by
            by_cases ej : j < v
            · exact hb j ej
            · rw [show j = v by omega]; exact no) (fx.t ((FT.fl b3).t (FT.fb d3)))
          refine ⟨x', ?_, g2⟩
          rw [← g1]
          simp (disch := omega) only [f_X6_leastNumber_2, f_X6_leastNumber_54, nI_add, pk_mul, nI_clamp, nI_eqE, nI_leE, nI_ltE, nI_eq0, nI_le0, nI_lt0, nI_ge0, nI_gt0, pk_rem, pk_sub, inb_t, gd_y, zl_e, bd_y, isB_n0, isB_n1, n0_eq, n1_eq, if_n0, if_n1, isB_if, not_true_eq_false, not_false_eq_true, ite_true, ite_false, Nat.le_refl, Nat.lt_irrefl, qe, b1, d1, d2, c1]
        · obtain ⟨y2, e1, e2⟩ := x6_borne (M := k) (ny.fb d3) (by omega) hk
          have fl := a_ff_le (p := fun e => !a_ha (a_wn σ v (σ 3)) e) (n := k + 1)
          have ft2 : FT μ y2 := fx.t ((FT.fl b3).t ((FT.fb d3).t (FT.fb e2)))
          by_cases c2 : a_ff (fun e => !a_ha (a_wn σ v (σ 3)) e) (k + 1) = k + 1
          · have yes : a_ok σ k m v = true := by
              unfold a_ok
              simp [c2, show a_un (a_dn (fun _ => false)) 9 61 0 (a_wn σ v (σ 3)) ≤ m by omega]
            refine ⟨y2, ?_, ft2⟩
            rw [a_ff_lt (by omega) yes hb, if_pos (by omega)]
            rw [c2, pk_sub (by omega)] at e1
            simp (disch := omega) only [f_X6_leastNumber_2, nI_add, pk_mul, nI_clamp, nI_eqE, nI_leE, nI_ltE, nI_eq0, nI_le0, nI_lt0, nI_ge0, nI_gt0, pk_rem, pk_sub, inb_t, gd_y, zl_e, bd_y, isB_n0, isB_n1, n0_eq, n1_eq, if_n0, if_n1, isB_if, not_true_eq_false, not_false_eq_true, ite_true, ite_false, Nat.le_refl, Nat.lt_irrefl, qe, b1, d1, d2, c1, e1, Nat.add_sub_cancel]
          · have no : a_ok σ k m v = false := by
              unfold a_ok
              simp [c2]
            obtain ⟨x', g1, g2⟩ := ih (v + 1) y2 (by omega) (by omega) (fun j hj => by
              by_cases ej : j < v
              · exact hb j ej
              · rw [show j = v by omega]; exact no) ft2
            refine ⟨x', ?_, g2⟩
            rw [← g1]
            have ne : ¬ (nI (a_ff (fun e => !a_ha (a_wn σ v (σ 3)) e) (k + 1)) - nI 1 = nI k) := by
              intro q
              by_cases f0 : a_ff (fun e => !a_ha (a_wn σ v (σ 3)) e) (k + 1) = 0
              · rw [f0] at q
                have t := congrArg Int32.toInt q
                rw [pk_sub_toInt (by omega) (by omega), nI_toInt (by omega)] at t
                omega
              · rw [pk_sub (by omega), nI_eq (by omega) (by omega)] at q
                omega
            simp (disch := omega) only [f_X6_leastNumber_2, f_X6_leastNumber_54, nI_add, pk_mul, nI_clamp, nI_eqE, nI_leE, nI_ltE, nI_eq0, nI_le0, nI_lt0, nI_ge0, nI_gt0, pk_rem, inb_t, gd_y, zl_e, bd_y, isB_n0, isB_n1, n0_eq, n1_eq, if_n0, if_n1, isB_if, not_true_eq_false, not_false_eq_true, ite_true, ite_false, Nat.le_refl, Nat.lt_irrefl, qe, b1, d1, d2, c1, e1, ne]
  exact L zfu 0 μ (by omega) (by unfold zfu; omega) (fun j hj => absurd hj (by omega)) FT.r
theorem least109 {k m v e : Int32} {kx : Int32 → Int32 → Mem → Option (Int32 × Mem)} {Y : Mem} (n : Nat) : f_X8_least_109 k m kx (n + 1) v (nI 0) e Y = kx v (nI 0) Y := by
  simp only [f_X8_least_109, n0_eq, if_true, ite_self]
theorem e8_least {μ : Mem} {σ : St} {k m : Nat} (r : RR μ 114 σ) (w : WF σ) (m1 : σ 1 ≤ 999) (hL : L16 μ false) (hD : D17 μ 9) (hk : k ≤ 2) (hm : m ≤ 60) : ∃ y, f_X8_least_33 (nI k) (nI m) zfu (nI 0) μ = some (if a_ff (a_ok σ k m) 10 < 10 then nI (a_ff (a_ok σ k m) 10) else -4, y) ∧ FZ μ y ∧ y.1 113 17 = μ.1 113 17 := by
  have h8 := w.ru
  have L : ∀ fu v y, v ≤ 10 → 10 - v < fu → (∀ j, j < v → a_ok σ k m j = false) → FZ μ y → y.1 113 17 = μ.1 113 17 → ∃ y', f_X8_least_33 (nI k) (nI m) fu (nI v) y = some (if a_ff (a_ok σ k m) 10 < 10 then nI (a_ff (a_ok σ k m) 10) else -4, y') ∧ FZ μ y' ∧ y'.1 113 17 = μ.1 113 17 := by
    intro fu
    induction fu with
    | zero => intro v y _ h; omega
    | succ fu ih =>
      intro v y hv hfu hb fz y17
      by_cases e : v = 10
      · subst e
        refine ⟨y, ?_, fz, y17⟩
        rw [a_ff_n hb, if_neg (by omega)]
        simp (disch := omega) only [f_X8_least_33, nI_add, pk_mul, nI_clamp, nI_eqE, nI_leE, nI_ltE, nI_eq0, nI_le0, nI_lt0, nI_ge0, nI_gt0, pk_rem, pk_sub, inb_t, gd_y, zl_e, bd_y, isB_n0, isB_n1, n0_eq, n1_eq, if_n0, if_n1, isB_if, not_true_eq_false, not_false_eq_true, ite_true, ite_false, Nat.le_refl, Nat.lt_irrefl]
      · have qe : ¬ 10 ≤ v := by omega
        have cp := e8_copies (fz.rr r) (k1 := 115) (by omega)
        have w' := a_wn_w (v := v) (i := σ 3) w (by omega) h8
        have f1 : FZ μ (rM y 115 (a_wn σ v (σ 3))) := fz.t (FZ.rm (by omega))
        have y17' : (rM y 115 (a_wn σ v (σ 3))).1 113 17 = μ.1 113 17 := by rw [rM_k (by omega)]; exact y17
        have lp : ∀ kx : Int32 → Mem → Option (Int32 × Mem), f_X8_least_53 (nI k) (nI m) kx zfu (nI v) (nI 0) (rM y 115 σ) = kx (nI v) (rM y 115 (a_wn σ v (σ 3))) := by
          intro kx
          refine Eq.trans ?_ (lp_eq (fun f i => f_X8_least_53 (nI k) (nI m) kx f (nI v) (nI i) (rM y 115 (a_wn σ v i))) (σ 3) _ ?_ ?_ zfu 0 (by omega) (by unfold zfu; omega))
          · simp only [a_wn_0]
          · intro f
            have r3 : (rM y 115 (a_wn σ v (σ 3))).1 114 3 = nI (σ 3) := by rw [rM_k (by omega)]; exact fz.rr r 3 (by omega)
            simp (disch := omega) only [f_X8_least_53, nI_add, pk_mul, nI_clamp, nI_eqE, nI_leE, nI_ltE, nI_eq0, nI_le0, nI_lt0, nI_ge0, nI_gt0, pk_rem, pk_sub, inb_t, gd_y, zl_e, bd_y, isB_n0, isB_n1, n0_eq, n1_eq, if_n0, if_n1, isB_if, not_true_eq_false, not_false_eq_true, ite_true, ite_false, Nat.le_refl, Nat.lt_irrefl, r3]
          · intro f i hi
            have qi : ¬ σ 3 ≤ i := by omega
            have r3 : (rM y 115 (a_wn σ v i)).1 114 3 = nI (σ 3) := by rw [rM_k (by omega)]; exact fz.rr r 3 (by omega)
            simp (disch := omega) only [f_X8_least_53, nI_add, pk_mul, nI_clamp, nI_eqE, nI_leE, nI_ltE, nI_eq0, nI_le0, nI_lt0, nI_ge0, nI_gt0, pk_rem, pk_sub, inb_t, gd_y, zl_e, bd_y, isB_n0, isB_n1, n0_eq, n1_eq, if_n0, if_n1, isB_if, not_true_eq_false, not_false_eq_true, ite_true, ite_false, Nat.le_refl, Nat.lt_irrefl, r3, qi, rM_w, a_wn_s]
        have mm : a_wn σ v (σ 3) 1 ≤ 999 := by rw [a_wn_n (by omega)]; exact m1
        obtain ⟨c, τ, db⟩ := e8_doneBy (k1 := 115) (μ := rM y 115 (a_wn σ v (σ 3))) (y := -1) (but := fun _ => false) rM_rr (by omega) w' (by omega) (f1.l hL) (hD.ft y17') (fun r hr => dn_ref hr)
        have le := a_un_le (p := a_dn (fun _ => false)) (d := 9) 61 0 (a_wn σ v (σ 3)) (by omega)
        have fy0 : FY (rM y 115 (a_wn σ v (σ 3))) (rM (sI (rM y 115 (a_wn σ v (σ 3))) 113 18 c) 116 τ) := FY.rx
        -- the loop over e
        have el : ∀ (kx : Int32 → Int32 → Mem → Option (Int32 × Mem)) fu2 e2 y2, e2 ≤ k + 1 → k + 1 - e2 < fu2 → (∀ j, j < e2 → (!a_ha (a_wn σ v (σ 3)) j) = false) → FY (rM y 115 (a_wn σ v (σ 3))) y2 → ∃ y3, f_X8_least_109 (nI k) (nI m) kx fu2 (nI v) (nI 1) (nI e2) y2 = kx (nI v) (nI (if a_ff (fun e => !a_ha (a_wn σ v (σ 3)) e) (k + 1) = k + 1 then 1 else 0)) y3 ∧ FY (rM y 115 (a_wn σ v (σ 3))) y3 := by
          intro kx fu2
          induction fu2 with
          | zero => intro e2 y2 _ h; omega
          | succ fu2 ih2 =>
            intro e2 y2 he hf2 hb2 fy2
            by_cases ee : e2 = k + 1
            · subst ee
              refine ⟨y2, ?_, fy2⟩
              rw [a_ff_n hb2, if_pos rfl]
              simp (disch := omega) only [f_X8_least_109, nI_add, pk_mul, nI_clamp, nI_eqE, nI_leE, nI_ltE, nI_eq0, nI_le0, nI_lt0, nI_ge0, nI_gt0, pk_rem, pk_sub, inb_t, gd_y, zl_e, bd_y, isB_n0, isB_n1, n0_eq, n1_eq, if_n0, if_n1, isB_if, not_true_eq_false, not_false_eq_true, ite_true, ite_false, Nat.le_refl, Nat.lt_irrefl]
              rw [if_pos (by omega)]
            · have qe2 : ¬ k < e2 := by omega
              obtain ⟨y4, t1, t2⟩ := e8_holdsAll (k := e2) (k1 := 115) (fy2.rr rM_rr (by omega) (by omega)) (by omega) w' mm (fy2.l (f1.l hL)) (fy2.d (hD.ft y17')) (by omega)
              by_cases c3 : a_ha (a_wn σ v (σ 3)) e2 = true
              · obtain ⟨y3, u1, u2⟩ := ih2 (e2 + 1) y4 (by omega) (by omega) (fun j hj => by
                  by_cases ej : j < e2
                  · exact hb2 j ej
                  · rw [show j = e2 by omega, c3]; rfl) (fy2.t t2)
                refine ⟨y3, ?_, u2⟩
                rw [← u1]
                simp (disch := omega) only [f_X8_least_109, nI_add, pk_mul, nI_clamp, nI_eqE, nI_leE, nI_ltE, nI_eq0, nI_le0, nI_lt0, nI_ge0, nI_gt0, pk_rem, pk_sub, inb_t, gd_y, zl_e, bd_y, isB_n0, isB_n1, n0_eq, n1_eq, if_n0, if_n1, isB_if, not_true_eq_false, not_false_eq_true, ite_true, ite_false, Nat.le_refl, Nat.lt_irrefl, qe2, t1, c3, Nat.one_ne_zero]
              · have c3' : a_ha (a_wn σ v (σ 3)) e2 = false := by simpa using c3
                refine ⟨y4, ?_, fy2.t t2⟩
                rw [a_ff_lt (k := e2) (by omega) (by simp [c3']) hb2, if_neg (by omega)]
                obtain ⟨fu3, rfl⟩ : ∃ fu3, fu2 = fu3 + 1 := ⟨fu2 - 1, by omega⟩
                simp (disch := omega) only [f_X8_least_109, nI_add, pk_mul, nI_clamp, nI_eqE, nI_leE, nI_ltE, nI_eq0, nI_le0, nI_lt0, nI_ge0, nI_gt0, pk_rem, pk_sub, inb_t, gd_y, zl_e, bd_y, isB_n0, isB_n1, n0_eq, n1_eq, if_n0, if_n1, isB_if, not_true_eq_false, not_false_eq_true, ite_true, ite_false, Nat.le_refl, Nat.lt_irrefl, qe2, t1, c3', Nat.one_ne_zero, Bool.false_eq_true, ite_self]
        by_cases c1 : m < a_un (a_dn (fun _ => false)) 9 61 0 (a_wn σ v (σ 3))
        · have no : a_ok σ k m v = false := by
            unfold a_ok
            simp [show ¬ a_un (a_dn (fun _ => false)) 9 61 0 (a_wn σ v (σ 3)) ≤ m by omega]
          obtain ⟨y', g1, g2, g3⟩ := ih (v + 1) (rM (sI (rM y 115 (a_wn σ v (σ 3))) 113 18 c) 116 τ) (by omega) (by omega) (fun j hj => by
            by_cases ej : j < v
            · exact hb j ej
            · rw [show j = v by omega]; exact no) (f1.t FZ.rx) (by rw [rx17]; exact y17')
          refine ⟨y', ?_, g2, g3⟩
          rw [← g1]
          simp (disch := omega) only [f_X8_least_33, nI_add, pk_mul, nI_clamp, nI_eqE, nI_leE, nI_ltE, nI_eq0, nI_le0, nI_lt0, nI_ge0, nI_gt0, pk_rem, pk_sub, inb_t, gd_y, zl_e, bd_y, isB_n0, isB_n1, n0_eq, n1_eq, if_n0, if_n1, isB_if, not_true_eq_false, not_false_eq_true, ite_true, ite_false, Nat.le_refl, Nat.lt_irrefl, qe, cp]
          rw [lp]
          simp (disch := omega) only [f_X8_least_86, f_X8_least_104, nI_add, pk_mul, nI_clamp, nI_eqE, nI_leE, nI_ltE, nI_eq0, nI_le0, nI_lt0, nI_ge0, nI_gt0, pk_rem, pk_sub, inb_t, gd_y, zl_e, bd_y, isB_n0, isB_n1, n0_eq, n1_eq, if_n0, if_n1, isB_if, not_true_eq_false, not_false_eq_true, ite_true, ite_false, Nat.le_refl, Nat.lt_irrefl, db, c1]
          refine (least109 1999).trans ?_
          simp (disch := omega) only [f_X8_least_138, nI_add, pk_mul, nI_clamp, nI_eqE, nI_leE, nI_ltE, nI_eq0, nI_le0, nI_lt0, nI_ge0, nI_gt0, pk_rem, pk_sub, inb_t, gd_y, zl_e, bd_y, isB_n0, isB_n1, n0_eq, n1_eq, if_n0, if_n1, isB_if, not_true_eq_false, not_false_eq_true, ite_true, ite_false, Nat.le_refl, Nat.lt_irrefl]
        · obtain ⟨y3, u1, u2⟩ := el (fun x3 x4 μ => f_X8_least_138 (nI k) (nI m) (fun x3 μ => f_X8_least_33 (nI k) (nI m) fu x3 μ) x3 x4 μ) zfu 0 (rM (sI (rM y 115 (a_wn σ v (σ 3))) 113 18 c) 116 τ) (by omega) (by unfold zfu; omega) (fun j hj => absurd hj (by omega)) fy0
          have fz3 : FZ μ y3 := f1.t (FZ.fy u2)
          have y317 : y3.1 113 17 = μ.1 113 17 := by rw [u2.2.2 17 (by omega)]; exact y17'
          have st : f_X8_least_33 (nI k) (nI m) (fu + 1) (nI v) y = f_X8_least_138 (nI k) (nI m) (fun x3 μ => f_X8_least_33 (nI k) (nI m) fu x3 μ) (nI v) (nI (if a_ff (fun e => !a_ha (a_wn σ v (σ 3)) e) (k + 1) = k + 1 then 1 else 0)) y3 := by
            simp (disch := omega) only [f_X8_least_33, nI_add, pk_mul, nI_clamp, nI_eqE, nI_leE, nI_ltE, nI_eq0, nI_le0, nI_lt0, nI_ge0, nI_gt0, pk_rem, pk_sub, inb_t, gd_y, zl_e, bd_y, isB_n0, isB_n1, n0_eq, n1_eq, if_n0, if_n1, isB_if, not_true_eq_false, not_false_eq_true, ite_true, ite_false, Nat.le_refl, Nat.lt_irrefl, qe, cp]
            rw [lp]
            simp (disch := omega) only [f_X8_least_86, f_X8_least_104, nI_add, pk_mul, nI_clamp, nI_eqE, nI_leE, nI_ltE, nI_eq0, nI_le0, nI_lt0, nI_ge0, nI_gt0, pk_rem, pk_sub, inb_t, gd_y, zl_e, bd_y, isB_n0, isB_n1, n0_eq, n1_eq, if_n0, if_n1, isB_if, not_true_eq_false, not_false_eq_true, ite_true, ite_false, Nat.le_refl, Nat.lt_irrefl, db, c1]
            exact u1
          by_cases c2 : a_ff (fun e => !a_ha (a_wn σ v (σ 3)) e) (k + 1) = k + 1
          · have yes : a_ok σ k m v = true := by
              unfold a_ok
              simp [c2, show a_un (a_dn (fun _ => false)) 9 61 0 (a_wn σ v (σ 3)) ≤ m by omega]
            refine ⟨y3, ?_, fz3, y317⟩
            rw [st, if_pos c2, a_ff_lt (by omega) yes hb, if_pos (show v < 10 by omega)]
            simp (disch := omega) only [f_X8_least_138, nI_add, pk_mul, nI_clamp, nI_eqE, nI_leE, nI_ltE, nI_eq0, nI_le0, nI_lt0, nI_ge0, nI_gt0, pk_rem, pk_sub, inb_t, gd_y, zl_e, bd_y, isB_n0, isB_n1, n0_eq, n1_eq, if_n0, if_n1, isB_if, not_true_eq_false, not_false_eq_true, ite_true, ite_false, Nat.le_refl, Nat.lt_irrefl, Nat.one_ne_zero]
          · have no : a_ok σ k m v = false := by
              unfold a_ok
              simp [c2]
            obtain ⟨y', g1, g2, g3⟩ := ih (v + 1) y3 (by omega) (by omega) (fun j hj => by
              by_cases ej : j < v
              · exact hb j ej
              · rw [show j = v by omega]; exact no) fz3 y317
            refine ⟨y', ?_, g2, g3⟩
            rw [← g1, st, if_neg c2]
            simp (disch := omega) only [f_X8_least_138, nI_add, pk_mul, nI_clamp, nI_eqE, nI_leE, nI_ltE, nI_eq0, nI_le0, nI_lt0, nI_ge0, nI_gt0, pk_rem, pk_sub, inb_t, gd_y, zl_e, bd_y, isB_n0, isB_n1, n0_eq, n1_eq, if_n0, if_n1, isB_if, not_true_eq_false, not_false_eq_true, ite_true, ite_false, Nat.le_refl, Nat.lt_irrefl]
  exact L zfu 0 μ (by omega) (by unfold zfu; omega) (fun j hj => absurd hj (by omega)) FZ.r rfl
theorem o_least : ok_least II := by
  intro a1 a2 μ I
  obtain ⟨⟨σ, h, r, w, z, m, n, s, l, g⟩, -, -, -, hL, hD⟩ := id I
  have nw : NW μ σ h 24 := ⟨w, z, m, n, s, l⟩
  unfold f_X7_least f_X8_least
  by_cases c1 : bw a1 0 2 = true
  · by_cases c2 : bw a2 0 60 = true
    · obtain ⟨k, _, hk, _, rfl⟩ := bw_t c1
      obtain ⟨v, _, hv, _, rfl⟩ := bw_t c2
      obtain ⟨x, p1, p2⟩ := x7_least (k := k) (m := v) nw hk hv
      obtain ⟨y, g1, g2, g3⟩ := e8_least (μ := sI x 113 0 (nI 0)) (σ := σ) (k := k) (m := v) (fun j hj => by rw [rd_k (by omega), p2.2 114 (by omega)]; exact r j hj) w m ((hL.ft p2).t (by omega)) ((hD.ft (by rw [p2.2 113 (by omega)])).t (by omega)) hk hv
      refine ⟨if a_ff (a_ok σ k v) 10 < 10 then nI (a_ff (a_ok σ k v) 10) else -4, x, y, ?_, ?_, I.fx ((FX.ft p2).t (FX.th.t (FX.fz g2 g3)))⟩
      · simp (disch := omega) only [within_n, zl_e, bd_y, if_n0, n0_eq, n1_eq, Bool.false_eq_true, not_true_eq_false, not_false_eq_true, if_true, if_false, Nat.one_ne_zero, rM_rM, c1, c2, p1]
      · simp (disch := omega) only [in_0_2, in_0_60, zl_e, bd_y, if_n0, n0_eq, n1_eq, Bool.false_eq_true, not_true_eq_false, not_false_eq_true, if_true, if_false, Nat.one_ne_zero, rM_rM, c1, c2]
        exact g1
    · refine ⟨-1, μ, rM (sI μ 113 0 (nI 0)) 114 σ, ?_, ?_, I.ref r⟩
      · simp (disch := omega) only [within_n, zl_e, bd_y, if_n0, n0_eq, n1_eq, Bool.false_eq_true, not_true_eq_false, not_false_eq_true, if_true, if_false, Nat.one_ne_zero, rM_rM, c1, c2]
      · rw [← th_rM r]
        simp (disch := omega) only [in_0_2, in_0_60, zl_e, bd_y, if_n0, n0_eq, n1_eq, Bool.false_eq_true, not_true_eq_false, not_false_eq_true, if_true, if_false, Nat.one_ne_zero, rM_rM, c1, c2]
  · refine ⟨-1, μ, rM (sI μ 113 0 (nI 0)) 114 σ, ?_, ?_, I.ref r⟩
    · simp (disch := omega) only [within_n, zl_e, bd_y, if_n0, n0_eq, n1_eq, Bool.false_eq_true, not_true_eq_false, not_false_eq_true, if_true, if_false, Nat.one_ne_zero, rM_rM, c1]
    · rw [← th_rM r]
      simp (disch := omega) only [in_0_2, zl_e, bd_y, if_n0, n0_eq, n1_eq, Bool.false_eq_true, not_true_eq_false, not_false_eq_true, if_true, if_false, Nat.one_ne_zero, rM_rM, c1]
