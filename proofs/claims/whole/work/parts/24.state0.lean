theorem gvX4_34 : jm_gv RX4 34 RX0 yX0_become wsX0_become 2 1 := ⟨_, _, gi_V gwt4_130 gwt3_63 gwt3_64 gwt1_4 gwt3_65, rfl, by decide +kernel⟩
theorem gvX4_37 : jm_gv RX4 37 RX1 yX1_become wsX1_become 3 1 := ⟨_, _, gi_V gwt4_131 gwt4_132 gwt4_133 gwt1_5 gwt4_134, rfl, by decide +kernel⟩
theorem gvX4_30 : jm_gv RX4 30 RX2 yX2_become wsX2_become 3 1 := ⟨_, _, gi_V gwt4_129 gwt3_201 gwt3_202 gwt1_3 gwt3_203, rfl, by decide +kernel⟩
/-! X4_become -/
def wsX4_become : List Cond := .code yX4_become cX4_become 2 none :: G0
def rmX4_become : Room := { frames := 3, cells := 0, slots := 0, locals := 68 }
def f_X4_become (b0 : Nat) (k1 : Nat) (μ : Mem) : Option (Mem) := Option.bind (f_X2_become (b0 + 1) (k1 + 1) μ) fun p1_ => Option.bind (f_X0_become (b0 + 23) (k1 + 23) p1_) fun p3_ => Option.bind (f_X1_become (b0 + 28) (k1 + 28) p3_) fun p5_ => some p5_
set_option maxHeartbeats 4000000 in
set_option maxRecDepth 100000 in
theorem w_X4_become {Γ : jG} (C : jC Γ 2 cX4_become RX4 rmX4_become) {b0 : Nat} {k1 : Nat} (hb0 : isState b0) (hk1 : isState k1) {ρ : Mem} (E : jEV Γ cX4_become ρ) (μ : Mem) (h : f_X4_become b0 k1 μ = some ρ) : jJ Γ 2 0 [(0, .ref b0), (1, .ref k1)] [] μ := by
  unfold f_X4_become at h
  refine j_aload_n C dX4_become_0 rfl 0 rfl ?_
  refine j_getR (c := b0 + 1) C dX4_become_1 rfl lkX4_10 (isT_0 hb0) rfl ?_
  refine j_aload_n C dX4_become_4 rfl 1 rfl ?_
  refine j_getR (c := k1 + 1) C dX4_become_5 rfl lkX4_10 (isT_0 hk1) rfl ?_
  replace h := bd_e h
  obtain ⟨p1_, h2_, h⟩ := h
  refine j_cVV (av := [.ref (k1 + 1)]) (rest := []) C dX4_become_8 rfl (c_X2_become _ _ _ _ (isT_n hb0) (isT_n hk1) μ p1_ h2_) gvX4_30 ⟨⟨rfl, rfl⟩, Nat.le_of_ble_eq_true rfl, Nat.le_of_ble_eq_true rfl⟩ rfl (isN_0 (isT_n hb0)) rfl rfl (Nat.le_of_ble_eq_true rfl) ?_
  refine j_aload_n C dX4_become_11 rfl 0 rfl ?_
  refine j_getR (c := b0 + 23) C dX4_become_12 rfl lkX4_19 (isT_0 hb0) rfl ?_
  refine j_aload_n C dX4_become_15 rfl 1 rfl ?_
  refine j_getR (c := k1 + 23) C dX4_become_16 rfl lkX4_19 (isT_0 hk1) rfl ?_
  replace h := bd_e h
  obtain ⟨p3_, h4_, h⟩ := h
  refine j_cVV (av := [.ref (k1 + 23)]) (rest := []) C dX4_become_19 rfl (c_X0_become _ _ _ _ (isT_w hb0) (isT_w hk1) p1_ p3_ h4_) gvX4_34 ⟨⟨rfl, rfl⟩, Nat.le_of_ble_eq_true rfl, Nat.le_of_ble_eq_true rfl⟩ rfl (isW_0 (isT_w hb0)) rfl rfl (Nat.le_of_ble_eq_true rfl) ?_
  refine j_aload_n C dX4_become_22 rfl 0 rfl ?_
  refine j_getR (c := b0 + 28) C dX4_become_23 rfl lkX4_26 (isT_0 hb0) rfl ?_
  refine j_aload_n C dX4_become_26 rfl 1 rfl ?_
  refine j_getR (c := k1 + 28) C dX4_become_27 rfl lkX4_26 (isT_0 hk1) rfl ?_
  replace h := bd_e h
  obtain ⟨p5_, h6_, h⟩ := h
  refine j_cVV (av := [.ref (k1 + 28)]) (rest := []) C dX4_become_30 rfl (c_X1_become _ _ _ _ (isT_g hb0) (isT_g hk1) p3_ p5_ h6_) gvX4_37 ⟨⟨rfl, rfl⟩, Nat.le_of_ble_eq_true rfl, Nat.le_of_ble_eq_true rfl⟩ rfl (isG_0 (isT_g hb0)) rfl rfl (Nat.le_of_ble_eq_true rfl) ?_
  obtain rfl := Option.some.inj h
  exact j_vret E dX4_become_33
set_option maxRecDepth 100000 in
theorem c_X4_become (l : Launch) (D : va_G) (ad : Nat → Nat) (cl : Nat → ClassId) {b0 : Nat} {k1 : Nat} (hb0 : isState b0) (hk1 : isState k1) (μ : Mem) (ρ : Mem) (h : f_X4_become b0 k1 μ = some ρ) : CV l D ad cl yX4_become wsX4_become rmX4_become [.ref b0, .ref k1] μ ρ := c_ofV (cc := cX4_become) (nL := 2) rfl (by decide) (Nat.le_of_ble_eq_true rfl) (fun Γ C E => w_X4_become C hb0 hk1 E μ h)
