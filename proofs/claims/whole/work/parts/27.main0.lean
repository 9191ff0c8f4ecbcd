/-! X7_within -/
def wsX7_within : List Cond := .code yX7_within cX7_within 3 (some .boolean) :: G0
def rmX7_within : Room := { frames := 0, cells := 0, slots := 0, locals := 0 }
def f_X7_within (a0 : Int32) (a1 : Int32) (a2 : Int32) (μ : Mem) : Option (Int32 × Mem) := (if a0 < a1 then some ((nI 0), μ) else (if a2 < a0 then some ((nI 0), μ) else some ((nI 1), μ)))
set_option maxHeartbeats 4000000 in
set_option maxRecDepth 100000 in
theorem w_X7_within {Γ : jG} (C : jC Γ 3 cX7_within RX7 rmX7_within) {a0 : Int32} {a1 : Int32} {a2 : Int32} {ρ : Int32 × Mem} (E : (isB ρ.1 = true → jEI Γ cX7_within ρ.1 ρ.2)) (μ : Mem) (h : f_X7_within a0 a1 a2 μ = some ρ) : jJ Γ 3 0 [(0, .int a0), (1, .int a1), (2, .int a2)] [] μ := by
  unfold f_X7_within at h
  refine j_iload_n C dX7_within_0 rfl 0 rfl ?_
  refine j_iload_n C dX7_within_1 rfl 1 rfl ?_
  refine j_icmp_lt (tgt := 14) C dX7_within_2 rfl (by decide) (fun c1_ => ?_) (fun c1_ => ?_)
  · replace h := if_t h c1_
    refine j_iconst (v := (nI 0)) C dX7_within_14 rfl (by decide) ?_
    obtain rfl := Option.some.inj h
    exact j_iret (E isB_0) dX7_within_15
  · replace h := if_f h c1_
    refine j_iload_n C dX7_within_5 rfl 0 rfl ?_
    refine j_iload_n C dX7_within_6 rfl 2 rfl ?_
    refine j_icmp_gt (tgt := 14) C dX7_within_7 rfl (by decide) (fun c2_ => ?_) (fun c2_ => ?_)
    · replace h := if_t h c2_
      refine j_iconst (v := (nI 0)) C dX7_within_14 rfl (by decide) ?_
      obtain rfl := Option.some.inj h
      exact j_iret (E isB_0) dX7_within_15
    · replace h := if_f h c2_
      refine j_iconst (v := (nI 1)) C dX7_within_10 rfl (by decide) ?_
      refine j_goto (pc' := 15) C dX7_within_11 (by decide) ?_
      obtain rfl := Option.some.inj h
      exact j_iret (E isB_1) dX7_within_15
set_option maxRecDepth 100000 in
theorem c_X7_within (l : Launch) (D : va_G) (ad : Nat → Nat) (cl : Nat → ClassId) {a0 : Int32} {a1 : Int32} {a2 : Int32} (μ : Mem) (ρ : Int32 × Mem) (h : f_X7_within a0 a1 a2 μ = some ρ) : CI l D ad cl yX7_within wsX7_within rmX7_within [.int a0, .int a1, .int a2] μ ρ.1 ρ.2 := c_ofZ (cc := cX7_within) (nL := 3) rfl (by decide) (Nat.le_of_ble_eq_true rfl) (fun Γ C E => w_X7_within C E μ h)
theorem gvX7_64 : jm_gv RX7 64 RX2 yX2_letIn wsX2_letIn 5 2 := ⟨_, _, gi_V gwt2_60 gwt2_61 gwt2_62 gwt1_3 gwt2_63, rfl, by decide +kernel⟩
theorem gsX7_54 : jm_gs RX7 54 yX7_within wsX7_within 3 3 := ⟨_, _, gi_S gwt2_57 gwt2_58 gwt1_1 gwt2_59, rfl, by decide +kernel⟩
/-! X7_rock -/
def wsX7_rock : List Cond := .code yX7_rock cX7_rock 3 (some .int) :: G0
def rmX7_rock : Room := { frames := 1, cells := 0, slots := 0, locals := 24 }
def f_X7_rock (a1 : Int32) (a2 : Int32) (μ : Mem) : Option (Int32 × Mem) := Option.bind (f_X7_within a1 (nI 0) (nI 5) μ) fun p1_ => (if p1_.1 = 0 then some ((-1), p1_.2) else Option.bind (f_X7_within a2 (nI 0) (nI 1) p1_.2) fun p4_ => (if p4_.1 = 0 then some ((-1), p4_.2) else (if (p4_.2.1 2 0) < (nI 9) then Option.bind (f_X2_letIn 2 a1 a2 p4_.2) fun p8_ => some (p8_.1, p8_.2) else some ((-3), p4_.2))))
set_option maxHeartbeats 4000000 in
set_option maxRecDepth 100000 in
theorem w_X7_rock {Γ : jG} (C : jC Γ 3 cX7_rock RX7 rmX7_rock) {a1 : Int32} {a2 : Int32} {ρ : Int32 × Mem} (E : jEI Γ cX7_rock ρ.1 ρ.2) (μ : Mem) (h : f_X7_rock a1 a2 μ = some ρ) : jJ Γ 3 0 [(0, .ref 0), (1, .int a1), (2, .int a2)] [] μ := by
  unfold f_X7_rock at h
  refine j_iload_n C dX7_rock_0 rfl 1 rfl ?_
  refine j_iconst (v := (nI 0)) C dX7_rock_1 rfl (by decide) ?_
  refine j_iconst (v := (nI 5)) C dX7_rock_2 rfl (by decide) ?_
  replace h := bd_e h
  obtain ⟨p1_, h2_, h⟩ := h
  refine j_cSI (av := [.int a1, .int (nI 0), .int (nI 5)]) (rest := []) C dX7_rock_3 rfl (c_X7_within _ _ _ _ μ p1_ h2_) gsX7_54 ⟨⟨rfl, rfl⟩, Nat.le_of_ble_eq_true rfl, Nat.le_of_ble_eq_true rfl⟩ rfl rfl (Nat.le_of_ble_eq_true rfl) ?_
  refine j_if_eq (tgt := 18) C dX7_rock_6 rfl (by decide) (fun c3_ => ?_) (fun c3_ => ?_)
  · replace h := if_t h c3_
    refine j_iconst (v := (-1)) C dX7_rock_18 rfl (by decide) ?_
    obtain rfl := Option.some.inj h
    exact j_iret E dX7_rock_19
  · replace h := if_f h c3_
    refine j_iload_n C dX7_rock_9 rfl 2 rfl ?_
    refine j_iconst (v := (nI 0)) C dX7_rock_10 rfl (by decide) ?_
    refine j_iconst (v := (nI 1)) C dX7_rock_11 rfl (by decide) ?_
    replace h := bd_e h
    obtain ⟨p4_, h5_, h⟩ := h
    refine j_cSI (av := [.int a2, .int (nI 0), .int (nI 1)]) (rest := []) C dX7_rock_12 rfl (c_X7_within _ _ _ _ p1_.2 p4_ h5_) gsX7_54 ⟨⟨rfl, rfl⟩, Nat.le_of_ble_eq_true rfl, Nat.le_of_ble_eq_true rfl⟩ rfl rfl (Nat.le_of_ble_eq_true rfl) ?_
    refine j_if_ne (tgt := 20) C dX7_rock_15 rfl (by decide) (fun c6_ => ?_) (fun c6_ => ?_)
    · replace h := if_f h c6_
      refine j_aload_n C dX7_rock_20 rfl 0 rfl ?_
      refine j_getR (c := 1) C dX7_rock_21 rfl lkX7_10 is_0 rfl ?_
      refine j_getR (c := 2) C dX7_rock_24 rfl lkX7_38 (isT_0 isT1) rfl ?_
      refine j_getI C dX7_rock_27 rfl lkX7_58 (isN_0 (isT_n isT1)) rfl ?_
      refine j_bipush (v := (nI 9)) C dX7_rock_30 rfl (by decide) ?_
      refine j_icmp_lt (tgt := 38) C dX7_rock_32 rfl (by decide) (fun c7_ => ?_) (fun c7_ => ?_)
      · replace h := if_t h c7_
        refine j_aload_n C dX7_rock_38 rfl 0 rfl ?_
        refine j_getR (c := 1) C dX7_rock_39 rfl lkX7_10 is_0 rfl ?_
        refine j_getR (c := 2) C dX7_rock_42 rfl lkX7_38 (isT_0 isT1) rfl ?_
        refine j_iload_n C dX7_rock_45 rfl 1 rfl ?_
        refine j_iload_n C dX7_rock_46 rfl 2 rfl ?_
        replace h := bd_e h
        obtain ⟨p8_, h9_, h⟩ := h
        refine j_cVI (av := [.int a1, .int a2]) (rest := []) C dX7_rock_47 rfl (c_X2_letIn _ _ _ _ (isT_n isT1) p4_.2 p8_ h9_) gvX7_64 ⟨⟨rfl, rfl⟩, Nat.le_of_ble_eq_true rfl, Nat.le_of_ble_eq_true rfl⟩ rfl (isN_0 (isT_n isT1)) rfl rfl (Nat.le_of_ble_eq_true rfl) ?_
        obtain rfl := Option.some.inj h
        exact j_iret E dX7_rock_50
      · replace h := if_f h c7_
        refine j_bipush (v := (-3)) C dX7_rock_35 rfl (by decide) ?_
        obtain rfl := Option.some.inj h
        exact j_iret E dX7_rock_37
    · replace h := if_t h c6_
      refine j_iconst (v := (-1)) C dX7_rock_18 rfl (by decide) ?_
      obtain rfl := Option.some.inj h
      exact j_iret E dX7_rock_19
set_option maxRecDepth 100000 in
theorem c_X7_rock (l : Launch) (D : va_G) (ad : Nat → Nat) (cl : Nat → ClassId) {a1 : Int32} {a2 : Int32} (μ : Mem) (ρ : Int32 × Mem) (h : f_X7_rock a1 a2 μ = some ρ) : CI l D ad cl yX7_rock wsX7_rock rmX7_rock [.ref 0, .int a1, .int a2] μ ρ.1 ρ.2 := c_ofI (cc := cX7_rock) (nL := 3) rfl (by decide) (Nat.le_of_ble_eq_true rfl) (fun Γ C E => w_X7_rock C E μ h)
theorem gvX7_68 : jm_gv RX7 68 RX2 yX2_takeOut wsX2_takeOut 4 0 := ⟨_, _, gi_V gwt2_68 gwt2_69 gwt2_70 gwt1_3 gwt2_71, rfl, by decide +kernel⟩
/-! X7_out -/
def wsX7_out : List Cond := .code yX7_out cX7_out 1 (some .int) :: G0
def rmX7_out : Room := { frames := 2, cells := 0, slots := 0, locals := 44 }
def f_X7_out (μ : Mem) : Option (Int32 × Mem) := (if (μ.1 2 0) = 0 then some ((-4), μ) else Option.bind (f_X2_takeOut 2 μ) fun p2_ => some (p2_.1, p2_.2))
set_option maxHeartbeats 4000000 in
set_option maxRecDepth 100000 in
theorem w_X7_out {Γ : jG} (C : jC Γ 1 cX7_out RX7 rmX7_out) {ρ : Int32 × Mem} (E : jEI Γ cX7_out ρ.1 ρ.2) (μ : Mem) (h : f_X7_out μ = some ρ) : jJ Γ 1 0 [(0, .ref 0)] [] μ := by
  unfold f_X7_out at h
  refine j_aload_n C dX7_out_0 rfl 0 rfl ?_
  refine j_getR (c := 1) C dX7_out_1 rfl lkX7_10 is_0 rfl ?_
  refine j_getR (c := 2) C dX7_out_4 rfl lkX7_38 (isT_0 isT1) rfl ?_
  refine j_getI C dX7_out_7 rfl lkX7_58 (isN_0 (isT_n isT1)) rfl ?_
  refine j_if_ne (tgt := 16) C dX7_out_10 rfl (by decide) (fun c1_ => ?_) (fun c1_ => ?_)
  · replace h := if_f h c1_
    refine j_aload_n C dX7_out_16 rfl 0 rfl ?_
    refine j_getR (c := 1) C dX7_out_17 rfl lkX7_10 is_0 rfl ?_
    refine j_getR (c := 2) C dX7_out_20 rfl lkX7_38 (isT_0 isT1) rfl ?_
    replace h := bd_e h
    obtain ⟨p2_, h3_, h⟩ := h
    refine j_cVI (av := []) (rest := []) C dX7_out_23 rfl (c_X2_takeOut _ _ _ _ (isT_n isT1) μ p2_ h3_) gvX7_68 ⟨⟨rfl, rfl⟩, Nat.le_of_ble_eq_true rfl, Nat.le_of_ble_eq_true rfl⟩ rfl (isN_0 (isT_n isT1)) rfl rfl (Nat.le_of_ble_eq_true rfl) ?_
    obtain rfl := Option.some.inj h
    exact j_iret E dX7_out_26
  · replace h := if_t h c1_
    refine j_bipush (v := (-4)) C dX7_out_13 rfl (by decide) ?_
    obtain rfl := Option.some.inj h
    exact j_iret E dX7_out_15
set_option maxRecDepth 100000 in
theorem c_X7_out (l : Launch) (D : va_G) (ad : Nat → Nat) (cl : Nat → ClassId) (μ : Mem) (ρ : Int32 × Mem) (h : f_X7_out μ = some ρ) : CI l D ad cl yX7_out wsX7_out rmX7_out [.ref 0] μ ρ.1 ρ.2 := c_ofI (cc := cX7_out) (nL := 1) rfl (by decide) (Nat.le_of_ble_eq_true rfl) (fun Γ C E => w_X7_out C E μ h)
/-! X7_isRock -/
def wsX7_isRock : List Cond := .code yX7_isRock cX7_isRock 2 (some .boolean) :: G0
def rmX7_isRock : Room := { frames := 1, cells := 0, slots := 0, locals := 22 }
def f_X7_isRock (a1 : Int32) (μ : Mem) : Option (Int32 × Mem) := Option.bind (f_X7_within a1 (nI 0) ((μ.1 2 0) - (nI 1)) μ) fun p1_ => gd (isB p1_.1) <| some (p1_.1, p1_.2)
set_option maxHeartbeats 4000000 in
set_option maxRecDepth 100000 in
theorem w_X7_isRock {Γ : jG} (C : jC Γ 2 cX7_isRock RX7 rmX7_isRock) {a1 : Int32} {ρ : Int32 × Mem} (E : (isB ρ.1 = true → jEI Γ cX7_isRock ρ.1 ρ.2)) (μ : Mem) (h : f_X7_isRock a1 μ = some ρ) : jJ Γ 2 0 [(0, .ref 0), (1, .int a1)] [] μ := by
  unfold f_X7_isRock at h
  refine j_iload_n C dX7_isRock_0 rfl 1 rfl ?_
  refine j_iconst (v := (nI 0)) C dX7_isRock_1 rfl (by decide) ?_
  refine j_aload_n C dX7_isRock_2 rfl 0 rfl ?_
  refine j_getR (c := 1) C dX7_isRock_3 rfl lkX7_10 is_0 rfl ?_
  refine j_getR (c := 2) C dX7_isRock_6 rfl lkX7_38 (isT_0 isT1) rfl ?_
  refine j_getI C dX7_isRock_9 rfl lkX7_58 (isN_0 (isT_n isT1)) rfl ?_
  refine j_iconst (v := (nI 1)) C dX7_isRock_12 rfl (by decide) ?_
  refine j_isub C dX7_isRock_13 rfl ?_
  replace h := bd_e h
  obtain ⟨p1_, h2_, h⟩ := h
  refine j_cSI (av := [.int a1, .int (nI 0), .int ((μ.1 2 0) - (nI 1))]) (rest := []) C dX7_isRock_14 rfl (c_X7_within _ _ _ _ μ p1_ h2_) gsX7_54 ⟨⟨rfl, rfl⟩, Nat.le_of_ble_eq_true rfl, Nat.le_of_ble_eq_true rfl⟩ rfl rfl (Nat.le_of_ble_eq_true rfl) ?_
  replace h := gd_e h
  obtain ⟨g3_, h⟩ := h
  obtain rfl := Option.some.inj h
  exact j_iret (E g3_) dX7_isRock_17
set_option maxRecDepth 100000 in
theorem c_X7_isRock (l : Launch) (D : va_G) (ad : Nat → Nat) (cl : Nat → ClassId) {a1 : Int32} (μ : Mem) (ρ : Int32 × Mem) (h : f_X7_isRock a1 μ = some ρ) : CI l D ad cl yX7_isRock wsX7_isRock rmX7_isRock [.ref 0, .int a1] μ ρ.1 ρ.2 := c_ofZ (cc := cX7_isRock) (nL := 2) rfl (by decide) (Nat.le_of_ble_eq_true rfl) (fun Γ C E => w_X7_isRock C E μ h)
theorem gvX7_72 : jm_gv RX7 72 RX7 yX7_isRock wsX7_isRock 2 1 := ⟨_, _, gi_V gwt2_79 gwt2_81 gwp1_0 gwt1_1 gwt2_82, rfl, by decide +kernel⟩
/-! X7_turn -/
def wsX7_turn : List Cond := .code yX7_turn cX7_turn 4 (some .int) :: G0
def rmX7_turn : Room := { frames := 2, cells := 0, slots := 0, locals := 43 }
def f_X7_turn (a1 : Int32) (a2 : Int32) (μ : Mem) : Option (Int32 × Mem) := Option.bind (f_X7_isRock a1 μ) fun p1_ => (if p1_.1 = 0 then some ((-1), p1_.2) else Option.bind (f_X7_within a2 (nI 0) (nI 5) p1_.2) fun p4_ => (if p4_.1 = 0 then some ((-1), p4_.2) else gd (inb a1 9) <| zl (p4_.2.1 3 (Int32.toNatClampNeg a1)) fun x8_ => zl (sI p4_.2 3 (Int32.toNatClampNeg a1) a2) fun μ10_ => some (x8_, μ10_)))
set_option maxHeartbeats 4000000 in
set_option maxRecDepth 100000 in
theorem w_X7_turn {Γ : jG} (C : jC Γ 4 cX7_turn RX7 rmX7_turn) {a1 : Int32} {a2 : Int32} {ρ : Int32 × Mem} (E : jEI Γ cX7_turn ρ.1 ρ.2) (μ : Mem) (h : f_X7_turn a1 a2 μ = some ρ) : jJ Γ 4 0 [(0, .ref 0), (1, .int a1), (2, .int a2)] [] μ := by
  unfold f_X7_turn at h
  refine j_aload_n C dX7_turn_0 rfl 0 rfl ?_
  refine j_iload_n C dX7_turn_1 rfl 1 rfl ?_
  replace h := bd_e h
  obtain ⟨p1_, h2_, h⟩ := h
  refine j_cVI (av := [.int a1]) (rest := []) C dX7_turn_2 rfl (c_X7_isRock _ _ _ _ μ p1_ h2_) gvX7_72 ⟨⟨rfl, rfl⟩, Nat.le_of_ble_eq_true rfl, Nat.le_of_ble_eq_true rfl⟩ rfl is_0 rfl rfl (Nat.le_of_ble_eq_true rfl) ?_
  refine j_if_eq (tgt := 17) C dX7_turn_5 rfl (by decide) (fun c3_ => ?_) (fun c3_ => ?_)
  · replace h := if_t h c3_
    refine j_iconst (v := (-1)) C dX7_turn_17 rfl (by decide) ?_
    obtain rfl := Option.some.inj h
    exact j_iret E dX7_turn_18
  · replace h := if_f h c3_
    refine j_iload_n C dX7_turn_8 rfl 2 rfl ?_
    refine j_iconst (v := (nI 0)) C dX7_turn_9 rfl (by decide) ?_
    refine j_iconst (v := (nI 5)) C dX7_turn_10 rfl (by decide) ?_
    replace h := bd_e h
    obtain ⟨p4_, h5_, h⟩ := h
    refine j_cSI (av := [.int a2, .int (nI 0), .int (nI 5)]) (rest := []) C dX7_turn_11 rfl (c_X7_within _ _ _ _ p1_.2 p4_ h5_) gsX7_54 ⟨⟨rfl, rfl⟩, Nat.le_of_ble_eq_true rfl, Nat.le_of_ble_eq_true rfl⟩ rfl rfl (Nat.le_of_ble_eq_true rfl) ?_
    refine j_if_ne (tgt := 19) C dX7_turn_14 rfl (by decide) (fun c6_ => ?_) (fun c6_ => ?_)
    · replace h := if_f h c6_
      refine j_aload_n C dX7_turn_19 rfl 0 rfl ?_
      refine j_getR (c := 1) C dX7_turn_20 rfl lkX7_10 is_0 rfl ?_
      refine j_getR (c := 2) C dX7_turn_23 rfl lkX7_38 (isT_0 isT1) rfl ?_
      refine j_getR (c := 3) C dX7_turn_26 rfl lkX7_76 (isN_0 (isT_n isT1)) rfl ?_
      refine j_iload_n C dX7_turn_29 rfl 1 rfl ?_
      replace h := gd_e h
      obtain ⟨g7_, h⟩ := h
      refine j_iald C dX7_turn_30 rfl (isN_a1 (isT_n isT1)) g7_ ?_
      refine j_topi (fun x8_ e9_ => ?_)
      replace h := zl_u h e9_
      refine j_istore_n (lv' := [(3, .int x8_), (0, .ref 0), (1, .int a1), (2, .int a2)]) C dX7_turn_31 rfl (by decide) rfl ?_
      refine j_aload_n C dX7_turn_32 rfl 1 rfl ?_
      refine j_getR (c := 1) C dX7_turn_33 rfl lkX7_10 is_0 rfl ?_
      refine j_getR (c := 2) C dX7_turn_36 rfl lkX7_38 (isT_0 isT1) rfl ?_
      refine j_getR (c := 3) C dX7_turn_39 rfl lkX7_76 (isN_0 (isT_n isT1)) rfl ?_
      refine j_iload_n C dX7_turn_42 rfl 2 rfl ?_
      refine j_iload_n C dX7_turn_43 rfl 3 rfl ?_
      refine j_iast C dX7_turn_44 rfl (isN_a1 (isT_n isT1)) g7_ ?_
      refine j_mem (fun μ10_ e11_ => ?_)
      replace h := zl_u h e11_
      refine j_iload_n C dX7_turn_45 rfl 0 rfl ?_
      obtain rfl := Option.some.inj h
      exact j_iret E dX7_turn_46
    · replace h := if_t h c6_
      refine j_iconst (v := (-1)) C dX7_turn_17 rfl (by decide) ?_
      obtain rfl := Option.some.inj h
      exact j_iret E dX7_turn_18
set_option maxRecDepth 100000 in
theorem c_X7_turn (l : Launch) (D : va_G) (ad : Nat → Nat) (cl : Nat → ClassId) {a1 : Int32} {a2 : Int32} (μ : Mem) (ρ : Int32 × Mem) (h : f_X7_turn a1 a2 μ = some ρ) : CI l D ad cl yX7_turn wsX7_turn rmX7_turn [.ref 0, .int a1, .int a2] μ ρ.1 ρ.2 := c_ofI (cc := cX7_turn) (nL := 4) rfl (by decide) (Nat.le_of_ble_eq_true rfl) (fun Γ C E => w_X7_turn C E μ h)
/-! X7_asNumber -/
def wsX7_asNumber : List Cond := .code yX7_asNumber cX7_asNumber 1 (some .int) :: G0
def rmX7_asNumber : Room := { frames := 0, cells := 0, slots := 0, locals := 0 }
def f_X7_asNumber (a0 : Int32) (μ : Mem) : Option (Int32 × Mem) := (if a0 = 0 then some ((nI 0), μ) else some ((nI 1), μ))
set_option maxHeartbeats 4000000 in
set_option maxRecDepth 100000 in
theorem w_X7_asNumber {Γ : jG} (C : jC Γ 1 cX7_asNumber RX7 rmX7_asNumber) {a0 : Int32} {ρ : Int32 × Mem} (E : jEI Γ cX7_asNumber ρ.1 ρ.2) (μ : Mem) (h : f_X7_asNumber a0 μ = some ρ) : jJ Γ 1 0 [(0, .int a0)] [] μ := by
  unfold f_X7_asNumber at h
  refine j_iload_n C dX7_asNumber_0 rfl 0 rfl ?_
  refine j_if_eq (tgt := 8) C dX7_asNumber_1 rfl (by decide) (fun c1_ => ?_) (fun c1_ => ?_)
  · replace h := if_t h c1_
    refine j_iconst (v := (nI 0)) C dX7_asNumber_8 rfl (by decide) ?_
    obtain rfl := Option.some.inj h
    exact j_iret E dX7_asNumber_9
  · replace h := if_f h c1_
    refine j_iconst (v := (nI 1)) C dX7_asNumber_4 rfl (by decide) ?_
    refine j_goto (pc' := 9) C dX7_asNumber_5 (by decide) ?_
    obtain rfl := Option.some.inj h
    exact j_iret E dX7_asNumber_9
set_option maxRecDepth 100000 in
theorem c_X7_asNumber (l : Launch) (D : va_G) (ad : Nat → Nat) (cl : Nat → ClassId) {a0 : Int32} (μ : Mem) (ρ : Int32 × Mem) (h : f_X7_asNumber a0 μ = some ρ) : CI l D ad cl yX7_asNumber wsX7_asNumber rmX7_asNumber [.int a0] μ ρ.1 ρ.2 := c_ofI (cc := cX7_asNumber) (nL := 1) rfl (by decide) (Nat.le_of_ble_eq_true rfl) (fun Γ C E => w_X7_asNumber C E μ h)
theorem gvX7_86 : jm_gv RX7 86 RX2 yX2_isDark wsX2_isDark 2 1 := ⟨_, _, gi_V gwt2_87 gwt2_88 gwt2_89 gwt1_3 gwt2_90, rfl, by decide +kernel⟩
theorem gsX7_89 : jm_gs RX7 89 yX7_asNumber wsX7_asNumber 1 1 := ⟨_, _, gi_S gwt2_91 gwt2_92 gwt1_1 gwt2_93, rfl, by decide +kernel⟩
/-! X7_dark -/
def wsX7_dark : List Cond := .code yX7_dark cX7_dark 4 (some .int) :: G0
def rmX7_dark : Room := { frames := 2, cells := 0, slots := 0, locals := 43 }
def f_X7_dark (a1 : Int32) (a2 : Int32) (a3 : Int32) (μ : Mem) : Option (Int32 × Mem) := Option.bind (f_X7_isRock a1 μ) fun p1_ => (if p1_.1 = 0 then some ((-1), p1_.2) else Option.bind (f_X7_within a2 (nI 0) (nI 99) p1_.2) fun p4_ => (if p4_.1 = 0 then some ((-1), p4_.2) else Option.bind (f_X7_within a3 (nI 0) (nI 100) p4_.2) fun p7_ => (if p7_.1 = 0 then some ((-1), p7_.2) else gd (inb a1 9) <| zl (sI p7_.2 6 (Int32.toNatClampNeg a1) a2) fun μ11_ => zl (sI μ11_ 7 (Int32.toNatClampNeg a1) a3) fun μ13_ => Option.bind (f_X2_isDark 2 a1 μ13_) fun p15_ => Option.bind (f_X7_asNumber p15_.1 p15_.2) fun p17_ => some (p17_.1, p17_.2))))
set_option maxHeartbeats 4000000 in
set_option maxRecDepth 100000 in
theorem w_X7_dark {Γ : jG} (C : jC Γ 4 cX7_dark RX7 rmX7_dark) {a1 : Int32} {a2 : Int32} {a3 : Int32} {ρ : Int32 × Mem} (E : jEI Γ cX7_dark ρ.1 ρ.2) (μ : Mem) (h : f_X7_dark a1 a2 a3 μ = some ρ) : jJ Γ 4 0 [(0, .ref 0), (1, .int a1), (2, .int a2), (3, .int a3)] [] μ := by
  unfold f_X7_dark at h
  refine j_aload_n C dX7_dark_0 rfl 0 rfl ?_
  refine j_iload_n C dX7_dark_1 rfl 1 rfl ?_
  replace h := bd_e h
  obtain ⟨p1_, h2_, h⟩ := h
  refine j_cVI (av := [.int a1]) (rest := []) C dX7_dark_2 rfl (c_X7_isRock _ _ _ _ μ p1_ h2_) gvX7_72 ⟨⟨rfl, rfl⟩, Nat.le_of_ble_eq_true rfl, Nat.le_of_ble_eq_true rfl⟩ rfl is_0 rfl rfl (Nat.le_of_ble_eq_true rfl) ?_
  refine j_if_eq (tgt := 28) C dX7_dark_5 rfl (by decide) (fun c3_ => ?_) (fun c3_ => ?_)
  · replace h := if_t h c3_
    refine j_iconst (v := (-1)) C dX7_dark_28 rfl (by decide) ?_
    obtain rfl := Option.some.inj h
    exact j_iret E dX7_dark_29
  · replace h := if_f h c3_
    refine j_iload_n C dX7_dark_8 rfl 2 rfl ?_
    refine j_iconst (v := (nI 0)) C dX7_dark_9 rfl (by decide) ?_
    refine j_bipush (v := (nI 99)) C dX7_dark_10 rfl (by decide) ?_
    replace h := bd_e h
    obtain ⟨p4_, h5_, h⟩ := h
    refine j_cSI (av := [.int a2, .int (nI 0), .int (nI 99)]) (rest := []) C dX7_dark_12 rfl (c_X7_within _ _ _ _ p1_.2 p4_ h5_) gsX7_54 ⟨⟨rfl, rfl⟩, Nat.le_of_ble_eq_true rfl, Nat.le_of_ble_eq_true rfl⟩ rfl rfl (Nat.le_of_ble_eq_true rfl) ?_
    refine j_if_eq (tgt := 28) C dX7_dark_15 rfl (by decide) (fun c6_ => ?_) (fun c6_ => ?_)
    · replace h := if_t h c6_
      refine j_iconst (v := (-1)) C dX7_dark_28 rfl (by decide) ?_
      obtain rfl := Option.some.inj h
      exact j_iret E dX7_dark_29
    · replace h := if_f h c6_
      refine j_iload_n C dX7_dark_18 rfl 3 rfl ?_
      refine j_iconst (v := (nI 0)) C dX7_dark_19 rfl (by decide) ?_
      refine j_bipush (v := (nI 100)) C dX7_dark_20 rfl (by decide) ?_
      replace h := bd_e h
      obtain ⟨p7_, h8_, h⟩ := h
      refine j_cSI (av := [.int a3, .int (nI 0), .int (nI 100)]) (rest := []) C dX7_dark_22 rfl (c_X7_within _ _ _ _ p4_.2 p7_ h8_) gsX7_54 ⟨⟨rfl, rfl⟩, Nat.le_of_ble_eq_true rfl, Nat.le_of_ble_eq_true rfl⟩ rfl rfl (Nat.le_of_ble_eq_true rfl) ?_
      refine j_if_ne (tgt := 30) C dX7_dark_25 rfl (by decide) (fun c9_ => ?_) (fun c9_ => ?_)
      · replace h := if_f h c9_
        refine j_aload_n C dX7_dark_30 rfl 0 rfl ?_
        refine j_getR (c := 1) C dX7_dark_31 rfl lkX7_10 is_0 rfl ?_
        refine j_getR (c := 2) C dX7_dark_34 rfl lkX7_38 (isT_0 isT1) rfl ?_
        refine j_getR (c := 6) C dX7_dark_37 rfl lkX7_80 (isN_0 (isT_n isT1)) rfl ?_
        refine j_iload_n C dX7_dark_40 rfl 1 rfl ?_
        refine j_iload_n C dX7_dark_41 rfl 2 rfl ?_
        replace h := gd_e h
        obtain ⟨g10_, h⟩ := h
        refine j_iast C dX7_dark_42 rfl (isN_a4 (isT_n isT1)) g10_ ?_
        refine j_mem (fun μ11_ e12_ => ?_)
        replace h := zl_u h e12_
        refine j_aload_n C dX7_dark_43 rfl 0 rfl ?_
        refine j_getR (c := 1) C dX7_dark_44 rfl lkX7_10 is_0 rfl ?_
        refine j_getR (c := 2) C dX7_dark_47 rfl lkX7_38 (isT_0 isT1) rfl ?_
        refine j_getR (c := 7) C dX7_dark_50 rfl lkX7_83 (isN_0 (isT_n isT1)) rfl ?_
        refine j_iload_n C dX7_dark_53 rfl 1 rfl ?_
        refine j_iload_n C dX7_dark_54 rfl 3 rfl ?_
        refine j_iast C dX7_dark_55 rfl (isN_a5 (isT_n isT1)) g10_ ?_
        refine j_mem (fun μ13_ e14_ => ?_)
        replace h := zl_u h e14_
        refine j_aload_n C dX7_dark_56 rfl 0 rfl ?_
        refine j_getR (c := 1) C dX7_dark_57 rfl lkX7_10 is_0 rfl ?_
        refine j_getR (c := 2) C dX7_dark_60 rfl lkX7_38 (isT_0 isT1) rfl ?_
        refine j_iload_n C dX7_dark_63 rfl 1 rfl ?_
        replace h := bd_e h
        obtain ⟨p15_, h16_, h⟩ := h
        refine j_cVI (av := [.int a1]) (rest := []) C dX7_dark_64 rfl (c_X2_isDark _ _ _ _ (isT_n isT1) μ13_ p15_ h16_) gvX7_86 ⟨⟨rfl, rfl⟩, Nat.le_of_ble_eq_true rfl, Nat.le_of_ble_eq_true rfl⟩ rfl (isN_0 (isT_n isT1)) rfl rfl (Nat.le_of_ble_eq_true rfl) ?_
        replace h := bd_e h
        obtain ⟨p17_, h18_, h⟩ := h
        refine j_cSI (av := [.int p15_.1]) (rest := []) C dX7_dark_67 rfl (c_X7_asNumber _ _ _ _ p15_.2 p17_ h18_) gsX7_89 ⟨⟨rfl, rfl⟩, Nat.le_of_ble_eq_true rfl, Nat.le_of_ble_eq_true rfl⟩ rfl rfl (Nat.le_of_ble_eq_true rfl) ?_
        obtain rfl := Option.some.inj h
        exact j_iret E dX7_dark_70
      · replace h := if_t h c9_
        refine j_iconst (v := (-1)) C dX7_dark_28 rfl (by decide) ?_
        obtain rfl := Option.some.inj h
        exact j_iret E dX7_dark_29
set_option maxRecDepth 100000 in
theorem c_X7_dark (l : Launch) (D : va_G) (ad : Nat → Nat) (cl : Nat → ClassId) {a1 : Int32} {a2 : Int32} {a3 : Int32} (μ : Mem) (ρ : Int32 × Mem) (h : f_X7_dark a1 a2 a3 μ = some ρ) : CI l D ad cl yX7_dark wsX7_dark rmX7_dark [.ref 0, .int a1, .int a2, .int a3] μ ρ.1 ρ.2 := c_ofI (cc := cX7_dark) (nL := 4) rfl (by decide) (Nat.le_of_ble_eq_true rfl) (fun Γ C E => w_X7_dark C E μ h)
/-! X7_isPair -/
def wsX7_isPair : List Cond := .code yX7_isPair cX7_isPair 3 (some .boolean) :: G0
def rmX7_isPair : Room := { frames := 2, cells := 0, slots := 0, locals := 43 }
def f_X7_isPair (a1 : Int32) (a2 : Int32) (μ : Mem) : Option (Int32 × Mem) := Option.bind (f_X7_isRock a1 μ) fun p1_ => (if p1_.1 = 0 then some ((nI 0), p1_.2) else Option.bind (f_X7_isRock a2 p1_.2) fun p4_ => (if p4_.1 = 0 then some ((nI 0), p4_.2) else (if a1 = a2 then some ((nI 0), p4_.2) else some ((nI 1), p4_.2))))
set_option maxHeartbeats 4000000 in
set_option maxRecDepth 100000 in
theorem w_X7_isPair {Γ : jG} (C : jC Γ 3 cX7_isPair RX7 rmX7_isPair) {a1 : Int32} {a2 : Int32} {ρ : Int32 × Mem} (E : (isB ρ.1 = true → jEI Γ cX7_isPair ρ.1 ρ.2)) (μ : Mem) (h : f_X7_isPair a1 a2 μ = some ρ) : jJ Γ 3 0 [(0, .ref 0), (1, .int a1), (2, .int a2)] [] μ := by
  unfold f_X7_isPair at h
  refine j_aload_n C dX7_isPair_0 rfl 0 rfl ?_
  refine j_iload_n C dX7_isPair_1 rfl 1 rfl ?_
  replace h := bd_e h
  obtain ⟨p1_, h2_, h⟩ := h
  refine j_cVI (av := [.int a1]) (rest := []) C dX7_isPair_2 rfl (c_X7_isRock _ _ _ _ μ p1_ h2_) gvX7_72 ⟨⟨rfl, rfl⟩, Nat.le_of_ble_eq_true rfl, Nat.le_of_ble_eq_true rfl⟩ rfl is_0 rfl rfl (Nat.le_of_ble_eq_true rfl) ?_
  refine j_if_eq (tgt := 25) C dX7_isPair_5 rfl (by decide) (fun c3_ => ?_) (fun c3_ => ?_)
  · replace h := if_t h c3_
    refine j_iconst (v := (nI 0)) C dX7_isPair_25 rfl (by decide) ?_
    obtain rfl := Option.some.inj h
    exact j_iret (E isB_0) dX7_isPair_26
  · replace h := if_f h c3_
    refine j_aload_n C dX7_isPair_8 rfl 0 rfl ?_
    refine j_iload_n C dX7_isPair_9 rfl 2 rfl ?_
    replace h := bd_e h
    obtain ⟨p4_, h5_, h⟩ := h
    refine j_cVI (av := [.int a2]) (rest := []) C dX7_isPair_10 rfl (c_X7_isRock _ _ _ _ p1_.2 p4_ h5_) gvX7_72 ⟨⟨rfl, rfl⟩, Nat.le_of_ble_eq_true rfl, Nat.le_of_ble_eq_true rfl⟩ rfl is_0 rfl rfl (Nat.le_of_ble_eq_true rfl) ?_
    refine j_if_eq (tgt := 25) C dX7_isPair_13 rfl (by decide) (fun c6_ => ?_) (fun c6_ => ?_)
    · replace h := if_t h c6_
      refine j_iconst (v := (nI 0)) C dX7_isPair_25 rfl (by decide) ?_
      obtain rfl := Option.some.inj h
      exact j_iret (E isB_0) dX7_isPair_26
    · replace h := if_f h c6_
      refine j_iload_n C dX7_isPair_16 rfl 1 rfl ?_
      refine j_iload_n C dX7_isPair_17 rfl 2 rfl ?_
      refine j_icmp_eq (tgt := 25) C dX7_isPair_18 rfl (by decide) (fun c7_ => ?_) (fun c7_ => ?_)
      · replace h := if_t h c7_
        refine j_iconst (v := (nI 0)) C dX7_isPair_25 rfl (by decide) ?_
        obtain rfl := Option.some.inj h
        exact j_iret (E isB_0) dX7_isPair_26
      · replace h := if_f h c7_
        refine j_iconst (v := (nI 1)) C dX7_isPair_21 rfl (by decide) ?_
        refine j_goto (pc' := 26) C dX7_isPair_22 (by decide) ?_
        obtain rfl := Option.some.inj h
        exact j_iret (E isB_1) dX7_isPair_26
set_option maxRecDepth 100000 in
theorem c_X7_isPair (l : Launch) (D : va_G) (ad : Nat → Nat) (cl : Nat → ClassId) {a1 : Int32} {a2 : Int32} (μ : Mem) (ρ : Int32 × Mem) (h : f_X7_isPair a1 a2 μ = some ρ) : CI l D ad cl yX7_isPair wsX7_isPair rmX7_isPair [.ref 0, .int a1, .int a2] μ ρ.1 ρ.2 := c_ofZ (cc := cX7_isPair) (nL := 3) rfl (by decide) (Nat.le_of_ble_eq_true rfl) (fun Γ C E => w_X7_isPair C E μ h)
theorem gvX7_93 : jm_gv RX7 93 RX7 yX7_isPair wsX7_isPair 3 2 := ⟨_, _, gi_V gwt2_98 gwt2_100 gwp1_1 gwt1_1 gwt2_101, rfl, by decide +kernel⟩
/-! X7_delay -/
def wsX7_delay : List Cond := .code yX7_delay cX7_delay 5 (some .int) :: G0
def rmX7_delay : Room := { frames := 3, cells := 0, slots := 0, locals := 65 }
def f_X7_delay (a1 : Int32) (a2 : Int32) (a3 : Int32) (μ : Mem) : Option (Int32 × Mem) := Option.bind (f_X7_isPair a1 a2 μ) fun p1_ => (if p1_.1 = 0 then some ((-1), p1_.2) else Option.bind (f_X7_within a3 (nI 1) (nI 9) p1_.2) fun p4_ => (if p4_.1 = 0 then some ((-1), p4_.2) else gd (inb a1 9) <| gd (inb a2 9) <| zl (p4_.2.1 (9 + (Int32.toNatClampNeg a1)) (Int32.toNatClampNeg a2)) fun x9_ => zl (sI p4_.2 (9 + (Int32.toNatClampNeg a1)) (Int32.toNatClampNeg a2) a3) fun μ11_ => some (x9_, μ11_)))
set_option maxHeartbeats 4000000 in
set_option maxRecDepth 100000 in
theorem w_X7_delay {Γ : jG} (C : jC Γ 5 cX7_delay RX7 rmX7_delay) {a1 : Int32} {a2 : Int32} {a3 : Int32} {ρ : Int32 × Mem} (E : jEI Γ cX7_delay ρ.1 ρ.2) (μ : Mem) (h : f_X7_delay a1 a2 a3 μ = some ρ) : jJ Γ 5 0 [(0, .ref 0), (1, .int a1), (2, .int a2), (3, .int a3)] [] μ := by
  unfold f_X7_delay at h
  refine j_aload_n C dX7_delay_0 rfl 0 rfl ?_
  refine j_iload_n C dX7_delay_1 rfl 1 rfl ?_
  refine j_iload_n C dX7_delay_2 rfl 2 rfl ?_
  replace h := bd_e h
  obtain ⟨p1_, h2_, h⟩ := h
  refine j_cVI (av := [.int a1, .int a2]) (rest := []) C dX7_delay_3 rfl (c_X7_isPair _ _ _ _ μ p1_ h2_) gvX7_93 ⟨⟨rfl, rfl⟩, Nat.le_of_ble_eq_true rfl, Nat.le_of_ble_eq_true rfl⟩ rfl is_0 rfl rfl (Nat.le_of_ble_eq_true rfl) ?_
  refine j_if_eq (tgt := 19) C dX7_delay_6 rfl (by decide) (fun c3_ => ?_) (fun c3_ => ?_)
  · replace h := if_t h c3_
    refine j_iconst (v := (-1)) C dX7_delay_19 rfl (by decide) ?_
    obtain rfl := Option.some.inj h
    exact j_iret E dX7_delay_20
  · replace h := if_f h c3_
    refine j_iload_n C dX7_delay_9 rfl 3 rfl ?_
    refine j_iconst (v := (nI 1)) C dX7_delay_10 rfl (by decide) ?_
    refine j_bipush (v := (nI 9)) C dX7_delay_11 rfl (by decide) ?_
    replace h := bd_e h
    obtain ⟨p4_, h5_, h⟩ := h
    refine j_cSI (av := [.int a3, .int (nI 1), .int (nI 9)]) (rest := []) C dX7_delay_13 rfl (c_X7_within _ _ _ _ p1_.2 p4_ h5_) gsX7_54 ⟨⟨rfl, rfl⟩, Nat.le_of_ble_eq_true rfl, Nat.le_of_ble_eq_true rfl⟩ rfl rfl (Nat.le_of_ble_eq_true rfl) ?_
    refine j_if_ne (tgt := 21) C dX7_delay_16 rfl (by decide) (fun c6_ => ?_) (fun c6_ => ?_)
    · replace h := if_f h c6_
      refine j_aload_n C dX7_delay_21 rfl 0 rfl ?_
      refine j_getR (c := 1) C dX7_delay_22 rfl lkX7_10 is_0 rfl ?_
      refine j_getR (c := 2) C dX7_delay_25 rfl lkX7_38 (isT_0 isT1) rfl ?_
      refine j_getR (c := 8) C dX7_delay_28 rfl lkX7_97 (isN_0 (isT_n isT1)) rfl ?_
      refine j_iload_n C dX7_delay_31 rfl 1 rfl ?_
      replace h := gd_e h
      obtain ⟨g7_, h⟩ := h
      refine j_aald C dX7_delay_32 rfl (Or.inl rfl) (isN_a6 (isT_n isT1)) g7_ ?_
      refine j_iload_n C dX7_delay_33 rfl 2 rfl ?_
      replace h := gd_e h
      obtain ⟨g8_, h⟩ := h
      refine j_iald C dX7_delay_34 rfl (isN_dl (isT_n isT1) g7_) g8_ ?_
      refine j_topi (fun x9_ e10_ => ?_)
      replace h := zl_u h e10_
      refine j_istore (lv' := [(4, .int x9_), (0, .ref 0), (1, .int a1), (2, .int a2), (3, .int a3)]) C dX7_delay_35 rfl (by decide) rfl ?_
      refine j_aload_n C dX7_delay_37 rfl 1 rfl ?_
      refine j_getR (c := 1) C dX7_delay_38 rfl lkX7_10 is_0 rfl ?_
      refine j_getR (c := 2) C dX7_delay_41 rfl lkX7_38 (isT_0 isT1) rfl ?_
      refine j_getR (c := 8) C dX7_delay_44 rfl lkX7_97 (isN_0 (isT_n isT1)) rfl ?_
      refine j_iload_n C dX7_delay_47 rfl 2 rfl ?_
      refine j_aald C dX7_delay_48 rfl (Or.inl rfl) (isN_a6 (isT_n isT1)) g7_ ?_
      refine j_iload_n C dX7_delay_49 rfl 3 rfl ?_
      refine j_iload_n C dX7_delay_50 rfl 4 rfl ?_
      refine j_iast C dX7_delay_51 rfl (isN_dl (isT_n isT1) g7_) g8_ ?_
      refine j_mem (fun μ11_ e12_ => ?_)
      replace h := zl_u h e12_
      refine j_iload C dX7_delay_52 rfl 0 rfl ?_
      obtain rfl := Option.some.inj h
      exact j_iret E dX7_delay_54
    · replace h := if_t h c6_
      refine j_iconst (v := (-1)) C dX7_delay_19 rfl (by decide) ?_
      obtain rfl := Option.some.inj h
      exact j_iret E dX7_delay_20
set_option maxRecDepth 100000 in
theorem c_X7_delay (l : Launch) (D : va_G) (ad : Nat → Nat) (cl : Nat → ClassId) {a1 : Int32} {a2 : Int32} {a3 : Int32} (μ : Mem) (ρ : Int32 × Mem) (h : f_X7_delay a1 a2 a3 μ = some ρ) : CI l D ad cl yX7_delay wsX7_delay rmX7_delay [.ref 0, .int a1, .int a2, .int a3] μ ρ.1 ρ.2 := c_ofI (cc := cX7_delay) (nL := 5) rfl (by decide) (Nat.le_of_ble_eq_true rfl) (fun Γ C E => w_X7_delay C E μ h)
theorem gvX7_101 : jm_gv RX7 101 RX2 yX2_believed wsX2_believed 2 1 := ⟨_, _, gi_V gwt2_106 gwt2_107 gwt2_108 gwt1_3 gwt2_109, rfl, by decide +kernel⟩
theorem gvX7_111 : jm_gv RX7 111 RX2 yX2_isTrue wsX2_isTrue 2 1 := ⟨_, _, gi_V gwt2_110 gwt2_111 gwt2_112 gwt1_3 gwt2_113, rfl, by decide +kernel⟩
/-! X7_told -/
def wsX7_told : List Cond := .code yX7_told cX7_told 4 (some .int) :: G0
def rmX7_told : Room := { frames := 2, cells := 0, slots := 0, locals := 43 }
def f_X7_told (a1 : Int32) (a2 : Int32) (μ : Mem) : Option (Int32 × Mem) := Option.bind (f_X7_isRock a1 μ) fun p1_ => (if p1_.1 = 0 then some ((-1), p1_.2) else (if a2 = (nI 0) then gd (inb a1 9) <| some (p1_.2.1 3 (Int32.toNatClampNeg a1), p1_.2) else if a2 = (nI 1) then Option.bind (f_X2_believed 2 a1 p1_.2) fun p7_ => some (p7_.1, p7_.2) else if a2 = (nI 2) then gd (inb a1 9) <| some (p1_.2.1 4 (Int32.toNatClampNeg a1), p1_.2) else if a2 = (nI 3) then gd (inb a1 9) <| some (p1_.2.1 5 (Int32.toNatClampNeg a1), p1_.2) else if a2 = (nI 4) then gd (inb a1 9) <| some (p1_.2.1 6 (Int32.toNatClampNeg a1), p1_.2) else if a2 = (nI 5) then gd (inb a1 9) <| some (p1_.2.1 7 (Int32.toNatClampNeg a1), p1_.2) else if a2 = (nI 6) then Option.bind (f_X2_isDark 2 a1 p1_.2) fun p18_ => Option.bind (f_X7_asNumber p18_.1 p18_.2) fun p20_ => some (p20_.1, p20_.2) else if a2 = (nI 7) then Option.bind (f_X2_isTrue 2 a1 p1_.2) fun p23_ => Option.bind (f_X7_asNumber p23_.1 p23_.2) fun p25_ => some (p25_.1, p25_.2) else some ((-1), p1_.2)))
set_option maxHeartbeats 4000000 in
set_option maxRecDepth 100000 in
theorem w_X7_told {Γ : jG} (C : jC Γ 4 cX7_told RX7 rmX7_told) {a1 : Int32} {a2 : Int32} {ρ : Int32 × Mem} (E : jEI Γ cX7_told ρ.1 ρ.2) (μ : Mem) (h : f_X7_told a1 a2 μ = some ρ) : jJ Γ 4 0 [(0, .ref 0), (1, .int a1), (2, .int a2)] [] μ := by
  unfold f_X7_told at h
  refine j_aload_n C dX7_told_0 rfl 0 rfl ?_
  refine j_iload_n C dX7_told_1 rfl 1 rfl ?_
  replace h := bd_e h
  obtain ⟨p1_, h2_, h⟩ := h
  refine j_cVI (av := [.int a1]) (rest := []) C dX7_told_2 rfl (c_X7_isRock _ _ _ _ μ p1_ h2_) gvX7_72 ⟨⟨rfl, rfl⟩, Nat.le_of_ble_eq_true rfl, Nat.le_of_ble_eq_true rfl⟩ rfl is_0 rfl rfl (Nat.le_of_ble_eq_true rfl) ?_
  refine j_if_ne (tgt := 10) C dX7_told_5 rfl (by decide) (fun c3_ => ?_) (fun c3_ => ?_)
  · replace h := if_f h c3_
    refine j_aload_n C dX7_told_10 rfl 0 rfl ?_
    refine j_getR (c := 1) C dX7_told_11 rfl lkX7_10 is_0 rfl ?_
    refine j_getR (c := 2) C dX7_told_14 rfl lkX7_38 (isT_0 isT1) rfl ?_
    refine j_astore_n (lv' := [(3, .ref 2), (0, .ref 0), (1, .int a1), (2, .int a2)]) C dX7_told_17 rfl (by decide) rfl ?_
    refine j_iload_n C dX7_told_18 rfl 3 rfl ?_
    by_cases c4_ : a2 = (nI 0)
    · refine j_tabIn (tgt := 64) C dX7_told_19 (by rw [c4_]; decide) (by rw [c4_]; decide) (by rw [c4_]; try rfl) (by decide) ?_
      replace h := if_t h c4_
      refine j_aload_n C dX7_told_64 rfl 0 rfl ?_
      refine j_getR (c := 3) C dX7_told_65 rfl lkX7_76 (isN_0 (isT_n isT1)) rfl ?_
      refine j_iload_n C dX7_told_68 rfl 2 rfl ?_
      replace h := gd_e h
      obtain ⟨g5_, h⟩ := h
      refine j_iald C dX7_told_69 rfl (isN_a1 (isT_n isT1)) g5_ ?_
      obtain rfl := Option.some.inj h
      exact j_iret E dX7_told_70
    replace h := if_f h c4_
    by_cases c6_ : a2 = (nI 1)
    · refine j_tabIn (tgt := 71) C dX7_told_19 (by rw [c6_]; decide) (by rw [c6_]; decide) (by rw [c6_]; try rfl) (by decide) ?_
      replace h := if_t h c6_
      refine j_aload_n C dX7_told_71 rfl 0 rfl ?_
      refine j_iload_n C dX7_told_72 rfl 2 rfl ?_
      replace h := bd_e h
      obtain ⟨p7_, h8_, h⟩ := h
      refine j_cVI (av := [.int a1]) (rest := []) C dX7_told_73 rfl (c_X2_believed _ _ _ _ (isT_n isT1) p1_.2 p7_ h8_) gvX7_101 ⟨⟨rfl, rfl⟩, Nat.le_of_ble_eq_true rfl, Nat.le_of_ble_eq_true rfl⟩ rfl (isN_0 (isT_n isT1)) rfl rfl (Nat.le_of_ble_eq_true rfl) ?_
      obtain rfl := Option.some.inj h
      exact j_iret E dX7_told_76
    replace h := if_f h c6_
    by_cases c9_ : a2 = (nI 2)
    · refine j_tabIn (tgt := 77) C dX7_told_19 (by rw [c9_]; decide) (by rw [c9_]; decide) (by rw [c9_]; try rfl) (by decide) ?_
      replace h := if_t h c9_
      refine j_aload_n C dX7_told_77 rfl 0 rfl ?_
      refine j_getR (c := 4) C dX7_told_78 rfl lkX7_105 (isN_0 (isT_n isT1)) rfl ?_
      refine j_iload_n C dX7_told_81 rfl 2 rfl ?_
      replace h := gd_e h
      obtain ⟨g10_, h⟩ := h
      refine j_iald C dX7_told_82 rfl (isN_a2 (isT_n isT1)) g10_ ?_
      obtain rfl := Option.some.inj h
      exact j_iret E dX7_told_83
    replace h := if_f h c9_
    by_cases c11_ : a2 = (nI 3)
    · refine j_tabIn (tgt := 84) C dX7_told_19 (by rw [c11_]; decide) (by rw [c11_]; decide) (by rw [c11_]; try rfl) (by decide) ?_
      replace h := if_t h c11_
      refine j_aload_n C dX7_told_84 rfl 0 rfl ?_
      refine j_getR (c := 5) C dX7_told_85 rfl lkX7_108 (isN_0 (isT_n isT1)) rfl ?_
      refine j_iload_n C dX7_told_88 rfl 2 rfl ?_
      replace h := gd_e h
      obtain ⟨g12_, h⟩ := h
      refine j_iald C dX7_told_89 rfl (isN_a3 (isT_n isT1)) g12_ ?_
      obtain rfl := Option.some.inj h
      exact j_iret E dX7_told_90
    replace h := if_f h c11_
    by_cases c13_ : a2 = (nI 4)
    · refine j_tabIn (tgt := 91) C dX7_told_19 (by rw [c13_]; decide) (by rw [c13_]; decide) (by rw [c13_]; try rfl) (by decide) ?_
      replace h := if_t h c13_
      refine j_aload_n C dX7_told_91 rfl 0 rfl ?_
      refine j_getR (c := 6) C dX7_told_92 rfl lkX7_80 (isN_0 (isT_n isT1)) rfl ?_
      refine j_iload_n C dX7_told_95 rfl 2 rfl ?_
      replace h := gd_e h
      obtain ⟨g14_, h⟩ := h
      refine j_iald C dX7_told_96 rfl (isN_a4 (isT_n isT1)) g14_ ?_
      obtain rfl := Option.some.inj h
      exact j_iret E dX7_told_97
    replace h := if_f h c13_
    by_cases c15_ : a2 = (nI 5)
    · refine j_tabIn (tgt := 98) C dX7_told_19 (by rw [c15_]; decide) (by rw [c15_]; decide) (by rw [c15_]; try rfl) (by decide) ?_
      replace h := if_t h c15_
      refine j_aload_n C dX7_told_98 rfl 0 rfl ?_
      refine j_getR (c := 7) C dX7_told_99 rfl lkX7_83 (isN_0 (isT_n isT1)) rfl ?_
      refine j_iload_n C dX7_told_102 rfl 2 rfl ?_
      replace h := gd_e h
      obtain ⟨g16_, h⟩ := h
      refine j_iald C dX7_told_103 rfl (isN_a5 (isT_n isT1)) g16_ ?_
      obtain rfl := Option.some.inj h
      exact j_iret E dX7_told_104
    replace h := if_f h c15_
    by_cases c17_ : a2 = (nI 6)
    · refine j_tabIn (tgt := 105) C dX7_told_19 (by rw [c17_]; decide) (by rw [c17_]; decide) (by rw [c17_]; try rfl) (by decide) ?_
      replace h := if_t h c17_
      refine j_aload_n C dX7_told_105 rfl 0 rfl ?_
      refine j_iload_n C dX7_told_106 rfl 2 rfl ?_
      replace h := bd_e h
      obtain ⟨p18_, h19_, h⟩ := h
      refine j_cVI (av := [.int a1]) (rest := []) C dX7_told_107 rfl (c_X2_isDark _ _ _ _ (isT_n isT1) p1_.2 p18_ h19_) gvX7_86 ⟨⟨rfl, rfl⟩, Nat.le_of_ble_eq_true rfl, Nat.le_of_ble_eq_true rfl⟩ rfl (isN_0 (isT_n isT1)) rfl rfl (Nat.le_of_ble_eq_true rfl) ?_
      replace h := bd_e h
      obtain ⟨p20_, h21_, h⟩ := h
      refine j_cSI (av := [.int p18_.1]) (rest := []) C dX7_told_110 rfl (c_X7_asNumber _ _ _ _ p18_.2 p20_ h21_) gsX7_89 ⟨⟨rfl, rfl⟩, Nat.le_of_ble_eq_true rfl, Nat.le_of_ble_eq_true rfl⟩ rfl rfl (Nat.le_of_ble_eq_true rfl) ?_
      obtain rfl := Option.some.inj h
      exact j_iret E dX7_told_113
    replace h := if_f h c17_
    by_cases c22_ : a2 = (nI 7)
    · refine j_tabIn (tgt := 114) C dX7_told_19 (by rw [c22_]; decide) (by rw [c22_]; decide) (by rw [c22_]; try rfl) (by decide) ?_
      replace h := if_t h c22_
      refine j_aload_n C dX7_told_114 rfl 0 rfl ?_
      refine j_iload_n C dX7_told_115 rfl 2 rfl ?_
      replace h := bd_e h
      obtain ⟨p23_, h24_, h⟩ := h
      refine j_cVI (av := [.int a1]) (rest := []) C dX7_told_116 rfl (c_X2_isTrue _ _ _ _ (isT_n isT1) p1_.2 p23_ h24_) gvX7_111 ⟨⟨rfl, rfl⟩, Nat.le_of_ble_eq_true rfl, Nat.le_of_ble_eq_true rfl⟩ rfl (isN_0 (isT_n isT1)) rfl rfl (Nat.le_of_ble_eq_true rfl) ?_
      replace h := bd_e h
      obtain ⟨p25_, h26_, h⟩ := h
      refine j_cSI (av := [.int p23_.1]) (rest := []) C dX7_told_119 rfl (c_X7_asNumber _ _ _ _ p23_.2 p25_ h26_) gsX7_89 ⟨⟨rfl, rfl⟩, Nat.le_of_ble_eq_true rfl, Nat.le_of_ble_eq_true rfl⟩ rfl rfl (Nat.le_of_ble_eq_true rfl) ?_
      obtain rfl := Option.some.inj h
      exact j_iret E dX7_told_122
    replace h := if_f h c22_
    have nc4_ := i32_ne (z := 0) c4_ (by decide)
    have nc6_ := i32_ne (z := 1) c6_ (by decide)
    have nc9_ := i32_ne (z := 2) c9_ (by decide)
    have nc11_ := i32_ne (z := 3) c11_ (by decide)
    have nc13_ := i32_ne (z := 4) c13_ (by decide)
    have nc15_ := i32_ne (z := 5) c15_ (by decide)
    have nc17_ := i32_ne (z := 6) c17_ (by decide)
    have nc22_ := i32_ne (z := 7) c22_ (by decide)
    refine j_tabOut (tgt := 123) C dX7_told_19 (by omega) (by decide) ?_
    refine j_iconst (v := (-1)) C dX7_told_123 rfl (by decide) ?_
    obtain rfl := Option.some.inj h
    exact j_iret E dX7_told_124
  · replace h := if_t h c3_
    refine j_iconst (v := (-1)) C dX7_told_8 rfl (by decide) ?_
    obtain rfl := Option.some.inj h
    exact j_iret E dX7_told_9
set_option maxRecDepth 100000 in
theorem c_X7_told (l : Launch) (D : va_G) (ad : Nat → Nat) (cl : Nat → ClassId) {a1 : Int32} {a2 : Int32} (μ : Mem) (ρ : Int32 × Mem) (h : f_X7_told a1 a2 μ = some ρ) : CI l D ad cl yX7_told wsX7_told rmX7_told [.ref 0, .int a1, .int a2] μ ρ.1 ρ.2 := c_ofI (cc := cX7_told) (nL := 4) rfl (by decide) (Nat.le_of_ble_eq_true rfl) (fun Γ C E => w_X7_told C E μ h)
theorem gvX7_114 : jm_gv RX7 114 RX2 yX2_colourOf wsX2_colourOf 3 2 := ⟨_, _, gi_V gwt2_118 gwt2_119 gwt2_120 gwt1_3 gwt2_121, rfl, by decide +kernel⟩
/-! X7_heard -/
def wsX7_heard : List Cond := .code yX7_heard cX7_heard 3 (some .int) :: G0
def rmX7_heard : Room := { frames := 2, cells := 0, slots := 0, locals := 44 }
def f_X7_heard (a1 : Int32) (a2 : Int32) (μ : Mem) : Option (Int32 × Mem) := Option.bind (f_X7_isRock a1 μ) fun p1_ => (if p1_.1 = 0 then some ((-1), p1_.2) else Option.bind (f_X7_isRock a2 p1_.2) fun p4_ => (if p4_.1 = 0 then some ((-1), p4_.2) else Option.bind (f_X2_colourOf 2 a1 a2 p4_.2) fun p7_ => some (p7_.1, p7_.2)))
set_option maxHeartbeats 4000000 in
set_option maxRecDepth 100000 in
theorem w_X7_heard {Γ : jG} (C : jC Γ 3 cX7_heard RX7 rmX7_heard) {a1 : Int32} {a2 : Int32} {ρ : Int32 × Mem} (E : jEI Γ cX7_heard ρ.1 ρ.2) (μ : Mem) (h : f_X7_heard a1 a2 μ = some ρ) : jJ Γ 3 0 [(0, .ref 0), (1, .int a1), (2, .int a2)] [] μ := by
  unfold f_X7_heard at h
  refine j_aload_n C dX7_heard_0 rfl 0 rfl ?_
  refine j_iload_n C dX7_heard_1 rfl 1 rfl ?_
  replace h := bd_e h
  obtain ⟨p1_, h2_, h⟩ := h
  refine j_cVI (av := [.int a1]) (rest := []) C dX7_heard_2 rfl (c_X7_isRock _ _ _ _ μ p1_ h2_) gvX7_72 ⟨⟨rfl, rfl⟩, Nat.le_of_ble_eq_true rfl, Nat.le_of_ble_eq_true rfl⟩ rfl is_0 rfl rfl (Nat.le_of_ble_eq_true rfl) ?_
  refine j_if_eq (tgt := 16) C dX7_heard_5 rfl (by decide) (fun c3_ => ?_) (fun c3_ => ?_)
  · replace h := if_t h c3_
    refine j_iconst (v := (-1)) C dX7_heard_16 rfl (by decide) ?_
    obtain rfl := Option.some.inj h
    exact j_iret E dX7_heard_17
  · replace h := if_f h c3_
    refine j_aload_n C dX7_heard_8 rfl 0 rfl ?_
    refine j_iload_n C dX7_heard_9 rfl 2 rfl ?_
    replace h := bd_e h
    obtain ⟨p4_, h5_, h⟩ := h
    refine j_cVI (av := [.int a2]) (rest := []) C dX7_heard_10 rfl (c_X7_isRock _ _ _ _ p1_.2 p4_ h5_) gvX7_72 ⟨⟨rfl, rfl⟩, Nat.le_of_ble_eq_true rfl, Nat.le_of_ble_eq_true rfl⟩ rfl is_0 rfl rfl (Nat.le_of_ble_eq_true rfl) ?_
    refine j_if_ne (tgt := 18) C dX7_heard_13 rfl (by decide) (fun c6_ => ?_) (fun c6_ => ?_)
    · replace h := if_f h c6_
      refine j_aload_n C dX7_heard_18 rfl 0 rfl ?_
      refine j_getR (c := 1) C dX7_heard_19 rfl lkX7_10 is_0 rfl ?_
      refine j_getR (c := 2) C dX7_heard_22 rfl lkX7_38 (isT_0 isT1) rfl ?_
      refine j_iload_n C dX7_heard_25 rfl 1 rfl ?_
      refine j_iload_n C dX7_heard_26 rfl 2 rfl ?_
      replace h := bd_e h
      obtain ⟨p7_, h8_, h⟩ := h
      refine j_cVI (av := [.int a1, .int a2]) (rest := []) C dX7_heard_27 rfl (c_X2_colourOf _ _ _ _ (isT_n isT1) p4_.2 p7_ h8_) gvX7_114 ⟨⟨rfl, rfl⟩, Nat.le_of_ble_eq_true rfl, Nat.le_of_ble_eq_true rfl⟩ rfl (isN_0 (isT_n isT1)) rfl rfl (Nat.le_of_ble_eq_true rfl) ?_
      obtain rfl := Option.some.inj h
      exact j_iret E dX7_heard_30
    · replace h := if_t h c6_
      refine j_iconst (v := (-1)) C dX7_heard_16 rfl (by decide) ?_
      obtain rfl := Option.some.inj h
      exact j_iret E dX7_heard_17
set_option maxRecDepth 100000 in
theorem c_X7_heard (l : Launch) (D : va_G) (ad : Nat → Nat) (cl : Nat → ClassId) {a1 : Int32} {a2 : Int32} (μ : Mem) (ρ : Int32 × Mem) (h : f_X7_heard a1 a2 μ = some ρ) : CI l D ad cl yX7_heard wsX7_heard rmX7_heard [.ref 0, .int a1, .int a2] μ ρ.1 ρ.2 := c_ofI (cc := cX7_heard) (nL := 3) rfl (by decide) (Nat.le_of_ble_eq_true rfl) (fun Γ C E => w_X7_heard C E μ h)
theorem gvX7_117 : jm_gv RX7 117 RX2 yX2_counted wsX2_counted 3 2 := ⟨_, _, gi_V gwt2_129 gwt2_130 gwt2_131 gwt1_3 gwt2_132, rfl, by decide +kernel⟩
/-! X7_counts -/
def wsX7_counts : List Cond := .code yX7_counts cX7_counts 3 (some .int) :: G0
def rmX7_counts : Room := { frames := 2, cells := 0, slots := 0, locals := 43 }
def f_X7_counts (a1 : Int32) (a2 : Int32) (μ : Mem) : Option (Int32 × Mem) := Option.bind (f_X7_isRock a1 μ) fun p1_ => (if p1_.1 = 0 then some ((-1), p1_.2) else Option.bind (f_X7_within a2 (nI 0) (nI 2) p1_.2) fun p4_ => (if p4_.1 = 0 then some ((-1), p4_.2) else Option.bind (f_X2_counted 2 a1 a2 p4_.2) fun p7_ => some (p7_.1, p7_.2)))
set_option maxHeartbeats 4000000 in
set_option maxRecDepth 100000 in
theorem w_X7_counts {Γ : jG} (C : jC Γ 3 cX7_counts RX7 rmX7_counts) {a1 : Int32} {a2 : Int32} {ρ : Int32 × Mem} (E : jEI Γ cX7_counts ρ.1 ρ.2) (μ : Mem) (h : f_X7_counts a1 a2 μ = some ρ) : jJ Γ 3 0 [(0, .ref 0), (1, .int a1), (2, .int a2)] [] μ := by
  unfold f_X7_counts at h
  refine j_aload_n C dX7_counts_0 rfl 0 rfl ?_
  refine j_iload_n C dX7_counts_1 rfl 1 rfl ?_
  replace h := bd_e h
  obtain ⟨p1_, h2_, h⟩ := h
  refine j_cVI (av := [.int a1]) (rest := []) C dX7_counts_2 rfl (c_X7_isRock _ _ _ _ μ p1_ h2_) gvX7_72 ⟨⟨rfl, rfl⟩, Nat.le_of_ble_eq_true rfl, Nat.le_of_ble_eq_true rfl⟩ rfl is_0 rfl rfl (Nat.le_of_ble_eq_true rfl) ?_
  refine j_if_eq (tgt := 17) C dX7_counts_5 rfl (by decide) (fun c3_ => ?_) (fun c3_ => ?_)
  · replace h := if_t h c3_
    refine j_iconst (v := (-1)) C dX7_counts_17 rfl (by decide) ?_
    obtain rfl := Option.some.inj h
    exact j_iret E dX7_counts_18
  · replace h := if_f h c3_
    refine j_iload_n C dX7_counts_8 rfl 2 rfl ?_
    refine j_iconst (v := (nI 0)) C dX7_counts_9 rfl (by decide) ?_
    refine j_iconst (v := (nI 2)) C dX7_counts_10 rfl (by decide) ?_
    replace h := bd_e h
    obtain ⟨p4_, h5_, h⟩ := h
    refine j_cSI (av := [.int a2, .int (nI 0), .int (nI 2)]) (rest := []) C dX7_counts_11 rfl (c_X7_within _ _ _ _ p1_.2 p4_ h5_) gsX7_54 ⟨⟨rfl, rfl⟩, Nat.le_of_ble_eq_true rfl, Nat.le_of_ble_eq_true rfl⟩ rfl rfl (Nat.le_of_ble_eq_true rfl) ?_
    refine j_if_ne (tgt := 19) C dX7_counts_14 rfl (by decide) (fun c6_ => ?_) (fun c6_ => ?_)
    · replace h := if_f h c6_
      refine j_aload_n C dX7_counts_19 rfl 0 rfl ?_
      refine j_getR (c := 1) C dX7_counts_20 rfl lkX7_10 is_0 rfl ?_
      refine j_getR (c := 2) C dX7_counts_23 rfl lkX7_38 (isT_0 isT1) rfl ?_
      refine j_iload_n C dX7_counts_26 rfl 1 rfl ?_
      refine j_iload_n C dX7_counts_27 rfl 2 rfl ?_
      replace h := bd_e h
      obtain ⟨p7_, h8_, h⟩ := h
      refine j_cVI (av := [.int a1, .int a2]) (rest := []) C dX7_counts_28 rfl (c_X2_counted _ _ _ _ (isT_n isT1) p4_.2 p7_ h8_) gvX7_117 ⟨⟨rfl, rfl⟩, Nat.le_of_ble_eq_true rfl, Nat.le_of_ble_eq_true rfl⟩ rfl (isN_0 (isT_n isT1)) rfl rfl (Nat.le_of_ble_eq_true rfl) ?_
      obtain rfl := Option.some.inj h
      exact j_iret E dX7_counts_31
    · replace h := if_t h c6_
      refine j_iconst (v := (-1)) C dX7_counts_17 rfl (by decide) ?_
      obtain rfl := Option.some.inj h
      exact j_iret E dX7_counts_18
set_option maxRecDepth 100000 in
theorem c_X7_counts (l : Launch) (D : va_G) (ad : Nat → Nat) (cl : Nat → ClassId) {a1 : Int32} {a2 : Int32} (μ : Mem) (ρ : Int32 × Mem) (h : f_X7_counts a1 a2 μ = some ρ) : CI l D ad cl yX7_counts wsX7_counts rmX7_counts [.ref 0, .int a1, .int a2] μ ρ.1 ρ.2 := c_ofI (cc := cX7_counts) (nL := 3) rfl (by decide) (Nat.le_of_ble_eq_true rfl) (fun Γ C E => w_X7_counts C E μ h)
theorem gvX7_120 : jm_gv RX7 120 RX2 yX2_waiting wsX2_waiting 5 3 := ⟨_, _, gi_V gwt2_143 gwt2_144 gwt2_145 gwt1_3 gwt2_146, rfl, by decide +kernel⟩
/-! X7_due -/
def wsX7_due : List Cond := .code yX7_due cX7_due 4 (some .int) :: G0
def rmX7_due : Room := { frames := 3, cells := 0, slots := 0, locals := 65 }
def f_X7_due (a1 : Int32) (a2 : Int32) (a3 : Int32) (μ : Mem) : Option (Int32 × Mem) := Option.bind (f_X7_isPair a1 a2 μ) fun p1_ => (if p1_.1 = 0 then some ((-1), p1_.2) else Option.bind (f_X7_within a3 (nI 0) (nI 18) p1_.2) fun p4_ => (if p4_.1 = 0 then some ((-1), p4_.2) else Option.bind (f_X2_waiting 2 a1 a2 a3 p4_.2) fun p7_ => some (p7_.1, p7_.2)))
set_option maxHeartbeats 4000000 in
set_option maxRecDepth 100000 in
theorem w_X7_due {Γ : jG} (C : jC Γ 4 cX7_due RX7 rmX7_due) {a1 : Int32} {a2 : Int32} {a3 : Int32} {ρ : Int32 × Mem} (E : jEI Γ cX7_due ρ.1 ρ.2) (μ : Mem) (h : f_X7_due a1 a2 a3 μ = some ρ) : jJ Γ 4 0 [(0, .ref 0), (1, .int a1), (2, .int a2), (3, .int a3)] [] μ := by
  unfold f_X7_due at h
  refine j_aload_n C dX7_due_0 rfl 0 rfl ?_
  refine j_iload_n C dX7_due_1 rfl 1 rfl ?_
  refine j_iload_n C dX7_due_2 rfl 2 rfl ?_
  replace h := bd_e h
  obtain ⟨p1_, h2_, h⟩ := h
  refine j_cVI (av := [.int a1, .int a2]) (rest := []) C dX7_due_3 rfl (c_X7_isPair _ _ _ _ μ p1_ h2_) gvX7_93 ⟨⟨rfl, rfl⟩, Nat.le_of_ble_eq_true rfl, Nat.le_of_ble_eq_true rfl⟩ rfl is_0 rfl rfl (Nat.le_of_ble_eq_true rfl) ?_
  refine j_if_eq (tgt := 19) C dX7_due_6 rfl (by decide) (fun c3_ => ?_) (fun c3_ => ?_)
  · replace h := if_t h c3_
    refine j_iconst (v := (-1)) C dX7_due_19 rfl (by decide) ?_
    obtain rfl := Option.some.inj h
    exact j_iret E dX7_due_20
  · replace h := if_f h c3_
    refine j_iload_n C dX7_due_9 rfl 3 rfl ?_
    refine j_iconst (v := (nI 0)) C dX7_due_10 rfl (by decide) ?_
    refine j_bipush (v := (nI 18)) C dX7_due_11 rfl (by decide) ?_
    replace h := bd_e h
    obtain ⟨p4_, h5_, h⟩ := h
    refine j_cSI (av := [.int a3, .int (nI 0), .int (nI 18)]) (rest := []) C dX7_due_13 rfl (c_X7_within _ _ _ _ p1_.2 p4_ h5_) gsX7_54 ⟨⟨rfl, rfl⟩, Nat.le_of_ble_eq_true rfl, Nat.le_of_ble_eq_true rfl⟩ rfl rfl (Nat.le_of_ble_eq_true rfl) ?_
    refine j_if_ne (tgt := 21) C dX7_due_16 rfl (by decide) (fun c6_ => ?_) (fun c6_ => ?_)
    · replace h := if_f h c6_
      refine j_aload_n C dX7_due_21 rfl 0 rfl ?_
      refine j_getR (c := 1) C dX7_due_22 rfl lkX7_10 is_0 rfl ?_
      refine j_getR (c := 2) C dX7_due_25 rfl lkX7_38 (isT_0 isT1) rfl ?_
      refine j_iload_n C dX7_due_28 rfl 1 rfl ?_
      refine j_iload_n C dX7_due_29 rfl 2 rfl ?_
      refine j_iload_n C dX7_due_30 rfl 3 rfl ?_
      replace h := bd_e h
      obtain ⟨p7_, h8_, h⟩ := h
      refine j_cVI (av := [.int a1, .int a2, .int a3]) (rest := []) C dX7_due_31 rfl (c_X2_waiting _ _ _ _ (isT_n isT1) p4_.2 p7_ h8_) gvX7_120 ⟨⟨rfl, rfl⟩, Nat.le_of_ble_eq_true rfl, Nat.le_of_ble_eq_true rfl⟩ rfl (isN_0 (isT_n isT1)) rfl rfl (Nat.le_of_ble_eq_true rfl) ?_
      obtain rfl := Option.some.inj h
      exact j_iret E dX7_due_34
    · replace h := if_t h c6_
      refine j_iconst (v := (-1)) C dX7_due_19 rfl (by decide) ?_
      obtain rfl := Option.some.inj h
      exact j_iret E dX7_due_20
set_option maxRecDepth 100000 in
theorem c_X7_due (l : Launch) (D : va_G) (ad : Nat → Nat) (cl : Nat → ClassId) {a1 : Int32} {a2 : Int32} {a3 : Int32} (μ : Mem) (ρ : Int32 × Mem) (h : f_X7_due a1 a2 a3 μ = some ρ) : CI l D ad cl yX7_due wsX7_due rmX7_due [.ref 0, .int a1, .int a2, .int a3] μ ρ.1 ρ.2 := c_ofI (cc := cX7_due) (nL := 4) rfl (by decide) (Nat.le_of_ble_eq_true rfl) (fun Γ C E => w_X7_due C E μ h)
/-! X7_rule -/
def wsX7_rule : List Cond := .code yX7_rule cX7_rule 3 (some .int) :: G0
def rmX7_rule : Room := { frames := 1, cells := 0, slots := 0, locals := 22 }
def f_X7_rule (a1 : Int32) (a2 : Int32) (μ : Mem) : Option (Int32 × Mem) := Option.bind (f_X7_within a1 (nI 0) ((μ.1 24 0) - (nI 1)) μ) fun p1_ => (if p1_.1 = 0 then some ((-1), p1_.2) else (if a2 = (nI 0) then gd (inb a1 8) <| some (p1_.2.1 25 (Int32.toNatClampNeg a1), p1_.2) else if a2 = (nI 1) then gd (inb a1 8) <| some (p1_.2.1 26 (Int32.toNatClampNeg a1), p1_.2) else if a2 = (nI 2) then gd (inb a1 8) <| some (p1_.2.1 27 (Int32.toNatClampNeg a1), p1_.2) else if a2 = (nI 3) then gd (inb a1 8) <| some (p1_.2.1 28 (Int32.toNatClampNeg a1), p1_.2) else some ((-1), p1_.2)))
set_option maxHeartbeats 4000000 in
set_option maxRecDepth 100000 in
theorem w_X7_rule {Γ : jG} (C : jC Γ 3 cX7_rule RX7 rmX7_rule) {a1 : Int32} {a2 : Int32} {ρ : Int32 × Mem} (E : jEI Γ cX7_rule ρ.1 ρ.2) (μ : Mem) (h : f_X7_rule a1 a2 μ = some ρ) : jJ Γ 3 0 [(0, .ref 0), (1, .int a1), (2, .int a2)] [] μ := by
  unfold f_X7_rule at h
  refine j_iload_n C dX7_rule_0 rfl 1 rfl ?_
  refine j_iconst (v := (nI 0)) C dX7_rule_1 rfl (by decide) ?_
  refine j_aload_n C dX7_rule_2 rfl 0 rfl ?_
  refine j_getR (c := 1) C dX7_rule_3 rfl lkX7_10 is_0 rfl ?_
  refine j_getR (c := 24) C dX7_rule_6 rfl lkX7_42 (isT_0 isT1) rfl ?_
  refine j_getI C dX7_rule_9 rfl lkX7_124 (isW_0 (isT_w isT1)) rfl ?_
  refine j_iconst (v := (nI 1)) C dX7_rule_12 rfl (by decide) ?_
  refine j_isub C dX7_rule_13 rfl ?_
  replace h := bd_e h
  obtain ⟨p1_, h2_, h⟩ := h
  refine j_cSI (av := [.int a1, .int (nI 0), .int ((μ.1 24 0) - (nI 1))]) (rest := []) C dX7_rule_14 rfl (c_X7_within _ _ _ _ μ p1_ h2_) gsX7_54 ⟨⟨rfl, rfl⟩, Nat.le_of_ble_eq_true rfl, Nat.le_of_ble_eq_true rfl⟩ rfl rfl (Nat.le_of_ble_eq_true rfl) ?_
  refine j_if_ne (tgt := 22) C dX7_rule_17 rfl (by decide) (fun c3_ => ?_) (fun c3_ => ?_)
  · replace h := if_f h c3_
    refine j_iload_n C dX7_rule_22 rfl 2 rfl ?_
    by_cases c4_ : a2 = (nI 0)
    · refine j_tabIn (tgt := 52) C dX7_rule_23 (by rw [c4_]; decide) (by rw [c4_]; decide) (by rw [c4_]; try rfl) (by decide) ?_
      replace h := if_t h c4_
      refine j_aload_n C dX7_rule_52 rfl 0 rfl ?_
      refine j_getR (c := 1) C dX7_rule_53 rfl lkX7_10 is_0 rfl ?_
      refine j_getR (c := 24) C dX7_rule_56 rfl lkX7_42 (isT_0 isT1) rfl ?_
      refine j_getR (c := 25) C dX7_rule_59 rfl lkX7_129 (isW_0 (isT_w isT1)) rfl ?_
      refine j_iload_n C dX7_rule_62 rfl 1 rfl ?_
      replace h := gd_e h
      obtain ⟨g5_, h⟩ := h
      refine j_iald C dX7_rule_63 rfl (isW_a1 (isT_w isT1)) g5_ ?_
      obtain rfl := Option.some.inj h
      exact j_iret E dX7_rule_64
    replace h := if_f h c4_
    by_cases c6_ : a2 = (nI 1)
    · refine j_tabIn (tgt := 65) C dX7_rule_23 (by rw [c6_]; decide) (by rw [c6_]; decide) (by rw [c6_]; try rfl) (by decide) ?_
      replace h := if_t h c6_
      refine j_aload_n C dX7_rule_65 rfl 0 rfl ?_
      refine j_getR (c := 1) C dX7_rule_66 rfl lkX7_10 is_0 rfl ?_
      refine j_getR (c := 24) C dX7_rule_69 rfl lkX7_42 (isT_0 isT1) rfl ?_
      refine j_getR (c := 26) C dX7_rule_72 rfl lkX7_131 (isW_0 (isT_w isT1)) rfl ?_
      refine j_iload_n C dX7_rule_75 rfl 1 rfl ?_
      replace h := gd_e h
      obtain ⟨g7_, h⟩ := h
      refine j_iald C dX7_rule_76 rfl (isW_a2 (isT_w isT1)) g7_ ?_
      obtain rfl := Option.some.inj h
      exact j_iret E dX7_rule_77
    replace h := if_f h c6_
    by_cases c8_ : a2 = (nI 2)
    · refine j_tabIn (tgt := 78) C dX7_rule_23 (by rw [c8_]; decide) (by rw [c8_]; decide) (by rw [c8_]; try rfl) (by decide) ?_
      replace h := if_t h c8_
      refine j_aload_n C dX7_rule_78 rfl 0 rfl ?_
      refine j_getR (c := 1) C dX7_rule_79 rfl lkX7_10 is_0 rfl ?_
      refine j_getR (c := 24) C dX7_rule_82 rfl lkX7_42 (isT_0 isT1) rfl ?_
      refine j_getR (c := 27) C dX7_rule_85 rfl lkX7_134 (isW_0 (isT_w isT1)) rfl ?_
      refine j_iload_n C dX7_rule_88 rfl 1 rfl ?_
      replace h := gd_e h
      obtain ⟨g9_, h⟩ := h
      refine j_iald C dX7_rule_89 rfl (isW_a3 (isT_w isT1)) g9_ ?_
      obtain rfl := Option.some.inj h
      exact j_iret E dX7_rule_90
    replace h := if_f h c8_
    by_cases c10_ : a2 = (nI 3)
    · refine j_tabIn (tgt := 91) C dX7_rule_23 (by rw [c10_]; decide) (by rw [c10_]; decide) (by rw [c10_]; try rfl) (by decide) ?_
      replace h := if_t h c10_
      refine j_aload_n C dX7_rule_91 rfl 0 rfl ?_
      refine j_getR (c := 1) C dX7_rule_92 rfl lkX7_10 is_0 rfl ?_
      refine j_getR (c := 24) C dX7_rule_95 rfl lkX7_42 (isT_0 isT1) rfl ?_
      refine j_getR (c := 28) C dX7_rule_98 rfl lkX7_137 (isW_0 (isT_w isT1)) rfl ?_
      refine j_iload_n C dX7_rule_101 rfl 1 rfl ?_
      replace h := gd_e h
      obtain ⟨g11_, h⟩ := h
      refine j_iald C dX7_rule_102 rfl (isW_a4 (isT_w isT1)) g11_ ?_
      obtain rfl := Option.some.inj h
      exact j_iret E dX7_rule_103
    replace h := if_f h c10_
    have nc4_ := i32_ne (z := 0) c4_ (by decide)
    have nc6_ := i32_ne (z := 1) c6_ (by decide)
    have nc8_ := i32_ne (z := 2) c8_ (by decide)
    have nc10_ := i32_ne (z := 3) c10_ (by decide)
    refine j_tabOut (tgt := 104) C dX7_rule_23 (by omega) (by decide) ?_
    refine j_iconst (v := (-1)) C dX7_rule_104 rfl (by decide) ?_
    obtain rfl := Option.some.inj h
    exact j_iret E dX7_rule_105
  · replace h := if_t h c3_
    refine j_iconst (v := (-1)) C dX7_rule_20 rfl (by decide) ?_
    obtain rfl := Option.some.inj h
    exact j_iret E dX7_rule_21
set_option maxRecDepth 100000 in
theorem c_X7_rule (l : Launch) (D : va_G) (ad : Nat → Nat) (cl : Nat → ClassId) {a1 : Int32} {a2 : Int32} (μ : Mem) (ρ : Int32 × Mem) (h : f_X7_rule a1 a2 μ = some ρ) : CI l D ad cl yX7_rule wsX7_rule rmX7_rule [.ref 0, .int a1, .int a2] μ ρ.1 ρ.2 := c_ofI (cc := cX7_rule) (nL := 3) rfl (by decide) (Nat.le_of_ble_eq_true rfl) (fun Γ C E => w_X7_rule C E μ h)
theorem gvX7_140 : jm_gv RX7 140 RX0 yX0_append wsX0_append 5 4 := ⟨_, _, gi_V gwt2_155 gwt2_156 gwt2_157 gwt1_4 gwt2_158, rfl, by decide +kernel⟩
/-! X7_add -/
def wsX7_add : List Cond := .code yX7_add cX7_add 5 (some .int) :: G0
def rmX7_add : Room := { frames := 1, cells := 0, slots := 0, locals := 24 }
def f_X7_add (a1 : Int32) (a2 : Int32) (a3 : Int32) (a4 : Int32) (μ : Mem) : Option (Int32 × Mem) := Option.bind (f_X7_within a1 (nI 0) (nI 2) μ) fun p1_ => (if p1_.1 = 0 then some ((-1), p1_.2) else Option.bind (f_X7_within a2 (nI 0) (nI 9) p1_.2) fun p4_ => (if p4_.1 = 0 then some ((-1), p4_.2) else Option.bind (f_X7_within a3 (nI 0) (nI 2) p4_.2) fun p7_ => (if p7_.1 = 0 then some ((-1), p7_.2) else Option.bind (f_X7_within a4 (nI 0) (nI 2) p7_.2) fun p10_ => (if p10_.1 = 0 then some ((-1), p10_.2) else (if (p10_.2.1 24 0) < (nI 8) then Option.bind (f_X0_append 24 a1 a2 a3 a4 p10_.2) fun p14_ => some (p14_.1, p14_.2) else some ((-3), p10_.2))))))
set_option maxHeartbeats 4000000 in
set_option maxRecDepth 100000 in
theorem w_X7_add {Γ : jG} (C : jC Γ 5 cX7_add RX7 rmX7_add) {a1 : Int32} {a2 : Int32} {a3 : Int32} {a4 : Int32} {ρ : Int32 × Mem} (E : jEI Γ cX7_add ρ.1 ρ.2) (μ : Mem) (h : f_X7_add a1 a2 a3 a4 μ = some ρ) : jJ Γ 5 0 [(0, .ref 0), (1, .int a1), (2, .int a2), (3, .int a3), (4, .int a4)] [] μ := by
  unfold f_X7_add at h
  refine j_iload_n C dX7_add_0 rfl 1 rfl ?_
  refine j_iconst (v := (nI 0)) C dX7_add_1 rfl (by decide) ?_
  refine j_iconst (v := (nI 2)) C dX7_add_2 rfl (by decide) ?_
  replace h := bd_e h
  obtain ⟨p1_, h2_, h⟩ := h
  refine j_cSI (av := [.int a1, .int (nI 0), .int (nI 2)]) (rest := []) C dX7_add_3 rfl (c_X7_within _ _ _ _ μ p1_ h2_) gsX7_54 ⟨⟨rfl, rfl⟩, Nat.le_of_ble_eq_true rfl, Nat.le_of_ble_eq_true rfl⟩ rfl rfl (Nat.le_of_ble_eq_true rfl) ?_
  refine j_if_eq (tgt := 38) C dX7_add_6 rfl (by decide) (fun c3_ => ?_) (fun c3_ => ?_)
  · replace h := if_t h c3_
    refine j_iconst (v := (-1)) C dX7_add_38 rfl (by decide) ?_
    obtain rfl := Option.some.inj h
    exact j_iret E dX7_add_39
  · replace h := if_f h c3_
    refine j_iload_n C dX7_add_9 rfl 2 rfl ?_
    refine j_iconst (v := (nI 0)) C dX7_add_10 rfl (by decide) ?_
    refine j_bipush (v := (nI 9)) C dX7_add_11 rfl (by decide) ?_
    replace h := bd_e h
    obtain ⟨p4_, h5_, h⟩ := h
    refine j_cSI (av := [.int a2, .int (nI 0), .int (nI 9)]) (rest := []) C dX7_add_13 rfl (c_X7_within _ _ _ _ p1_.2 p4_ h5_) gsX7_54 ⟨⟨rfl, rfl⟩, Nat.le_of_ble_eq_true rfl, Nat.le_of_ble_eq_true rfl⟩ rfl rfl (Nat.le_of_ble_eq_true rfl) ?_
    refine j_if_eq (tgt := 38) C dX7_add_16 rfl (by decide) (fun c6_ => ?_) (fun c6_ => ?_)
    · replace h := if_t h c6_
      refine j_iconst (v := (-1)) C dX7_add_38 rfl (by decide) ?_
      obtain rfl := Option.some.inj h
      exact j_iret E dX7_add_39
    · replace h := if_f h c6_
      refine j_iload_n C dX7_add_19 rfl 3 rfl ?_
      refine j_iconst (v := (nI 0)) C dX7_add_20 rfl (by decide) ?_
      refine j_iconst (v := (nI 2)) C dX7_add_21 rfl (by decide) ?_
      replace h := bd_e h
      obtain ⟨p7_, h8_, h⟩ := h
      refine j_cSI (av := [.int a3, .int (nI 0), .int (nI 2)]) (rest := []) C dX7_add_22 rfl (c_X7_within _ _ _ _ p4_.2 p7_ h8_) gsX7_54 ⟨⟨rfl, rfl⟩, Nat.le_of_ble_eq_true rfl, Nat.le_of_ble_eq_true rfl⟩ rfl rfl (Nat.le_of_ble_eq_true rfl) ?_
      refine j_if_eq (tgt := 38) C dX7_add_25 rfl (by decide) (fun c9_ => ?_) (fun c9_ => ?_)
      · replace h := if_t h c9_
        refine j_iconst (v := (-1)) C dX7_add_38 rfl (by decide) ?_
        obtain rfl := Option.some.inj h
        exact j_iret E dX7_add_39
      · replace h := if_f h c9_
        refine j_iload C dX7_add_28 rfl 4 rfl ?_
        refine j_iconst (v := (nI 0)) C dX7_add_30 rfl (by decide) ?_
        refine j_iconst (v := (nI 2)) C dX7_add_31 rfl (by decide) ?_
        replace h := bd_e h
        obtain ⟨p10_, h11_, h⟩ := h
        refine j_cSI (av := [.int a4, .int (nI 0), .int (nI 2)]) (rest := []) C dX7_add_32 rfl (c_X7_within _ _ _ _ p7_.2 p10_ h11_) gsX7_54 ⟨⟨rfl, rfl⟩, Nat.le_of_ble_eq_true rfl, Nat.le_of_ble_eq_true rfl⟩ rfl rfl (Nat.le_of_ble_eq_true rfl) ?_
        refine j_if_ne (tgt := 40) C dX7_add_35 rfl (by decide) (fun c12_ => ?_) (fun c12_ => ?_)
        · replace h := if_f h c12_
          refine j_aload_n C dX7_add_40 rfl 0 rfl ?_
          refine j_getR (c := 1) C dX7_add_41 rfl lkX7_10 is_0 rfl ?_
          refine j_getR (c := 24) C dX7_add_44 rfl lkX7_42 (isT_0 isT1) rfl ?_
          refine j_getI C dX7_add_47 rfl lkX7_124 (isW_0 (isT_w isT1)) rfl ?_
          refine j_bipush (v := (nI 8)) C dX7_add_50 rfl (by decide) ?_
          refine j_icmp_lt (tgt := 58) C dX7_add_52 rfl (by decide) (fun c13_ => ?_) (fun c13_ => ?_)
          · replace h := if_t h c13_
            refine j_aload_n C dX7_add_58 rfl 0 rfl ?_
            refine j_getR (c := 1) C dX7_add_59 rfl lkX7_10 is_0 rfl ?_
            refine j_getR (c := 24) C dX7_add_62 rfl lkX7_42 (isT_0 isT1) rfl ?_
            refine j_iload_n C dX7_add_65 rfl 1 rfl ?_
            refine j_iload_n C dX7_add_66 rfl 2 rfl ?_
            refine j_iload_n C dX7_add_67 rfl 3 rfl ?_
            refine j_iload C dX7_add_68 rfl 4 rfl ?_
            replace h := bd_e h
            obtain ⟨p14_, h15_, h⟩ := h
            refine j_cVI (av := [.int a1, .int a2, .int a3, .int a4]) (rest := []) C dX7_add_70 rfl (c_X0_append _ _ _ _ (isT_w isT1) p10_.2 p14_ h15_) gvX7_140 ⟨⟨rfl, rfl⟩, Nat.le_of_ble_eq_true rfl, Nat.le_of_ble_eq_true rfl⟩ rfl (isW_0 (isT_w isT1)) rfl rfl (Nat.le_of_ble_eq_true rfl) ?_
            obtain rfl := Option.some.inj h
            exact j_iret E dX7_add_73
          · replace h := if_f h c13_
            refine j_bipush (v := (-3)) C dX7_add_55 rfl (by decide) ?_
            obtain rfl := Option.some.inj h
            exact j_iret E dX7_add_57
        · replace h := if_t h c12_
          refine j_iconst (v := (-1)) C dX7_add_38 rfl (by decide) ?_
          obtain rfl := Option.some.inj h
          exact j_iret E dX7_add_39
set_option maxRecDepth 100000 in
theorem c_X7_add (l : Launch) (D : va_G) (ad : Nat → Nat) (cl : Nat → ClassId) {a1 : Int32} {a2 : Int32} {a3 : Int32} {a4 : Int32} (μ : Mem) (ρ : Int32 × Mem) (h : f_X7_add a1 a2 a3 a4 μ = some ρ) : CI l D ad cl yX7_add wsX7_add rmX7_add [.ref 0, .int a1, .int a2, .int a3, .int a4] μ ρ.1 ρ.2 := c_ofI (cc := cX7_add) (nL := 5) rfl (by decide) (Nat.le_of_ble_eq_true rfl) (fun Γ C E => w_X7_add C E μ h)
theorem gvX7_145 : jm_gv RX7 145 RX5 yX5_append wsX5_append 2 1 := ⟨_, _, gi_V gwt2_163 gwt2_164 gwt2_165 gwt1_6 gwt2_166, rfl, by decide +kernel⟩
/-! X7_type -/
def wsX7_type : List Cond := .code yX7_type cX7_type 2 (some .int) :: G0
def rmX7_type : Room := { frames := 1, cells := 0, slots := 0, locals := 22 }
def f_X7_type (a1 : Int32) (μ : Mem) : Option (Int32 × Mem) := Option.bind (f_X7_within a1 (nI 32) (nI 126) μ) fun p1_ => (if p1_.1 = 0 then some ((-1), p1_.2) else (if (p1_.2.1 93 0) < (nI 160) then Option.bind (f_X5_append a1 p1_.2) fun p5_ => some (p5_.1, p5_.2) else some ((-3), p1_.2)))
set_option maxHeartbeats 4000000 in
set_option maxRecDepth 100000 in
theorem w_X7_type {Γ : jG} (C : jC Γ 2 cX7_type RX7 rmX7_type) {a1 : Int32} {ρ : Int32 × Mem} (E : jEI Γ cX7_type ρ.1 ρ.2) (μ : Mem) (h : f_X7_type a1 μ = some ρ) : jJ Γ 2 0 [(0, .ref 0), (1, .int a1)] [] μ := by
  unfold f_X7_type at h
  refine j_iload_n C dX7_type_0 rfl 1 rfl ?_
  refine j_bipush (v := (nI 32)) C dX7_type_1 rfl (by decide) ?_
  refine j_bipush (v := (nI 126)) C dX7_type_3 rfl (by decide) ?_
  replace h := bd_e h
  obtain ⟨p1_, h2_, h⟩ := h
  refine j_cSI (av := [.int a1, .int (nI 32), .int (nI 126)]) (rest := []) C dX7_type_5 rfl (c_X7_within _ _ _ _ μ p1_ h2_) gsX7_54 ⟨⟨rfl, rfl⟩, Nat.le_of_ble_eq_true rfl, Nat.le_of_ble_eq_true rfl⟩ rfl rfl (Nat.le_of_ble_eq_true rfl) ?_
  refine j_if_ne (tgt := 13) C dX7_type_8 rfl (by decide) (fun c3_ => ?_) (fun c3_ => ?_)
  · replace h := if_f h c3_
    refine j_aload_n C dX7_type_13 rfl 0 rfl ?_
    refine j_getR (c := 93) C dX7_type_14 rfl lkX7_26 is_0 rfl ?_
    refine j_getI C dX7_type_17 rfl lkX7_144 is_93 rfl ?_
    refine j_sipush (v := (nI 160)) C dX7_type_20 rfl (by decide) ?_
    refine j_icmp_lt (tgt := 29) C dX7_type_23 rfl (by decide) (fun c4_ => ?_) (fun c4_ => ?_)
    · replace h := if_t h c4_
      refine j_aload_n C dX7_type_29 rfl 0 rfl ?_
      refine j_getR (c := 93) C dX7_type_30 rfl lkX7_26 is_0 rfl ?_
      refine j_iload_n C dX7_type_33 rfl 1 rfl ?_
      replace h := bd_e h
      obtain ⟨p5_, h6_, h⟩ := h
      refine j_cVI (av := [.int a1]) (rest := []) C dX7_type_34 rfl (c_X5_append _ _ _ _ p1_.2 p5_ h6_) gvX7_145 ⟨⟨rfl, rfl⟩, Nat.le_of_ble_eq_true rfl, Nat.le_of_ble_eq_true rfl⟩ rfl is_93 rfl rfl (Nat.le_of_ble_eq_true rfl) ?_
      obtain rfl := Option.some.inj h
      exact j_iret E dX7_type_37
    · replace h := if_f h c4_
      refine j_bipush (v := (-3)) C dX7_type_26 rfl (by decide) ?_
      obtain rfl := Option.some.inj h
      exact j_iret E dX7_type_28
  · replace h := if_t h c3_
    refine j_iconst (v := (-1)) C dX7_type_11 rfl (by decide) ?_
    obtain rfl := Option.some.inj h
    exact j_iret E dX7_type_12
set_option maxRecDepth 100000 in
theorem c_X7_type (l : Launch) (D : va_G) (ad : Nat → Nat) (cl : Nat → ClassId) {a1 : Int32} (μ : Mem) (ρ : Int32 × Mem) (h : f_X7_type a1 μ = some ρ) : CI l D ad cl yX7_type wsX7_type rmX7_type [.ref 0, .int a1] μ ρ.1 ρ.2 := c_ofI (cc := cX7_type) (nL := 2) rfl (by decide) (Nat.le_of_ble_eq_true rfl) (fun Γ C E => w_X7_type C E μ h)
theorem gvX7_151 : jm_gv RX7 151 RX0 yX0_become wsX0_become 2 1 := ⟨_, _, gi_V gwt3_62 gwt3_63 gwt3_64 gwt1_4 gwt3_65, rfl, by decide +kernel⟩
theorem gvX7_147 : jm_gv RX7 147 RX5 yX5_readLaw wsX5_readLaw 2 0 := ⟨_, _, gi_V gwt2_171 gwt2_172 gwt2_173 gwt1_6 gwt2_174, rfl, by decide +kernel⟩
/-! X7_laws -/
def wsX7_laws : List Cond := .code yX7_laws cX7_laws 2 (some .int) :: G0
def rmX7_laws : Room := { frames := 7, cells := 0, slots := 0, locals := 173 }
def f_X7_laws (μ : Mem) : Option (Int32 × Mem) := Option.bind (f_X5_readLaw μ) fun p1_ => zl (sI p1_.2 93 0 (nI 0)) fun μ3_ => (if p1_.1 < 0 then some (p1_.1, μ3_) else Option.bind (f_X0_become 24 94 μ3_) fun p6_ => some (p1_.1, p6_))
set_option maxHeartbeats 4000000 in
set_option maxRecDepth 100000 in
theorem w_X7_laws {Γ : jG} (C : jC Γ 2 cX7_laws RX7 rmX7_laws) {ρ : Int32 × Mem} (E : jEI Γ cX7_laws ρ.1 ρ.2) (μ : Mem) (h : f_X7_laws μ = some ρ) : jJ Γ 2 0 [(0, .ref 0)] [] μ := by
  unfold f_X7_laws at h
  refine j_aload_n C dX7_laws_0 rfl 0 rfl ?_
  refine j_getR (c := 93) C dX7_laws_1 rfl lkX7_26 is_0 rfl ?_
  replace h := bd_e h
  obtain ⟨p1_, h2_, h⟩ := h
  refine j_cVI (av := []) (rest := []) C dX7_laws_4 rfl (c_X5_readLaw _ _ _ _ μ p1_ h2_) gvX7_147 ⟨⟨rfl, rfl⟩, Nat.le_of_ble_eq_true rfl, Nat.le_of_ble_eq_true rfl⟩ rfl is_93 rfl rfl (Nat.le_of_ble_eq_true rfl) ?_
  refine j_istore_n (lv' := [(1, .int p1_.1), (0, .ref 0)]) C dX7_laws_7 rfl (by decide) rfl ?_
  refine j_aload_n C dX7_laws_8 rfl 1 rfl ?_
  refine j_getR (c := 93) C dX7_laws_9 rfl lkX7_26 is_0 rfl ?_
  refine j_iconst (v := (nI 0)) C dX7_laws_12 rfl (by decide) ?_
  refine j_putI C dX7_laws_13 rfl lpX7_144 is_93 rfl ?_
  refine j_mem (fun μ3_ e4_ => ?_)
  replace h := zl_u h e4_
  refine j_iload_n C dX7_laws_16 rfl 0 rfl ?_
  refine j_if_lt (tgt := 37) C dX7_laws_17 rfl (by decide) (fun c5_ => ?_) (fun c5_ => ?_)
  · replace h := if_t h c5_
    refine j_iload_n C dX7_laws_37 rfl 0 rfl ?_
    obtain rfl := Option.some.inj h
    exact j_iret E dX7_laws_38
  · replace h := if_f h c5_
    refine j_aload_n C dX7_laws_20 rfl 1 rfl ?_
    refine j_getR (c := 1) C dX7_laws_21 rfl lkX7_10 is_0 rfl ?_
    refine j_getR (c := 24) C dX7_laws_24 rfl lkX7_42 (isT_0 isT1) rfl ?_
    refine j_aload_n C dX7_laws_27 rfl 1 rfl ?_
    refine j_getR (c := 93) C dX7_laws_28 rfl lkX7_26 is_0 rfl ?_
    refine j_getR (c := 94) C dX7_laws_31 rfl lkX7_150 is_93 rfl ?_
    replace h := bd_e h
    obtain ⟨p6_, h7_, h⟩ := h
    refine j_cVV (av := [.ref 94]) (rest := []) C dX7_laws_34 rfl (c_X0_become _ _ _ _ (isT_w isT1) isW94 μ3_ p6_ h7_) gvX7_151 ⟨⟨rfl, rfl⟩, Nat.le_of_ble_eq_true rfl, Nat.le_of_ble_eq_true rfl⟩ rfl (isW_0 (isT_w isT1)) rfl rfl (Nat.le_of_ble_eq_true rfl) ?_
    refine j_iload_n C dX7_laws_37 rfl 0 rfl ?_
    obtain rfl := Option.some.inj h
    exact j_iret E dX7_laws_38
set_option maxRecDepth 100000 in
theorem c_X7_laws (l : Launch) (D : va_G) (ad : Nat → Nat) (cl : Nat → ClassId) (μ : Mem) (ρ : Int32 × Mem) (h : f_X7_laws μ = some ρ) : CI l D ad cl yX7_laws wsX7_laws rmX7_laws [.ref 0] μ ρ.1 ρ.2 := c_ofI (cc := cX7_laws) (nL := 2) rfl (by decide) (Nat.le_of_ble_eq_true rfl) (fun Γ C E => w_X7_laws C E μ h)
theorem gvX7_158 : jm_gv RX7 158 RX2 yX2_beginAnew wsX2_beginAnew 1 0 := ⟨_, _, gi_V gwt3_94 gwt3_95 gwt3_96 gwt1_3 gwt3_97, rfl, by decide +kernel⟩
theorem gvX7_155 : jm_gv RX7 155 RX5 yX5_readRocks wsX5_readRocks 3 0 := ⟨_, _, gi_V gwt3_76 gwt3_77 gwt3_78 gwt1_6 gwt3_79, rfl, by decide +kernel⟩
/-! X7_rocks -/
def wsX7_rocks : List Cond := .code yX7_rocks cX7_rocks 4 (some .int) :: G0
def rmX7_rocks : Room := { frames := 7, cells := 0, slots := 0, locals := 171 }
def f_X7_rocks_32 : Nat → Int32 → Int32 → Mem → Option (Int32 × Mem)
  | 0, _, _, _ => none
  | n + 1, x1, x2, μ => (if x1 ≤ x2 then some (x1, μ) else gd (inb x2 9) <| Option.bind (f_X2_letIn 2 (μ.1 99 (Int32.toNatClampNeg x2)) (μ.1 100 (Int32.toNatClampNeg x2)) μ) fun p3_ => gd (inb p3_.1 9) <| zl (sI p3_.2 6 (Int32.toNatClampNeg p3_.1) (p3_.2.1 101 (Int32.toNatClampNeg x2))) fun μ6_ => zl (sI μ6_ 7 (Int32.toNatClampNeg p3_.1) (μ6_.1 102 (Int32.toNatClampNeg x2))) fun μ8_ => f_X7_rocks_32 n x1 (x2 + (nI 1)) μ8_)
set_option maxHeartbeats 4000000 in
set_option maxRecDepth 100000 in
theorem w_X7_rocks_32 {Γ : jG} (C : jC Γ 4 cX7_rocks RX7 rmX7_rocks) {ρ : Int32 × Mem} (E : jEI Γ cX7_rocks ρ.1 ρ.2) : ∀ (n : Nat) (x1 : Int32) (x2 : Int32) (μ : Mem), f_X7_rocks_32 n x1 x2 μ = some ρ → jJ Γ 4 32 [(0, .ref 0), (1, .int x1), (2, .int x2)] [] μ := by
  intro n
  induction n with
  | zero => intro x1 x2 μ h; rw [f_X7_rocks_32] at h; cases h
  | succ n ih =>
    intro x1 x2 μ h
    rw [f_X7_rocks_32] at h
    refine j_iload_n C dX7_rocks_32 rfl 2 rfl ?_
    refine j_iload_n C dX7_rocks_33 rfl 1 rfl ?_
    refine j_icmp_ge (tgt := 114) C dX7_rocks_34 rfl (by decide) (fun c1_ => ?_) (fun c1_ => ?_)
    · replace h := if_t h c1_
      refine j_iload_n C dX7_rocks_114 rfl 1 rfl ?_
      obtain rfl := Option.some.inj h
      exact j_iret E dX7_rocks_115
    · replace h := if_f h c1_
      refine j_aload_n C dX7_rocks_37 rfl 0 rfl ?_
      refine j_getR (c := 1) C dX7_rocks_38 rfl lkX7_10 is_0 rfl ?_
      refine j_getR (c := 2) C dX7_rocks_41 rfl lkX7_38 (isT_0 isT1) rfl ?_
      refine j_aload_n C dX7_rocks_44 rfl 0 rfl ?_
      refine j_getR (c := 93) C dX7_rocks_45 rfl lkX7_26 is_0 rfl ?_
      refine j_getR (c := 99) C dX7_rocks_48 rfl lkX7_161 is_93 rfl ?_
      refine j_iload_n C dX7_rocks_51 rfl 2 rfl ?_
      replace h := gd_e h
      obtain ⟨g2_, h⟩ := h
      refine j_iald C dX7_rocks_52 rfl is_99 g2_ ?_
      refine j_aload_n C dX7_rocks_53 rfl 0 rfl ?_
      refine j_getR (c := 93) C dX7_rocks_54 rfl lkX7_26 is_0 rfl ?_
      refine j_getR (c := 100) C dX7_rocks_57 rfl lkX7_162 is_93 rfl ?_
      refine j_iload_n C dX7_rocks_60 rfl 2 rfl ?_
      refine j_iald C dX7_rocks_61 rfl is_100 g2_ ?_
      replace h := bd_e h
      obtain ⟨p3_, h4_, h⟩ := h
      refine j_cVI (av := [.int (μ.1 99 (Int32.toNatClampNeg x2)), .int (μ.1 100 (Int32.toNatClampNeg x2))]) (rest := []) C dX7_rocks_62 rfl (c_X2_letIn _ _ _ _ (isT_n isT1) μ p3_ h4_) gvX7_64 ⟨⟨rfl, rfl⟩, Nat.le_of_ble_eq_true rfl, Nat.le_of_ble_eq_true rfl⟩ rfl (isN_0 (isT_n isT1)) rfl rfl (Nat.le_of_ble_eq_true rfl) ?_
      refine j_istore_n (lv' := [(3, .int p3_.1), (0, .ref 0), (1, .int x1), (2, .int x2)]) C dX7_rocks_65 rfl (by decide) rfl ?_
      refine j_aload_n C dX7_rocks_66 rfl 1 rfl ?_
      refine j_getR (c := 1) C dX7_rocks_67 rfl lkX7_10 is_0 rfl ?_
      refine j_getR (c := 2) C dX7_rocks_70 rfl lkX7_38 (isT_0 isT1) rfl ?_
      refine j_getR (c := 6) C dX7_rocks_73 rfl lkX7_80 (isN_0 (isT_n isT1)) rfl ?_
      refine j_iload_n C dX7_rocks_76 rfl 0 rfl ?_
      refine j_aload_n C dX7_rocks_77 rfl 1 rfl ?_
      refine j_getR (c := 93) C dX7_rocks_78 rfl lkX7_26 is_0 rfl ?_
      refine j_getR (c := 101) C dX7_rocks_81 rfl lkX7_163 is_93 rfl ?_
      refine j_iload_n C dX7_rocks_84 rfl 3 rfl ?_
      refine j_iald C dX7_rocks_85 rfl is_101 g2_ ?_
      replace h := gd_e h
      obtain ⟨g5_, h⟩ := h
      refine j_iast C dX7_rocks_86 rfl (isN_a4 (isT_n isT1)) g5_ ?_
      refine j_mem (fun μ6_ e7_ => ?_)
      replace h := zl_u h e7_
      refine j_aload_n C dX7_rocks_87 rfl 1 rfl ?_
      refine j_getR (c := 1) C dX7_rocks_88 rfl lkX7_10 is_0 rfl ?_
      refine j_getR (c := 2) C dX7_rocks_91 rfl lkX7_38 (isT_0 isT1) rfl ?_
      refine j_getR (c := 7) C dX7_rocks_94 rfl lkX7_83 (isN_0 (isT_n isT1)) rfl ?_
      refine j_iload_n C dX7_rocks_97 rfl 0 rfl ?_
      refine j_aload_n C dX7_rocks_98 rfl 1 rfl ?_
      refine j_getR (c := 93) C dX7_rocks_99 rfl lkX7_26 is_0 rfl ?_
      refine j_getR (c := 102) C dX7_rocks_102 rfl lkX7_164 is_93 rfl ?_
      refine j_iload_n C dX7_rocks_105 rfl 3 rfl ?_
      refine j_iald C dX7_rocks_106 rfl is_102 g2_ ?_
      refine j_iast C dX7_rocks_107 rfl (isN_a5 (isT_n isT1)) g5_ ?_
      refine j_mem (fun μ8_ e9_ => ?_)
      replace h := zl_u h e9_
      refine j_iinc (d := (nI 1)) (v := x2 + (nI 1)) (lv' := [(2, .int (x2 + (nI 1))), (3, .int p3_.1), (0, .ref 0), (1, .int x1)]) C dX7_rocks_108 rfl (by decide) 3 rfl (by decide) rfl rfl ?_
      refine j_goto (pc' := 32) C dX7_rocks_111 (by decide) ?_
      refine j_lv [2, 3, 0] rfl ?_
      exact (ih) x1 (x2 + (nI 1)) μ8_ h
def f_X7_rocks (μ : Mem) : Option (Int32 × Mem) := Option.bind (f_X5_readRocks μ) fun p1_ => zl (sI p1_.2 93 0 (nI 0)) fun μ3_ => (if p1_.1 < 0 then some (p1_.1, μ3_) else Option.bind (f_X2_beginAnew 2 μ3_) fun p6_ => f_X7_rocks_32 zfu p1_.1 (nI 0) p6_)
set_option maxHeartbeats 4000000 in
set_option maxRecDepth 100000 in
theorem w_X7_rocks {Γ : jG} (C : jC Γ 4 cX7_rocks RX7 rmX7_rocks) {ρ : Int32 × Mem} (E : jEI Γ cX7_rocks ρ.1 ρ.2) (μ : Mem) (h : f_X7_rocks μ = some ρ) : jJ Γ 4 0 [(0, .ref 0)] [] μ := by
  unfold f_X7_rocks at h
  refine j_aload_n C dX7_rocks_0 rfl 0 rfl ?_
  refine j_getR (c := 93) C dX7_rocks_1 rfl lkX7_26 is_0 rfl ?_
  replace h := bd_e h
  obtain ⟨p1_, h2_, h⟩ := h
  refine j_cVI (av := []) (rest := []) C dX7_rocks_4 rfl (c_X5_readRocks _ _ _ _ μ p1_ h2_) gvX7_155 ⟨⟨rfl, rfl⟩, Nat.le_of_ble_eq_true rfl, Nat.le_of_ble_eq_true rfl⟩ rfl is_93 rfl rfl (Nat.le_of_ble_eq_true rfl) ?_
  refine j_istore_n (lv' := [(1, .int p1_.1), (0, .ref 0)]) C dX7_rocks_7 rfl (by decide) rfl ?_
  refine j_aload_n C dX7_rocks_8 rfl 1 rfl ?_
  refine j_getR (c := 93) C dX7_rocks_9 rfl lkX7_26 is_0 rfl ?_
  refine j_iconst (v := (nI 0)) C dX7_rocks_12 rfl (by decide) ?_
  refine j_putI C dX7_rocks_13 rfl lpX7_144 is_93 rfl ?_
  refine j_mem (fun μ3_ e4_ => ?_)
  replace h := zl_u h e4_
  refine j_iload_n C dX7_rocks_16 rfl 0 rfl ?_
  refine j_if_lt (tgt := 114) C dX7_rocks_17 rfl (by decide) (fun c5_ => ?_) (fun c5_ => ?_)
  · replace h := if_t h c5_
    refine j_iload_n C dX7_rocks_114 rfl 0 rfl ?_
    obtain rfl := Option.some.inj h
    exact j_iret E dX7_rocks_115
  · replace h := if_f h c5_
    refine j_aload_n C dX7_rocks_20 rfl 1 rfl ?_
    refine j_getR (c := 1) C dX7_rocks_21 rfl lkX7_10 is_0 rfl ?_
    refine j_getR (c := 2) C dX7_rocks_24 rfl lkX7_38 (isT_0 isT1) rfl ?_
    replace h := bd_e h
    obtain ⟨p6_, h7_, h⟩ := h
    refine j_cVV (av := []) (rest := []) C dX7_rocks_27 rfl (c_X2_beginAnew _ _ _ _ (isT_n isT1) μ3_ p6_ h7_) gvX7_158 ⟨⟨rfl, rfl⟩, Nat.le_of_ble_eq_true rfl, Nat.le_of_ble_eq_true rfl⟩ rfl (isN_0 (isT_n isT1)) rfl rfl (Nat.le_of_ble_eq_true rfl) ?_
    refine j_iconst (v := (nI 0)) C dX7_rocks_30 rfl (by decide) ?_
    refine j_istore_n (lv' := [(2, .int (nI 0)), (1, .int p1_.1), (0, .ref 0)]) C dX7_rocks_31 rfl (by decide) rfl ?_
    refine j_lv [2, 1, 0] rfl ?_
    exact w_X7_rocks_32 C E zfu p1_.1 (nI 0) p6_ h
set_option maxRecDepth 100000 in
theorem c_X7_rocks (l : Launch) (D : va_G) (ad : Nat → Nat) (cl : Nat → ClassId) (μ : Mem) (ρ : Int32 × Mem) (h : f_X7_rocks μ = some ρ) : CI l D ad cl yX7_rocks wsX7_rocks rmX7_rocks [.ref 0] μ ρ.1 ρ.2 := c_ofI (cc := cX7_rocks) (nL := 4) rfl (by decide) (Nat.le_of_ble_eq_true rfl) (fun Γ C E => w_X7_rocks C E μ h)
theorem gvX7_185 : jm_gv RX7 185 RX2 yX2_allWaiting wsX2_allWaiting 3 0 := ⟨_, _, gi_V gwt3_122 gwt3_123 gwt3_124 gwt1_3 gwt3_125, rfl, by decide +kernel⟩
theorem gvX7_178 : jm_gv RX7 178 RX2 yX2_isDone wsX2_isDone 2 1 := ⟨_, _, gi_V gwt3_105 gwt3_106 gwt3_107 gwt1_3 gwt3_108, rfl, by decide +kernel⟩
theorem gvX7_181 : jm_gv RX7 181 RX2 yX2_isUnlike wsX2_isUnlike 2 0 := ⟨_, _, gi_V gwt3_118 gwt3_119 gwt3_120 gwt1_3 gwt3_121, rfl, by decide +kernel⟩
/-! X7_count -/
def wsX7_count : List Cond := .code yX7_count cX7_count 2 (some .int) :: G0
def rmX7_count : Room := { frames := 3, cells := 0, slots := 0, locals := 64 }
def f_X7_count (a1 : Int32) (μ : Mem) : Option (Int32 × Mem) := (if a1 = (nI 0) then some (μ.1 2 0, μ) else if a1 = (nI 1) then some (μ.1 24 0, μ) else if a1 = (nI 2) then some (μ.1 2 1, μ) else if a1 = (nI 3) then some (μ.1 2 2, μ) else if a1 = (nI 4) then some (μ.1 29 0, μ) else if a1 = (nI 5) then Option.bind (f_X2_isDone 2 (nI 0) μ) fun p7_ => Option.bind (f_X7_asNumber p7_.1 p7_.2) fun p9_ => some (p9_.1, p9_.2) else if a1 = (nI 6) then Option.bind (f_X2_isUnlike 2 μ) fun p12_ => Option.bind (f_X7_asNumber p12_.1 p12_.2) fun p14_ => some (p14_.1, p14_.2) else if a1 = (nI 7) then Option.bind (f_X2_allWaiting 2 μ) fun p17_ => some (p17_.1, p17_.2) else some ((-1), μ))
set_option maxHeartbeats 4000000 in
set_option maxRecDepth 100000 in
theorem w_X7_count {Γ : jG} (C : jC Γ 2 cX7_count RX7 rmX7_count) {a1 : Int32} {ρ : Int32 × Mem} (E : jEI Γ cX7_count ρ.1 ρ.2) (μ : Mem) (h : f_X7_count a1 μ = some ρ) : jJ Γ 2 0 [(0, .ref 0), (1, .int a1)] [] μ := by
  unfold f_X7_count at h
  refine j_iload_n C dX7_count_0 rfl 1 rfl ?_
  by_cases c1_ : a1 = (nI 0)
  · refine j_tabIn (tgt := 48) C dX7_count_1 (by rw [c1_]; decide) (by rw [c1_]; decide) (by rw [c1_]; try rfl) (by decide) ?_
    replace h := if_t h c1_
    refine j_aload_n C dX7_count_48 rfl 0 rfl ?_
    refine j_getR (c := 1) C dX7_count_49 rfl lkX7_10 is_0 rfl ?_
    refine j_getR (c := 2) C dX7_count_52 rfl lkX7_38 (isT_0 isT1) rfl ?_
    refine j_getI C dX7_count_55 rfl lkX7_58 (isN_0 (isT_n isT1)) rfl ?_
    obtain rfl := Option.some.inj h
    exact j_iret E dX7_count_58
  replace h := if_f h c1_
  by_cases c2_ : a1 = (nI 1)
  · refine j_tabIn (tgt := 59) C dX7_count_1 (by rw [c2_]; decide) (by rw [c2_]; decide) (by rw [c2_]; try rfl) (by decide) ?_
    replace h := if_t h c2_
    refine j_aload_n C dX7_count_59 rfl 0 rfl ?_
    refine j_getR (c := 1) C dX7_count_60 rfl lkX7_10 is_0 rfl ?_
    refine j_getR (c := 24) C dX7_count_63 rfl lkX7_42 (isT_0 isT1) rfl ?_
    refine j_getI C dX7_count_66 rfl lkX7_124 (isW_0 (isT_w isT1)) rfl ?_
    obtain rfl := Option.some.inj h
    exact j_iret E dX7_count_69
  replace h := if_f h c2_
  by_cases c3_ : a1 = (nI 2)
  · refine j_tabIn (tgt := 70) C dX7_count_1 (by rw [c3_]; decide) (by rw [c3_]; decide) (by rw [c3_]; try rfl) (by decide) ?_
    replace h := if_t h c3_
    refine j_aload_n C dX7_count_70 rfl 0 rfl ?_
    refine j_getR (c := 1) C dX7_count_71 rfl lkX7_10 is_0 rfl ?_
    refine j_getR (c := 2) C dX7_count_74 rfl lkX7_38 (isT_0 isT1) rfl ?_
    refine j_getI C dX7_count_77 rfl lkX7_165 (isN_0 (isT_n isT1)) rfl ?_
    obtain rfl := Option.some.inj h
    exact j_iret E dX7_count_80
  replace h := if_f h c3_
  by_cases c4_ : a1 = (nI 3)
  · refine j_tabIn (tgt := 81) C dX7_count_1 (by rw [c4_]; decide) (by rw [c4_]; decide) (by rw [c4_]; try rfl) (by decide) ?_
    replace h := if_t h c4_
    refine j_aload_n C dX7_count_81 rfl 0 rfl ?_
    refine j_getR (c := 1) C dX7_count_82 rfl lkX7_10 is_0 rfl ?_
    refine j_getR (c := 2) C dX7_count_85 rfl lkX7_38 (isT_0 isT1) rfl ?_
    refine j_getI C dX7_count_88 rfl lkX7_168 (isN_0 (isT_n isT1)) rfl ?_
    obtain rfl := Option.some.inj h
    exact j_iret E dX7_count_91
  replace h := if_f h c4_
  by_cases c5_ : a1 = (nI 4)
  · refine j_tabIn (tgt := 92) C dX7_count_1 (by rw [c5_]; decide) (by rw [c5_]; decide) (by rw [c5_]; try rfl) (by decide) ?_
    replace h := if_t h c5_
    refine j_aload_n C dX7_count_92 rfl 0 rfl ?_
    refine j_getR (c := 1) C dX7_count_93 rfl lkX7_10 is_0 rfl ?_
    refine j_getR (c := 29) C dX7_count_96 rfl lkX7_171 (isT_0 isT1) rfl ?_
    refine j_getI C dX7_count_99 rfl lkX7_175 (isG_0 (isT_g isT1)) rfl ?_
    obtain rfl := Option.some.inj h
    exact j_iret E dX7_count_102
  replace h := if_f h c5_
  by_cases c6_ : a1 = (nI 5)
  · refine j_tabIn (tgt := 103) C dX7_count_1 (by rw [c6_]; decide) (by rw [c6_]; decide) (by rw [c6_]; try rfl) (by decide) ?_
    replace h := if_t h c6_
    refine j_aload_n C dX7_count_103 rfl 0 rfl ?_
    refine j_getR (c := 1) C dX7_count_104 rfl lkX7_10 is_0 rfl ?_
    refine j_getR (c := 2) C dX7_count_107 rfl lkX7_38 (isT_0 isT1) rfl ?_
    refine j_iconst (v := (nI 0)) C dX7_count_110 rfl (by decide) ?_
    replace h := bd_e h
    obtain ⟨p7_, h8_, h⟩ := h
    refine j_cVI (av := [.int (nI 0)]) (rest := []) C dX7_count_111 rfl (c_X2_isDone _ _ _ _ (isT_n isT1) μ p7_ h8_) gvX7_178 ⟨⟨rfl, rfl⟩, Nat.le_of_ble_eq_true rfl, Nat.le_of_ble_eq_true rfl⟩ rfl (isN_0 (isT_n isT1)) rfl rfl (Nat.le_of_ble_eq_true rfl) ?_
    replace h := bd_e h
    obtain ⟨p9_, h10_, h⟩ := h
    refine j_cSI (av := [.int p7_.1]) (rest := []) C dX7_count_114 rfl (c_X7_asNumber _ _ _ _ p7_.2 p9_ h10_) gsX7_89 ⟨⟨rfl, rfl⟩, Nat.le_of_ble_eq_true rfl, Nat.le_of_ble_eq_true rfl⟩ rfl rfl (Nat.le_of_ble_eq_true rfl) ?_
    obtain rfl := Option.some.inj h
    exact j_iret E dX7_count_117
  replace h := if_f h c6_
  by_cases c11_ : a1 = (nI 6)
  · refine j_tabIn (tgt := 118) C dX7_count_1 (by rw [c11_]; decide) (by rw [c11_]; decide) (by rw [c11_]; try rfl) (by decide) ?_
    replace h := if_t h c11_
    refine j_aload_n C dX7_count_118 rfl 0 rfl ?_
    refine j_getR (c := 1) C dX7_count_119 rfl lkX7_10 is_0 rfl ?_
    refine j_getR (c := 2) C dX7_count_122 rfl lkX7_38 (isT_0 isT1) rfl ?_
    replace h := bd_e h
    obtain ⟨p12_, h13_, h⟩ := h
    refine j_cVI (av := []) (rest := []) C dX7_count_125 rfl (c_X2_isUnlike _ _ _ _ (isT_n isT1) μ p12_ h13_) gvX7_181 ⟨⟨rfl, rfl⟩, Nat.le_of_ble_eq_true rfl, Nat.le_of_ble_eq_true rfl⟩ rfl (isN_0 (isT_n isT1)) rfl rfl (Nat.le_of_ble_eq_true rfl) ?_
    replace h := bd_e h
    obtain ⟨p14_, h15_, h⟩ := h
    refine j_cSI (av := [.int p12_.1]) (rest := []) C dX7_count_128 rfl (c_X7_asNumber _ _ _ _ p12_.2 p14_ h15_) gsX7_89 ⟨⟨rfl, rfl⟩, Nat.le_of_ble_eq_true rfl, Nat.le_of_ble_eq_true rfl⟩ rfl rfl (Nat.le_of_ble_eq_true rfl) ?_
    obtain rfl := Option.some.inj h
    exact j_iret E dX7_count_131
  replace h := if_f h c11_
  by_cases c16_ : a1 = (nI 7)
  · refine j_tabIn (tgt := 132) C dX7_count_1 (by rw [c16_]; decide) (by rw [c16_]; decide) (by rw [c16_]; try rfl) (by decide) ?_
    replace h := if_t h c16_
    refine j_aload_n C dX7_count_132 rfl 0 rfl ?_
    refine j_getR (c := 1) C dX7_count_133 rfl lkX7_10 is_0 rfl ?_
    refine j_getR (c := 2) C dX7_count_136 rfl lkX7_38 (isT_0 isT1) rfl ?_
    replace h := bd_e h
    obtain ⟨p17_, h18_, h⟩ := h
    refine j_cVI (av := []) (rest := []) C dX7_count_139 rfl (c_X2_allWaiting _ _ _ _ (isT_n isT1) μ p17_ h18_) gvX7_185 ⟨⟨rfl, rfl⟩, Nat.le_of_ble_eq_true rfl, Nat.le_of_ble_eq_true rfl⟩ rfl (isN_0 (isT_n isT1)) rfl rfl (Nat.le_of_ble_eq_true rfl) ?_
    obtain rfl := Option.some.inj h
    exact j_iret E dX7_count_142
  replace h := if_f h c16_
  have nc1_ := i32_ne (z := 0) c1_ (by decide)
  have nc2_ := i32_ne (z := 1) c2_ (by decide)
  have nc3_ := i32_ne (z := 2) c3_ (by decide)
  have nc4_ := i32_ne (z := 3) c4_ (by decide)
  have nc5_ := i32_ne (z := 4) c5_ (by decide)
  have nc6_ := i32_ne (z := 5) c6_ (by decide)
  have nc11_ := i32_ne (z := 6) c11_ (by decide)
  have nc16_ := i32_ne (z := 7) c16_ (by decide)
  refine j_tabOut (tgt := 143) C dX7_count_1 (by omega) (by decide) ?_
  refine j_iconst (v := (-1)) C dX7_count_143 rfl (by decide) ?_
  obtain rfl := Option.some.inj h
  exact j_iret E dX7_count_144
set_option maxRecDepth 100000 in
theorem c_X7_count (l : Launch) (D : va_G) (ad : Nat → Nat) (cl : Nat → ClassId) {a1 : Int32} (μ : Mem) (ρ : Int32 × Mem) (h : f_X7_count a1 μ = some ρ) : CI l D ad cl yX7_count wsX7_count rmX7_count [.ref 0, .int a1] μ ρ.1 ρ.2 := c_ofI (cc := cX7_count) (nL := 2) rfl (by decide) (Nat.le_of_ble_eq_true rfl) (fun Γ C E => w_X7_count C E μ h)
