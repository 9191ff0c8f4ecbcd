/-! X5_append -/
def wsX5_append : List Cond := .code yX5_append cX5_append 2 (some .int) :: G0
def rmX5_append : Room := { frames := 0, cells := 0, slots := 0, locals := 0 }
def f_X5_append (a1 : Int32) (μ : Mem) : Option (Int32 × Mem) := gd (inb (μ.1 93 0) 160) <| zl (sI μ 103 (Int32.toNatClampNeg (μ.1 93 0)) (vp_nar .char (((Int32.toUInt32 a1) % 65536).toInt32))) fun μ2_ => zl (sI μ2_ 93 0 ((μ2_.1 93 0) + (nI 1))) fun μ4_ => some (μ4_.1 93 0, μ4_)
set_option maxHeartbeats 4000000 in
set_option maxRecDepth 100000 in
theorem w_X5_append {Γ : jG} (C : jC Γ 2 cX5_append RX5 rmX5_append) {a1 : Int32} {ρ : Int32 × Mem} (E : jEI Γ cX5_append ρ.1 ρ.2) (μ : Mem) (h : f_X5_append a1 μ = some ρ) : jJ Γ 2 0 [(0, .ref 93), (1, .int a1)] [] μ := by
  unfold f_X5_append at h
  refine j_aload_n C dX5_append_0 rfl 0 rfl ?_
  refine j_getR (c := 103) C dX5_append_1 rfl lkX5_35 is_93 rfl ?_
  refine j_aload_n C dX5_append_4 rfl 0 rfl ?_
  refine j_getI C dX5_append_5 rfl lkX5_9 is_93 rfl ?_
  refine j_iload_n C dX5_append_8 rfl 1 rfl ?_
  refine j_i2c C dX5_append_9 rfl ?_
  replace h := gd_e h
  obtain ⟨g1_, h⟩ := h
  refine j_cast C dX5_append_10 rfl is_103 g1_ ?_
  refine j_mem (fun μ2_ e3_ => ?_)
  replace h := zl_u h e3_
  refine j_aload_n C dX5_append_11 rfl 0 rfl ?_
  refine j_dup C dX5_append_12 rfl rfl ?_
  refine j_getI C dX5_append_13 rfl lkX5_9 is_93 rfl ?_
  refine j_iconst (v := (nI 1)) C dX5_append_16 rfl (by decide) ?_
  refine j_iadd C dX5_append_17 rfl ?_
  refine j_putI C dX5_append_18 rfl lpX5_9 is_93 rfl ?_
  refine j_mem (fun μ4_ e5_ => ?_)
  replace h := zl_u h e5_
  refine j_aload_n C dX5_append_21 rfl 0 rfl ?_
  refine j_getI C dX5_append_22 rfl lkX5_9 is_93 rfl ?_
  obtain rfl := Option.some.inj h
  exact j_iret E dX5_append_25
set_option maxRecDepth 100000 in
theorem c_X5_append (l : Launch) (D : va_G) (ad : Nat → Nat) (cl : Nat → ClassId) {a1 : Int32} (μ : Mem) (ρ : Int32 × Mem) (h : f_X5_append a1 μ = some ρ) : CI l D ad cl yX5_append wsX5_append rmX5_append [.ref 93, .int a1] μ ρ.1 ρ.2 := c_ofI (cc := cX5_append) (nL := 2) rfl (by decide) (Nat.le_of_ble_eq_true rfl) (fun Γ C E => w_X5_append C E μ h)
/-! X5_isAtEnd -/
def wsX5_isAtEnd : List Cond := .code yX5_isAtEnd cX5_isAtEnd 1 (some .boolean) :: G0
def rmX5_isAtEnd : Room := { frames := 0, cells := 0, slots := 0, locals := 0 }
def f_X5_isAtEnd_38 (μ : Mem) : Option (Int32 × Mem) := (if (μ.1 93 7) < (μ.1 93 0) then some ((nI 0), μ) else some ((nI 1), μ))
set_option maxHeartbeats 4000000 in
set_option maxRecDepth 100000 in
theorem w_X5_isAtEnd_38 {Γ : jG} (C : jC Γ 1 cX5_isAtEnd RX5 rmX5_isAtEnd) {ρ : Int32 × Mem} (E : (isB ρ.1 = true → jEI Γ cX5_isAtEnd ρ.1 ρ.2)) (μ : Mem) (h : f_X5_isAtEnd_38 μ = some ρ) : jJ Γ 1 38 [(0, .ref 93)] [] μ := by
  unfold f_X5_isAtEnd_38 at h
  refine j_aload_n C dX5_isAtEnd_38 rfl 0 rfl ?_
  refine j_getI C dX5_isAtEnd_39 rfl lkX5_39 is_93 rfl ?_
  refine j_aload_n C dX5_isAtEnd_42 rfl 0 rfl ?_
  refine j_getI C dX5_isAtEnd_43 rfl lkX5_9 is_93 rfl ?_
  refine j_icmp_lt (tgt := 53) C dX5_isAtEnd_46 rfl (by decide) (fun c1_ => ?_) (fun c1_ => ?_)
  · replace h := if_t h c1_
    refine j_iconst (v := (nI 0)) C dX5_isAtEnd_53 rfl (by decide) ?_
    obtain rfl := Option.some.inj h
    exact j_iret (E isB_0) dX5_isAtEnd_54
  · replace h := if_f h c1_
    refine j_iconst (v := (nI 1)) C dX5_isAtEnd_49 rfl (by decide) ?_
    refine j_goto (pc' := 54) C dX5_isAtEnd_50 (by decide) ?_
    obtain rfl := Option.some.inj h
    exact j_iret (E isB_1) dX5_isAtEnd_54
def f_X5_isAtEnd_0 (kx38 : Mem → Option (Int32 × Mem)) : Nat → Mem → Option (Int32 × Mem)
  | 0, _ => none
  | n + 1, μ => (if (μ.1 93 0) ≤ (μ.1 93 7) then kx38 μ else gd (inb (μ.1 93 7) 160) <| (if (μ.1 103 (Int32.toNatClampNeg (μ.1 93 7))) = (nI 32) then zl (sI μ 93 7 ((μ.1 93 7) + (nI 1))) fun μ4_ => f_X5_isAtEnd_0 kx38 n μ4_ else kx38 μ))
set_option maxHeartbeats 4000000 in
set_option maxRecDepth 100000 in
theorem w_X5_isAtEnd_0 {Γ : jG} (C : jC Γ 1 cX5_isAtEnd RX5 rmX5_isAtEnd) {kx38 : Mem → Option (Int32 × Mem)} {ρ : Int32 × Mem} (E : (isB ρ.1 = true → jEI Γ cX5_isAtEnd ρ.1 ρ.2)) (Hkx38 : ∀ (μ : Mem), kx38 μ = some ρ → jJ Γ 1 38 [(0, .ref 93)] [] μ) : ∀ (n : Nat) (μ : Mem), f_X5_isAtEnd_0 kx38 n μ = some ρ → jJ Γ 1 0 [(0, .ref 93)] [] μ := by
  intro n
  induction n with
  | zero => intro  μ h; rw [f_X5_isAtEnd_0] at h; cases h
  | succ n ih =>
    intro  μ h
    rw [f_X5_isAtEnd_0] at h
    refine j_aload_n C dX5_isAtEnd_0 rfl 0 rfl ?_
    refine j_getI C dX5_isAtEnd_1 rfl lkX5_39 is_93 rfl ?_
    refine j_aload_n C dX5_isAtEnd_4 rfl 0 rfl ?_
    refine j_getI C dX5_isAtEnd_5 rfl lkX5_9 is_93 rfl ?_
    refine j_icmp_ge (tgt := 38) C dX5_isAtEnd_8 rfl (by decide) (fun c1_ => ?_) (fun c1_ => ?_)
    · replace h := if_t h c1_
      refine j_lv [0] rfl ?_
      exact (Hkx38) μ h
    · replace h := if_f h c1_
      refine j_aload_n C dX5_isAtEnd_11 rfl 0 rfl ?_
      refine j_getR (c := 103) C dX5_isAtEnd_12 rfl lkX5_35 is_93 rfl ?_
      refine j_aload_n C dX5_isAtEnd_15 rfl 0 rfl ?_
      refine j_getI C dX5_isAtEnd_16 rfl lkX5_39 is_93 rfl ?_
      replace h := gd_e h
      obtain ⟨g2_, h⟩ := h
      refine j_cald C dX5_isAtEnd_19 rfl is_103 g2_ ?_
      refine j_bipush (v := (nI 32)) C dX5_isAtEnd_20 rfl (by decide) ?_
      refine j_icmp_ne (tgt := 38) C dX5_isAtEnd_22 rfl (by decide) (fun c3_ => ?_) (fun c3_ => ?_)
      · replace h := if_f h c3_
        refine j_lv [0] rfl ?_
        exact (Hkx38) μ h
      · replace h := if_t h c3_
        refine j_aload_n C dX5_isAtEnd_25 rfl 0 rfl ?_
        refine j_dup C dX5_isAtEnd_26 rfl rfl ?_
        refine j_getI C dX5_isAtEnd_27 rfl lkX5_39 is_93 rfl ?_
        refine j_iconst (v := (nI 1)) C dX5_isAtEnd_30 rfl (by decide) ?_
        refine j_iadd C dX5_isAtEnd_31 rfl ?_
        refine j_putI C dX5_isAtEnd_32 rfl lpX5_39 is_93 rfl ?_
        refine j_mem (fun μ4_ e5_ => ?_)
        replace h := zl_u h e5_
        refine j_goto (pc' := 0) C dX5_isAtEnd_35 (by decide) ?_
        refine j_lv [0] rfl ?_
        exact (ih) μ4_ h
def f_X5_isAtEnd (μ : Mem) : Option (Int32 × Mem) := f_X5_isAtEnd_0 (fun μ => f_X5_isAtEnd_38 μ) zfu μ
set_option maxHeartbeats 4000000 in
set_option maxRecDepth 100000 in
theorem w_X5_isAtEnd {Γ : jG} (C : jC Γ 1 cX5_isAtEnd RX5 rmX5_isAtEnd) {ρ : Int32 × Mem} (E : (isB ρ.1 = true → jEI Γ cX5_isAtEnd ρ.1 ρ.2)) (μ : Mem) (h : f_X5_isAtEnd μ = some ρ) : jJ Γ 1 0 [(0, .ref 93)] [] μ := by
  unfold f_X5_isAtEnd at h
  refine j_lv [0] rfl ?_
  exact w_X5_isAtEnd_0 C E (fun μ h => w_X5_isAtEnd_38 C E μ h) zfu μ h
set_option maxRecDepth 100000 in
theorem c_X5_isAtEnd (l : Launch) (D : va_G) (ad : Nat → Nat) (cl : Nat → ClassId) (μ : Mem) (ρ : Int32 × Mem) (h : f_X5_isAtEnd μ = some ρ) : CI l D ad cl yX5_isAtEnd wsX5_isAtEnd rmX5_isAtEnd [.ref 93] μ ρ.1 ρ.2 := c_ofZ (cc := cX5_isAtEnd) (nL := 1) rfl (by decide) (Nat.le_of_ble_eq_true rfl) (fun Γ C E => w_X5_isAtEnd C E μ h)
/-! X5_refuse -/
def wsX5_refuse : List Cond := .code yX5_refuse cX5_refuse 2 none :: G0
def rmX5_refuse : Room := { frames := 0, cells := 0, slots := 0, locals := 0 }
def f_X5_refuse (a1 : Int32) (μ : Mem) : Option (Mem) := (if 0 ≤ (μ.1 93 8) then some μ else zl (sI μ 93 8 a1) fun μ2_ => some μ2_)
set_option maxHeartbeats 4000000 in
set_option maxRecDepth 100000 in
theorem w_X5_refuse {Γ : jG} (C : jC Γ 2 cX5_refuse RX5 rmX5_refuse) {a1 : Int32} {ρ : Mem} (E : jEV Γ cX5_refuse ρ) (μ : Mem) (h : f_X5_refuse a1 μ = some ρ) : jJ Γ 2 0 [(0, .ref 93), (1, .int a1)] [] μ := by
  unfold f_X5_refuse at h
  refine j_aload_n C dX5_refuse_0 rfl 0 rfl ?_
  refine j_getI C dX5_refuse_1 rfl lkX5_42 is_93 rfl ?_
  refine j_if_ge (tgt := 12) C dX5_refuse_4 rfl (by decide) (fun c1_ => ?_) (fun c1_ => ?_)
  · replace h := if_t h c1_
    obtain rfl := Option.some.inj h
    exact j_vret E dX5_refuse_12
  · replace h := if_f h c1_
    refine j_aload_n C dX5_refuse_7 rfl 0 rfl ?_
    refine j_iload_n C dX5_refuse_8 rfl 1 rfl ?_
    refine j_putI C dX5_refuse_9 rfl lpX5_42 is_93 rfl ?_
    refine j_mem (fun μ2_ e3_ => ?_)
    replace h := zl_u h e3_
    obtain rfl := Option.some.inj h
    exact j_vret E dX5_refuse_12
set_option maxRecDepth 100000 in
theorem c_X5_refuse (l : Launch) (D : va_G) (ad : Nat → Nat) (cl : Nat → ClassId) {a1 : Int32} (μ : Mem) (ρ : Mem) (h : f_X5_refuse a1 μ = some ρ) : CV l D ad cl yX5_refuse wsX5_refuse rmX5_refuse [.ref 93, .int a1] μ ρ := c_ofV (cc := cX5_refuse) (nL := 2) rfl (by decide) (Nat.le_of_ble_eq_true rfl) (fun Γ C E => w_X5_refuse C E μ h)
theorem gvX5_49 : jm_gv RX5 49 RX5 yX5_isAtEnd wsX5_isAtEnd 1 0 := ⟨_, _, gi_V gwt2_179 gwt2_181 gwp1_3 gwt1_6 gwt2_182, rfl, by decide +kernel⟩
theorem gvX5_98 : jm_gv RX5 98 RX5 yX5_refuse wsX5_refuse 2 1 := ⟨_, _, gi_V gwt3_38 gwt3_40 gwp1_6 gwt1_6 gwt3_41, rfl, by decide +kernel⟩
/-! X5_answer -/
def wsX5_answer : List Cond := .code yX5_answer cX5_answer 2 (some .int) :: G0
def rmX5_answer : Room := { frames := 1, cells := 0, slots := 0, locals := 21 }
def f_X5_answer_15 (a1 : Int32) (μ : Mem) : Option (Int32 × Mem) := (if 0 ≤ (μ.1 93 8) then some ((-20) - (μ.1 93 8), μ) else some (a1, μ))
set_option maxHeartbeats 4000000 in
set_option maxRecDepth 100000 in
theorem w_X5_answer_15 {Γ : jG} (C : jC Γ 2 cX5_answer RX5 rmX5_answer) {a1 : Int32} {ρ : Int32 × Mem} (E : jEI Γ cX5_answer ρ.1 ρ.2) (μ : Mem) (h : f_X5_answer_15 a1 μ = some ρ) : jJ Γ 2 15 [(0, .ref 93), (1, .int a1)] [] μ := by
  unfold f_X5_answer_15 at h
  refine j_aload_n C dX5_answer_15 rfl 0 rfl ?_
  refine j_getI C dX5_answer_16 rfl lkX5_42 is_93 rfl ?_
  refine j_if_ge (tgt := 26) C dX5_answer_19 rfl (by decide) (fun c1_ => ?_) (fun c1_ => ?_)
  · replace h := if_t h c1_
    refine j_bipush (v := (-20)) C dX5_answer_26 rfl (by decide) ?_
    refine j_aload_n C dX5_answer_28 rfl 0 rfl ?_
    refine j_getI C dX5_answer_29 rfl lkX5_42 is_93 rfl ?_
    refine j_isub C dX5_answer_32 rfl ?_
    obtain rfl := Option.some.inj h
    exact j_iret E dX5_answer_33
  · replace h := if_f h c1_
    refine j_iload_n C dX5_answer_22 rfl 1 rfl ?_
    refine j_goto (pc' := 33) C dX5_answer_23 (by decide) ?_
    obtain rfl := Option.some.inj h
    exact j_iret E dX5_answer_33
def f_X5_answer (a1 : Int32) (μ : Mem) : Option (Int32 × Mem) := Option.bind (f_X5_isAtEnd μ) fun p1_ => (if p1_.1 = 0 then Option.bind (f_X5_refuse (p1_.2.1 93 7) p1_.2) fun p4_ => f_X5_answer_15 a1 p4_ else f_X5_answer_15 a1 p1_.2)
set_option maxHeartbeats 4000000 in
set_option maxRecDepth 100000 in
theorem w_X5_answer {Γ : jG} (C : jC Γ 2 cX5_answer RX5 rmX5_answer) {a1 : Int32} {ρ : Int32 × Mem} (E : jEI Γ cX5_answer ρ.1 ρ.2) (μ : Mem) (h : f_X5_answer a1 μ = some ρ) : jJ Γ 2 0 [(0, .ref 93), (1, .int a1)] [] μ := by
  unfold f_X5_answer at h
  refine j_aload_n C dX5_answer_0 rfl 0 rfl ?_
  replace h := bd_e h
  obtain ⟨p1_, h2_, h⟩ := h
  refine j_cVI (av := []) (rest := []) C dX5_answer_1 rfl (c_X5_isAtEnd _ _ _ _ μ p1_ h2_) gvX5_49 ⟨⟨rfl, rfl⟩, Nat.le_of_ble_eq_true rfl, Nat.le_of_ble_eq_true rfl⟩ rfl is_93 rfl rfl (Nat.le_of_ble_eq_true rfl) ?_
  refine j_if_ne (tgt := 15) C dX5_answer_4 rfl (by decide) (fun c3_ => ?_) (fun c3_ => ?_)
  · replace h := if_f h c3_
    refine j_lv [0, 1] rfl ?_
    exact w_X5_answer_15 C E p1_.2 h
  · replace h := if_t h c3_
    refine j_aload_n C dX5_answer_7 rfl 0 rfl ?_
    refine j_aload_n C dX5_answer_8 rfl 0 rfl ?_
    refine j_getI C dX5_answer_9 rfl lkX5_39 is_93 rfl ?_
    replace h := bd_e h
    obtain ⟨p4_, h5_, h⟩ := h
    refine j_cVV (av := [.int (p1_.2.1 93 7)]) (rest := []) C dX5_answer_12 rfl (c_X5_refuse _ _ _ _ p1_.2 p4_ h5_) gvX5_98 ⟨⟨rfl, rfl⟩, Nat.le_of_ble_eq_true rfl, Nat.le_of_ble_eq_true rfl⟩ rfl is_93 rfl rfl (Nat.le_of_ble_eq_true rfl) ?_
    refine j_lv [0, 1] rfl ?_
    exact w_X5_answer_15 C E p4_ h
set_option maxRecDepth 100000 in
theorem c_X5_answer (l : Launch) (D : va_G) (ad : Nat → Nat) (cl : Nat → ClassId) {a1 : Int32} (μ : Mem) (ρ : Int32 × Mem) (h : f_X5_answer a1 μ = some ρ) : CI l D ad cl yX5_answer wsX5_answer rmX5_answer [.ref 93, .int a1] μ ρ.1 ρ.2 := c_ofI (cc := cX5_answer) (nL := 2) rfl (by decide) (Nat.le_of_ble_eq_true rfl) (fun Γ C E => w_X5_answer C E μ h)
theorem gvX5_101 : jm_gv RX5 101 RJ0 yJ0_indexOf_0f7a4 wsJ0_indexOf_0f7a4 2 1 := ⟨_, _, gi_V gwt2_192 gwt2_193 gwt2_194 gwt1_11 gwt2_195, rfl, by decide +kernel⟩
/-! X5_oneOf -/
def wsX5_oneOf : List Cond := .code yX5_oneOf cX5_oneOf 3 (some .int) :: G0
def rmX5_oneOf : Room := { frames := 4, cells := 0, slots := 0, locals := 106 }
def f_X5_oneOf_31 (s0 : Nat) (t0 : Int32) (μ : Mem) : Option (Int32 × Mem) := (if 0 ≤ t0 then zl (sI μ 93 7 ((μ.1 93 7) + (nI 1))) fun μ2_ => some (t0, μ2_) else Option.bind (f_X5_refuse (μ.1 93 7) μ) fun p4_ => some ((nI 0), p4_))
set_option maxHeartbeats 4000000 in
set_option maxRecDepth 100000 in
theorem w_X5_oneOf_31 {Γ : jG} (C : jC Γ 3 cX5_oneOf RX5 rmX5_oneOf) {s0 : Nat} (hs0 : s0 < 6) {ρ : Int32 × Mem} (E : jEI Γ cX5_oneOf ρ.1 ρ.2) (t0 : Int32) (μ : Mem) (h : f_X5_oneOf_31 s0 t0 μ = some ρ) : jJ Γ 3 31 [(0, .ref 93)] [.int t0] μ := by
  unfold f_X5_oneOf_31 at h
  refine j_istore_n (lv' := [(2, .int t0), (0, .ref 93)]) C dX5_oneOf_31 rfl (by decide) rfl ?_
  refine j_iload_n C dX5_oneOf_32 rfl 0 rfl ?_
  refine j_if_ge (tgt := 46) C dX5_oneOf_33 rfl (by decide) (fun c1_ => ?_) (fun c1_ => ?_)
  · replace h := if_t h c1_
    refine j_aload_n C dX5_oneOf_46 rfl 1 rfl ?_
    refine j_dup C dX5_oneOf_47 rfl rfl ?_
    refine j_getI C dX5_oneOf_48 rfl lkX5_39 is_93 rfl ?_
    refine j_iconst (v := (nI 1)) C dX5_oneOf_51 rfl (by decide) ?_
    refine j_iadd C dX5_oneOf_52 rfl ?_
    refine j_putI C dX5_oneOf_53 rfl lpX5_39 is_93 rfl ?_
    refine j_mem (fun μ2_ e3_ => ?_)
    replace h := zl_u h e3_
    refine j_iload_n C dX5_oneOf_56 rfl 0 rfl ?_
    obtain rfl := Option.some.inj h
    exact j_iret E dX5_oneOf_57
  · replace h := if_f h c1_
    refine j_aload_n C dX5_oneOf_36 rfl 1 rfl ?_
    refine j_aload_n C dX5_oneOf_37 rfl 1 rfl ?_
    refine j_getI C dX5_oneOf_38 rfl lkX5_39 is_93 rfl ?_
    replace h := bd_e h
    obtain ⟨p4_, h5_, h⟩ := h
    refine j_cVV (av := [.int (μ.1 93 7)]) (rest := []) C dX5_oneOf_41 rfl (c_X5_refuse _ _ _ _ μ p4_ h5_) gvX5_98 ⟨⟨rfl, rfl⟩, Nat.le_of_ble_eq_true rfl, Nat.le_of_ble_eq_true rfl⟩ rfl is_93 rfl rfl (Nat.le_of_ble_eq_true rfl) ?_
    refine j_iconst (v := (nI 0)) C dX5_oneOf_44 rfl (by decide) ?_
    obtain rfl := Option.some.inj h
    exact j_iret E dX5_oneOf_45
def f_X5_oneOf_14 (s0 : Nat) (μ : Mem) : Option (Int32 × Mem) := f_X5_oneOf_31 s0 (-1) μ
set_option maxHeartbeats 4000000 in
set_option maxRecDepth 100000 in
theorem w_X5_oneOf_14 {Γ : jG} (C : jC Γ 3 cX5_oneOf RX5 rmX5_oneOf) {s0 : Nat} (hs0 : s0 < 6) {ρ : Int32 × Mem} (E : jEI Γ cX5_oneOf ρ.1 ρ.2) (μ : Mem) (h : f_X5_oneOf_14 s0 μ = some ρ) : jJ Γ 3 14 [(0, .ref 93)] [] μ := by
  unfold f_X5_oneOf_14 at h
  refine j_iconst (v := (-1)) C dX5_oneOf_14 rfl (by decide) ?_
  refine j_goto (pc' := 31) C dX5_oneOf_15 (by decide) ?_
  refine j_lv [0] rfl ?_
  exact w_X5_oneOf_31 C hs0 E (-1) μ h
def f_X5_oneOf (s0 : Nat) (μ : Mem) : Option (Int32 × Mem) := (if 0 ≤ (μ.1 93 8) then f_X5_oneOf_14 s0 μ else Option.bind (f_X5_isAtEnd μ) fun p2_ => (if p2_.1 = 0 then gd (inb (p2_.2.1 93 7) 160) <| Option.bind (f_J0_indexOf_0f7a4 s0 (p2_.2.1 103 (Int32.toNatClampNeg (p2_.2.1 93 7))) p2_.2) fun p6_ => f_X5_oneOf_31 s0 p6_.1 p6_.2 else f_X5_oneOf_14 s0 p2_.2))
set_option maxHeartbeats 4000000 in
set_option maxRecDepth 100000 in
theorem w_X5_oneOf {Γ : jG} (C : jC Γ 3 cX5_oneOf RX5 rmX5_oneOf) {s0 : Nat} (hs0 : s0 < 6) {ρ : Int32 × Mem} (E : jEI Γ cX5_oneOf ρ.1 ρ.2) (μ : Mem) (h : f_X5_oneOf s0 μ = some ρ) : jJ Γ 3 0 [(0, .ref 93), (1, .ref (1000 + s0))] [] μ := by
  unfold f_X5_oneOf at h
  refine j_aload_n C dX5_oneOf_0 rfl 0 rfl ?_
  refine j_getI C dX5_oneOf_1 rfl lkX5_42 is_93 rfl ?_
  refine j_if_ge (tgt := 14) C dX5_oneOf_4 rfl (by decide) (fun c1_ => ?_) (fun c1_ => ?_)
  · replace h := if_t h c1_
    refine j_lv [0] rfl ?_
    exact w_X5_oneOf_14 C hs0 E μ h
  · replace h := if_f h c1_
    refine j_aload_n C dX5_oneOf_7 rfl 0 rfl ?_
    replace h := bd_e h
    obtain ⟨p2_, h3_, h⟩ := h
    refine j_cVI (av := []) (rest := []) C dX5_oneOf_8 rfl (c_X5_isAtEnd _ _ _ _ μ p2_ h3_) gvX5_49 ⟨⟨rfl, rfl⟩, Nat.le_of_ble_eq_true rfl, Nat.le_of_ble_eq_true rfl⟩ rfl is_93 rfl rfl (Nat.le_of_ble_eq_true rfl) ?_
    refine j_if_eq (tgt := 18) C dX5_oneOf_11 rfl (by decide) (fun c4_ => ?_) (fun c4_ => ?_)
    · replace h := if_t h c4_
      refine j_aload_n C dX5_oneOf_18 rfl 1 rfl ?_
      refine j_aload_n C dX5_oneOf_19 rfl 0 rfl ?_
      refine j_getR (c := 103) C dX5_oneOf_20 rfl lkX5_35 is_93 rfl ?_
      refine j_aload_n C dX5_oneOf_23 rfl 0 rfl ?_
      refine j_getI C dX5_oneOf_24 rfl lkX5_39 is_93 rfl ?_
      replace h := gd_e h
      obtain ⟨g5_, h⟩ := h
      refine j_cald C dX5_oneOf_27 rfl is_103 g5_ ?_
      replace h := bd_e h
      obtain ⟨p6_, h7_, h⟩ := h
      refine j_cKI (av := [.int (p2_.2.1 103 (Int32.toNatClampNeg (p2_.2.1 93 7)))]) (rest := []) C dX5_oneOf_28 rfl (c_J0_indexOf_0f7a4 _ _ _ _ hs0 p2_.2 p6_ h7_) gvX5_101 ⟨⟨rfl, rfl⟩, Nat.le_of_ble_eq_true rfl, Nat.le_of_ble_eq_true rfl⟩ rfl hs0 rfl (Nat.le_of_ble_eq_true rfl) ?_
      refine j_lv [0] rfl ?_
      exact w_X5_oneOf_31 C hs0 E p6_.1 p6_.2 h
    · replace h := if_f h c4_
      refine j_lv [0] rfl ?_
      exact w_X5_oneOf_14 C hs0 E p2_.2 h
set_option maxRecDepth 100000 in
theorem c_X5_oneOf (l : Launch) (D : va_G) (ad : Nat → Nat) (cl : Nat → ClassId) {s0 : Nat} (hs0 : s0 < 6) (μ : Mem) (ρ : Int32 × Mem) (h : f_X5_oneOf s0 μ = some ρ) : CI l D ad cl yX5_oneOf wsX5_oneOf rmX5_oneOf [.ref 93, .ref (1000 + s0)] μ ρ.1 ρ.2 := c_ofI (cc := cX5_oneOf) (nL := 3) rfl (by decide) (Nat.le_of_ble_eq_true rfl) (fun Γ C E => w_X5_oneOf C hs0 E μ h)
theorem gvX5_79 : jm_gv RX5 79 RX0 yX0_append wsX0_append 5 4 := ⟨_, _, gi_V gwt3_45 gwt2_156 gwt2_157 gwt1_4 gwt2_158, rfl, by decide +kernel⟩
theorem gvX5_69 : jm_gv RX5 69 RX5 yX5_oneOf wsX5_oneOf 3 1 := ⟨_, _, gi_V gwt2_188 gwt2_190 gwp1_5 gwt1_6 gwt2_191, rfl, by decide +kernel⟩
/-! X5_readRule -/
def wsX5_readRule : List Cond := .code yX5_readRule cX5_readRule 5 none :: G0
def rmX5_readRule : Room := { frames := 5, cells := 0, slots := 0, locals := 128 }
def f_X5_readRule (μ : Mem) : Option (Mem) := Option.bind (f_X5_oneOf 0 μ) fun p1_ => Option.bind (f_X5_oneOf 1 p1_.2) fun p3_ => Option.bind (f_X5_oneOf 2 p3_.2) fun p5_ => Option.bind (f_X5_oneOf 3 p5_.2) fun p7_ => (if 0 ≤ (p7_.2.1 93 8) then some p7_.2 else Option.bind (f_X0_append 94 p1_.1 p3_.1 p5_.1 p7_.1 p7_.2) fun p10_ => some p10_.2)
set_option maxHeartbeats 4000000 in
set_option maxRecDepth 100000 in
theorem w_X5_readRule {Γ : jG} (C : jC Γ 5 cX5_readRule RX5 rmX5_readRule) {ρ : Mem} (E : jEV Γ cX5_readRule ρ) (μ : Mem) (h : f_X5_readRule μ = some ρ) : jJ Γ 5 0 [(0, .ref 93)] [] μ := by
  unfold f_X5_readRule at h
  refine j_aload_n C dX5_readRule_0 rfl 0 rfl ?_
  refine j_ldcS 0 C dX5_readRule_1 rfl (by decide) rfl ?_
  replace h := bd_e h
  obtain ⟨p1_, h2_, h⟩ := h
  refine j_cVI (av := [.ref (1000 + 0)]) (rest := []) C dX5_readRule_3 rfl (c_X5_oneOf _ _ _ _ (by decide) μ p1_ h2_) gvX5_69 ⟨⟨rfl, rfl⟩, Nat.le_of_ble_eq_true rfl, Nat.le_of_ble_eq_true rfl⟩ rfl is_93 rfl rfl (Nat.le_of_ble_eq_true rfl) ?_
  refine j_istore_n (lv' := [(1, .int p1_.1), (0, .ref 93)]) C dX5_readRule_6 rfl (by decide) rfl ?_
  refine j_aload_n C dX5_readRule_7 rfl 1 rfl ?_
  refine j_ldcS 1 C dX5_readRule_8 rfl (by decide) rfl ?_
  replace h := bd_e h
  obtain ⟨p3_, h4_, h⟩ := h
  refine j_cVI (av := [.ref (1000 + 1)]) (rest := []) C dX5_readRule_10 rfl (c_X5_oneOf _ _ _ _ (by decide) p1_.2 p3_ h4_) gvX5_69 ⟨⟨rfl, rfl⟩, Nat.le_of_ble_eq_true rfl, Nat.le_of_ble_eq_true rfl⟩ rfl is_93 rfl rfl (Nat.le_of_ble_eq_true rfl) ?_
  refine j_istore_n (lv' := [(2, .int p3_.1), (1, .int p1_.1), (0, .ref 93)]) C dX5_readRule_13 rfl (by decide) rfl ?_
  refine j_aload_n C dX5_readRule_14 rfl 2 rfl ?_
  refine j_ldcS 2 C dX5_readRule_15 rfl (by decide) rfl ?_
  replace h := bd_e h
  obtain ⟨p5_, h6_, h⟩ := h
  refine j_cVI (av := [.ref (1000 + 2)]) (rest := []) C dX5_readRule_17 rfl (c_X5_oneOf _ _ _ _ (by decide) p3_.2 p5_ h6_) gvX5_69 ⟨⟨rfl, rfl⟩, Nat.le_of_ble_eq_true rfl, Nat.le_of_ble_eq_true rfl⟩ rfl is_93 rfl rfl (Nat.le_of_ble_eq_true rfl) ?_
  refine j_istore_n (lv' := [(3, .int p5_.1), (2, .int p3_.1), (1, .int p1_.1), (0, .ref 93)]) C dX5_readRule_20 rfl (by decide) rfl ?_
  refine j_aload_n C dX5_readRule_21 rfl 3 rfl ?_
  refine j_ldcS 3 C dX5_readRule_22 rfl (by decide) rfl ?_
  replace h := bd_e h
  obtain ⟨p7_, h8_, h⟩ := h
  refine j_cVI (av := [.ref (1000 + 3)]) (rest := []) C dX5_readRule_24 rfl (c_X5_oneOf _ _ _ _ (by decide) p5_.2 p7_ h8_) gvX5_69 ⟨⟨rfl, rfl⟩, Nat.le_of_ble_eq_true rfl, Nat.le_of_ble_eq_true rfl⟩ rfl is_93 rfl rfl (Nat.le_of_ble_eq_true rfl) ?_
  refine j_istore (lv' := [(4, .int p7_.1), (3, .int p5_.1), (2, .int p3_.1), (1, .int p1_.1), (0, .ref 93)]) C dX5_readRule_27 rfl (by decide) rfl ?_
  refine j_aload_n C dX5_readRule_29 rfl 4 rfl ?_
  refine j_getI C dX5_readRule_30 rfl lkX5_42 is_93 rfl ?_
  refine j_if_ge (tgt := 49) C dX5_readRule_33 rfl (by decide) (fun c9_ => ?_) (fun c9_ => ?_)
  · replace h := if_t h c9_
    obtain rfl := Option.some.inj h
    exact j_vret E dX5_readRule_49
  · replace h := if_f h c9_
    refine j_aload_n C dX5_readRule_36 rfl 4 rfl ?_
    refine j_getR (c := 94) C dX5_readRule_37 rfl lkX5_18 is_93 rfl ?_
    refine j_iload_n C dX5_readRule_40 rfl 3 rfl ?_
    refine j_iload_n C dX5_readRule_41 rfl 2 rfl ?_
    refine j_iload_n C dX5_readRule_42 rfl 1 rfl ?_
    refine j_iload C dX5_readRule_43 rfl 0 rfl ?_
    replace h := bd_e h
    obtain ⟨p10_, h11_, h⟩ := h
    refine j_cVI (av := [.int p1_.1, .int p3_.1, .int p5_.1, .int p7_.1]) (rest := []) C dX5_readRule_45 rfl (c_X0_append _ _ _ _ isW94 p7_.2 p10_ h11_) gvX5_79 ⟨⟨rfl, rfl⟩, Nat.le_of_ble_eq_true rfl, Nat.le_of_ble_eq_true rfl⟩ rfl (isW_0 isW94) rfl rfl (Nat.le_of_ble_eq_true rfl) ?_
    refine j_pop C dX5_readRule_48 rfl rfl ?_
    obtain rfl := Option.some.inj h
    exact j_vret E dX5_readRule_49
set_option maxRecDepth 100000 in
theorem c_X5_readRule (l : Launch) (D : va_G) (ad : Nat → Nat) (cl : Nat → ClassId) (μ : Mem) (ρ : Mem) (h : f_X5_readRule μ = some ρ) : CV l D ad cl yX5_readRule wsX5_readRule rmX5_readRule [.ref 93] μ ρ := c_ofV (cc := cX5_readRule) (nL := 5) rfl (by decide) (Nat.le_of_ble_eq_true rfl) (fun Γ C E => w_X5_readRule C E μ h)
/-! X5_begin -/
def wsX5_begin : List Cond := .code yX5_begin cX5_begin 1 none :: G0
def rmX5_begin : Room := { frames := 0, cells := 0, slots := 0, locals := 0 }
def f_X5_begin (μ : Mem) : Option (Mem) := zl (sI μ 93 7 (nI 0)) fun μ1_ => zl (sI μ1_ 93 8 (-1)) fun μ3_ => some μ3_
set_option maxHeartbeats 4000000 in
set_option maxRecDepth 100000 in
theorem w_X5_begin {Γ : jG} (C : jC Γ 1 cX5_begin RX5 rmX5_begin) {ρ : Mem} (E : jEV Γ cX5_begin ρ) (μ : Mem) (h : f_X5_begin μ = some ρ) : jJ Γ 1 0 [(0, .ref 93)] [] μ := by
  unfold f_X5_begin at h
  refine j_aload_n C dX5_begin_0 rfl 0 rfl ?_
  refine j_iconst (v := (nI 0)) C dX5_begin_1 rfl (by decide) ?_
  refine j_putI C dX5_begin_2 rfl lpX5_39 is_93 rfl ?_
  refine j_mem (fun μ1_ e2_ => ?_)
  replace h := zl_u h e2_
  refine j_aload_n C dX5_begin_5 rfl 0 rfl ?_
  refine j_iconst (v := (-1)) C dX5_begin_6 rfl (by decide) ?_
  refine j_putI C dX5_begin_7 rfl lpX5_42 is_93 rfl ?_
  refine j_mem (fun μ3_ e4_ => ?_)
  replace h := zl_u h e4_
  obtain rfl := Option.some.inj h
  exact j_vret E dX5_begin_10
set_option maxRecDepth 100000 in
theorem c_X5_begin (l : Launch) (D : va_G) (ad : Nat → Nat) (cl : Nat → ClassId) (μ : Mem) (ρ : Mem) (h : f_X5_begin μ = some ρ) : CV l D ad cl yX5_begin wsX5_begin rmX5_begin [.ref 93] μ ρ := c_ofV (cc := cX5_begin) (nL := 1) rfl (by decide) (Nat.le_of_ble_eq_true rfl) (fun Γ C E => w_X5_begin C E μ h)
/-! X5_refuseEnd -/
def wsX5_refuseEnd : List Cond := .code yX5_refuseEnd cX5_refuseEnd 1 none :: G0
def rmX5_refuseEnd : Room := { frames := 1, cells := 0, slots := 0, locals := 21 }
def f_X5_refuseEnd (μ : Mem) : Option (Mem) := Option.bind (f_X5_isAtEnd μ) fun p1_ => (if p1_.1 = 0 then some p1_.2 else Option.bind (f_X5_refuse (p1_.2.1 93 0) p1_.2) fun p4_ => some p4_)
set_option maxHeartbeats 4000000 in
set_option maxRecDepth 100000 in
theorem w_X5_refuseEnd {Γ : jG} (C : jC Γ 1 cX5_refuseEnd RX5 rmX5_refuseEnd) {ρ : Mem} (E : jEV Γ cX5_refuseEnd ρ) (μ : Mem) (h : f_X5_refuseEnd μ = some ρ) : jJ Γ 1 0 [(0, .ref 93)] [] μ := by
  unfold f_X5_refuseEnd at h
  refine j_aload_n C dX5_refuseEnd_0 rfl 0 rfl ?_
  replace h := bd_e h
  obtain ⟨p1_, h2_, h⟩ := h
  refine j_cVI (av := []) (rest := []) C dX5_refuseEnd_1 rfl (c_X5_isAtEnd _ _ _ _ μ p1_ h2_) gvX5_49 ⟨⟨rfl, rfl⟩, Nat.le_of_ble_eq_true rfl, Nat.le_of_ble_eq_true rfl⟩ rfl is_93 rfl rfl (Nat.le_of_ble_eq_true rfl) ?_
  refine j_if_eq (tgt := 15) C dX5_refuseEnd_4 rfl (by decide) (fun c3_ => ?_) (fun c3_ => ?_)
  · replace h := if_t h c3_
    obtain rfl := Option.some.inj h
    exact j_vret E dX5_refuseEnd_15
  · replace h := if_f h c3_
    refine j_aload_n C dX5_refuseEnd_7 rfl 0 rfl ?_
    refine j_aload_n C dX5_refuseEnd_8 rfl 0 rfl ?_
    refine j_getI C dX5_refuseEnd_9 rfl lkX5_9 is_93 rfl ?_
    replace h := bd_e h
    obtain ⟨p4_, h5_, h⟩ := h
    refine j_cVV (av := [.int (p1_.2.1 93 0)]) (rest := []) C dX5_refuseEnd_12 rfl (c_X5_refuse _ _ _ _ p1_.2 p4_ h5_) gvX5_98 ⟨⟨rfl, rfl⟩, Nat.le_of_ble_eq_true rfl, Nat.le_of_ble_eq_true rfl⟩ rfl is_93 rfl rfl (Nat.le_of_ble_eq_true rfl) ?_
    obtain rfl := Option.some.inj h
    exact j_vret E dX5_refuseEnd_15
set_option maxRecDepth 100000 in
theorem c_X5_refuseEnd (l : Launch) (D : va_G) (ad : Nat → Nat) (cl : Nat → ClassId) (μ : Mem) (ρ : Mem) (h : f_X5_refuseEnd μ = some ρ) : CV l D ad cl yX5_refuseEnd wsX5_refuseEnd rmX5_refuseEnd [.ref 93] μ ρ := c_ofV (cc := cX5_refuseEnd) (nL := 1) rfl (by decide) (Nat.le_of_ble_eq_true rfl) (fun Γ C E => w_X5_refuseEnd C E μ h)
/-! X5_isNext -/
def wsX5_isNext : List Cond := .code yX5_isNext cX5_isNext 2 (some .boolean) :: G0
def rmX5_isNext : Room := { frames := 1, cells := 0, slots := 0, locals := 20 }
def f_X5_isNext (a1 : Int32) (μ : Mem) : Option (Int32 × Mem) := Option.bind (f_X5_isAtEnd μ) fun p1_ => (if p1_.1 = 0 then gd (inb (p1_.2.1 93 7) 160) <| (if (p1_.2.1 103 (Int32.toNatClampNeg (p1_.2.1 93 7))) = a1 then some ((nI 1), p1_.2) else some ((nI 0), p1_.2)) else some ((nI 0), p1_.2))
set_option maxHeartbeats 4000000 in
set_option maxRecDepth 100000 in
theorem w_X5_isNext {Γ : jG} (C : jC Γ 2 cX5_isNext RX5 rmX5_isNext) {a1 : Int32} {ρ : Int32 × Mem} (E : (isB ρ.1 = true → jEI Γ cX5_isNext ρ.1 ρ.2)) (μ : Mem) (h : f_X5_isNext a1 μ = some ρ) : jJ Γ 2 0 [(0, .ref 93), (1, .int a1)] [] μ := by
  unfold f_X5_isNext at h
  refine j_aload_n C dX5_isNext_0 rfl 0 rfl ?_
  replace h := bd_e h
  obtain ⟨p1_, h2_, h⟩ := h
  refine j_cVI (av := []) (rest := []) C dX5_isNext_1 rfl (c_X5_isAtEnd _ _ _ _ μ p1_ h2_) gvX5_49 ⟨⟨rfl, rfl⟩, Nat.le_of_ble_eq_true rfl, Nat.le_of_ble_eq_true rfl⟩ rfl is_93 rfl rfl (Nat.le_of_ble_eq_true rfl) ?_
  refine j_if_ne (tgt := 24) C dX5_isNext_4 rfl (by decide) (fun c3_ => ?_) (fun c3_ => ?_)
  · replace h := if_f h c3_
    refine j_iconst (v := (nI 0)) C dX5_isNext_24 rfl (by decide) ?_
    obtain rfl := Option.some.inj h
    exact j_iret (E isB_0) dX5_isNext_25
  · replace h := if_t h c3_
    refine j_aload_n C dX5_isNext_7 rfl 0 rfl ?_
    refine j_getR (c := 103) C dX5_isNext_8 rfl lkX5_35 is_93 rfl ?_
    refine j_aload_n C dX5_isNext_11 rfl 0 rfl ?_
    refine j_getI C dX5_isNext_12 rfl lkX5_39 is_93 rfl ?_
    replace h := gd_e h
    obtain ⟨g4_, h⟩ := h
    refine j_cald C dX5_isNext_15 rfl is_103 g4_ ?_
    refine j_iload_n C dX5_isNext_16 rfl 1 rfl ?_
    refine j_icmp_ne (tgt := 24) C dX5_isNext_17 rfl (by decide) (fun c5_ => ?_) (fun c5_ => ?_)
    · replace h := if_f h c5_
      refine j_iconst (v := (nI 0)) C dX5_isNext_24 rfl (by decide) ?_
      obtain rfl := Option.some.inj h
      exact j_iret (E isB_0) dX5_isNext_25
    · replace h := if_t h c5_
      refine j_iconst (v := (nI 1)) C dX5_isNext_20 rfl (by decide) ?_
      refine j_goto (pc' := 25) C dX5_isNext_21 (by decide) ?_
      obtain rfl := Option.some.inj h
      exact j_iret (E isB_1) dX5_isNext_25
set_option maxRecDepth 100000 in
theorem c_X5_isNext (l : Launch) (D : va_G) (ad : Nat → Nat) (cl : Nat → ClassId) {a1 : Int32} (μ : Mem) (ρ : Int32 × Mem) (h : f_X5_isNext a1 μ = some ρ) : CI l D ad cl yX5_isNext wsX5_isNext rmX5_isNext [.ref 93, .int a1] μ ρ.1 ρ.2 := c_ofZ (cc := cX5_isNext) (nL := 2) rfl (by decide) (Nat.le_of_ble_eq_true rfl) (fun Γ C E => w_X5_isNext C E μ h)
theorem gvX5_91 : jm_gv RX5 91 RX5 yX5_isNext wsX5_isNext 2 1 := ⟨_, _, gi_V gwt3_50 gwt3_52 gwp1_8 gwt1_6 gwt3_53, rfl, by decide +kernel⟩
/-! X5_pass -/
def wsX5_pass : List Cond := .code yX5_pass cX5_pass 2 none :: G0
def rmX5_pass : Room := { frames := 2, cells := 0, slots := 0, locals := 41 }
def f_X5_pass_28 (a1 : Int32) (μ : Mem) : Option (Mem) := Option.bind (f_X5_refuse (μ.1 93 7) μ) fun p1_ => some p1_
set_option maxHeartbeats 4000000 in
set_option maxRecDepth 100000 in
theorem w_X5_pass_28 {Γ : jG} (C : jC Γ 2 cX5_pass RX5 rmX5_pass) {a1 : Int32} {ρ : Mem} (E : jEV Γ cX5_pass ρ) (μ : Mem) (h : f_X5_pass_28 a1 μ = some ρ) : jJ Γ 2 28 [(0, .ref 93)] [] μ := by
  unfold f_X5_pass_28 at h
  refine j_aload_n C dX5_pass_28 rfl 0 rfl ?_
  refine j_aload_n C dX5_pass_29 rfl 0 rfl ?_
  refine j_getI C dX5_pass_30 rfl lkX5_39 is_93 rfl ?_
  replace h := bd_e h
  obtain ⟨p1_, h2_, h⟩ := h
  refine j_cVV (av := [.int (μ.1 93 7)]) (rest := []) C dX5_pass_33 rfl (c_X5_refuse _ _ _ _ μ p1_ h2_) gvX5_98 ⟨⟨rfl, rfl⟩, Nat.le_of_ble_eq_true rfl, Nat.le_of_ble_eq_true rfl⟩ rfl is_93 rfl rfl (Nat.le_of_ble_eq_true rfl) ?_
  obtain rfl := Option.some.inj h
  exact j_vret E dX5_pass_36
def f_X5_pass (a1 : Int32) (μ : Mem) : Option (Mem) := (if 0 ≤ (μ.1 93 8) then f_X5_pass_28 a1 μ else Option.bind (f_X5_isNext a1 μ) fun p2_ => (if p2_.1 = 0 then f_X5_pass_28 a1 p2_.2 else zl (sI p2_.2 93 7 ((p2_.2.1 93 7) + (nI 1))) fun μ5_ => some μ5_))
set_option maxHeartbeats 4000000 in
set_option maxRecDepth 100000 in
theorem w_X5_pass {Γ : jG} (C : jC Γ 2 cX5_pass RX5 rmX5_pass) {a1 : Int32} {ρ : Mem} (E : jEV Γ cX5_pass ρ) (μ : Mem) (h : f_X5_pass a1 μ = some ρ) : jJ Γ 2 0 [(0, .ref 93), (1, .int a1)] [] μ := by
  unfold f_X5_pass at h
  refine j_aload_n C dX5_pass_0 rfl 0 rfl ?_
  refine j_getI C dX5_pass_1 rfl lkX5_42 is_93 rfl ?_
  refine j_if_ge (tgt := 28) C dX5_pass_4 rfl (by decide) (fun c1_ => ?_) (fun c1_ => ?_)
  · replace h := if_t h c1_
    refine j_lv [0] rfl ?_
    exact w_X5_pass_28 C E μ h
  · replace h := if_f h c1_
    refine j_aload_n C dX5_pass_7 rfl 0 rfl ?_
    refine j_iload_n C dX5_pass_8 rfl 1 rfl ?_
    replace h := bd_e h
    obtain ⟨p2_, h3_, h⟩ := h
    refine j_cVI (av := [.int a1]) (rest := []) C dX5_pass_9 rfl (c_X5_isNext _ _ _ _ μ p2_ h3_) gvX5_91 ⟨⟨rfl, rfl⟩, Nat.le_of_ble_eq_true rfl, Nat.le_of_ble_eq_true rfl⟩ rfl is_93 rfl rfl (Nat.le_of_ble_eq_true rfl) ?_
    refine j_if_eq (tgt := 28) C dX5_pass_12 rfl (by decide) (fun c4_ => ?_) (fun c4_ => ?_)
    · replace h := if_t h c4_
      refine j_lv [0] rfl ?_
      exact w_X5_pass_28 C E p2_.2 h
    · replace h := if_f h c4_
      refine j_aload_n C dX5_pass_15 rfl 0 rfl ?_
      refine j_dup C dX5_pass_16 rfl rfl ?_
      refine j_getI C dX5_pass_17 rfl lkX5_39 is_93 rfl ?_
      refine j_iconst (v := (nI 1)) C dX5_pass_20 rfl (by decide) ?_
      refine j_iadd C dX5_pass_21 rfl ?_
      refine j_putI C dX5_pass_22 rfl lpX5_39 is_93 rfl ?_
      refine j_mem (fun μ5_ e6_ => ?_)
      replace h := zl_u h e6_
      refine j_goto (pc' := 36) C dX5_pass_25 (by decide) ?_
      obtain rfl := Option.some.inj h
      exact j_vret E dX5_pass_36
set_option maxRecDepth 100000 in
theorem c_X5_pass (l : Launch) (D : va_G) (ad : Nat → Nat) (cl : Nat → ClassId) {a1 : Int32} (μ : Mem) (ρ : Mem) (h : f_X5_pass a1 μ = some ρ) : CV l D ad cl yX5_pass wsX5_pass rmX5_pass [.ref 93, .int a1] μ ρ := c_ofV (cc := cX5_pass) (nL := 2) rfl (by decide) (Nat.le_of_ble_eq_true rfl) (fun Γ C E => w_X5_pass C E μ h)
theorem gvX5_63 : jm_gv RX5 63 RX5 yX5_answer wsX5_answer 2 1 := ⟨_, _, gi_V gwt3_58 gwt3_60 gwp1_10 gwt1_6 gwt3_61, rfl, by decide +kernel⟩
theorem gvX5_45 : jm_gv RX5 45 RX5 yX5_begin wsX5_begin 1 0 := ⟨_, _, gi_V gwt2_175 gwt2_177 gwp1_2 gwt1_6 gwt2_178, rfl, by decide +kernel⟩
theorem gvX5_56 : jm_gv RX5 56 RX5 yX5_pass wsX5_pass 2 1 := ⟨_, _, gi_V gwt3_46 gwt3_48 gwp1_7 gwt1_6 gwt3_49, rfl, by decide +kernel⟩
theorem gvX5_53 : jm_gv RX5 53 RX5 yX5_readRule wsX5_readRule 5 0 := ⟨_, _, gi_V gwt2_183 gwt2_185 gwp1_4 gwt1_6 gwt2_186, rfl, by decide +kernel⟩
theorem gvX5_60 : jm_gv RX5 60 RX5 yX5_refuseEnd wsX5_refuseEnd 1 0 := ⟨_, _, gi_V gwt3_54 gwt3_56 gwp1_9 gwt1_6 gwt3_57, rfl, by decide +kernel⟩
/-! X5_readLaw -/
def wsX5_readLaw : List Cond := .code yX5_readLaw cX5_readLaw 2 (some .int) :: G0
def rmX5_readLaw : Room := { frames := 6, cells := 0, slots := 0, locals := 152 }
def f_X5_readLaw_67 (μ : Mem) : Option (Int32 × Mem) := Option.bind (f_X5_answer (μ.1 94 0) μ) fun p1_ => some (p1_.1, p1_.2)
set_option maxHeartbeats 4000000 in
set_option maxRecDepth 100000 in
theorem w_X5_readLaw_67 {Γ : jG} (C : jC Γ 2 cX5_readLaw RX5 rmX5_readLaw) {ρ : Int32 × Mem} (E : jEI Γ cX5_readLaw ρ.1 ρ.2) (μ : Mem) (h : f_X5_readLaw_67 μ = some ρ) : jJ Γ 2 67 [(0, .ref 93)] [] μ := by
  unfold f_X5_readLaw_67 at h
  refine j_aload_n C dX5_readLaw_67 rfl 0 rfl ?_
  refine j_aload_n C dX5_readLaw_68 rfl 0 rfl ?_
  refine j_getR (c := 94) C dX5_readLaw_69 rfl lkX5_18 is_93 rfl ?_
  refine j_getI C dX5_readLaw_72 rfl lkX5_48 (isW_0 isW94) rfl ?_
  replace h := bd_e h
  obtain ⟨p1_, h2_, h⟩ := h
  refine j_cVI (av := [.int (μ.1 94 0)]) (rest := []) C dX5_readLaw_75 rfl (c_X5_answer _ _ _ _ μ p1_ h2_) gvX5_63 ⟨⟨rfl, rfl⟩, Nat.le_of_ble_eq_true rfl, Nat.le_of_ble_eq_true rfl⟩ rfl is_93 rfl rfl (Nat.le_of_ble_eq_true rfl) ?_
  obtain rfl := Option.some.inj h
  exact j_iret E dX5_readLaw_78
def f_X5_readLaw_61 (kb14 : Int32 → Mem → Option (Int32 × Mem)) (kx67 : Mem → Option (Int32 × Mem)) (x1 : Int32) (μ : Mem) : Option (Int32 × Mem) := kb14 (x1 + (nI 1)) μ
set_option maxHeartbeats 4000000 in
set_option maxRecDepth 100000 in
theorem w_X5_readLaw_61 {Γ : jG} (C : jC Γ 2 cX5_readLaw RX5 rmX5_readLaw) {kb14 : Int32 → Mem → Option (Int32 × Mem)} {kx67 : Mem → Option (Int32 × Mem)} {ρ : Int32 × Mem} (E : jEI Γ cX5_readLaw ρ.1 ρ.2) (Hkb14 : ∀ (x1 : Int32) (μ : Mem), kb14 x1 μ = some ρ → jJ Γ 2 14 [(0, .ref 93), (1, .int x1)] [] μ) (Hkx67 : ∀ (μ : Mem), kx67 μ = some ρ → jJ Γ 2 67 [(0, .ref 93)] [] μ) (x1 : Int32) (μ : Mem) (h : f_X5_readLaw_61 kb14 kx67 x1 μ = some ρ) : jJ Γ 2 61 [(0, .ref 93), (1, .int x1)] [] μ := by
  unfold f_X5_readLaw_61 at h
  refine j_iinc (d := (nI 1)) (v := x1 + (nI 1)) (lv' := [(1, .int (x1 + (nI 1))), (0, .ref 93)]) C dX5_readLaw_61 rfl (by decide) 1 rfl (by decide) rfl rfl ?_
  refine j_goto (pc' := 14) C dX5_readLaw_64 (by decide) ?_
  refine j_lv [1, 0] rfl ?_
  exact (Hkb14) (x1 + (nI 1)) μ h
def f_X5_readLaw_14 (kx67 : Mem → Option (Int32 × Mem)) : Nat → Int32 → Mem → Option (Int32 × Mem)
  | 0, _, _ => none
  | n + 1, x1, μ => (if (nI 8) ≤ x1 then kx67 μ else (if 0 ≤ (μ.1 93 8) then kx67 μ else Option.bind (f_X5_isAtEnd μ) fun p3_ => (if p3_.1 = 0 then Option.bind (f_X5_readRule p3_.2) fun p6_ => Option.bind (f_X5_isAtEnd p6_) fun p8_ => (if p8_.1 = 0 then (if (nI 7) ≤ x1 then f_X5_readLaw_61 (fun x1 μ => f_X5_readLaw_14 kx67 n x1 μ) kx67 x1 p8_.2 else Option.bind (f_X5_pass (nI 59) p8_.2) fun p12_ => Option.bind (f_X5_refuseEnd p12_) fun p14_ => f_X5_readLaw_61 (fun x1 μ => f_X5_readLaw_14 kx67 n x1 μ) kx67 x1 p14_) else f_X5_readLaw_61 (fun x1 μ => f_X5_readLaw_14 kx67 n x1 μ) kx67 x1 p8_.2) else kx67 p3_.2)))
set_option maxHeartbeats 4000000 in
set_option maxRecDepth 100000 in
theorem w_X5_readLaw_14 {Γ : jG} (C : jC Γ 2 cX5_readLaw RX5 rmX5_readLaw) {kx67 : Mem → Option (Int32 × Mem)} {ρ : Int32 × Mem} (E : jEI Γ cX5_readLaw ρ.1 ρ.2) (Hkx67 : ∀ (μ : Mem), kx67 μ = some ρ → jJ Γ 2 67 [(0, .ref 93)] [] μ) : ∀ (n : Nat) (x1 : Int32) (μ : Mem), f_X5_readLaw_14 kx67 n x1 μ = some ρ → jJ Γ 2 14 [(0, .ref 93), (1, .int x1)] [] μ := by
  intro n
  induction n with
  | zero => intro x1 μ h; rw [f_X5_readLaw_14] at h; cases h
  | succ n ih =>
    intro x1 μ h
    rw [f_X5_readLaw_14] at h
    refine j_iload_n C dX5_readLaw_14 rfl 1 rfl ?_
    refine j_bipush (v := (nI 8)) C dX5_readLaw_15 rfl (by decide) ?_
    refine j_icmp_ge (tgt := 67) C dX5_readLaw_17 rfl (by decide) (fun c1_ => ?_) (fun c1_ => ?_)
    · replace h := if_t h c1_
      refine j_lv [0] rfl ?_
      exact (Hkx67) μ h
    · replace h := if_f h c1_
      refine j_aload_n C dX5_readLaw_20 rfl 0 rfl ?_
      refine j_getI C dX5_readLaw_21 rfl lkX5_42 is_93 rfl ?_
      refine j_if_ge (tgt := 67) C dX5_readLaw_24 rfl (by decide) (fun c2_ => ?_) (fun c2_ => ?_)
      · replace h := if_t h c2_
        refine j_lv [0] rfl ?_
        exact (Hkx67) μ h
      · replace h := if_f h c2_
        refine j_aload_n C dX5_readLaw_27 rfl 0 rfl ?_
        replace h := bd_e h
        obtain ⟨p3_, h4_, h⟩ := h
        refine j_cVI (av := []) (rest := []) C dX5_readLaw_28 rfl (c_X5_isAtEnd _ _ _ _ μ p3_ h4_) gvX5_49 ⟨⟨rfl, rfl⟩, Nat.le_of_ble_eq_true rfl, Nat.le_of_ble_eq_true rfl⟩ rfl is_93 rfl rfl (Nat.le_of_ble_eq_true rfl) ?_
        refine j_if_ne (tgt := 67) C dX5_readLaw_31 rfl (by decide) (fun c5_ => ?_) (fun c5_ => ?_)
        · replace h := if_f h c5_
          refine j_lv [0] rfl ?_
          exact (Hkx67) p3_.2 h
        · replace h := if_t h c5_
          refine j_aload_n C dX5_readLaw_34 rfl 0 rfl ?_
          replace h := bd_e h
          obtain ⟨p6_, h7_, h⟩ := h
          refine j_cVV (av := []) (rest := []) C dX5_readLaw_35 rfl (c_X5_readRule _ _ _ _ p3_.2 p6_ h7_) gvX5_53 ⟨⟨rfl, rfl⟩, Nat.le_of_ble_eq_true rfl, Nat.le_of_ble_eq_true rfl⟩ rfl is_93 rfl rfl (Nat.le_of_ble_eq_true rfl) ?_
          refine j_aload_n C dX5_readLaw_38 rfl 0 rfl ?_
          replace h := bd_e h
          obtain ⟨p8_, h9_, h⟩ := h
          refine j_cVI (av := []) (rest := []) C dX5_readLaw_39 rfl (c_X5_isAtEnd _ _ _ _ p6_ p8_ h9_) gvX5_49 ⟨⟨rfl, rfl⟩, Nat.le_of_ble_eq_true rfl, Nat.le_of_ble_eq_true rfl⟩ rfl is_93 rfl rfl (Nat.le_of_ble_eq_true rfl) ?_
          refine j_if_ne (tgt := 61) C dX5_readLaw_42 rfl (by decide) (fun c10_ => ?_) (fun c10_ => ?_)
          · replace h := if_f h c10_
            refine j_lv [0, 1] rfl ?_
            exact w_X5_readLaw_61 C E ih Hkx67 x1 p8_.2 h
          · replace h := if_t h c10_
            refine j_iload_n C dX5_readLaw_45 rfl 1 rfl ?_
            refine j_bipush (v := (nI 7)) C dX5_readLaw_46 rfl (by decide) ?_
            refine j_icmp_ge (tgt := 61) C dX5_readLaw_48 rfl (by decide) (fun c11_ => ?_) (fun c11_ => ?_)
            · replace h := if_t h c11_
              refine j_lv [0, 1] rfl ?_
              exact w_X5_readLaw_61 C E ih Hkx67 x1 p8_.2 h
            · replace h := if_f h c11_
              refine j_aload_n C dX5_readLaw_51 rfl 0 rfl ?_
              refine j_bipush (v := (nI 59)) C dX5_readLaw_52 rfl (by decide) ?_
              replace h := bd_e h
              obtain ⟨p12_, h13_, h⟩ := h
              refine j_cVV (av := [.int (nI 59)]) (rest := []) C dX5_readLaw_54 rfl (c_X5_pass _ _ _ _ p8_.2 p12_ h13_) gvX5_56 ⟨⟨rfl, rfl⟩, Nat.le_of_ble_eq_true rfl, Nat.le_of_ble_eq_true rfl⟩ rfl is_93 rfl rfl (Nat.le_of_ble_eq_true rfl) ?_
              refine j_aload_n C dX5_readLaw_57 rfl 0 rfl ?_
              replace h := bd_e h
              obtain ⟨p14_, h15_, h⟩ := h
              refine j_cVV (av := []) (rest := []) C dX5_readLaw_58 rfl (c_X5_refuseEnd _ _ _ _ p12_ p14_ h15_) gvX5_60 ⟨⟨rfl, rfl⟩, Nat.le_of_ble_eq_true rfl, Nat.le_of_ble_eq_true rfl⟩ rfl is_93 rfl rfl (Nat.le_of_ble_eq_true rfl) ?_
              refine j_lv [0, 1] rfl ?_
              exact w_X5_readLaw_61 C E ih Hkx67 x1 p14_ h
def f_X5_readLaw (μ : Mem) : Option (Int32 × Mem) := Option.bind (f_X5_begin μ) fun p1_ => zl (sI p1_ 94 0 (nI 0)) fun μ3_ => f_X5_readLaw_14 (fun μ => f_X5_readLaw_67 μ) zfu (nI 0) μ3_
set_option maxHeartbeats 4000000 in
set_option maxRecDepth 100000 in
theorem w_X5_readLaw {Γ : jG} (C : jC Γ 2 cX5_readLaw RX5 rmX5_readLaw) {ρ : Int32 × Mem} (E : jEI Γ cX5_readLaw ρ.1 ρ.2) (μ : Mem) (h : f_X5_readLaw μ = some ρ) : jJ Γ 2 0 [(0, .ref 93)] [] μ := by
  unfold f_X5_readLaw at h
  refine j_aload_n C dX5_readLaw_0 rfl 0 rfl ?_
  replace h := bd_e h
  obtain ⟨p1_, h2_, h⟩ := h
  refine j_cVV (av := []) (rest := []) C dX5_readLaw_1 rfl (c_X5_begin _ _ _ _ μ p1_ h2_) gvX5_45 ⟨⟨rfl, rfl⟩, Nat.le_of_ble_eq_true rfl, Nat.le_of_ble_eq_true rfl⟩ rfl is_93 rfl rfl (Nat.le_of_ble_eq_true rfl) ?_
  refine j_aload_n C dX5_readLaw_4 rfl 0 rfl ?_
  refine j_getR (c := 94) C dX5_readLaw_5 rfl lkX5_18 is_93 rfl ?_
  refine j_iconst (v := (nI 0)) C dX5_readLaw_8 rfl (by decide) ?_
  refine j_putI C dX5_readLaw_9 rfl lpX5_48 (isW_0 isW94) rfl ?_
  refine j_mem (fun μ3_ e4_ => ?_)
  replace h := zl_u h e4_
  refine j_iconst (v := (nI 0)) C dX5_readLaw_12 rfl (by decide) ?_
  refine j_istore_n (lv' := [(1, .int (nI 0)), (0, .ref 93)]) C dX5_readLaw_13 rfl (by decide) rfl ?_
  refine j_lv [1, 0] rfl ?_
  exact w_X5_readLaw_14 C E (fun μ h => w_X5_readLaw_67 C E μ h) zfu (nI 0) μ3_ h
set_option maxRecDepth 100000 in
theorem c_X5_readLaw (l : Launch) (D : va_G) (ad : Nat → Nat) (cl : Nat → ClassId) (μ : Mem) (ρ : Int32 × Mem) (h : f_X5_readLaw μ = some ρ) : CI l D ad cl yX5_readLaw wsX5_readLaw rmX5_readLaw [.ref 93] μ ρ.1 ρ.2 := c_ofI (cc := cX5_readLaw) (nL := 2) rfl (by decide) (Nat.le_of_ble_eq_true rfl) (fun Γ C E => w_X5_readLaw C E μ h)
/-! X5_isDigit -/
def wsX5_isDigit : List Cond := .code yX5_isDigit cX5_isDigit 1 (some .boolean) :: G0
def rmX5_isDigit : Room := { frames := 0, cells := 0, slots := 0, locals := 0 }
def f_X5_isDigit (a0 : Int32) (μ : Mem) : Option (Int32 × Mem) := (if a0 < (nI 48) then some ((nI 0), μ) else (if (nI 57) < a0 then some ((nI 0), μ) else some ((nI 1), μ)))
set_option maxHeartbeats 4000000 in
set_option maxRecDepth 100000 in
theorem w_X5_isDigit {Γ : jG} (C : jC Γ 1 cX5_isDigit RX5 rmX5_isDigit) {a0 : Int32} {ρ : Int32 × Mem} (E : (isB ρ.1 = true → jEI Γ cX5_isDigit ρ.1 ρ.2)) (μ : Mem) (h : f_X5_isDigit a0 μ = some ρ) : jJ Γ 1 0 [(0, .int a0)] [] μ := by
  unfold f_X5_isDigit at h
  refine j_iload_n C dX5_isDigit_0 rfl 0 rfl ?_
  refine j_bipush (v := (nI 48)) C dX5_isDigit_1 rfl (by decide) ?_
  refine j_icmp_lt (tgt := 16) C dX5_isDigit_3 rfl (by decide) (fun c1_ => ?_) (fun c1_ => ?_)
  · replace h := if_t h c1_
    refine j_iconst (v := (nI 0)) C dX5_isDigit_16 rfl (by decide) ?_
    obtain rfl := Option.some.inj h
    exact j_iret (E isB_0) dX5_isDigit_17
  · replace h := if_f h c1_
    refine j_iload_n C dX5_isDigit_6 rfl 0 rfl ?_
    refine j_bipush (v := (nI 57)) C dX5_isDigit_7 rfl (by decide) ?_
    refine j_icmp_gt (tgt := 16) C dX5_isDigit_9 rfl (by decide) (fun c2_ => ?_) (fun c2_ => ?_)
    · replace h := if_t h c2_
      refine j_iconst (v := (nI 0)) C dX5_isDigit_16 rfl (by decide) ?_
      obtain rfl := Option.some.inj h
      exact j_iret (E isB_0) dX5_isDigit_17
    · replace h := if_f h c2_
      refine j_iconst (v := (nI 1)) C dX5_isDigit_12 rfl (by decide) ?_
      refine j_goto (pc' := 17) C dX5_isDigit_13 (by decide) ?_
      obtain rfl := Option.some.inj h
      exact j_iret (E isB_1) dX5_isDigit_17
set_option maxRecDepth 100000 in
theorem c_X5_isDigit (l : Launch) (D : va_G) (ad : Nat → Nat) (cl : Nat → ClassId) {a0 : Int32} (μ : Mem) (ρ : Int32 × Mem) (h : f_X5_isDigit a0 μ = some ρ) : CI l D ad cl yX5_isDigit wsX5_isDigit rmX5_isDigit [.int a0] μ ρ.1 ρ.2 := c_ofZ (cc := cX5_isDigit) (nL := 1) rfl (by decide) (Nat.le_of_ble_eq_true rfl) (fun Γ C E => w_X5_isDigit C E μ h)
theorem gsX5_106 : jm_gs RX5 106 yX5_isDigit wsX5_isDigit 1 1 := ⟨_, _, gi_S gwt3_90 gwt3_91 gwt1_6 gwt3_92, rfl, by decide +kernel⟩
/-! X5_readNumber -/
def wsX5_readNumber : List Cond := .code yX5_readNumber cX5_readNumber 4 (some .int) :: G0
def rmX5_readNumber : Room := { frames := 1, cells := 0, slots := 0, locals := 40 }
def f_X5_readNumber_109 (a1 : Int32) (x2 : Int32) (x3 : Int32) (μ : Mem) : Option (Int32 × Mem) := (if x3 ≤ a1 then some (x3, μ) else Option.bind (f_X5_refuse x2 μ) fun p2_ => some (x3, p2_))
set_option maxHeartbeats 4000000 in
set_option maxRecDepth 100000 in
theorem w_X5_readNumber_109 {Γ : jG} (C : jC Γ 4 cX5_readNumber RX5 rmX5_readNumber) {a1 : Int32} {ρ : Int32 × Mem} (E : jEI Γ cX5_readNumber ρ.1 ρ.2) (x2 : Int32) (x3 : Int32) (μ : Mem) (h : f_X5_readNumber_109 a1 x2 x3 μ = some ρ) : jJ Γ 4 109 [(0, .ref 93), (1, .int a1), (2, .int x2), (3, .int x3)] [] μ := by
  unfold f_X5_readNumber_109 at h
  refine j_iload_n C dX5_readNumber_109 rfl 3 rfl ?_
  refine j_iload_n C dX5_readNumber_110 rfl 1 rfl ?_
  refine j_icmp_le (tgt := 119) C dX5_readNumber_111 rfl (by decide) (fun c1_ => ?_) (fun c1_ => ?_)
  · replace h := if_t h c1_
    refine j_iload_n C dX5_readNumber_119 rfl 3 rfl ?_
    obtain rfl := Option.some.inj h
    exact j_iret E dX5_readNumber_120
  · replace h := if_f h c1_
    refine j_aload_n C dX5_readNumber_114 rfl 0 rfl ?_
    refine j_iload_n C dX5_readNumber_115 rfl 2 rfl ?_
    replace h := bd_e h
    obtain ⟨p2_, h3_, h⟩ := h
    refine j_cVV (av := [.int x2]) (rest := []) C dX5_readNumber_116 rfl (c_X5_refuse _ _ _ _ μ p2_ h3_) gvX5_98 ⟨⟨rfl, rfl⟩, Nat.le_of_ble_eq_true rfl, Nat.le_of_ble_eq_true rfl⟩ rfl is_93 rfl rfl (Nat.le_of_ble_eq_true rfl) ?_
    refine j_iload_n C dX5_readNumber_119 rfl 3 rfl ?_
    obtain rfl := Option.some.inj h
    exact j_iret E dX5_readNumber_120
def f_X5_readNumber_46 (a1 : Int32) (kx109 : Int32 → Int32 → Mem → Option (Int32 × Mem)) : Nat → Int32 → Int32 → Mem → Option (Int32 × Mem)
  | 0, _, _, _ => none
  | n + 1, x2, x3, μ => (if (μ.1 93 0) ≤ (μ.1 93 7) then kx109 x2 x3 μ else gd (inb (μ.1 93 7) 160) <| Option.bind (f_X5_isDigit (μ.1 103 (Int32.toNatClampNeg (μ.1 93 7))) μ) fun p3_ => (if p3_.1 = 0 then kx109 x2 x3 p3_.2 else gd (inb (p3_.2.1 93 7) 160) <| zl (if (a1 + (nI 1)) < (((x3 * (nI 10)) + (p3_.2.1 103 (Int32.toNatClampNeg (p3_.2.1 93 7)))) - (nI 48)) then (a1 + (nI 1)) else (((x3 * (nI 10)) + (p3_.2.1 103 (Int32.toNatClampNeg (p3_.2.1 93 7)))) - (nI 48))) fun x7_ => zl (sI p3_.2 93 7 ((p3_.2.1 93 7) + (nI 1))) fun μ9_ => f_X5_readNumber_46 a1 kx109 n x2 x7_ μ9_))
set_option maxHeartbeats 4000000 in
set_option maxRecDepth 100000 in
theorem w_X5_readNumber_46 {Γ : jG} (C : jC Γ 4 cX5_readNumber RX5 rmX5_readNumber) {a1 : Int32} {kx109 : Int32 → Int32 → Mem → Option (Int32 × Mem)} {ρ : Int32 × Mem} (E : jEI Γ cX5_readNumber ρ.1 ρ.2) (Hkx109 : ∀ (x2 : Int32) (x3 : Int32) (μ : Mem), kx109 x2 x3 μ = some ρ → jJ Γ 4 109 [(0, .ref 93), (1, .int a1), (2, .int x2), (3, .int x3)] [] μ) : ∀ (n : Nat) (x2 : Int32) (x3 : Int32) (μ : Mem), f_X5_readNumber_46 a1 kx109 n x2 x3 μ = some ρ → jJ Γ 4 46 [(0, .ref 93), (1, .int a1), (2, .int x2), (3, .int x3)] [] μ := by
  intro n
  induction n with
  | zero => intro x2 x3 μ h; rw [f_X5_readNumber_46] at h; cases h
  | succ n ih =>
    intro x2 x3 μ h
    rw [f_X5_readNumber_46] at h
    refine j_aload_n C dX5_readNumber_46 rfl 0 rfl ?_
    refine j_getI C dX5_readNumber_47 rfl lkX5_39 is_93 rfl ?_
    refine j_aload_n C dX5_readNumber_50 rfl 0 rfl ?_
    refine j_getI C dX5_readNumber_51 rfl lkX5_9 is_93 rfl ?_
    refine j_icmp_ge (tgt := 109) C dX5_readNumber_54 rfl (by decide) (fun c1_ => ?_) (fun c1_ => ?_)
    · replace h := if_t h c1_
      refine j_lv [0, 1, 2, 3] rfl ?_
      exact (Hkx109) x2 x3 μ h
    · replace h := if_f h c1_
      refine j_aload_n C dX5_readNumber_57 rfl 0 rfl ?_
      refine j_getR (c := 103) C dX5_readNumber_58 rfl lkX5_35 is_93 rfl ?_
      refine j_aload_n C dX5_readNumber_61 rfl 0 rfl ?_
      refine j_getI C dX5_readNumber_62 rfl lkX5_39 is_93 rfl ?_
      replace h := gd_e h
      obtain ⟨g2_, h⟩ := h
      refine j_cald C dX5_readNumber_65 rfl is_103 g2_ ?_
      replace h := bd_e h
      obtain ⟨p3_, h4_, h⟩ := h
      refine j_cSI (av := [.int (μ.1 103 (Int32.toNatClampNeg (μ.1 93 7)))]) (rest := []) C dX5_readNumber_66 rfl (c_X5_isDigit _ _ _ _ μ p3_ h4_) gsX5_106 ⟨⟨rfl, rfl⟩, Nat.le_of_ble_eq_true rfl, Nat.le_of_ble_eq_true rfl⟩ rfl rfl (Nat.le_of_ble_eq_true rfl) ?_
      refine j_if_eq (tgt := 109) C dX5_readNumber_69 rfl (by decide) (fun c5_ => ?_) (fun c5_ => ?_)
      · replace h := if_t h c5_
        refine j_lv [0, 1, 2, 3] rfl ?_
        exact (Hkx109) x2 x3 p3_.2 h
      · replace h := if_f h c5_
        refine j_iload_n C dX5_readNumber_72 rfl 3 rfl ?_
        refine j_bipush (v := (nI 10)) C dX5_readNumber_73 rfl (by decide) ?_
        refine j_imul C dX5_readNumber_75 rfl ?_
        refine j_aload_n C dX5_readNumber_76 rfl 0 rfl ?_
        refine j_getR (c := 103) C dX5_readNumber_77 rfl lkX5_35 is_93 rfl ?_
        refine j_aload_n C dX5_readNumber_80 rfl 0 rfl ?_
        refine j_getI C dX5_readNumber_81 rfl lkX5_39 is_93 rfl ?_
        replace h := gd_e h
        obtain ⟨g6_, h⟩ := h
        refine j_cald C dX5_readNumber_84 rfl is_103 g6_ ?_
        refine j_iadd C dX5_readNumber_85 rfl ?_
        refine j_bipush (v := (nI 48)) C dX5_readNumber_86 rfl (by decide) ?_
        refine j_isub C dX5_readNumber_88 rfl ?_
        refine j_iload_n C dX5_readNumber_89 rfl 1 rfl ?_
        refine j_iconst (v := (nI 1)) C dX5_readNumber_90 rfl (by decide) ?_
        refine j_iadd C dX5_readNumber_91 rfl ?_
        refine j_mmin C dX5_readNumber_92 rfl qmX5_109 ⟨Nat.le_of_ble_eq_true rfl, Nat.le_of_ble_eq_true rfl⟩ ?_
        refine j_topi (fun x7_ e8_ => ?_)
        replace h := zl_u h e8_
        refine j_istore_n (lv' := [(3, .int x7_), (0, .ref 93), (1, .int a1), (2, .int x2)]) C dX5_readNumber_95 rfl (by decide) rfl ?_
        refine j_aload_n C dX5_readNumber_96 rfl 1 rfl ?_
        refine j_dup C dX5_readNumber_97 rfl rfl ?_
        refine j_getI C dX5_readNumber_98 rfl lkX5_39 is_93 rfl ?_
        refine j_iconst (v := (nI 1)) C dX5_readNumber_101 rfl (by decide) ?_
        refine j_iadd C dX5_readNumber_102 rfl ?_
        refine j_putI C dX5_readNumber_103 rfl lpX5_39 is_93 rfl ?_
        refine j_mem (fun μ9_ e10_ => ?_)
        replace h := zl_u h e10_
        refine j_goto (pc' := 46) C dX5_readNumber_106 (by decide) ?_
        refine j_lv [1, 2, 3, 0] rfl ?_
        exact (ih) x2 x7_ μ9_ h
def f_X5_readNumber_29 (a1 : Int32) (μ : Mem) : Option (Int32 × Mem) := Option.bind (f_X5_refuse (μ.1 93 7) μ) fun p1_ => some ((nI 0), p1_)
set_option maxHeartbeats 4000000 in
set_option maxRecDepth 100000 in
theorem w_X5_readNumber_29 {Γ : jG} (C : jC Γ 4 cX5_readNumber RX5 rmX5_readNumber) {a1 : Int32} {ρ : Int32 × Mem} (E : jEI Γ cX5_readNumber ρ.1 ρ.2) (μ : Mem) (h : f_X5_readNumber_29 a1 μ = some ρ) : jJ Γ 4 29 [(0, .ref 93)] [] μ := by
  unfold f_X5_readNumber_29 at h
  refine j_aload_n C dX5_readNumber_29 rfl 0 rfl ?_
  refine j_aload_n C dX5_readNumber_30 rfl 0 rfl ?_
  refine j_getI C dX5_readNumber_31 rfl lkX5_39 is_93 rfl ?_
  replace h := bd_e h
  obtain ⟨p1_, h2_, h⟩ := h
  refine j_cVV (av := [.int (μ.1 93 7)]) (rest := []) C dX5_readNumber_34 rfl (c_X5_refuse _ _ _ _ μ p1_ h2_) gvX5_98 ⟨⟨rfl, rfl⟩, Nat.le_of_ble_eq_true rfl, Nat.le_of_ble_eq_true rfl⟩ rfl is_93 rfl rfl (Nat.le_of_ble_eq_true rfl) ?_
  refine j_iconst (v := (nI 0)) C dX5_readNumber_37 rfl (by decide) ?_
  obtain rfl := Option.some.inj h
  exact j_iret E dX5_readNumber_38
def f_X5_readNumber (a1 : Int32) (μ : Mem) : Option (Int32 × Mem) := (if 0 ≤ (μ.1 93 8) then f_X5_readNumber_29 a1 μ else Option.bind (f_X5_isAtEnd μ) fun p2_ => (if p2_.1 = 0 then gd (inb (p2_.2.1 93 7) 160) <| Option.bind (f_X5_isDigit (p2_.2.1 103 (Int32.toNatClampNeg (p2_.2.1 93 7))) p2_.2) fun p6_ => (if p6_.1 = 0 then f_X5_readNumber_29 a1 p6_.2 else zl (p6_.2.1 93 7) fun x9_ => f_X5_readNumber_46 a1 (fun x2 x3 μ => f_X5_readNumber_109 a1 x2 x3 μ) zfu x9_ (nI 0) p6_.2) else f_X5_readNumber_29 a1 p2_.2))
set_option maxHeartbeats 4000000 in
set_option maxRecDepth 100000 in
theorem w_X5_readNumber {Γ : jG} (C : jC Γ 4 cX5_readNumber RX5 rmX5_readNumber) {a1 : Int32} {ρ : Int32 × Mem} (E : jEI Γ cX5_readNumber ρ.1 ρ.2) (μ : Mem) (h : f_X5_readNumber a1 μ = some ρ) : jJ Γ 4 0 [(0, .ref 93), (1, .int a1)] [] μ := by
  unfold f_X5_readNumber at h
  refine j_aload_n C dX5_readNumber_0 rfl 0 rfl ?_
  refine j_getI C dX5_readNumber_1 rfl lkX5_42 is_93 rfl ?_
  refine j_if_ge (tgt := 29) C dX5_readNumber_4 rfl (by decide) (fun c1_ => ?_) (fun c1_ => ?_)
  · replace h := if_t h c1_
    refine j_lv [0] rfl ?_
    exact w_X5_readNumber_29 C E μ h
  · replace h := if_f h c1_
    refine j_aload_n C dX5_readNumber_7 rfl 0 rfl ?_
    replace h := bd_e h
    obtain ⟨p2_, h3_, h⟩ := h
    refine j_cVI (av := []) (rest := []) C dX5_readNumber_8 rfl (c_X5_isAtEnd _ _ _ _ μ p2_ h3_) gvX5_49 ⟨⟨rfl, rfl⟩, Nat.le_of_ble_eq_true rfl, Nat.le_of_ble_eq_true rfl⟩ rfl is_93 rfl rfl (Nat.le_of_ble_eq_true rfl) ?_
    refine j_if_ne (tgt := 29) C dX5_readNumber_11 rfl (by decide) (fun c4_ => ?_) (fun c4_ => ?_)
    · replace h := if_f h c4_
      refine j_lv [0] rfl ?_
      exact w_X5_readNumber_29 C E p2_.2 h
    · replace h := if_t h c4_
      refine j_aload_n C dX5_readNumber_14 rfl 0 rfl ?_
      refine j_getR (c := 103) C dX5_readNumber_15 rfl lkX5_35 is_93 rfl ?_
      refine j_aload_n C dX5_readNumber_18 rfl 0 rfl ?_
      refine j_getI C dX5_readNumber_19 rfl lkX5_39 is_93 rfl ?_
      replace h := gd_e h
      obtain ⟨g5_, h⟩ := h
      refine j_cald C dX5_readNumber_22 rfl is_103 g5_ ?_
      replace h := bd_e h
      obtain ⟨p6_, h7_, h⟩ := h
      refine j_cSI (av := [.int (p2_.2.1 103 (Int32.toNatClampNeg (p2_.2.1 93 7)))]) (rest := []) C dX5_readNumber_23 rfl (c_X5_isDigit _ _ _ _ p2_.2 p6_ h7_) gsX5_106 ⟨⟨rfl, rfl⟩, Nat.le_of_ble_eq_true rfl, Nat.le_of_ble_eq_true rfl⟩ rfl rfl (Nat.le_of_ble_eq_true rfl) ?_
      refine j_if_ne (tgt := 39) C dX5_readNumber_26 rfl (by decide) (fun c8_ => ?_) (fun c8_ => ?_)
      · replace h := if_f h c8_
        refine j_aload_n C dX5_readNumber_39 rfl 0 rfl ?_
        refine j_getI C dX5_readNumber_40 rfl lkX5_39 is_93 rfl ?_
        refine j_topi (fun x9_ e10_ => ?_)
        replace h := zl_u h e10_
        refine j_istore_n (lv' := [(2, .int x9_), (0, .ref 93), (1, .int a1)]) C dX5_readNumber_43 rfl (by decide) rfl ?_
        refine j_iconst (v := (nI 0)) C dX5_readNumber_44 rfl (by decide) ?_
        refine j_istore_n (lv' := [(3, .int (nI 0)), (2, .int x9_), (0, .ref 93), (1, .int a1)]) C dX5_readNumber_45 rfl (by decide) rfl ?_
        refine j_lv [2, 3, 1, 0] rfl ?_
        exact w_X5_readNumber_46 C E (fun x2 x3 μ h => w_X5_readNumber_109 C E x2 x3 μ h) zfu x9_ (nI 0) p6_.2 h
      · replace h := if_t h c8_
        refine j_lv [0] rfl ?_
        exact w_X5_readNumber_29 C E p6_.2 h
set_option maxRecDepth 100000 in
theorem c_X5_readNumber (l : Launch) (D : va_G) (ad : Nat → Nat) (cl : Nat → ClassId) {a1 : Int32} (μ : Mem) (ρ : Int32 × Mem) (h : f_X5_readNumber a1 μ = some ρ) : CI l D ad cl yX5_readNumber wsX5_readNumber rmX5_readNumber [.ref 93, .int a1] μ ρ.1 ρ.2 := c_ofI (cc := cX5_readNumber) (nL := 4) rfl (by decide) (Nat.le_of_ble_eq_true rfl) (fun Γ C E => w_X5_readNumber C E μ h)
theorem gvX5_95 : jm_gv RX5 95 RX5 yX5_readNumber wsX5_readNumber 4 1 := ⟨_, _, gi_V gwt3_86 gwt3_88 gwp1_12 gwt1_6 gwt3_89, rfl, by decide +kernel⟩
/-! X5_readRock -/
def wsX5_readRock : List Cond := .code yX5_readRock cX5_readRock 2 none :: G0
def rmX5_readRock : Room := { frames := 5, cells := 0, slots := 0, locals := 128 }
def f_X5_readRock (a1 : Int32) (μ : Mem) : Option (Mem) := Option.bind (f_X5_oneOf 4 μ) fun p1_ => gd (inb a1 9) <| zl (sI p1_.2 99 (Int32.toNatClampNeg a1) p1_.1) fun μ4_ => Option.bind (f_X5_oneOf 5 μ4_) fun p6_ => zl (sI p6_.2 100 (Int32.toNatClampNeg a1) p6_.1) fun μ8_ => zl (sI μ8_ 101 (Int32.toNatClampNeg a1) (nI 0)) fun μ10_ => zl (sI μ10_ 102 (Int32.toNatClampNeg a1) (nI 0)) fun μ12_ => (if 0 ≤ (μ12_.1 93 8) then some μ12_ else Option.bind (f_X5_isNext (nI 100) μ12_) fun p15_ => (if p15_.1 = 0 then some p15_.2 else Option.bind (f_X5_pass (nI 100) p15_.2) fun p18_ => Option.bind (f_X5_readNumber (nI 99) p18_) fun p20_ => zl (sI p20_.2 101 (Int32.toNatClampNeg a1) p20_.1) fun μ22_ => Option.bind (f_X5_pass (nI 45) μ22_) fun p24_ => Option.bind (f_X5_readNumber (nI 100) p24_) fun p26_ => zl (sI p26_.2 102 (Int32.toNatClampNeg a1) p26_.1) fun μ28_ => some μ28_))
set_option maxHeartbeats 4000000 in
set_option maxRecDepth 100000 in
theorem w_X5_readRock {Γ : jG} (C : jC Γ 2 cX5_readRock RX5 rmX5_readRock) {a1 : Int32} {ρ : Mem} (E : jEV Γ cX5_readRock ρ) (μ : Mem) (h : f_X5_readRock a1 μ = some ρ) : jJ Γ 2 0 [(0, .ref 93), (1, .int a1)] [] μ := by
  unfold f_X5_readRock at h
  refine j_aload_n C dX5_readRock_0 rfl 0 rfl ?_
  refine j_getR (c := 99) C dX5_readRock_1 rfl lkX5_22 is_93 rfl ?_
  refine j_iload_n C dX5_readRock_4 rfl 1 rfl ?_
  refine j_aload_n C dX5_readRock_5 rfl 0 rfl ?_
  refine j_ldcS 4 C dX5_readRock_6 rfl (by decide) rfl ?_
  replace h := bd_e h
  obtain ⟨p1_, h2_, h⟩ := h
  refine j_cVI (av := [.ref (1000 + 4)]) (rest := [.int a1, .ref 99]) C dX5_readRock_8 rfl (c_X5_oneOf _ _ _ _ (by decide) μ p1_ h2_) gvX5_69 ⟨⟨rfl, rfl⟩, Nat.le_of_ble_eq_true rfl, Nat.le_of_ble_eq_true rfl⟩ rfl is_93 rfl rfl (Nat.le_of_ble_eq_true rfl) ?_
  replace h := gd_e h
  obtain ⟨g3_, h⟩ := h
  refine j_iast C dX5_readRock_11 rfl is_99 g3_ ?_
  refine j_mem (fun μ4_ e5_ => ?_)
  replace h := zl_u h e5_
  refine j_aload_n C dX5_readRock_12 rfl 0 rfl ?_
  refine j_getR (c := 100) C dX5_readRock_13 rfl lkX5_26 is_93 rfl ?_
  refine j_iload_n C dX5_readRock_16 rfl 1 rfl ?_
  refine j_aload_n C dX5_readRock_17 rfl 0 rfl ?_
  refine j_ldcS 5 C dX5_readRock_18 rfl (by decide) rfl ?_
  replace h := bd_e h
  obtain ⟨p6_, h7_, h⟩ := h
  refine j_cVI (av := [.ref (1000 + 5)]) (rest := [.int a1, .ref 100]) C dX5_readRock_20 rfl (c_X5_oneOf _ _ _ _ (by decide) μ4_ p6_ h7_) gvX5_69 ⟨⟨rfl, rfl⟩, Nat.le_of_ble_eq_true rfl, Nat.le_of_ble_eq_true rfl⟩ rfl is_93 rfl rfl (Nat.le_of_ble_eq_true rfl) ?_
  refine j_iast C dX5_readRock_23 rfl is_100 g3_ ?_
  refine j_mem (fun μ8_ e9_ => ?_)
  replace h := zl_u h e9_
  refine j_aload_n C dX5_readRock_24 rfl 0 rfl ?_
  refine j_getR (c := 101) C dX5_readRock_25 rfl lkX5_29 is_93 rfl ?_
  refine j_iload_n C dX5_readRock_28 rfl 1 rfl ?_
  refine j_iconst (v := (nI 0)) C dX5_readRock_29 rfl (by decide) ?_
  refine j_iast C dX5_readRock_30 rfl is_101 g3_ ?_
  refine j_mem (fun μ10_ e11_ => ?_)
  replace h := zl_u h e11_
  refine j_aload_n C dX5_readRock_31 rfl 0 rfl ?_
  refine j_getR (c := 102) C dX5_readRock_32 rfl lkX5_32 is_93 rfl ?_
  refine j_iload_n C dX5_readRock_35 rfl 1 rfl ?_
  refine j_iconst (v := (nI 0)) C dX5_readRock_36 rfl (by decide) ?_
  refine j_iast C dX5_readRock_37 rfl is_102 g3_ ?_
  refine j_mem (fun μ12_ e13_ => ?_)
  replace h := zl_u h e13_
  refine j_aload_n C dX5_readRock_38 rfl 0 rfl ?_
  refine j_getI C dX5_readRock_39 rfl lkX5_42 is_93 rfl ?_
  refine j_if_ge (tgt := 90) C dX5_readRock_42 rfl (by decide) (fun c14_ => ?_) (fun c14_ => ?_)
  · replace h := if_t h c14_
    obtain rfl := Option.some.inj h
    exact j_vret E dX5_readRock_90
  · replace h := if_f h c14_
    refine j_aload_n C dX5_readRock_45 rfl 0 rfl ?_
    refine j_bipush (v := (nI 100)) C dX5_readRock_46 rfl (by decide) ?_
    replace h := bd_e h
    obtain ⟨p15_, h16_, h⟩ := h
    refine j_cVI (av := [.int (nI 100)]) (rest := []) C dX5_readRock_48 rfl (c_X5_isNext _ _ _ _ μ12_ p15_ h16_) gvX5_91 ⟨⟨rfl, rfl⟩, Nat.le_of_ble_eq_true rfl, Nat.le_of_ble_eq_true rfl⟩ rfl is_93 rfl rfl (Nat.le_of_ble_eq_true rfl) ?_
    refine j_if_eq (tgt := 90) C dX5_readRock_51 rfl (by decide) (fun c17_ => ?_) (fun c17_ => ?_)
    · replace h := if_t h c17_
      obtain rfl := Option.some.inj h
      exact j_vret E dX5_readRock_90
    · replace h := if_f h c17_
      refine j_aload_n C dX5_readRock_54 rfl 0 rfl ?_
      refine j_bipush (v := (nI 100)) C dX5_readRock_55 rfl (by decide) ?_
      replace h := bd_e h
      obtain ⟨p18_, h19_, h⟩ := h
      refine j_cVV (av := [.int (nI 100)]) (rest := []) C dX5_readRock_57 rfl (c_X5_pass _ _ _ _ p15_.2 p18_ h19_) gvX5_56 ⟨⟨rfl, rfl⟩, Nat.le_of_ble_eq_true rfl, Nat.le_of_ble_eq_true rfl⟩ rfl is_93 rfl rfl (Nat.le_of_ble_eq_true rfl) ?_
      refine j_aload_n C dX5_readRock_60 rfl 0 rfl ?_
      refine j_getR (c := 101) C dX5_readRock_61 rfl lkX5_29 is_93 rfl ?_
      refine j_iload_n C dX5_readRock_64 rfl 1 rfl ?_
      refine j_aload_n C dX5_readRock_65 rfl 0 rfl ?_
      refine j_bipush (v := (nI 99)) C dX5_readRock_66 rfl (by decide) ?_
      replace h := bd_e h
      obtain ⟨p20_, h21_, h⟩ := h
      refine j_cVI (av := [.int (nI 99)]) (rest := [.int a1, .ref 101]) C dX5_readRock_68 rfl (c_X5_readNumber _ _ _ _ p18_ p20_ h21_) gvX5_95 ⟨⟨rfl, rfl⟩, Nat.le_of_ble_eq_true rfl, Nat.le_of_ble_eq_true rfl⟩ rfl is_93 rfl rfl (Nat.le_of_ble_eq_true rfl) ?_
      refine j_iast C dX5_readRock_71 rfl is_101 g3_ ?_
      refine j_mem (fun μ22_ e23_ => ?_)
      replace h := zl_u h e23_
      refine j_aload_n C dX5_readRock_72 rfl 0 rfl ?_
      refine j_bipush (v := (nI 45)) C dX5_readRock_73 rfl (by decide) ?_
      replace h := bd_e h
      obtain ⟨p24_, h25_, h⟩ := h
      refine j_cVV (av := [.int (nI 45)]) (rest := []) C dX5_readRock_75 rfl (c_X5_pass _ _ _ _ μ22_ p24_ h25_) gvX5_56 ⟨⟨rfl, rfl⟩, Nat.le_of_ble_eq_true rfl, Nat.le_of_ble_eq_true rfl⟩ rfl is_93 rfl rfl (Nat.le_of_ble_eq_true rfl) ?_
      refine j_aload_n C dX5_readRock_78 rfl 0 rfl ?_
      refine j_getR (c := 102) C dX5_readRock_79 rfl lkX5_32 is_93 rfl ?_
      refine j_iload_n C dX5_readRock_82 rfl 1 rfl ?_
      refine j_aload_n C dX5_readRock_83 rfl 0 rfl ?_
      refine j_bipush (v := (nI 100)) C dX5_readRock_84 rfl (by decide) ?_
      replace h := bd_e h
      obtain ⟨p26_, h27_, h⟩ := h
      refine j_cVI (av := [.int (nI 100)]) (rest := [.int a1, .ref 102]) C dX5_readRock_86 rfl (c_X5_readNumber _ _ _ _ p24_ p26_ h27_) gvX5_95 ⟨⟨rfl, rfl⟩, Nat.le_of_ble_eq_true rfl, Nat.le_of_ble_eq_true rfl⟩ rfl is_93 rfl rfl (Nat.le_of_ble_eq_true rfl) ?_
      refine j_iast C dX5_readRock_89 rfl is_102 g3_ ?_
      refine j_mem (fun μ28_ e29_ => ?_)
      replace h := zl_u h e29_
      obtain rfl := Option.some.inj h
      exact j_vret E dX5_readRock_90
set_option maxRecDepth 100000 in
theorem c_X5_readRock (l : Launch) (D : va_G) (ad : Nat → Nat) (cl : Nat → ClassId) {a1 : Int32} (μ : Mem) (ρ : Mem) (h : f_X5_readRock a1 μ = some ρ) : CV l D ad cl yX5_readRock wsX5_readRock rmX5_readRock [.ref 93, .int a1] μ ρ := c_ofV (cc := cX5_readRock) (nL := 2) rfl (by decide) (Nat.le_of_ble_eq_true rfl) (fun Γ C E => w_X5_readRock C E μ h)
theorem gvX5_83 : jm_gv RX5 83 RX5 yX5_readRock wsX5_readRock 2 1 := ⟨_, _, gi_V gwt3_80 gwt3_82 gwp1_11 gwt1_6 gwt3_83, rfl, by decide +kernel⟩
/-! X5_readRocks -/
def wsX5_readRocks : List Cond := .code yX5_readRocks cX5_readRocks 3 (some .int) :: G0
def rmX5_readRocks : Room := { frames := 6, cells := 0, slots := 0, locals := 149 }
def f_X5_readRocks_69 (x1 : Int32) (μ : Mem) : Option (Int32 × Mem) := Option.bind (f_X5_answer x1 μ) fun p1_ => some (p1_.1, p1_.2)
set_option maxHeartbeats 4000000 in
set_option maxRecDepth 100000 in
theorem w_X5_readRocks_69 {Γ : jG} (C : jC Γ 3 cX5_readRocks RX5 rmX5_readRocks) {ρ : Int32 × Mem} (E : jEI Γ cX5_readRocks ρ.1 ρ.2) (x1 : Int32) (μ : Mem) (h : f_X5_readRocks_69 x1 μ = some ρ) : jJ Γ 3 69 [(0, .ref 93), (1, .int x1)] [] μ := by
  unfold f_X5_readRocks_69 at h
  refine j_aload_n C dX5_readRocks_69 rfl 0 rfl ?_
  refine j_iload_n C dX5_readRocks_70 rfl 1 rfl ?_
  replace h := bd_e h
  obtain ⟨p1_, h2_, h⟩ := h
  refine j_cVI (av := [.int x1]) (rest := []) C dX5_readRocks_71 rfl (c_X5_answer _ _ _ _ μ p1_ h2_) gvX5_63 ⟨⟨rfl, rfl⟩, Nat.le_of_ble_eq_true rfl, Nat.le_of_ble_eq_true rfl⟩ rfl is_93 rfl rfl (Nat.le_of_ble_eq_true rfl) ?_
  obtain rfl := Option.some.inj h
  exact j_iret E dX5_readRocks_74
def f_X5_readRocks_63 (kb12 : Int32 → Int32 → Mem → Option (Int32 × Mem)) (kx69 : Int32 → Mem → Option (Int32 × Mem)) (x1 : Int32) (x2 : Int32) (μ : Mem) : Option (Int32 × Mem) := kb12 x1 (x2 + (nI 1)) μ
set_option maxHeartbeats 4000000 in
set_option maxRecDepth 100000 in
theorem w_X5_readRocks_63 {Γ : jG} (C : jC Γ 3 cX5_readRocks RX5 rmX5_readRocks) {kb12 : Int32 → Int32 → Mem → Option (Int32 × Mem)} {kx69 : Int32 → Mem → Option (Int32 × Mem)} {ρ : Int32 × Mem} (E : jEI Γ cX5_readRocks ρ.1 ρ.2) (Hkb12 : ∀ (x1 : Int32) (x2 : Int32) (μ : Mem), kb12 x1 x2 μ = some ρ → jJ Γ 3 12 [(0, .ref 93), (1, .int x1), (2, .int x2)] [] μ) (Hkx69 : ∀ (x1 : Int32) (μ : Mem), kx69 x1 μ = some ρ → jJ Γ 3 69 [(0, .ref 93), (1, .int x1)] [] μ) (x1 : Int32) (x2 : Int32) (μ : Mem) (h : f_X5_readRocks_63 kb12 kx69 x1 x2 μ = some ρ) : jJ Γ 3 63 [(0, .ref 93), (1, .int x1), (2, .int x2)] [] μ := by
  unfold f_X5_readRocks_63 at h
  refine j_iinc (d := (nI 1)) (v := x2 + (nI 1)) (lv' := [(2, .int (x2 + (nI 1))), (0, .ref 93), (1, .int x1)]) C dX5_readRocks_63 rfl (by decide) 2 rfl (by decide) rfl rfl ?_
  refine j_goto (pc' := 12) C dX5_readRocks_66 (by decide) ?_
  refine j_lv [1, 2, 0] rfl ?_
  exact (Hkb12) x1 (x2 + (nI 1)) μ h
def f_X5_readRocks_12 (kx69 : Int32 → Mem → Option (Int32 × Mem)) : Nat → Int32 → Int32 → Mem → Option (Int32 × Mem)
  | 0, _, _, _ => none
  | n + 1, x1, x2, μ => (if (nI 9) ≤ x2 then kx69 x1 μ else (if 0 ≤ (μ.1 93 8) then kx69 x1 μ else Option.bind (f_X5_isAtEnd μ) fun p3_ => (if p3_.1 = 0 then Option.bind (f_X5_readRock x2 p3_.2) fun p6_ => Option.bind (f_X5_isAtEnd p6_) fun p8_ => (if p8_.1 = 0 then (if (nI 8) ≤ x2 then f_X5_readRocks_63 (fun x1 x2 μ => f_X5_readRocks_12 kx69 n x1 x2 μ) kx69 (x1 + (nI 1)) x2 p8_.2 else Option.bind (f_X5_pass (nI 44) p8_.2) fun p12_ => Option.bind (f_X5_refuseEnd p12_) fun p14_ => f_X5_readRocks_63 (fun x1 x2 μ => f_X5_readRocks_12 kx69 n x1 x2 μ) kx69 (x1 + (nI 1)) x2 p14_) else f_X5_readRocks_63 (fun x1 x2 μ => f_X5_readRocks_12 kx69 n x1 x2 μ) kx69 (x1 + (nI 1)) x2 p8_.2) else kx69 x1 p3_.2)))
set_option maxHeartbeats 4000000 in
set_option maxRecDepth 100000 in
theorem w_X5_readRocks_12 {Γ : jG} (C : jC Γ 3 cX5_readRocks RX5 rmX5_readRocks) {kx69 : Int32 → Mem → Option (Int32 × Mem)} {ρ : Int32 × Mem} (E : jEI Γ cX5_readRocks ρ.1 ρ.2) (Hkx69 : ∀ (x1 : Int32) (μ : Mem), kx69 x1 μ = some ρ → jJ Γ 3 69 [(0, .ref 93), (1, .int x1)] [] μ) : ∀ (n : Nat) (x1 : Int32) (x2 : Int32) (μ : Mem), f_X5_readRocks_12 kx69 n x1 x2 μ = some ρ → jJ Γ 3 12 [(0, .ref 93), (1, .int x1), (2, .int x2)] [] μ := by
  intro n
  induction n with
  | zero => intro x1 x2 μ h; rw [f_X5_readRocks_12] at h; cases h
  | succ n ih =>
    intro x1 x2 μ h
    rw [f_X5_readRocks_12] at h
    refine j_iload_n C dX5_readRocks_12 rfl 2 rfl ?_
    refine j_bipush (v := (nI 9)) C dX5_readRocks_13 rfl (by decide) ?_
    refine j_icmp_ge (tgt := 69) C dX5_readRocks_15 rfl (by decide) (fun c1_ => ?_) (fun c1_ => ?_)
    · replace h := if_t h c1_
      refine j_lv [0, 1] rfl ?_
      exact (Hkx69) x1 μ h
    · replace h := if_f h c1_
      refine j_aload_n C dX5_readRocks_18 rfl 0 rfl ?_
      refine j_getI C dX5_readRocks_19 rfl lkX5_42 is_93 rfl ?_
      refine j_if_ge (tgt := 69) C dX5_readRocks_22 rfl (by decide) (fun c2_ => ?_) (fun c2_ => ?_)
      · replace h := if_t h c2_
        refine j_lv [0, 1] rfl ?_
        exact (Hkx69) x1 μ h
      · replace h := if_f h c2_
        refine j_aload_n C dX5_readRocks_25 rfl 0 rfl ?_
        replace h := bd_e h
        obtain ⟨p3_, h4_, h⟩ := h
        refine j_cVI (av := []) (rest := []) C dX5_readRocks_26 rfl (c_X5_isAtEnd _ _ _ _ μ p3_ h4_) gvX5_49 ⟨⟨rfl, rfl⟩, Nat.le_of_ble_eq_true rfl, Nat.le_of_ble_eq_true rfl⟩ rfl is_93 rfl rfl (Nat.le_of_ble_eq_true rfl) ?_
        refine j_if_ne (tgt := 69) C dX5_readRocks_29 rfl (by decide) (fun c5_ => ?_) (fun c5_ => ?_)
        · replace h := if_f h c5_
          refine j_lv [0, 1] rfl ?_
          exact (Hkx69) x1 p3_.2 h
        · replace h := if_t h c5_
          refine j_aload_n C dX5_readRocks_32 rfl 0 rfl ?_
          refine j_iload_n C dX5_readRocks_33 rfl 2 rfl ?_
          replace h := bd_e h
          obtain ⟨p6_, h7_, h⟩ := h
          refine j_cVV (av := [.int x2]) (rest := []) C dX5_readRocks_34 rfl (c_X5_readRock _ _ _ _ p3_.2 p6_ h7_) gvX5_83 ⟨⟨rfl, rfl⟩, Nat.le_of_ble_eq_true rfl, Nat.le_of_ble_eq_true rfl⟩ rfl is_93 rfl rfl (Nat.le_of_ble_eq_true rfl) ?_
          refine j_iinc (d := (nI 1)) (v := x1 + (nI 1)) (lv' := [(1, .int (x1 + (nI 1))), (0, .ref 93), (2, .int x2)]) C dX5_readRocks_37 rfl (by decide) 1 rfl (by decide) rfl rfl ?_
          refine j_aload_n C dX5_readRocks_40 rfl 1 rfl ?_
          replace h := bd_e h
          obtain ⟨p8_, h9_, h⟩ := h
          refine j_cVI (av := []) (rest := []) C dX5_readRocks_41 rfl (c_X5_isAtEnd _ _ _ _ p6_ p8_ h9_) gvX5_49 ⟨⟨rfl, rfl⟩, Nat.le_of_ble_eq_true rfl, Nat.le_of_ble_eq_true rfl⟩ rfl is_93 rfl rfl (Nat.le_of_ble_eq_true rfl) ?_
          refine j_if_ne (tgt := 63) C dX5_readRocks_44 rfl (by decide) (fun c10_ => ?_) (fun c10_ => ?_)
          · replace h := if_f h c10_
            refine j_lv [1, 0, 2] rfl ?_
            exact w_X5_readRocks_63 C E ih Hkx69 (x1 + (nI 1)) x2 p8_.2 h
          · replace h := if_t h c10_
            refine j_iload_n C dX5_readRocks_47 rfl 2 rfl ?_
            refine j_bipush (v := (nI 8)) C dX5_readRocks_48 rfl (by decide) ?_
            refine j_icmp_ge (tgt := 63) C dX5_readRocks_50 rfl (by decide) (fun c11_ => ?_) (fun c11_ => ?_)
            · replace h := if_t h c11_
              refine j_lv [1, 0, 2] rfl ?_
              exact w_X5_readRocks_63 C E ih Hkx69 (x1 + (nI 1)) x2 p8_.2 h
            · replace h := if_f h c11_
              refine j_aload_n C dX5_readRocks_53 rfl 1 rfl ?_
              refine j_bipush (v := (nI 44)) C dX5_readRocks_54 rfl (by decide) ?_
              replace h := bd_e h
              obtain ⟨p12_, h13_, h⟩ := h
              refine j_cVV (av := [.int (nI 44)]) (rest := []) C dX5_readRocks_56 rfl (c_X5_pass _ _ _ _ p8_.2 p12_ h13_) gvX5_56 ⟨⟨rfl, rfl⟩, Nat.le_of_ble_eq_true rfl, Nat.le_of_ble_eq_true rfl⟩ rfl is_93 rfl rfl (Nat.le_of_ble_eq_true rfl) ?_
              refine j_aload_n C dX5_readRocks_59 rfl 1 rfl ?_
              replace h := bd_e h
              obtain ⟨p14_, h15_, h⟩ := h
              refine j_cVV (av := []) (rest := []) C dX5_readRocks_60 rfl (c_X5_refuseEnd _ _ _ _ p12_ p14_ h15_) gvX5_60 ⟨⟨rfl, rfl⟩, Nat.le_of_ble_eq_true rfl, Nat.le_of_ble_eq_true rfl⟩ rfl is_93 rfl rfl (Nat.le_of_ble_eq_true rfl) ?_
              refine j_lv [1, 0, 2] rfl ?_
              exact w_X5_readRocks_63 C E ih Hkx69 (x1 + (nI 1)) x2 p14_ h
def f_X5_readRocks (μ : Mem) : Option (Int32 × Mem) := Option.bind (f_X5_begin μ) fun p1_ => Option.bind (f_X5_refuseEnd p1_) fun p3_ => f_X5_readRocks_12 (fun x1 μ => f_X5_readRocks_69 x1 μ) zfu (nI 0) (nI 0) p3_
set_option maxHeartbeats 4000000 in
set_option maxRecDepth 100000 in
theorem w_X5_readRocks {Γ : jG} (C : jC Γ 3 cX5_readRocks RX5 rmX5_readRocks) {ρ : Int32 × Mem} (E : jEI Γ cX5_readRocks ρ.1 ρ.2) (μ : Mem) (h : f_X5_readRocks μ = some ρ) : jJ Γ 3 0 [(0, .ref 93)] [] μ := by
  unfold f_X5_readRocks at h
  refine j_aload_n C dX5_readRocks_0 rfl 0 rfl ?_
  replace h := bd_e h
  obtain ⟨p1_, h2_, h⟩ := h
  refine j_cVV (av := []) (rest := []) C dX5_readRocks_1 rfl (c_X5_begin _ _ _ _ μ p1_ h2_) gvX5_45 ⟨⟨rfl, rfl⟩, Nat.le_of_ble_eq_true rfl, Nat.le_of_ble_eq_true rfl⟩ rfl is_93 rfl rfl (Nat.le_of_ble_eq_true rfl) ?_
  refine j_aload_n C dX5_readRocks_4 rfl 0 rfl ?_
  replace h := bd_e h
  obtain ⟨p3_, h4_, h⟩ := h
  refine j_cVV (av := []) (rest := []) C dX5_readRocks_5 rfl (c_X5_refuseEnd _ _ _ _ p1_ p3_ h4_) gvX5_60 ⟨⟨rfl, rfl⟩, Nat.le_of_ble_eq_true rfl, Nat.le_of_ble_eq_true rfl⟩ rfl is_93 rfl rfl (Nat.le_of_ble_eq_true rfl) ?_
  refine j_iconst (v := (nI 0)) C dX5_readRocks_8 rfl (by decide) ?_
  refine j_istore_n (lv' := [(1, .int (nI 0)), (0, .ref 93)]) C dX5_readRocks_9 rfl (by decide) rfl ?_
  refine j_iconst (v := (nI 0)) C dX5_readRocks_10 rfl (by decide) ?_
  refine j_istore_n (lv' := [(2, .int (nI 0)), (1, .int (nI 0)), (0, .ref 93)]) C dX5_readRocks_11 rfl (by decide) rfl ?_
  refine j_lv [2, 1, 0] rfl ?_
  exact w_X5_readRocks_12 C E (fun x1 μ h => w_X5_readRocks_69 C E x1 μ h) zfu (nI 0) (nI 0) p3_ h
set_option maxRecDepth 100000 in
theorem c_X5_readRocks (l : Launch) (D : va_G) (ad : Nat → Nat) (cl : Nat → ClassId) (μ : Mem) (ρ : Int32 × Mem) (h : f_X5_readRocks μ = some ρ) : CI l D ad cl yX5_readRocks wsX5_readRocks rmX5_readRocks [.ref 93] μ ρ.1 ρ.2 := c_ofI (cc := cX5_readRocks) (nL := 3) rfl (by decide) (Nat.le_of_ble_eq_true rfl) (fun Γ C E => w_X5_readRocks C E μ h)
