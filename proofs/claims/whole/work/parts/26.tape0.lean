/-! X5_append -/
def wsX5_append : List Cond := .code yX5_append cX5_append 2 (some .int) :: G0
def rmX5_append : Room := { frames := 0, cells := 0, slots := 0, locals := 0 }
def f_X5_append (a1 : Int32) (μ : Mem) : Option (Int32 × Mem) := gd (inb (μ.1 93 0) 160) <| zl (sI μ 103 (Int32.toNatClampNeg (μ.1 93 0)) (vp_nar .char (((Int32.toUInt32 a1) % 65536).toInt32))) fun μ2_ => zl (sI μ2_ 93 0 ((μ2_.1 93 0) + 1)) fun μ4_ => some (μ4_.1 93 0, μ4_)
set_option maxHeartbeats 4000000 in
set_option maxRecDepth 100000 in
theorem w_X5_append {Γ : jG} (C : jC Γ 2 cX5_append RX5 rmX5_append) {a1 : Int32} {ρ : Int32 × Mem} (E : jEI Γ cX5_append ρ.1 ρ.2) (μ : Mem) (h : f_X5_append a1 μ = some ρ) : jJ Γ 2 0 [(0, .ref 93), (1, .int a1)] [] μ := by
  unfold f_X5_append at h
  refine j_aload_n C dX5_append_0 rfl 0 rfl ?_
  refine j_getR (c := 103) C dX5_append_1 rfl lkX5_35 is_93 rfl ?_
  refine j_aload_n C dX5_append_4 rfl 0 rfl ?_
  refine j_getI C dX5_append_5 rfl lkX5_9 is_93 rfl ?_
  refine j_iload_n C dX5_append_8 rfl 1 rfl ?_
  refine j_i2c C dX5_append_9 rfl ?_
  replace h := gd_e h
  obtain ⟨g1_, h⟩ := h
  refine j_cast C dX5_append_10 rfl is_103 g1_ ?_
  refine j_mem (fun μ2_ e3_ => ?_)
  replace h := zl_u h e3_
  refine j_aload_n C dX5_append_11 rfl 0 rfl ?_
  refine j_dup C dX5_append_12 rfl rfl ?_
  refine j_getI C dX5_append_13 rfl lkX5_9 is_93 rfl ?_
  refine j_iconst (v := 1) C dX5_append_16 rfl (by decide) ?_
  refine j_iadd C dX5_append_17 rfl ?_
  refine j_putI C dX5_append_18 rfl lpX5_9 is_93 rfl ?_
  refine j_mem (fun μ4_ e5_ => ?_)
  replace h := zl_u h e5_
  refine j_aload_n C dX5_append_21 rfl 0 rfl ?_
  refine j_getI C dX5_append_22 rfl lkX5_9 is_93 rfl ?_
  obtain rfl := Option.some.inj h
  exact j_iret E dX5_append_25
set_option maxRecDepth 100000 in
theorem c_X5_append (l : Launch) (D : va_G) (ad : Nat → Nat) (cl : Nat → ClassId) {a1 : Int32} (μ : Mem) (ρ : Int32 × Mem) (h : f_X5_append a1 μ = some ρ) : CI l D ad cl yX5_append wsX5_append rmX5_append [.ref 93, .int a1] μ ρ.1 ρ.2 := c_ofI (cc := cX5_append) (nL := 2) rfl (by decide) (Nat.le_of_ble_eq_true rfl) (fun Γ C E => w_X5_append C E μ h)
/-! X5_refuse -/
def wsX5_refuse : List Cond := .code yX5_refuse cX5_refuse 2 none :: G0
def rmX5_refuse : Room := { frames := 0, cells := 0, slots := 0, locals := 0 }
def f_X5_refuse (a1 : Int32) (μ : Mem) : Option (Mem) := (if 0 ≤ (μ.1 93 8) then some μ else zl (sI μ 93 8 a1) fun μ2_ => some μ2_)
set_option maxHeartbeats 4000000 in
set_option maxRecDepth 100000 in
theorem w_X5_refuse {Γ : jG} (C : jC Γ 2 cX5_refuse RX5 rmX5_refuse) {a1 : Int32} {ρ : Mem} (E : jEV Γ cX5_refuse ρ) (μ : Mem) (h : f_X5_refuse a1 μ = some ρ) : jJ Γ 2 0 [(0, .ref 93), (1, .int a1)] [] μ := by
  unfold f_X5_refuse at h
  refine j_aload_n C dX5_refuse_0 rfl 0 rfl ?_
  refine j_getI C dX5_refuse_1 rfl lkX5_42 is_93 rfl ?_
  refine j_if_ge (tgt := 12) C dX5_refuse_4 rfl (by decide) (fun c1_ => ?_) (fun c1_ => ?_)
  · replace h := if_t h c1_
    obtain rfl := Option.some.inj h
    exact j_vret E dX5_refuse_12
  · replace h := if_f h c1_
    refine j_aload_n C dX5_refuse_7 rfl 0 rfl ?_
    refine j_iload_n C dX5_refuse_8 rfl 1 rfl ?_
    refine j_putI C dX5_refuse_9 rfl lpX5_42 is_93 rfl ?_
    refine j_mem (fun μ2_ e3_ => ?_)
    replace h := zl_u h e3_
    obtain rfl := Option.some.inj h
    exact j_vret E dX5_refuse_12
set_option maxRecDepth 100000 in
theorem c_X5_refuse (l : Launch) (D : va_G) (ad : Nat → Nat) (cl : Nat → ClassId) {a1 : Int32} (μ : Mem) (ρ : Mem) (h : f_X5_refuse a1 μ = some ρ) : CV l D ad cl yX5_refuse wsX5_refuse rmX5_refuse [.ref 93, .int a1] μ ρ := c_ofV (cc := cX5_refuse) (nL := 2) rfl (by decide) (Nat.le_of_ble_eq_true rfl) (fun Γ C E => w_X5_refuse C E μ h)
/-! X5_isAtEnd -/
def wsX5_isAtEnd : List Cond := .code yX5_isAtEnd cX5_isAtEnd 1 (some .boolean) :: G0
def rmX5_isAtEnd : Room := { frames := 0, cells := 0, slots := 0, locals := 0 }
def f_X5_isAtEnd_38 (μ : Mem) : Option (Int32 × Mem) := (if (μ.1 93 7) < (μ.1 93 0) then some (0, μ) else some (1, μ))
set_option maxHeartbeats 4000000 in
set_option maxRecDepth 100000 in
theorem w_X5_isAtEnd_38 {Γ : jG} (C : jC Γ 1 cX5_isAtEnd RX5 rmX5_isAtEnd) {ρ : Int32 × Mem} (E : (isB ρ.1 = true → jEI Γ cX5_isAtEnd ρ.1 ρ.2)) (μ : Mem) (h : f_X5_isAtEnd_38 μ = some ρ) : jJ Γ 1 38 [(0, .ref 93)] [] μ := by
  unfold f_X5_isAtEnd_38 at h
  refine j_aload_n C dX5_isAtEnd_38 rfl 0 rfl ?_
  refine j_getI C dX5_isAtEnd_39 rfl lkX5_39 is_93 rfl ?_
  refine j_aload_n C dX5_isAtEnd_42 rfl 0 rfl ?_
  refine j_getI C dX5_isAtEnd_43 rfl lkX5_9 is_93 rfl ?_
  refine j_icmp_lt (tgt := 53) C dX5_isAtEnd_46 rfl (by decide) (fun c1_ => ?_) (fun c1_ => ?_)
  · replace h := if_t h c1_
    refine j_iconst (v := 0) C dX5_isAtEnd_53 rfl (by decide) ?_
    obtain rfl := Option.some.inj h
    exact j_iret (E isB_0) dX5_isAtEnd_54
  · replace h := if_f h c1_
    refine j_iconst (v := 1) C dX5_isAtEnd_49 rfl (by decide) ?_
    refine j_goto (pc' := 54) C dX5_isAtEnd_50 (by decide) ?_
    obtain rfl := Option.some.inj h
    exact j_iret (E isB_1) dX5_isAtEnd_54
def f_X5_isAtEnd_0 (kx38 : Mem → Option (Int32 × Mem)) : Nat → Mem → Option (Int32 × Mem)
  | 0, _ => none
  | n + 1, μ => (if (μ.1 93 0) ≤ (μ.1 93 7) then kx38 μ else gd (inb (μ.1 93 7) 160) <| (if (μ.1 103 (Int32.toNatClampNeg (μ.1 93 7))) = 32 then zl (sI μ 93 7 ((μ.1 93 7) + 1)) fun μ4_ => f_X5_isAtEnd_0 kx38 n μ4_ else kx38 μ))
set_option maxHeartbeats 4000000 in
set_option maxRecDepth 100000 in
theorem w_X5_isAtEnd_0 {Γ : jG} (C : jC Γ 1 cX5_isAtEnd RX5 rmX5_isAtEnd) {kx38 : Mem → Option (Int32 × Mem)} {ρ : Int32 × Mem} (E : (isB ρ.1 = true → jEI Γ cX5_isAtEnd ρ.1 ρ.2)) (Hkx38 : ∀ (μ : Mem), kx38 μ = some ρ → jJ Γ 1 38 [(0, .ref 93)] [] μ) : ∀ (n : Nat) (μ : Mem), f_X5_isAtEnd_0 kx38 n μ = some ρ → jJ Γ 1 0 [(0, .ref 93)] [] μ := by
  intro n
  induction n with
  | zero => intro  μ h; rw [f_X5_isAtEnd_0] at h; cases h
  | succ n ih =>
    intro  μ h
    rw [f_X5_isAtEnd_0] at h
    refine j_aload_n C dX5_isAtEnd_0 rfl 0 rfl ?_
    refine j_getI C dX5_isAtEnd_1 rfl lkX5_39 is_93 rfl ?_
    refine j_aload_n C dX5_isAtEnd_4 rfl 0 rfl ?_
    refine j_getI C dX5_isAtEnd_5 rfl lkX5_9 is_93 rfl ?_
    refine j_icmp_ge (tgt := 38) C dX5_isAtEnd_8 rfl (by decide) (fun c1_ => ?_) (fun c1_ => ?_)
    · replace h := if_t h c1_
      refine j_lv [0] rfl ?_
      exact (Hkx38) μ h
    · replace h := if_f h c1_
      refine j_aload_n C dX5_isAtEnd_11 rfl 0 rfl ?_
      refine j_getR (c := 103) C dX5_isAtEnd_12 rfl lkX5_35 is_93 rfl ?_
      refine j_aload_n C dX5_isAtEnd_15 rfl 0 rfl ?_
      refine j_getI C dX5_isAtEnd_16 rfl lkX5_39 is_93 rfl ?_
      replace h := gd_e h
      obtain ⟨g2_, h⟩ := h
      refine j_cald C dX5_isAtEnd_19 rfl is_103 g2_ ?_
      refine j_bipush (v := 32) C dX5_isAtEnd_20 rfl (by decide) ?_
      refine j_icmp_ne (tgt := 38) C dX5_isAtEnd_22 rfl (by decide) (fun c3_ => ?_) (fun c3_ => ?_)
      · replace h := if_f h c3_
        refine j_lv [0] rfl ?_
        exact (Hkx38) μ h
      · replace h := if_t h c3_
        refine j_aload_n C dX5_isAtEnd_25 rfl 0 rfl ?_
        refine j_dup C dX5_isAtEnd_26 rfl rfl ?_
        refine j_getI C dX5_isAtEnd_27 rfl lkX5_39 is_93 rfl ?_
        refine j_iconst (v := 1) C dX5_isAtEnd_30 rfl (by decide) ?_
        refine j_iadd C dX5_isAtEnd_31 rfl ?_
        refine j_putI C dX5_isAtEnd_32 rfl lpX5_39 is_93 rfl ?_
        refine j_mem (fun μ4_ e5_ => ?_)
        replace h := zl_u h e5_
        refine j_goto (pc' := 0) C dX5_isAtEnd_35 (by decide) ?_
        refine j_lv [0] rfl ?_
        exact (ih) μ4_ h
def f_X5_isAtEnd (μ : Mem) : Option (Int32 × Mem) := f_X5_isAtEnd_0 (fun μ => f_X5_isAtEnd_38 μ) zfu μ
set_option maxHeartbeats 4000000 in
set_option maxRecDepth 100000 in
theorem w_X5_isAtEnd {Γ : jG} (C : jC Γ 1 cX5_isAtEnd RX5 rmX5_isAtEnd) {ρ : Int32 × Mem} (E : (isB ρ.1 = true → jEI Γ cX5_isAtEnd ρ.1 ρ.2)) (μ : Mem) (h : f_X5_isAtEnd μ = some ρ) : jJ Γ 1 0 [(0, .ref 93)] [] μ := by
  unfold f_X5_isAtEnd at h
  refine j_lv [0] rfl ?_
  exact w_X5_isAtEnd_0 C E (fun μ h => w_X5_isAtEnd_38 C E μ h) zfu μ h
set_option maxRecDepth 100000 in
theorem c_X5_isAtEnd (l : Launch) (D : va_G) (ad : Nat → Nat) (cl : Nat → ClassId) (μ : Mem) (ρ : Int32 × Mem) (h : f_X5_isAtEnd μ = some ρ) : CI l D ad cl yX5_isAtEnd wsX5_isAtEnd rmX5_isAtEnd [.ref 93] μ ρ.1 ρ.2 := c_ofZ (cc := cX5_isAtEnd) (nL := 1) rfl (by decide) (Nat.le_of_ble_eq_true rfl) (fun Γ C E => w_X5_isAtEnd C E μ h)
theorem gvX5_49 : jm_gv RX5 49 RX5 yX5_isAtEnd wsX5_isAtEnd 1 0 := ⟨_, _, gi_V gwt2_179 gwt2_181 gwp1_3 gwt1_6 gwt2_182, rfl, by decide +kernel⟩
theorem gvX5_98 : jm_gv RX5 98 RX5 yX5_refuse wsX5_refuse 2 1 := ⟨_, _, gi_V gwt3_38 gwt3_40 gwp1_6 gwt1_6 gwt3_41, rfl, by decide +kernel⟩
/-! X5_answer -/
def wsX5_answer : List Cond := .code yX5_answer cX5_answer 2 (some .int) :: G0
def rmX5_answer : Room := { frames := 1, cells := 0, slots := 0, locals := 21 }
def f_X5_answer_15 (a1 : Int32) (μ : Mem) : Option (Int32 × Mem) := (if 0 ≤ (μ.1 93 8) then some ((-20) - (μ.1 93 8), μ) else some (a1, μ))
set_option maxHeartbeats 4000000 in
set_option maxRecDepth 100000 in
theorem w_X5_answer_15 {Γ : jG} (C : jC Γ 2 cX5_answer RX5 rmX5_answer) {a1 : Int32} {ρ : Int32 × Mem} (E : jEI Γ cX5_answer ρ.1 ρ.2) (μ : Mem) (h : f_X5_answer_15 a1 μ = some ρ) : jJ Γ 2 15 [(0, .ref 93), (1, .int a1)] [] μ := by
  unfold f_X5_answer_15 at h
  refine j_aload_n C dX5_answer_15 rfl 0 rfl ?_
  refine j_getI C dX5_answer_16 rfl lkX5_42 is_93 rfl ?_
  refine j_if_ge (tgt := 26) C dX5_answer_19 rfl (by decide) (fun c1_ => ?_) (fun c1_ => ?_)
  · replace h := if_t h c1_
    refine j_bipush (v := (-20)) C dX5_answer_26 rfl (by decide) ?_
    refine j_aload_n C dX5_answer_28 rfl 0 rfl ?_
    refine j_getI C dX5_answer_29 rfl lkX5_42 is_93 rfl ?_
    refine j_isub C dX5_answer_32 rfl ?_
    obtain rfl := Option.some.inj h
    exact j_iret E dX5_answer_33
  · replace h := if_f h c1_
    refine j_iload_n C dX5_answer_22 rfl 1 rfl ?_
    refine j_goto (pc' := 33) C dX5_answer_23 (by decide) ?_
    obtain rfl := Option.some.inj h
    exact j_iret E dX5_answer_33
def f_X5_answer (a1 : Int32) (μ : Mem) : Option (Int32 × Mem) := Option.bind (f_X5_isAtEnd μ) fun p1_ => (if p1_.1 = 0 then Option.bind (f_X5_refuse (p1_.2.1 93 7) p1_.2) fun p4_ => f_X5_answer_15 a1 p4_ else f_X5_answer_15 a1 p1_.2)
set_option maxHeartbeats 4000000 in
set_option maxRecDepth 100000 in
theorem w_X5_answer {Γ : jG} (C : jC Γ 2 cX5_answer RX5 rmX5_answer) {a1 : Int32} {ρ : Int32 × Mem} (E : jEI Γ cX5_answer ρ.1 ρ.2) (μ : Mem) (h : f_X5_answer a1 μ = some ρ) : jJ Γ 2 0 [(0, .ref 93), (1, .int a1)] [] μ := by
  unfold f_X5_answer at h
  refine j_aload_n C dX5_answer_0 rfl 0 rfl ?_
  replace h := bd_e h
  obtain ⟨p1_, h2_, h⟩ := h
  refine j_cVI (av := []) (rest := []) C dX5_answer_1 rfl (c_X5_isAtEnd _ _ _ _ μ p1_ h2_) gvX5_49 ⟨⟨rfl, rfl⟩, Nat.le_of_ble_eq_true rfl, Nat.le_of_ble_eq_true rfl⟩ rfl is_93 rfl rfl (Nat.le_of_ble_eq_true rfl) ?_
  refine j_if_ne (tgt := 15) C dX5_answer_4 rfl (by decide) (fun c3_ => ?_) (fun c3_ => ?_)
  · replace h := if_f h c3_
    refine j_lv [0, 1] rfl ?_
    exact w_X5_answer_15 C E p1_.2 h
  · replace h := if_t h c3_
    refine j_aload_n C dX5_answer_7 rfl 0 rfl ?_
    refine j_aload_n C dX5_answer_8 rfl 0 rfl ?_
    refine j_getI C dX5_answer_9 rfl lkX5_39 is_93 rfl ?_
    replace h := bd_e h
    obtain ⟨p4_, h5_, h⟩ := h
    refine j_cVV (av := [.int (p1_.2.1 93 7)]) (rest := []) C dX5_answer_12 rfl (c_X5_refuse _ _ _ _ p1_.2 p4_ h5_) gvX5_98 ⟨⟨rfl, rfl⟩, Nat.le_of_ble_eq_true rfl, Nat.le_of_ble_eq_true rfl⟩ rfl is_93 rfl rfl (Nat.le_of_ble_eq_true rfl) ?_
    refine j_lv [0, 1] rfl ?_
    exact w_X5_answer_15 C E p4_ h
set_option maxRecDepth 100000 in
theorem c_X5_answer (l : Launch) (D : va_G) (ad : Nat → Nat) (cl : Nat → ClassId) {a1 : Int32} (μ : Mem) (ρ : Int32 × Mem) (h : f_X5_answer a1 μ = some ρ) : CI l D ad cl yX5_answer wsX5_answer rmX5_answer [.ref 93, .int a1] μ ρ.1 ρ.2 := c_ofI (cc := cX5_answer) (nL := 2) rfl (by decide) (Nat.le_of_ble_eq_true rfl) (fun Γ C E => w_X5_answer C E μ h)
/-! X5_refuseEnd -/
def wsX5_refuseEnd : List Cond := .code yX5_refuseEnd cX5_refuseEnd 1 none :: G0
def rmX5_refuseEnd : Room := { frames := 1, cells := 0, slots := 0, locals := 21 }
def f_X5_refuseEnd (μ : Mem) : Option (Mem) := Option.bind (f_X5_isAtEnd μ) fun p1_ => (if p1_.1 = 0 then some p1_.2 else Option.bind (f_X5_refuse (p1_.2.1 93 0) p1_.2) fun p4_ => some p4_)
set_option maxHeartbeats 4000000 in
set_option maxRecDepth 100000 in
theorem w_X5_refuseEnd {Γ : jG} (C : jC Γ 1 cX5_refuseEnd RX5 rmX5_refuseEnd) {ρ : Mem} (E : jEV Γ cX5_refuseEnd ρ) (μ : Mem) (h : f_X5_refuseEnd μ = some ρ) : jJ Γ 1 0 [(0, .ref 93)] [] μ := by
  unfold f_X5_refuseEnd at h
  refine j_aload_n C dX5_refuseEnd_0 rfl 0 rfl ?_
  replace h := bd_e h
  obtain ⟨p1_, h2_, h⟩ := h
  refine j_cVI (av := []) (rest := []) C dX5_refuseEnd_1 rfl (c_X5_isAtEnd _ _ _ _ μ p1_ h2_) gvX5_49 ⟨⟨rfl, rfl⟩, Nat.le_of_ble_eq_true rfl, Nat.le_of_ble_eq_true rfl⟩ rfl is_93 rfl rfl (Nat.le_of_ble_eq_true rfl) ?_
  refine j_if_eq (tgt := 15) C dX5_refuseEnd_4 rfl (by decide) (fun c3_ => ?_) (fun c3_ => ?_)
  · replace h := if_t h c3_
    obtain rfl := Option.some.inj h
    exact j_vret E dX5_refuseEnd_15
  · replace h := if_f h c3_
    refine j_aload_n C dX5_refuseEnd_7 rfl 0 rfl ?_
    refine j_aload_n C dX5_refuseEnd_8 rfl 0 rfl ?_
    refine j_getI C dX5_refuseEnd_9 rfl lkX5_9 is_93 rfl ?_
    replace h := bd_e h
    obtain ⟨p4_, h5_, h⟩ := h
    refine j_cVV (av := [.int (p1_.2.1 93 0)]) (rest := []) C dX5_refuseEnd_12 rfl (c_X5_refuse _ _ _ _ p1_.2 p4_ h5_) gvX5_98 ⟨⟨rfl, rfl⟩, Nat.le_of_ble_eq_true rfl, Nat.le_of_ble_eq_true rfl⟩ rfl is_93 rfl rfl (Nat.le_of_ble_eq_true rfl) ?_
    obtain rfl := Option.some.inj h
    exact j_vret E dX5_refuseEnd_15
set_option maxRecDepth 100000 in
theorem c_X5_refuseEnd (l : Launch) (D : va_G) (ad : Nat → Nat) (cl : Nat → ClassId) (μ : Mem) (ρ : Mem) (h : f_X5_refuseEnd μ = some ρ) : CV l D ad cl yX5_refuseEnd wsX5_refuseEnd rmX5_refuseEnd [.ref 93] μ ρ := c_ofV (cc := cX5_refuseEnd) (nL := 1) rfl (by decide) (Nat.le_of_ble_eq_true rfl) (fun Γ C E => w_X5_refuseEnd C E μ h)
/-! X5_isNext -/
def wsX5_isNext : List Cond := .code yX5_isNext cX5_isNext 2 (some .boolean) :: G0
def rmX5_isNext : Room := { frames := 1, cells := 0, slots := 0, locals := 20 }
def f_X5_isNext (a1 : Int32) (μ : Mem) : Option (Int32 × Mem) := Option.bind (f_X5_isAtEnd μ) fun p1_ => (if p1_.1 = 0 then gd (inb (p1_.2.1 93 7) 160) <| (if (p1_.2.1 103 (Int32.toNatClampNeg (p1_.2.1 93 7))) = a1 then some (1, p1_.2) else some (0, p1_.2)) else some (0, p1_.2))
set_option maxHeartbeats 4000000 in
set_option maxRecDepth 100000 in
theorem w_X5_isNext {Γ : jG} (C : jC Γ 2 cX5_isNext RX5 rmX5_isNext) {a1 : Int32} {ρ : Int32 × Mem} (E : (isB ρ.1 = true → jEI Γ cX5_isNext ρ.1 ρ.2)) (μ : Mem) (h : f_X5_isNext a1 μ = some ρ) : jJ Γ 2 0 [(0, .ref 93), (1, .int a1)] [] μ := by
  unfold f_X5_isNext at h
  refine j_aload_n C dX5_isNext_0 rfl 0 rfl ?_
  replace h := bd_e h
  obtain ⟨p1_, h2_, h⟩ := h
  refine j_cVI (av := []) (rest := []) C dX5_isNext_1 rfl (c_X5_isAtEnd _ _ _ _ μ p1_ h2_) gvX5_49 ⟨⟨rfl, rfl⟩, Nat.le_of_ble_eq_true rfl, Nat.le_of_ble_eq_true rfl⟩ rfl is_93 rfl rfl (Nat.le_of_ble_eq_true rfl) ?_
  refine j_if_ne (tgt := 24) C dX5_isNext_4 rfl (by decide) (fun c3_ => ?_) (fun c3_ => ?_)
  · replace h := if_f h c3_
    refine j_iconst (v := 0) C dX5_isNext_24 rfl (by decide) ?_
    obtain rfl := Option.some.inj h
    exact j_iret (E isB_0) dX5_isNext_25
  · replace h := if_t h c3_
    refine j_aload_n C dX5_isNext_7 rfl 0 rfl ?_
    refine j_getR (c := 103) C dX5_isNext_8 rfl lkX5_35 is_93 rfl ?_
    refine j_aload_n C dX5_isNext_11 rfl 0 rfl ?_
    refine j_getI C dX5_isNext_12 rfl lkX5_39 is_93 rfl ?_
    replace h := gd_e h
    obtain ⟨g4_, h⟩ := h
    refine j_cald C dX5_isNext_15 rfl is_103 g4_ ?_
    refine j_iload_n C dX5_isNext_16 rfl 1 rfl ?_
    refine j_icmp_ne (tgt := 24) C dX5_isNext_17 rfl (by decide) (fun c5_ => ?_) (fun c5_ => ?_)
    · replace h := if_f h c5_
      refine j_iconst (v := 0) C dX5_isNext_24 rfl (by decide) ?_
      obtain rfl := Option.some.inj h
      exact j_iret (E isB_0) dX5_isNext_25
    · replace h := if_t h c5_
      refine j_iconst (v := 1) C dX5_isNext_20 rfl (by decide) ?_
      refine j_goto (pc' := 25) C dX5_isNext_21 (by decide) ?_
      obtain rfl := Option.some.inj h
      exact j_iret (E isB_1) dX5_isNext_25
set_option maxRecDepth 100000 in
theorem c_X5_isNext (l : Launch) (D : va_G) (ad : Nat → Nat) (cl : Nat → ClassId) {a1 : Int32} (μ : Mem) (ρ : Int32 × Mem) (h : f_X5_isNext a1 μ = some ρ) : CI l D ad cl yX5_isNext wsX5_isNext rmX5_isNext [.ref 93, .int a1] μ ρ.1 ρ.2 := c_ofZ (cc := cX5_isNext) (nL := 2) rfl (by decide) (Nat.le_of_ble_eq_true rfl) (fun Γ C E => w_X5_isNext C E μ h)
theorem gvX5_91 : jm_gv RX5 91 RX5 yX5_isNext wsX5_isNext 2 1 := ⟨_, _, gi_V gwt3_50 gwt3_52 gwp1_8 gwt1_6 gwt3_53, rfl, by decide +kernel⟩
/-! X5_pass -/
def wsX5_pass : List Cond := .code yX5_pass cX5_pass 2 none :: G0
def rmX5_pass : Room := { frames := 2, cells := 0, slots := 0, locals := 41 }
def f_X5_pass_28 (a1 : Int32) (μ : Mem) : Option (Mem) := Option.bind (f_X5_refuse (μ.1 93 7) μ) fun p1_ => some p1_
set_option maxHeartbeats 4000000 in
set_option maxRecDepth 100000 in
theorem w_X5_pass_28 {Γ : jG} (C : jC Γ 2 cX5_pass RX5 rmX5_pass) {a1 : Int32} {ρ : Mem} (E : jEV Γ cX5_pass ρ) (μ : Mem) (h : f_X5_pass_28 a1 μ = some ρ) : jJ Γ 2 28 [(0, .ref 93)] [] μ := by
  unfold f_X5_pass_28 at h
  refine j_aload_n C dX5_pass_28 rfl 0 rfl ?_
  refine j_aload_n C dX5_pass_29 rfl 0 rfl ?_
  refine j_getI C dX5_pass_30 rfl lkX5_39 is_93 rfl ?_
  replace h := bd_e h
  obtain ⟨p1_, h2_, h⟩ := h
  refine j_cVV (av := [.int (μ.1 93 7)]) (rest := []) C dX5_pass_33 rfl (c_X5_refuse _ _ _ _ μ p1_ h2_) gvX5_98 ⟨⟨rfl, rfl⟩, Nat.le_of_ble_eq_true rfl, Nat.le_of_ble_eq_true rfl⟩ rfl is_93 rfl rfl (Nat.le_of_ble_eq_true rfl) ?_
  obtain rfl := Option.some.inj h
  exact j_vret E dX5_pass_36
def f_X5_pass (a1 : Int32) (μ : Mem) : Option (Mem) := (if 0 ≤ (μ.1 93 8) then f_X5_pass_28 a1 μ else Option.bind (f_X5_isNext a1 μ) fun p2_ => (if p2_.1 = 0 then f_X5_pass_28 a1 p2_.2 else zl (sI p2_.2 93 7 ((p2_.2.1 93 7) + 1)) fun μ5_ => some μ5_))
set_option maxHeartbeats 4000000 in
set_option maxRecDepth 100000 in
theorem w_X5_pass {Γ : jG} (C : jC Γ 2 cX5_pass RX5 rmX5_pass) {a1 : Int32} {ρ : Mem} (E : jEV Γ cX5_pass ρ) (μ : Mem) (h : f_X5_pass a1 μ = some ρ) : jJ Γ 2 0 [(0, .ref 93), (1, .int a1)] [] μ := by
  unfold f_X5_pass at h
  refine j_aload_n C dX5_pass_0 rfl 0 rfl ?_
  refine j_getI C dX5_pass_1 rfl lkX5_42 is_93 rfl ?_
  refine j_if_ge (tgt := 28) C dX5_pass_4 rfl (by decide) (fun c1_ => ?_) (fun c1_ => ?_)
  · replace h := if_t h c1_
    refine j_lv [0] rfl ?_
    exact w_X5_pass_28 C E μ h
  · replace h := if_f h c1_
    refine j_aload_n C dX5_pass_7 rfl 0 rfl ?_
    refine j_iload_n C dX5_pass_8 rfl 1 rfl ?_
    replace h := bd_e h
    obtain ⟨p2_, h3_, h⟩ := h
    refine j_cVI (av := [.int a1]) (rest := []) C dX5_pass_9 rfl (c_X5_isNext _ _ _ _ μ p2_ h3_) gvX5_91 ⟨⟨rfl, rfl⟩, Nat.le_of_ble_eq_true rfl, Nat.le_of_ble_eq_true rfl⟩ rfl is_93 rfl rfl (Nat.le_of_ble_eq_true rfl) ?_
    refine j_if_eq (tgt := 28) C dX5_pass_12 rfl (by decide) (fun c4_ => ?_) (fun c4_ => ?_)
    · replace h := if_t h c4_
      refine j_lv [0] rfl ?_
      exact w_X5_pass_28 C E p2_.2 h
    · replace h := if_f h c4_
      refine j_aload_n C dX5_pass_15 rfl 0 rfl ?_
      refine j_dup C dX5_pass_16 rfl rfl ?_
      refine j_getI C dX5_pass_17 rfl lkX5_39 is_93 rfl ?_
      refine j_iconst (v := 1) C dX5_pass_20 rfl (by decide) ?_
      refine j_iadd C dX5_pass_21 rfl ?_
      refine j_putI C dX5_pass_22 rfl lpX5_39 is_93 rfl ?_
      refine j_mem (fun μ5_ e6_ => ?_)
      replace h := zl_u h e6_
      refine j_goto (pc' := 36) C dX5_pass_25 (by decide) ?_
      obtain rfl := Option.some.inj h
      exact j_vret E dX5_pass_36
set_option maxRecDepth 100000 in
theorem c_X5_pass (l : Launch) (D : va_G) (ad : Nat → Nat) (cl : Nat → ClassId) {a1 : Int32} (μ : Mem) (ρ : Mem) (h : f_X5_pass a1 μ = some ρ) : CV l D ad cl yX5_pass wsX5_pass rmX5_pass [.ref 93, .int a1] μ ρ := c_ofV (cc := cX5_pass) (nL := 2) rfl (by decide) (Nat.le_of_ble_eq_true rfl) (fun Γ C E => w_X5_pass C E μ h)
/-! X5_begin -/
def wsX5_begin : List Cond := .code yX5_begin cX5_begin 1 none :: G0
def rmX5_begin : Room := { frames := 0, cells := 0, slots := 0, locals := 0 }
def f_X5_begin (μ : Mem) : Option (Mem) := zl (sI μ 93 7 0) fun μ1_ => zl (sI μ1_ 93 8 (-1)) fun μ3_ => some μ3_
set_option maxHeartbeats 4000000 in
set_option maxRecDepth 100000 in
theorem w_X5_begin {Γ : jG} (C : jC Γ 1 cX5_begin RX5 rmX5_begin) {ρ : Mem} (E : jEV Γ cX5_begin ρ) (μ : Mem) (h : f_X5_begin μ = some ρ) : jJ Γ 1 0 [(0, .ref 93)] [] μ := by
  unfold f_X5_begin at h
  refine j_aload_n C dX5_begin_0 rfl 0 rfl ?_
  refine j_iconst (v := 0) C dX5_begin_1 rfl (by decide) ?_
  refine j_putI C dX5_begin_2 rfl lpX5_39 is_93 rfl ?_
  refine j_mem (fun μ1_ e2_ => ?_)
  replace h := zl_u h e2_
  refine j_aload_n C dX5_begin_5 rfl 0 rfl ?_
  refine j_iconst (v := (-1)) C dX5_begin_6 rfl (by decide) ?_
  refine j_putI C dX5_begin_7 rfl lpX5_42 is_93 rfl ?_
  refine j_mem (fun μ3_ e4_ => ?_)
  replace h := zl_u h e4_
  obtain rfl := Option.some.inj h
  exact j_vret E dX5_begin_10
set_option maxRecDepth 100000 in
theorem c_X5_begin (l : Launch) (D : va_G) (ad : Nat → Nat) (cl : Nat → ClassId) (μ : Mem) (ρ : Mem) (h : f_X5_begin μ = some ρ) : CV l D ad cl yX5_begin wsX5_begin rmX5_begin [.ref 93] μ ρ := c_ofV (cc := cX5_begin) (nL := 1) rfl (by decide) (Nat.le_of_ble_eq_true rfl) (fun Γ C E => w_X5_begin C E μ h)
/-! X5_isDigit -/
def wsX5_isDigit : List Cond := .code yX5_isDigit cX5_isDigit 1 (some .boolean) :: G0
def rmX5_isDigit : Room := { frames := 0, cells := 0, slots := 0, locals := 0 }
def f_X5_isDigit (a0 : Int32) (μ : Mem) : Option (Int32 × Mem) := (if a0 < 48 then some (0, μ) else (if 57 < a0 then some (0, μ) else some (1, μ)))
set_option maxHeartbeats 4000000 in
set_option maxRecDepth 100000 in
theorem w_X5_isDigit {Γ : jG} (C : jC Γ 1 cX5_isDigit RX5 rmX5_isDigit) {a0 : Int32} {ρ : Int32 × Mem} (E : (isB ρ.1 = true → jEI Γ cX5_isDigit ρ.1 ρ.2)) (μ : Mem) (h : f_X5_isDigit a0 μ = some ρ) : jJ Γ 1 0 [(0, .int a0)] [] μ := by
  unfold f_X5_isDigit at h
  refine j_iload_n C dX5_isDigit_0 rfl 0 rfl ?_
  refine j_bipush (v := 48) C dX5_isDigit_1 rfl (by decide) ?_
  refine j_icmp_lt (tgt := 16) C dX5_isDigit_3 rfl (by decide) (fun c1_ => ?_) (fun c1_ => ?_)
  · replace h := if_t h c1_
    refine j_iconst (v := 0) C dX5_isDigit_16 rfl (by decide) ?_
    obtain rfl := Option.some.inj h
    exact j_iret (E isB_0) dX5_isDigit_17
  · replace h := if_f h c1_
    refine j_iload_n C dX5_isDigit_6 rfl 0 rfl ?_
    refine j_bipush (v := 57) C dX5_isDigit_7 rfl (by decide) ?_
    refine j_icmp_gt (tgt := 16) C dX5_isDigit_9 rfl (by decide) (fun c2_ => ?_) (fun c2_ => ?_)
    · replace h := if_t h c2_
      refine j_iconst (v := 0) C dX5_isDigit_16 rfl (by decide) ?_
      obtain rfl := Option.some.inj h
      exact j_iret (E isB_0) dX5_isDigit_17
    · replace h := if_f h c2_
      refine j_iconst (v := 1) C dX5_isDigit_12 rfl (by decide) ?_
      refine j_goto (pc' := 17) C dX5_isDigit_13 (by decide) ?_
      obtain rfl := Option.some.inj h
      exact j_iret (E isB_1) dX5_isDigit_17
set_option maxRecDepth 100000 in
theorem c_X5_isDigit (l : Launch) (D : va_G) (ad : Nat → Nat) (cl : Nat → ClassId) {a0 : Int32} (μ : Mem) (ρ : Int32 × Mem) (h : f_X5_isDigit a0 μ = some ρ) : CI l D ad cl yX5_isDigit wsX5_isDigit rmX5_isDigit [.int a0] μ ρ.1 ρ.2 := c_ofZ (cc := cX5_isDigit) (nL := 1) rfl (by decide) (Nat.le_of_ble_eq_true rfl) (fun Γ C E => w_X5_isDigit C E μ h)
theorem gsX5_106 : jm_gs RX5 106 yX5_isDigit wsX5_isDigit 1 1 := ⟨_, _, gi_S gwt3_90 gwt3_91 gwt1_6 gwt3_92, rfl, by decide +kernel⟩
/-! X5_readNumber -/
def wsX5_readNumber : List Cond := .code yX5_readNumber cX5_readNumber 4 (some .int) :: G0
def rmX5_readNumber : Room := { frames := 1, cells := 0, slots := 0, locals := 40 }
def f_X5_readNumber_109 (a1 : Int32) (x2 : Int32) (x3 : Int32) (μ : Mem) : Option (Int32 × Mem) := (if x3 ≤ a1 then some (x3, μ) else Option.bind (f_X5_refuse x2 μ) fun p2_ => some (x3, p2_))
set_option maxHeartbeats 4000000 in
set_option maxRecDepth 100000 in
theorem w_X5_readNumber_109 {Γ : jG} (C : jC Γ 4 cX5_readNumber RX5 rmX5_readNumber) {a1 : Int32} {ρ : Int32 × Mem} (E : jEI Γ cX5_readNumber ρ.1 ρ.2) (x2 : Int32) (x3 : Int32) (μ : Mem) (h : f_X5_readNumber_109 a1 x2 x3 μ = some ρ) : jJ Γ 4 109 [(0, .ref 93), (1, .int a1), (2, .int x2), (3, .int x3)] [] μ := by
  unfold f_X5_readNumber_109 at h
  refine j_iload_n C dX5_readNumber_109 rfl 3 rfl ?_
  refine j_iload_n C dX5_readNumber_110 rfl 1 rfl ?_
  refine j_icmp_le (tgt := 119) C dX5_readNumber_111 rfl (by decide) (fun c1_ => ?_) (fun c1_ => ?_)
  · replace h := if_t h c1_
    refine j_iload_n C dX5_readNumber_119 rfl 3 rfl ?_
    obtain rfl := Option.some.inj h
    exact j_iret E dX5_readNumber_120
  · replace h := if_f h c1_
    refine j_aload_n C dX5_readNumber_114 rfl 0 rfl ?_
    refine j_iload_n C dX5_readNumber_115 rfl 2 rfl ?_
    replace h := bd_e h
    obtain ⟨p2_, h3_, h⟩ := h
    refine j_cVV (av := [.int x2]) (rest := []) C dX5_readNumber_116 rfl (c_X5_refuse _ _ _ _ μ p2_ h3_) gvX5_98 ⟨⟨rfl, rfl⟩, Nat.le_of_ble_eq_true rfl, Nat.le_of_ble_eq_true rfl⟩ rfl is_93 rfl rfl (Nat.le_of_ble_eq_true rfl) ?_
    refine j_iload_n C dX5_readNumber_119 rfl 3 rfl ?_
    obtain rfl := Option.some.inj h
    exact j_iret E dX5_readNumber_120
def f_X5_readNumber_46 (a1 : Int32) (kx109 : Int32 → Int32 → Mem → Option (Int32 × Mem)) : Nat → Int32 → Int32 → Mem → Option (Int32 × Mem)
  | 0, _, _, _ => none
  | n + 1, x2, x3, μ => (if (μ.1 93 0) ≤ (μ.1 93 7) then kx109 x2 x3 μ else gd (inb (μ.1 93 7) 160) <| Option.bind (f_X5_isDigit (μ.1 103 (Int32.toNatClampNeg (μ.1 93 7))) μ) fun p3_ => (if p3_.1 = 0 then kx109 x2 x3 p3_.2 else gd (inb (p3_.2.1 93 7) 160) <| zl (if (a1 + 1) < (((x3 * 10) + (p3_.2.1 103 (Int32.toNatClampNeg (p3_.2.1 93 7)))) - 48) then (a1 + 1) else (((x3 * 10) + (p3_.2.1 103 (Int32.toNatClampNeg (p3_.2.1 93 7)))) - 48)) fun x7_ => zl (sI p3_.2 93 7 ((p3_.2.1 93 7) + 1)) fun μ9_ => f_X5_readNumber_46 a1 kx109 n x2 x7_ μ9_))
set_option maxHeartbeats 4000000 in
set_option maxRecDepth 100000 in
theorem w_X5_readNumber_46 {Γ : jG} (C : jC Γ 4 cX5_readNumber RX5 rmX5_readNumber) {a1 : Int32} {kx109 : Int32 → Int32 → Mem → Option (Int32 × Mem)} {ρ : Int32 × Mem} (E : jEI Γ cX5_readNumber ρ.1 ρ.2) (Hkx109 : ∀ (x2 : Int32) (x3 : Int32) (μ : Mem), kx109 x2 x3 μ = some ρ → jJ Γ 4 109 [(0, .ref 93), (1, .int a1), (2, .int x2), (3, .int x3)] [] μ) : ∀ (n : Nat) (x2 : Int32) (x3 : Int32) (μ : Mem), f_X5_readNumber_46 a1 kx109 n x2 x3 μ = some ρ → jJ Γ 4 46 [(0, .ref 93), (1, .int a1), (2, .int x2), (3, .int x3)] [] μ := by
  intro n
  induction n with
  | zero => intro x2 x3 μ h; rw [f_X5_readNumber_46] at h; cases h
  | succ n ih =>
    intro x2 x3 μ h
    rw [f_X5_readNumber_46] at h
    refine j_aload_n C dX5_readNumber_46 rfl 0 rfl ?_
    refine j_getI C dX5_readNumber_47 rfl lkX5_39 is_93 rfl ?_
    refine j_aload_n C dX5_readNumber_50 rfl 0 rfl ?_
    refine j_getI C dX5_readNumber_51 rfl lkX5_9 is_93 rfl ?_
    refine j_icmp_ge (tgt := 109) C dX5_readNumber_54 rfl (by decide) (fun c1_ => ?_) (fun c1_ => ?_)
    · replace h := if_t h c1_
      refine j_lv [0, 1, 2, 3] rfl ?_
      exact (Hkx109) x2 x3 μ h
    · replace h := if_f h c1_
      refine j_aload_n C dX5_readNumber_57 rfl 0 rfl ?_
      refine j_getR (c := 103) C dX5_readNumber_58 rfl lkX5_35 is_93 rfl ?_
      refine j_aload_n C dX5_readNumber_61 rfl 0 rfl ?_
      refine j_getI C dX5_readNumber_62 rfl lkX5_39 is_93 rfl ?_
      replace h := gd_e h
      obtain ⟨g2_, h⟩ := h
      refine j_cald C dX5_readNumber_65 rfl is_103 g2_ ?_
      replace h := bd_e h
      obtain ⟨p3_, h4_, h⟩ := h
      refine j_cSI (av := [.int (μ.1 103 (Int32.toNatClampNeg (μ.1 93 7)))]) (rest := []) C dX5_readNumber_66 rfl (c_X5_isDigit _ _ _ _ μ p3_ h4_) gsX5_106 ⟨⟨rfl, rfl⟩, Nat.le_of_ble_eq_true rfl, Nat.le_of_ble_eq_true rfl⟩ rfl rfl (Nat.le_of_ble_eq_true rfl) ?_
      refine j_if_eq (tgt := 109) C dX5_readNumber_69 rfl (by decide) (fun c5_ => ?_) (fun c5_ => ?_)
      · replace h := if_t h c5_
        refine j_lv [0, 1, 2, 3] rfl ?_
        exact (Hkx109) x2 x3 p3_.2 h
      · replace h := if_f h c5_
        refine j_iload_n C dX5_readNumber_72 rfl 3 rfl ?_
        refine j_bipush (v := 10) C dX5_readNumber_73 rfl (by decide) ?_
        refine j_imul C dX5_readNumber_75 rfl ?_
        refine j_aload_n C dX5_readNumber_76 rfl 0 rfl ?_
        refine j_getR (c := 103) C dX5_readNumber_77 rfl lkX5_35 is_93 rfl ?_
        refine j_aload_n C dX5_readNumber_80 rfl 0 rfl ?_
        refine j_getI C dX5_readNumber_81 rfl lkX5_39 is_93 rfl ?_
        replace h := gd_e h
        obtain ⟨g6_, h⟩ := h
        refine j_cald C dX5_readNumber_84 rfl is_103 g6_ ?_
        refine j_iadd C dX5_readNumber_85 rfl ?_
        refine j_bipush (v := 48) C dX5_readNumber_86 rfl (by decide) ?_
        refine j_isub C dX5_readNumber_88 rfl ?_
        refine j_iload_n C dX5_readNumber_89 rfl 1 rfl ?_
        refine j_iconst (v := 1) C dX5_readNumber_90 rfl (by decide) ?_
        refine j_iadd C dX5_readNumber_91 rfl ?_
        refine j_mmin C dX5_readNumber_92 rfl qmX5_109 ⟨Nat.le_of_ble_eq_true rfl, Nat.le_of_ble_eq_true rfl⟩ ?_
        refine j_topi (fun x7_ e8_ => ?_)
        replace h := zl_u h e8_
        refine j_istore_n (lv' := [(3, .int x7_), (0, .ref 93), (1, .int a1), (2, .int x2)]) C dX5_readNumber_95 rfl (by decide) rfl ?_
        refine j_aload_n C dX5_readNumber_96 rfl 1 rfl ?_
        refine j_dup C dX5_readNumber_97 rfl rfl ?_
        refine j_getI C dX5_readNumber_98 rfl lkX5_39 is_93 rfl ?_
        refine j_iconst (v := 1) C dX5_readNumber_101 rfl (by decide) ?_
        refine j_iadd C dX5_readNumber_102 rfl ?_
        refine j_putI C dX5_readNumber_103 rfl lpX5_39 is_93 rfl ?_
        refine j_mem (fun μ9_ e10_ => ?_)
        replace h := zl_u h e10_
        refine j_goto (pc' := 46) C dX5_readNumber_106 (by decide) ?_
        refine j_lv [1, 2, 3, 0] rfl ?_
        exact (ih) x2 x7_ μ9_ h
def f_X5_readNumber_29 (a1 : Int32) (μ : Mem) : Option (Int32 × Mem) := Option.bind (f_X5_refuse (μ.1 93 7) μ) fun p1_ => some (0, p1_)
set_option maxHeartbeats 4000000 in
set_option maxRecDepth 100000 in
theorem w_X5_readNumber_29 {Γ : jG} (C : jC Γ 4 cX5_readNumber RX5 rmX5_readNumber) {a1 : Int32} {ρ : Int32 × Mem} (E : jEI Γ cX5_readNumber ρ.1 ρ.2) (μ : Mem) (h : f_X5_readNumber_29 a1 μ = some ρ) : jJ Γ 4 29 [(0, .ref 93)] [] μ := by
  unfold f_X5_readNumber_29 at h
  refine j_aload_n C dX5_readNumber_29 rfl 0 rfl ?_
  refine j_aload_n C dX5_readNumber_30 rfl 0 rfl ?_
  refine j_getI C dX5_readNumber_31 rfl lkX5_39 is_93 rfl ?_
  replace h := bd_e h
  obtain ⟨p1_, h2_, h⟩ := h
  refine j_cVV (av := [.int (μ.1 93 7)]) (rest := []) C dX5_readNumber_34 rfl (c_X5_refuse _ _ _ _ μ p1_ h2_) gvX5_98 ⟨⟨rfl, rfl⟩, Nat.le_of_ble_eq_true rfl, Nat.le_of_ble_eq_true rfl⟩ rfl is_93 rfl rfl (Nat.le_of_ble_eq_true rfl) ?_
  refine j_iconst (v := 0) C dX5_readNumber_37 rfl (by decide) ?_
  obtain rfl := Option.some.inj h
  exact j_iret E dX5_readNumber_38
def f_X5_readNumber (a1 : Int32) (μ : Mem) : Option (Int32 × Mem) := (if 0 ≤ (μ.1 93 8) then f_X5_readNumber_29 a1 μ else Option.bind (f_X5_isAtEnd μ) fun p2_ => (if p2_.1 = 0 then gd (inb (p2_.2.1 93 7) 160) <| Option.bind (f_X5_isDigit (p2_.2.1 103 (Int32.toNatClampNeg (p2_.2.1 93 7))) p2_.2) fun p6_ => (if p6_.1 = 0 then f_X5_readNumber_29 a1 p6_.2 else zl (p6_.2.1 93 7) fun x9_ => f_X5_readNumber_46 a1 (fun x2 x3 μ => f_X5_readNumber_109 a1 x2 x3 μ) zfu x9_ 0 p6_.2) else f_X5_readNumber_29 a1 p2_.2))
set_option maxHeartbeats 4000000 in
set_option maxRecDepth 100000 in
theorem w_X5_readNumber {Γ : jG} (C : jC Γ 4 cX5_readNumber RX5 rmX5_readNumber) {a1 : Int32} {ρ : Int32 × Mem} (E : jEI Γ cX5_readNumber ρ.1 ρ.2) (μ : Mem) (h : f_X5_readNumber a1 μ = some ρ) : jJ Γ 4 0 [(0, .ref 93), (1, .int a1)] [] μ := by
  unfold f_X5_readNumber at h
  refine j_aload_n C dX5_readNumber_0 rfl 0 rfl ?_
  refine j_getI C dX5_readNumber_1 rfl lkX5_42 is_93 rfl ?_
  refine j_if_ge (tgt := 29) C dX5_readNumber_4 rfl (by decide) (fun c1_ => ?_) (fun c1_ => ?_)
  · replace h := if_t h c1_
    refine j_lv [0] rfl ?_
    exact w_X5_readNumber_29 C E μ h
  · replace h := if_f h c1_
    refine j_aload_n C dX5_readNumber_7 rfl 0 rfl ?_
    replace h := bd_e h
    obtain ⟨p2_, h3_, h⟩ := h
    refine j_cVI (av := []) (rest := []) C dX5_readNumber_8 rfl (c_X5_isAtEnd _ _ _ _ μ p2_ h3_) gvX5_49 ⟨⟨rfl, rfl⟩, Nat.le_of_ble_eq_true rfl, Nat.le_of_ble_eq_true rfl⟩ rfl is_93 rfl rfl (Nat.le_of_ble_eq_true rfl) ?_
    refine j_if_ne (tgt := 29) C dX5_readNumber_11 rfl (by decide) (fun c4_ => ?_) (fun c4_ => ?_)
    · replace h := if_f h c4_
      refine j_lv [0] rfl ?_
      exact w_X5_readNumber_29 C E p2_.2 h
    · replace h := if_t h c4_
      refine j_aload_n C dX5_readNumber_14 rfl 0 rfl ?_
      refine j_getR (c := 103) C dX5_readNumber_15 rfl lkX5_35 is_93 rfl ?_
      refine j_aload_n C dX5_readNumber_18 rfl 0 rfl ?_
      refine j_getI C dX5_readNumber_19 rfl lkX5_39 is_93 rfl ?_
      replace h := gd_e h
      obtain ⟨g5_, h⟩ := h
      refine j_cald C dX5_readNumber_22 rfl is_103 g5_ ?_
      replace h := bd_e h
      obtain ⟨p6_, h7_, h⟩ := h
      refine j_cSI (av := [.int (p2_.2.1 103 (Int32.toNatClampNeg (p2_.2.1 93 7)))]) (rest := []) C dX5_readNumber_23 rfl (c_X5_isDigit _ _ _ _ p2_.2 p6_ h7_) gsX5_106 ⟨⟨rfl, rfl⟩, Nat.le_of_ble_eq_true rfl, Nat.le_of_ble_eq_true rfl⟩ rfl rfl (Nat.le_of_ble_eq_true rfl) ?_
      refine j_if_ne (tgt := 39) C dX5_readNumber_26 rfl (by decide) (fun c8_ => ?_) (fun c8_ => ?_)
      · replace h := if_f h c8_
        refine j_aload_n C dX5_readNumber_39 rfl 0 rfl ?_
        refine j_getI C dX5_readNumber_40 rfl lkX5_39 is_93 rfl ?_
        refine j_topi (fun x9_ e10_ => ?_)
        replace h := zl_u h e10_
        refine j_istore_n (lv' := [(2, .int x9_), (0, .ref 93), (1, .int a1)]) C dX5_readNumber_43 rfl (by decide) rfl ?_
        refine j_iconst (v := 0) C dX5_readNumber_44 rfl (by decide) ?_
        refine j_istore_n (lv' := [(3, .int 0), (2, .int x9_), (0, .ref 93), (1, .int a1)]) C dX5_readNumber_45 rfl (by decide) rfl ?_
        refine j_lv [2, 3, 1, 0] rfl ?_
        exact w_X5_readNumber_46 C E (fun x2 x3 μ h => w_X5_readNumber_109 C E x2 x3 μ h) zfu x9_ 0 p6_.2 h
      · replace h := if_t h c8_
        refine j_lv [0] rfl ?_
        exact w_X5_readNumber_29 C E p6_.2 h
set_option maxRecDepth 100000 in
theorem c_X5_readNumber (l : Launch) (D : va_G) (ad : Nat → Nat) (cl : Nat → ClassId) {a1 : Int32} (μ : Mem) (ρ : Int32 × Mem) (h : f_X5_readNumber a1 μ = some ρ) : CI l D ad cl yX5_readNumber wsX5_readNumber rmX5_readNumber [.ref 93, .int a1] μ ρ.1 ρ.2 := c_ofI (cc := cX5_readNumber) (nL := 4) rfl (by decide) (Nat.le_of_ble_eq_true rfl) (fun Γ C E => w_X5_readNumber C E μ h)
