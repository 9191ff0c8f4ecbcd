/-! X8_in -/
def wsX8_in : List Cond := .code yX8_in cX8_in 6 (some .boolean) :: G0
def rmX8_in : Room := { frames := 0, cells := 0, slots := 0, locals := 0 }
def f_X8_in (a0 : Int64) (a2 : Int64) (a4 : Int64) (μ : Mem) : Option (Int32 × Mem) := (if (lg_cmp a0 a2) < 0 then some ((nI 0), μ) else (if 0 < (lg_cmp a0 a4) then some ((nI 0), μ) else some ((nI 1), μ)))
set_option maxHeartbeats 4000000 in
set_option maxRecDepth 100000 in
theorem w_X8_in {Γ : jG} (C : jC Γ 6 cX8_in RX8 rmX8_in) {a0 : Int64} {a2 : Int64} {a4 : Int64} {ρ : Int32 × Mem} (E : (isB ρ.1 = true → jEI Γ cX8_in ρ.1 ρ.2)) (μ : Mem) (h : f_X8_in a0 a2 a4 μ = some ρ) : jJ Γ 6 0 [(0, .long a0), (2, .long a2), (4, .long a4)] [] μ := by
  unfold f_X8_in at h
  refine j_lload_n C dX8_in_0 rfl 0 rfl ?_
  refine j_lload_n C dX8_in_1 rfl 1 rfl ?_
  refine j_lcmp C dX8_in_2 rfl ?_
  refine j_if_lt (tgt := 17) C dX8_in_3 rfl (by decide) (fun c1_ => ?_) (fun c1_ => ?_)
  · replace h := if_t h c1_
    refine j_iconst (v := (nI 0)) C dX8_in_17 rfl (by decide) ?_
    obtain rfl := Option.some.inj h
    exact j_iret (E isB_0) dX8_in_18
  · replace h := if_f h c1_
    refine j_lload_n C dX8_in_6 rfl 0 rfl ?_
    refine j_lload C dX8_in_7 rfl 2 rfl ?_
    refine j_lcmp C dX8_in_9 rfl ?_
    refine j_if_gt (tgt := 17) C dX8_in_10 rfl (by decide) (fun c2_ => ?_) (fun c2_ => ?_)
    · replace h := if_t h c2_
      refine j_iconst (v := (nI 0)) C dX8_in_17 rfl (by decide) ?_
      obtain rfl := Option.some.inj h
      exact j_iret (E isB_0) dX8_in_18
    · replace h := if_f h c2_
      refine j_iconst (v := (nI 1)) C dX8_in_13 rfl (by decide) ?_
      refine j_goto (pc' := 18) C dX8_in_14 (by decide) ?_
      obtain rfl := Option.some.inj h
      exact j_iret (E isB_1) dX8_in_18
set_option maxRecDepth 100000 in
theorem c_X8_in (l : Launch) (D : va_G) (ad : Nat → Nat) (cl : Nat → ClassId) {a0 : Int64} {a2 : Int64} {a4 : Int64} (μ : Mem) (ρ : Int32 × Mem) (h : f_X8_in a0 a2 a4 μ = some ρ) : CI l D ad cl yX8_in wsX8_in rmX8_in [.long a0, .long a2, .long a4] μ ρ.1 ρ.2 := c_ofZ (cc := cX8_in) (nL := 6) rfl (by decide) (Nat.le_of_ble_eq_true rfl) (fun Γ C E => w_X8_in C E μ h)
/-! X8_ones -/
def wsX8_ones : List Cond := .code yX8_ones cX8_ones 3 (some .int) :: G0
def rmX8_ones : Room := { frames := 0, cells := 0, slots := 0, locals := 0 }
def f_X8_ones_4 (a0 : Int32) : Nat → Int32 → Int32 → Mem → Option (Int32 × Mem)
  | 0, _, _, _ => none
  | n + 1, x1, x2, μ => (if (nI 9) ≤ x2 then some (x1, μ) else zl (x1 + ((a0 >>> (x2 &&& 31)) &&& (nI 1))) fun x2_ => f_X8_ones_4 a0 n x2_ (x2 + (nI 1)) μ)
set_option maxHeartbeats 4000000 in
set_option maxRecDepth 100000 in
theorem w_X8_ones_4 {Γ : jG} (C : jC Γ 3 cX8_ones RX8 rmX8_ones) {a0 : Int32} {ρ : Int32 × Mem} (E : jEI Γ cX8_ones ρ.1 ρ.2) : ∀ (n : Nat) (x1 : Int32) (x2 : Int32) (μ : Mem), f_X8_ones_4 a0 n x1 x2 μ = some ρ → jJ Γ 3 4 [(0, .int a0), (1, .int x1), (2, .int x2)] [] μ := by
  intro n
  induction n with
  | zero => intro x1 x2 μ h; rw [f_X8_ones_4] at h; cases h
  | succ n ih =>
    intro x1 x2 μ h
    rw [f_X8_ones_4] at h
    refine j_iload_n C dX8_ones_4 rfl 2 rfl ?_
    refine j_bipush (v := (nI 9)) C dX8_ones_5 rfl (by decide) ?_
    refine j_icmp_ge (tgt := 24) C dX8_ones_7 rfl (by decide) (fun c1_ => ?_) (fun c1_ => ?_)
    · replace h := if_t h c1_
      refine j_iload_n C dX8_ones_24 rfl 1 rfl ?_
      obtain rfl := Option.some.inj h
      exact j_iret E dX8_ones_25
    · replace h := if_f h c1_
      refine j_iload_n C dX8_ones_10 rfl 1 rfl ?_
      refine j_iload_n C dX8_ones_11 rfl 0 rfl ?_
      refine j_iload_n C dX8_ones_12 rfl 2 rfl ?_
      refine j_ishr C dX8_ones_13 rfl ?_
      refine j_iconst (v := (nI 1)) C dX8_ones_14 rfl (by decide) ?_
      refine j_iand C dX8_ones_15 rfl ?_
      refine j_iadd C dX8_ones_16 rfl ?_
      refine j_topi (fun x2_ e3_ => ?_)
      replace h := zl_u h e3_
      refine j_istore_n (lv' := [(1, .int x2_), (0, .int a0), (2, .int x2)]) C dX8_ones_17 rfl (by decide) rfl ?_
      refine j_iinc (d := (nI 1)) (v := x2 + (nI 1)) (lv' := [(2, .int (x2 + (nI 1))), (1, .int x2_), (0, .int a0)]) C dX8_ones_18 rfl (by decide) 2 rfl (by decide) rfl rfl ?_
      refine j_goto (pc' := 4) C dX8_ones_21 (by decide) ?_
      refine j_lv [2, 1, 0] rfl ?_
      exact (ih) x2_ (x2 + (nI 1)) μ h
def f_X8_ones (a0 : Int32) (μ : Mem) : Option (Int32 × Mem) := f_X8_ones_4 a0 zfu (nI 0) (nI 0) μ
set_option maxHeartbeats 4000000 in
set_option maxRecDepth 100000 in
theorem w_X8_ones {Γ : jG} (C : jC Γ 3 cX8_ones RX8 rmX8_ones) {a0 : Int32} {ρ : Int32 × Mem} (E : jEI Γ cX8_ones ρ.1 ρ.2) (μ : Mem) (h : f_X8_ones a0 μ = some ρ) : jJ Γ 3 0 [(0, .int a0)] [] μ := by
  unfold f_X8_ones at h
  refine j_iconst (v := (nI 0)) C dX8_ones_0 rfl (by decide) ?_
  refine j_istore_n (lv' := [(1, .int (nI 0)), (0, .int a0)]) C dX8_ones_1 rfl (by decide) rfl ?_
  refine j_iconst (v := (nI 0)) C dX8_ones_2 rfl (by decide) ?_
  refine j_istore_n (lv' := [(2, .int (nI 0)), (1, .int (nI 0)), (0, .int a0)]) C dX8_ones_3 rfl (by decide) rfl ?_
  refine j_lv [2, 1, 0] rfl ?_
  exact w_X8_ones_4 C E zfu (nI 0) (nI 0) μ h
set_option maxRecDepth 100000 in
theorem c_X8_ones (l : Launch) (D : va_G) (ad : Nat → Nat) (cl : Nat → ClassId) {a0 : Int32} (μ : Mem) (ρ : Int32 × Mem) (h : f_X8_ones a0 μ = some ρ) : CI l D ad cl yX8_ones wsX8_ones rmX8_ones [.int a0] μ ρ.1 ρ.2 := c_ofI (cc := cX8_ones) (nL := 3) rfl (by decide) (Nat.le_of_ble_eq_true rfl) (fun Γ C E => w_X8_ones C E μ h)
theorem gsX8_51 : jm_gs RX8 51 yX8_in wsX8_in 6 3 := ⟨_, _, gi_S gwt5_28 gwt5_29 gwt1_9 gwt5_30, rfl, by decide +kernel⟩
/-! X8_isRock -/
def wsX8_isRock : List Cond := .code yX8_isRock cX8_isRock 2 (some .boolean) :: G0
def rmX8_isRock : Room := { frames := 1, cells := 0, slots := 0, locals := 25 }
def f_X8_isRock (a1 : Int32) (μ : Mem) : Option (Int32 × Mem) := gd (inb (nI 0) 1829) <| Option.bind (f_X8_in (Int32.toInt64 a1) 0 (Int32.toInt64 ((μ.1 114 (Int32.toNatClampNeg (nI 0))) - (nI 1))) μ) fun p2_ => gd (isB p2_.1) <| some (p2_.1, p2_.2)
set_option maxHeartbeats 4000000 in
set_option maxRecDepth 100000 in
theorem w_X8_isRock {Γ : jG} (C : jC Γ 2 cX8_isRock RX8 rmX8_isRock) {a1 : Int32} {ρ : Int32 × Mem} (E : (isB ρ.1 = true → jEI Γ cX8_isRock ρ.1 ρ.2)) (μ : Mem) (h : f_X8_isRock a1 μ = some ρ) : jJ Γ 2 0 [(0, .ref 113), (1, .int a1)] [] μ := by
  unfold f_X8_isRock at h
  refine j_iload_n C dX8_isRock_0 rfl 1 rfl ?_
  refine j_i2l C dX8_isRock_1 rfl ?_
  refine j_lconst (v := 0) C dX8_isRock_2 rfl (by decide) ?_
  refine j_aload_n C dX8_isRock_3 rfl 0 rfl ?_
  refine j_getR (c := 114) C dX8_isRock_4 rfl lkX8_7 is_113 rfl ?_
  refine j_iconst (v := (nI 0)) C dX8_isRock_7 rfl (by decide) ?_
  replace h := gd_e h
  obtain ⟨g1_, h⟩ := h
  refine j_iald C dX8_isRock_8 rfl is_114 g1_ ?_
  refine j_iconst (v := (nI 1)) C dX8_isRock_9 rfl (by decide) ?_
  refine j_isub C dX8_isRock_10 rfl ?_
  refine j_i2l C dX8_isRock_11 rfl ?_
  replace h := bd_e h
  obtain ⟨p2_, h3_, h⟩ := h
  refine j_cSI (av := [.long (Int32.toInt64 a1), .long 0, .long (Int32.toInt64 ((μ.1 114 (Int32.toNatClampNeg (nI 0))) - (nI 1)))]) (rest := []) C dX8_isRock_12 rfl (c_X8_in _ _ _ _ μ p2_ h3_) gsX8_51 ⟨⟨rfl, rfl⟩, Nat.le_of_ble_eq_true rfl, Nat.le_of_ble_eq_true rfl⟩ rfl rfl (Nat.le_of_ble_eq_true rfl) ?_
  replace h := gd_e h
  obtain ⟨g4_, h⟩ := h
  obtain rfl := Option.some.inj h
  exact j_iret (E g4_) dX8_isRock_15
set_option maxRecDepth 100000 in
theorem c_X8_isRock (l : Launch) (D : va_G) (ad : Nat → Nat) (cl : Nat → ClassId) {a1 : Int32} (μ : Mem) (ρ : Int32 × Mem) (h : f_X8_isRock a1 μ = some ρ) : CI l D ad cl yX8_isRock wsX8_isRock rmX8_isRock [.ref 113, .int a1] μ ρ.1 ρ.2 := c_ofZ (cc := cX8_isRock) (nL := 2) rfl (by decide) (Nat.le_of_ble_eq_true rfl) (fun Γ C E => w_X8_isRock C E μ h)
/-! X8_clears -/
def wsX8_clears : List Cond := .code yX8_clears cX8_clears 3 none :: G0
def rmX8_clears : Room := { frames := 0, cells := 0, slots := 0, locals := 0 }
def f_X8_clears_2 (k0 : Nat) (a1 : Int32) : Nat → Int32 → Mem → Option (Mem)
  | 0, _, _ => none
  | n + 1, x2, μ => (if (nI 19) ≤ x2 then some μ else gd (inb (((nI 222) + ((nI 19) * a1)) + x2) 1829) <| zl (sI μ k0 (Int32.toNatClampNeg (((nI 222) + ((nI 19) * a1)) + x2)) (nI 0)) fun μ3_ => f_X8_clears_2 k0 a1 n (x2 + (nI 1)) μ3_)
set_option maxHeartbeats 4000000 in
set_option maxRecDepth 100000 in
theorem w_X8_clears_2 {Γ : jG} (C : jC Γ 3 cX8_clears RX8 rmX8_clears) {k0 : Nat} {a1 : Int32} (hk0 : isRow k0) {ρ : Mem} (E : jEV Γ cX8_clears ρ) : ∀ (n : Nat) (x2 : Int32) (μ : Mem), f_X8_clears_2 k0 a1 n x2 μ = some ρ → jJ Γ 3 2 [(0, .ref k0), (1, .int a1), (2, .int x2)] [] μ := by
  intro n
  induction n with
  | zero => intro x2 μ h; rw [f_X8_clears_2] at h; cases h
  | succ n ih =>
    intro x2 μ h
    rw [f_X8_clears_2] at h
    refine j_iload_n C dX8_clears_2 rfl 2 rfl ?_
    refine j_bipush (v := (nI 19)) C dX8_clears_3 rfl (by decide) ?_
    refine j_icmp_ge (tgt := 27) C dX8_clears_5 rfl (by decide) (fun c1_ => ?_) (fun c1_ => ?_)
    · replace h := if_t h c1_
      obtain rfl := Option.some.inj h
      exact j_vret E dX8_clears_27
    · replace h := if_f h c1_
      refine j_aload_n C dX8_clears_8 rfl 0 rfl ?_
      refine j_sipush (v := (nI 222)) C dX8_clears_9 rfl (by decide) ?_
      refine j_bipush (v := (nI 19)) C dX8_clears_12 rfl (by decide) ?_
      refine j_iload_n C dX8_clears_14 rfl 1 rfl ?_
      refine j_imul C dX8_clears_15 rfl ?_
      refine j_iadd C dX8_clears_16 rfl ?_
      refine j_iload_n C dX8_clears_17 rfl 2 rfl ?_
      refine j_iadd C dX8_clears_18 rfl ?_
      refine j_iconst (v := (nI 0)) C dX8_clears_19 rfl (by decide) ?_
      replace h := gd_e h
      obtain ⟨g2_, h⟩ := h
      refine j_iast C dX8_clears_20 rfl (isRow_is hk0) g2_ ?_
      refine j_mem (fun μ3_ e4_ => ?_)
      replace h := zl_u h e4_
      refine j_iinc (d := (nI 1)) (v := x2 + (nI 1)) (lv' := [(2, .int (x2 + (nI 1))), (0, .ref k0), (1, .int a1)]) C dX8_clears_21 rfl (by decide) 2 rfl (by decide) rfl rfl ?_
      refine j_goto (pc' := 2) C dX8_clears_24 (by decide) ?_
      refine j_lv [1, 2, 0] rfl ?_
      exact (ih) (x2 + (nI 1)) μ3_ h
def f_X8_clears (k0 : Nat) (a1 : Int32) (μ : Mem) : Option (Mem) := f_X8_clears_2 k0 a1 zfu (nI 0) μ
set_option maxHeartbeats 4000000 in
set_option maxRecDepth 100000 in
theorem w_X8_clears {Γ : jG} (C : jC Γ 3 cX8_clears RX8 rmX8_clears) {k0 : Nat} {a1 : Int32} (hk0 : isRow k0) {ρ : Mem} (E : jEV Γ cX8_clears ρ) (μ : Mem) (h : f_X8_clears k0 a1 μ = some ρ) : jJ Γ 3 0 [(0, .ref k0), (1, .int a1)] [] μ := by
  unfold f_X8_clears at h
  refine j_iconst (v := (nI 0)) C dX8_clears_0 rfl (by decide) ?_
  refine j_istore_n (lv' := [(2, .int (nI 0)), (0, .ref k0), (1, .int a1)]) C dX8_clears_1 rfl (by decide) rfl ?_
  refine j_lv [1, 2, 0] rfl ?_
  exact w_X8_clears_2 C hk0 E zfu (nI 0) μ h
set_option maxRecDepth 100000 in
theorem c_X8_clears (l : Launch) (D : va_G) (ad : Nat → Nat) (cl : Nat → ClassId) {k0 : Nat} {a1 : Int32} (hk0 : isRow k0) (μ : Mem) (ρ : Mem) (h : f_X8_clears k0 a1 μ = some ρ) : CV l D ad cl yX8_clears wsX8_clears rmX8_clears [.ref k0, .int a1] μ ρ := c_ofV (cc := cX8_clears) (nL := 3) rfl (by decide) (Nat.le_of_ble_eq_true rfl) (fun Γ C E => w_X8_clears C hk0 E μ h)
theorem gsX8_55 : jm_gs RX8 55 yX8_clears wsX8_clears 3 2 := ⟨_, _, gi_S gwt5_34 gwt5_35 gwt1_9 gwt5_36, rfl, by decide +kernel⟩
/-! X8_letsIn -/
def wsX8_letsIn : List Cond := .code yX8_letsIn cX8_letsIn 8 none :: G0
def rmX8_letsIn : Room := { frames := 1, cells := 0, slots := 0, locals := 22 }
def f_X8_letsIn_154 (k0 : Nat) (a1 : Int32) (a2 : Int32) (a3 : Int32) (a4 : Int32) (μ : Mem) : Option (Mem) := gd (inb (nI 0) 1829) <| zl (sI μ k0 (Int32.toNatClampNeg (nI 0)) ((μ.1 k0 (Int32.toNatClampNeg (nI 0))) + (nI 1))) fun μ2_ => some μ2_
set_option maxHeartbeats 4000000 in
set_option maxRecDepth 100000 in
theorem w_X8_letsIn_154 {Γ : jG} (C : jC Γ 8 cX8_letsIn RX8 rmX8_letsIn) {k0 : Nat} {a1 : Int32} {a2 : Int32} {a3 : Int32} {a4 : Int32} (hk0 : isRow k0) {ρ : Mem} (E : jEV Γ cX8_letsIn ρ) (μ : Mem) (h : f_X8_letsIn_154 k0 a1 a2 a3 a4 μ = some ρ) : jJ Γ 8 154 [(0, .ref k0)] [] μ := by
  unfold f_X8_letsIn_154 at h
  refine j_aload_n C dX8_letsIn_154 rfl 0 rfl ?_
  refine j_iconst (v := (nI 0)) C dX8_letsIn_155 rfl (by decide) ?_
  refine j_dup2 C dX8_letsIn_156 rfl rfl rfl ?_
  replace h := gd_e h
  obtain ⟨g1_, h⟩ := h
  refine j_iald C dX8_letsIn_157 rfl (isRow_is hk0) g1_ ?_
  refine j_iconst (v := (nI 1)) C dX8_letsIn_158 rfl (by decide) ?_
  refine j_iadd C dX8_letsIn_159 rfl ?_
  refine j_iast C dX8_letsIn_160 rfl (isRow_is hk0) g1_ ?_
  refine j_mem (fun μ2_ e3_ => ?_)
  replace h := zl_u h e3_
  obtain rfl := Option.some.inj h
  exact j_vret E dX8_letsIn_161
def f_X8_letsIn_59 (k0 : Nat) (a1 : Int32) (a2 : Int32) (a3 : Int32) (a4 : Int32) (kx154 : Mem → Option (Mem)) : Nat → Int32 → Int32 → Mem → Option (Mem)
  | 0, _, _, _ => none
  | n + 1, x5, x7, μ => (if (nI 9) ≤ x7 then kx154 μ else gd (inb (((nI 60) + ((nI 9) * x5)) + x7) 1829) <| zl (sI μ k0 (Int32.toNatClampNeg (((nI 60) + ((nI 9) * x5)) + x7)) (nI 1)) fun μ3_ => gd (inb (((nI 60) + ((nI 9) * x7)) + x5) 1829) <| zl (sI μ3_ k0 (Int32.toNatClampNeg (((nI 60) + ((nI 9) * x7)) + x5)) (nI 1)) fun μ6_ => gd (inb (((nI 141) + ((nI 9) * x5)) + x7) 1829) <| zl (sI μ6_ k0 (Int32.toNatClampNeg (((nI 141) + ((nI 9) * x5)) + x7)) (nI 2)) fun μ9_ => gd (inb (((nI 141) + ((nI 9) * x7)) + x5) 1829) <| zl (sI μ9_ k0 (Int32.toNatClampNeg (((nI 141) + ((nI 9) * x7)) + x5)) (nI 2)) fun μ12_ => Option.bind (f_X8_clears k0 (((nI 9) * x5) + x7) μ12_) fun p14_ => Option.bind (f_X8_clears k0 (((nI 9) * x7) + x5) p14_) fun p16_ => f_X8_letsIn_59 k0 a1 a2 a3 a4 kx154 n x5 (x7 + (nI 1)) p16_)
set_option maxHeartbeats 4000000 in
set_option maxRecDepth 100000 in
theorem w_X8_letsIn_59 {Γ : jG} (C : jC Γ 8 cX8_letsIn RX8 rmX8_letsIn) {k0 : Nat} {a1 : Int32} {a2 : Int32} {a3 : Int32} {a4 : Int32} (hk0 : isRow k0) {kx154 : Mem → Option (Mem)} {ρ : Mem} (E : jEV Γ cX8_letsIn ρ) (Hkx154 : ∀ (μ : Mem), kx154 μ = some ρ → jJ Γ 8 154 [(0, .ref k0)] [] μ) : ∀ (n : Nat) (x5 : Int32) (x7 : Int32) (μ : Mem), f_X8_letsIn_59 k0 a1 a2 a3 a4 kx154 n x5 x7 μ = some ρ → jJ Γ 8 59 [(0, .ref k0), (5, .int x5), (7, .int x7)] [] μ := by
  intro n
  induction n with
  | zero => intro x5 x7 μ h; rw [f_X8_letsIn_59] at h; cases h
  | succ n ih =>
    intro x5 x7 μ h
    rw [f_X8_letsIn_59] at h
    refine j_iload C dX8_letsIn_59 rfl 2 rfl ?_
    refine j_bipush (v := (nI 9)) C dX8_letsIn_61 rfl (by decide) ?_
    refine j_icmp_ge (tgt := 154) C dX8_letsIn_63 rfl (by decide) (fun c1_ => ?_) (fun c1_ => ?_)
    · replace h := if_t h c1_
      refine j_lv [0] rfl ?_
      exact (Hkx154) μ h
    · replace h := if_f h c1_
      refine j_aload_n C dX8_letsIn_66 rfl 0 rfl ?_
      refine j_bipush (v := (nI 60)) C dX8_letsIn_67 rfl (by decide) ?_
      refine j_bipush (v := (nI 9)) C dX8_letsIn_69 rfl (by decide) ?_
      refine j_iload C dX8_letsIn_71 rfl 1 rfl ?_
      refine j_imul C dX8_letsIn_73 rfl ?_
      refine j_iadd C dX8_letsIn_74 rfl ?_
      refine j_iload C dX8_letsIn_75 rfl 2 rfl ?_
      refine j_iadd C dX8_letsIn_77 rfl ?_
      refine j_iconst (v := (nI 1)) C dX8_letsIn_78 rfl (by decide) ?_
      replace h := gd_e h
      obtain ⟨g2_, h⟩ := h
      refine j_iast C dX8_letsIn_79 rfl (isRow_is hk0) g2_ ?_
      refine j_mem (fun μ3_ e4_ => ?_)
      replace h := zl_u h e4_
      refine j_aload_n C dX8_letsIn_80 rfl 0 rfl ?_
      refine j_bipush (v := (nI 60)) C dX8_letsIn_81 rfl (by decide) ?_
      refine j_bipush (v := (nI 9)) C dX8_letsIn_83 rfl (by decide) ?_
      refine j_iload C dX8_letsIn_85 rfl 2 rfl ?_
      refine j_imul C dX8_letsIn_87 rfl ?_
      refine j_iadd C dX8_letsIn_88 rfl ?_
      refine j_iload C dX8_letsIn_89 rfl 1 rfl ?_
      refine j_iadd C dX8_letsIn_91 rfl ?_
      refine j_iconst (v := (nI 1)) C dX8_letsIn_92 rfl (by decide) ?_
      replace h := gd_e h
      obtain ⟨g5_, h⟩ := h
      refine j_iast C dX8_letsIn_93 rfl (isRow_is hk0) g5_ ?_
      refine j_mem (fun μ6_ e7_ => ?_)
      replace h := zl_u h e7_
      refine j_aload_n C dX8_letsIn_94 rfl 0 rfl ?_
      refine j_sipush (v := (nI 141)) C dX8_letsIn_95 rfl (by decide) ?_
      refine j_bipush (v := (nI 9)) C dX8_letsIn_98 rfl (by decide) ?_
      refine j_iload C dX8_letsIn_100 rfl 1 rfl ?_
      refine j_imul C dX8_letsIn_102 rfl ?_
      refine j_iadd C dX8_letsIn_103 rfl ?_
      refine j_iload C dX8_letsIn_104 rfl 2 rfl ?_
      refine j_iadd C dX8_letsIn_106 rfl ?_
      refine j_iconst (v := (nI 2)) C dX8_letsIn_107 rfl (by decide) ?_
      replace h := gd_e h
      obtain ⟨g8_, h⟩ := h
      refine j_iast C dX8_letsIn_108 rfl (isRow_is hk0) g8_ ?_
      refine j_mem (fun μ9_ e10_ => ?_)
      replace h := zl_u h e10_
      refine j_aload_n C dX8_letsIn_109 rfl 0 rfl ?_
      refine j_sipush (v := (nI 141)) C dX8_letsIn_110 rfl (by decide) ?_
      refine j_bipush (v := (nI 9)) C dX8_letsIn_113 rfl (by decide) ?_
      refine j_iload C dX8_letsIn_115 rfl 2 rfl ?_
      refine j_imul C dX8_letsIn_117 rfl ?_
      refine j_iadd C dX8_letsIn_118 rfl ?_
      refine j_iload C dX8_letsIn_119 rfl 1 rfl ?_
      refine j_iadd C dX8_letsIn_121 rfl ?_
      refine j_iconst (v := (nI 2)) C dX8_letsIn_122 rfl (by decide) ?_
      replace h := gd_e h
      obtain ⟨g11_, h⟩ := h
      refine j_iast C dX8_letsIn_123 rfl (isRow_is hk0) g11_ ?_
      refine j_mem (fun μ12_ e13_ => ?_)
      replace h := zl_u h e13_
      refine j_aload_n C dX8_letsIn_124 rfl 0 rfl ?_
      refine j_bipush (v := (nI 9)) C dX8_letsIn_125 rfl (by decide) ?_
      refine j_iload C dX8_letsIn_127 rfl 1 rfl ?_
      refine j_imul C dX8_letsIn_129 rfl ?_
      refine j_iload C dX8_letsIn_130 rfl 2 rfl ?_
      refine j_iadd C dX8_letsIn_132 rfl ?_
      replace h := bd_e h
      obtain ⟨p14_, h15_, h⟩ := h
      refine j_cSV (av := [.ref k0, .int (((nI 9) * x5) + x7)]) (rest := []) C dX8_letsIn_133 rfl (c_X8_clears _ _ _ _ hk0 μ12_ p14_ h15_) gsX8_55 ⟨⟨rfl, rfl⟩, Nat.le_of_ble_eq_true rfl, Nat.le_of_ble_eq_true rfl⟩ rfl rfl (Nat.le_of_ble_eq_true rfl) ?_
      refine j_aload_n C dX8_letsIn_136 rfl 0 rfl ?_
      refine j_bipush (v := (nI 9)) C dX8_letsIn_137 rfl (by decide) ?_
      refine j_iload C dX8_letsIn_139 rfl 2 rfl ?_
      refine j_imul C dX8_letsIn_141 rfl ?_
      refine j_iload C dX8_letsIn_142 rfl 1 rfl ?_
      refine j_iadd C dX8_letsIn_144 rfl ?_
      replace h := bd_e h
      obtain ⟨p16_, h17_, h⟩ := h
      refine j_cSV (av := [.ref k0, .int (((nI 9) * x7) + x5)]) (rest := []) C dX8_letsIn_145 rfl (c_X8_clears _ _ _ _ hk0 p14_ p16_ h17_) gsX8_55 ⟨⟨rfl, rfl⟩, Nat.le_of_ble_eq_true rfl, Nat.le_of_ble_eq_true rfl⟩ rfl rfl (Nat.le_of_ble_eq_true rfl) ?_
      refine j_iinc (d := (nI 1)) (v := x7 + (nI 1)) (lv' := [(7, .int (x7 + (nI 1))), (0, .ref k0), (5, .int x5)]) C dX8_letsIn_148 rfl (by decide) 2 rfl (by decide) rfl rfl ?_
      refine j_goto (pc' := 59) C dX8_letsIn_151 (by decide) ?_
      refine j_lv [1, 2, 0] rfl ?_
      exact (ih) x5 (x7 + (nI 1)) p16_ h
def f_X8_letsIn (k0 : Nat) (a1 : Int32) (a2 : Int32) (a3 : Int32) (a4 : Int32) (μ : Mem) : Option (Mem) := gd (inb (nI 0) 1829) <| zl (μ.1 k0 (Int32.toNatClampNeg (nI 0))) fun x2_ => zl ((nI 6) + ((nI 6) * x2_)) fun x4_ => gd (inb x4_ 1829) <| zl (sI μ k0 (Int32.toNatClampNeg x4_) a1) fun μ7_ => gd (inb (x4_ + (nI 1)) 1829) <| zl (sI μ7_ k0 (Int32.toNatClampNeg (x4_ + (nI 1))) a2) fun μ10_ => gd (inb (x4_ + (nI 2)) 1829) <| zl (sI μ10_ k0 (Int32.toNatClampNeg (x4_ + (nI 2))) (nI 2)) fun μ13_ => gd (inb (x4_ + (nI 3)) 1829) <| zl (sI μ13_ k0 (Int32.toNatClampNeg (x4_ + (nI 3))) (nI 2)) fun μ16_ => gd (inb (x4_ + (nI 4)) 1829) <| zl (sI μ16_ k0 (Int32.toNatClampNeg (x4_ + (nI 4))) a3) fun μ19_ => gd (inb (x4_ + (nI 5)) 1829) <| zl (sI μ19_ k0 (Int32.toNatClampNeg (x4_ + (nI 5))) a4) fun μ22_ => f_X8_letsIn_59 k0 a1 a2 a3 a4 (fun μ => f_X8_letsIn_154 k0 a1 a2 a3 a4 μ) zfu x2_ (nI 0) μ22_
set_option maxHeartbeats 4000000 in
set_option maxRecDepth 100000 in
theorem w_X8_letsIn {Γ : jG} (C : jC Γ 8 cX8_letsIn RX8 rmX8_letsIn) {k0 : Nat} {a1 : Int32} {a2 : Int32} {a3 : Int32} {a4 : Int32} (hk0 : isRow k0) {ρ : Mem} (E : jEV Γ cX8_letsIn ρ) (μ : Mem) (h : f_X8_letsIn k0 a1 a2 a3 a4 μ = some ρ) : jJ Γ 8 0 [(0, .ref k0), (1, .int a1), (2, .int a2), (3, .int a3), (4, .int a4)] [] μ := by
  unfold f_X8_letsIn at h
  refine j_aload_n C dX8_letsIn_0 rfl 0 rfl ?_
  refine j_iconst (v := (nI 0)) C dX8_letsIn_1 rfl (by decide) ?_
  replace h := gd_e h
  obtain ⟨g1_, h⟩ := h
  refine j_iald C dX8_letsIn_2 rfl (isRow_is hk0) g1_ ?_
  refine j_topi (fun x2_ e3_ => ?_)
  replace h := zl_u h e3_
  refine j_istore (lv' := [(5, .int x2_), (0, .ref k0), (1, .int a1), (2, .int a2), (3, .int a3), (4, .int a4)]) C dX8_letsIn_3 rfl (by decide) rfl ?_
  refine j_bipush (v := (nI 6)) C dX8_letsIn_5 rfl (by decide) ?_
  refine j_bipush (v := (nI 6)) C dX8_letsIn_7 rfl (by decide) ?_
  refine j_iload C dX8_letsIn_9 rfl 0 rfl ?_
  refine j_imul C dX8_letsIn_11 rfl ?_
  refine j_iadd C dX8_letsIn_12 rfl ?_
  refine j_topi (fun x4_ e5_ => ?_)
  replace h := zl_u h e5_
  refine j_istore (lv' := [(6, .int x4_), (5, .int x2_), (0, .ref k0), (1, .int a1), (2, .int a2), (3, .int a3), (4, .int a4)]) C dX8_letsIn_13 rfl (by decide) rfl ?_
  refine j_aload_n C dX8_letsIn_15 rfl 2 rfl ?_
  refine j_iload C dX8_letsIn_16 rfl 0 rfl ?_
  refine j_iload_n C dX8_letsIn_18 rfl 3 rfl ?_
  replace h := gd_e h
  obtain ⟨g6_, h⟩ := h
  refine j_iast C dX8_letsIn_19 rfl (isRow_is hk0) g6_ ?_
  refine j_mem (fun μ7_ e8_ => ?_)
  replace h := zl_u h e8_
  refine j_aload_n C dX8_letsIn_20 rfl 2 rfl ?_
  refine j_iload C dX8_letsIn_21 rfl 0 rfl ?_
  refine j_iconst (v := (nI 1)) C dX8_letsIn_23 rfl (by decide) ?_
  refine j_iadd C dX8_letsIn_24 rfl ?_
  refine j_iload_n C dX8_letsIn_25 rfl 4 rfl ?_
  replace h := gd_e h
  obtain ⟨g9_, h⟩ := h
  refine j_iast C dX8_letsIn_26 rfl (isRow_is hk0) g9_ ?_
  refine j_mem (fun μ10_ e11_ => ?_)
  replace h := zl_u h e11_
  refine j_aload_n C dX8_letsIn_27 rfl 2 rfl ?_
  refine j_iload C dX8_letsIn_28 rfl 0 rfl ?_
  refine j_iconst (v := (nI 2)) C dX8_letsIn_30 rfl (by decide) ?_
  refine j_iadd C dX8_letsIn_31 rfl ?_
  refine j_iconst (v := (nI 2)) C dX8_letsIn_32 rfl (by decide) ?_
  replace h := gd_e h
  obtain ⟨g12_, h⟩ := h
  refine j_iast C dX8_letsIn_33 rfl (isRow_is hk0) g12_ ?_
  refine j_mem (fun μ13_ e14_ => ?_)
  replace h := zl_u h e14_
  refine j_aload_n C dX8_letsIn_34 rfl 2 rfl ?_
  refine j_iload C dX8_letsIn_35 rfl 0 rfl ?_
  refine j_iconst (v := (nI 3)) C dX8_letsIn_37 rfl (by decide) ?_
  refine j_iadd C dX8_letsIn_38 rfl ?_
  refine j_iconst (v := (nI 2)) C dX8_letsIn_39 rfl (by decide) ?_
  replace h := gd_e h
  obtain ⟨g15_, h⟩ := h
  refine j_iast C dX8_letsIn_40 rfl (isRow_is hk0) g15_ ?_
  refine j_mem (fun μ16_ e17_ => ?_)
  replace h := zl_u h e17_
  refine j_aload_n C dX8_letsIn_41 rfl 2 rfl ?_
  refine j_iload C dX8_letsIn_42 rfl 0 rfl ?_
  refine j_iconst (v := (nI 4)) C dX8_letsIn_44 rfl (by decide) ?_
  refine j_iadd C dX8_letsIn_45 rfl ?_
  refine j_iload_n C dX8_letsIn_46 rfl 5 rfl ?_
  replace h := gd_e h
  obtain ⟨g18_, h⟩ := h
  refine j_iast C dX8_letsIn_47 rfl (isRow_is hk0) g18_ ?_
  refine j_mem (fun μ19_ e20_ => ?_)
  replace h := zl_u h e20_
  refine j_aload_n C dX8_letsIn_48 rfl 2 rfl ?_
  refine j_iload C dX8_letsIn_49 rfl 0 rfl ?_
  refine j_iconst (v := (nI 5)) C dX8_letsIn_51 rfl (by decide) ?_
  refine j_iadd C dX8_letsIn_52 rfl ?_
  refine j_iload C dX8_letsIn_53 rfl 6 rfl ?_
  replace h := gd_e h
  obtain ⟨g21_, h⟩ := h
  refine j_iast C dX8_letsIn_55 rfl (isRow_is hk0) g21_ ?_
  refine j_mem (fun μ22_ e23_ => ?_)
  replace h := zl_u h e23_
  refine j_iconst (v := (nI 0)) C dX8_letsIn_56 rfl (by decide) ?_
  refine j_istore (lv' := [(7, .int (nI 0)), (6, .int x4_), (5, .int x2_), (0, .ref k0), (1, .int a1), (2, .int a2), (3, .int a3), (4, .int a4)]) C dX8_letsIn_57 rfl (by decide) rfl ?_
  refine j_lv [3, 2, 0] rfl ?_
  exact w_X8_letsIn_59 C hk0 E (fun μ h => w_X8_letsIn_154 C hk0 E μ h) zfu x2_ (nI 0) μ22_ h
set_option maxRecDepth 100000 in
theorem c_X8_letsIn (l : Launch) (D : va_G) (ad : Nat → Nat) (cl : Nat → ClassId) {k0 : Nat} {a1 : Int32} {a2 : Int32} {a3 : Int32} {a4 : Int32} (hk0 : isRow k0) (μ : Mem) (ρ : Mem) (h : f_X8_letsIn k0 a1 a2 a3 a4 μ = some ρ) : CV l D ad cl yX8_letsIn wsX8_letsIn rmX8_letsIn [.ref k0, .int a1, .int a2, .int a3, .int a4] μ ρ := c_ofV (cc := cX8_letsIn) (nL := 8) rfl (by decide) (Nat.le_of_ble_eq_true rfl) (fun Γ C E => w_X8_letsIn C hk0 E μ h)
theorem gsX8_61 : jm_gs RX8 61 yX8_letsIn wsX8_letsIn 8 5 := ⟨_, _, gi_S gwt5_31 gwt5_32 gwt1_9 gwt5_33, rfl, by decide +kernel⟩
/-! X8_rock -/
def wsX8_rock : List Cond := .code yX8_rock cX8_rock 3 (some .int) :: G0
def rmX8_rock : Room := { frames := 2, cells := 0, slots := 0, locals := 49 }
def f_X8_rock (a1 : Int32) (a2 : Int32) (μ : Mem) : Option (Int32 × Mem) := zl (sI μ 113 0 (nI 0)) fun μ1_ => Option.bind (f_X8_in (Int32.toInt64 a1) 0 5 μ1_) fun p3_ => (if p3_.1 = 0 then some ((-1), p3_.2) else Option.bind (f_X8_in (Int32.toInt64 a2) 0 1 p3_.2) fun p6_ => (if p6_.1 = 0 then some ((-1), p6_.2) else gd (inb (nI 0) 1829) <| (if (p6_.2.1 114 (Int32.toNatClampNeg (nI 0))) = (nI 9) then some ((-3), p6_.2) else Option.bind (f_X8_letsIn 114 a1 a2 (nI 0) (nI 0) p6_.2) fun p11_ => some ((p11_.1 114 (Int32.toNatClampNeg (nI 0))) - (nI 1), p11_))))
set_option maxHeartbeats 4000000 in
set_option maxRecDepth 100000 in
theorem w_X8_rock {Γ : jG} (C : jC Γ 3 cX8_rock RX8 rmX8_rock) {a1 : Int32} {a2 : Int32} {ρ : Int32 × Mem} (E : jEI Γ cX8_rock ρ.1 ρ.2) (μ : Mem) (h : f_X8_rock a1 a2 μ = some ρ) : jJ Γ 3 0 [(0, .ref 113), (1, .int a1), (2, .int a2)] [] μ := by
  unfold f_X8_rock at h
  refine j_aload_n C dX8_rock_0 rfl 0 rfl ?_
  refine j_iconst (v := (nI 0)) C dX8_rock_1 rfl (by decide) ?_
  refine j_putI C dX8_rock_2 rfl lpX8_48 is_113 rfl ?_
  refine j_mem (fun μ1_ e2_ => ?_)
  replace h := zl_u h e2_
  refine j_iload_n C dX8_rock_5 rfl 1 rfl ?_
  refine j_i2l C dX8_rock_6 rfl ?_
  refine j_lconst (v := 0) C dX8_rock_7 rfl (by decide) ?_
  refine j_ldc2 (v := 5) C dX8_rock_8 rfl gwt5_27 ?_
  replace h := bd_e h
  obtain ⟨p3_, h4_, h⟩ := h
  refine j_cSI (av := [.long (Int32.toInt64 a1), .long 0, .long 5]) (rest := []) C dX8_rock_11 rfl (c_X8_in _ _ _ _ μ1_ p3_ h4_) gsX8_51 ⟨⟨rfl, rfl⟩, Nat.le_of_ble_eq_true rfl, Nat.le_of_ble_eq_true rfl⟩ rfl rfl (Nat.le_of_ble_eq_true rfl) ?_
  refine j_if_eq (tgt := 27) C dX8_rock_14 rfl (by decide) (fun c5_ => ?_) (fun c5_ => ?_)
  · replace h := if_t h c5_
    refine j_iconst (v := (-1)) C dX8_rock_27 rfl (by decide) ?_
    obtain rfl := Option.some.inj h
    exact j_iret E dX8_rock_28
  · replace h := if_f h c5_
    refine j_iload_n C dX8_rock_17 rfl 2 rfl ?_
    refine j_i2l C dX8_rock_18 rfl ?_
    refine j_lconst (v := 0) C dX8_rock_19 rfl (by decide) ?_
    refine j_lconst (v := 1) C dX8_rock_20 rfl (by decide) ?_
    replace h := bd_e h
    obtain ⟨p6_, h7_, h⟩ := h
    refine j_cSI (av := [.long (Int32.toInt64 a2), .long 0, .long 1]) (rest := []) C dX8_rock_21 rfl (c_X8_in _ _ _ _ p3_.2 p6_ h7_) gsX8_51 ⟨⟨rfl, rfl⟩, Nat.le_of_ble_eq_true rfl, Nat.le_of_ble_eq_true rfl⟩ rfl rfl (Nat.le_of_ble_eq_true rfl) ?_
    refine j_if_ne (tgt := 29) C dX8_rock_24 rfl (by decide) (fun c8_ => ?_) (fun c8_ => ?_)
    · replace h := if_f h c8_
      refine j_aload_n C dX8_rock_29 rfl 0 rfl ?_
      refine j_getR (c := 114) C dX8_rock_30 rfl lkX8_7 is_113 rfl ?_
      refine j_iconst (v := (nI 0)) C dX8_rock_33 rfl (by decide) ?_
      replace h := gd_e h
      obtain ⟨g9_, h⟩ := h
      refine j_iald C dX8_rock_34 rfl is_114 g9_ ?_
      refine j_bipush (v := (nI 9)) C dX8_rock_35 rfl (by decide) ?_
      refine j_icmp_ne (tgt := 43) C dX8_rock_37 rfl (by decide) (fun c10_ => ?_) (fun c10_ => ?_)
      · replace h := if_f h c10_
        refine j_aload_n C dX8_rock_43 rfl 0 rfl ?_
        refine j_getR (c := 114) C dX8_rock_44 rfl lkX8_7 is_113 rfl ?_
        refine j_iload_n C dX8_rock_47 rfl 1 rfl ?_
        refine j_iload_n C dX8_rock_48 rfl 2 rfl ?_
        refine j_iconst (v := (nI 0)) C dX8_rock_49 rfl (by decide) ?_
        refine j_iconst (v := (nI 0)) C dX8_rock_50 rfl (by decide) ?_
        replace h := bd_e h
        obtain ⟨p11_, h12_, h⟩ := h
        refine j_cSV (av := [.ref 114, .int a1, .int a2, .int (nI 0), .int (nI 0)]) (rest := []) C dX8_rock_51 rfl (c_X8_letsIn _ _ _ _ isRow114 p6_.2 p11_ h12_) gsX8_61 ⟨⟨rfl, rfl⟩, Nat.le_of_ble_eq_true rfl, Nat.le_of_ble_eq_true rfl⟩ rfl rfl (Nat.le_of_ble_eq_true rfl) ?_
        refine j_aload_n C dX8_rock_54 rfl 0 rfl ?_
        refine j_getR (c := 114) C dX8_rock_55 rfl lkX8_7 is_113 rfl ?_
        refine j_iconst (v := (nI 0)) C dX8_rock_58 rfl (by decide) ?_
        refine j_iald C dX8_rock_59 rfl is_114 g9_ ?_
        refine j_iconst (v := (nI 1)) C dX8_rock_60 rfl (by decide) ?_
        refine j_isub C dX8_rock_61 rfl ?_
        obtain rfl := Option.some.inj h
        exact j_iret E dX8_rock_62
      · replace h := if_t h c10_
        refine j_bipush (v := (-3)) C dX8_rock_40 rfl (by decide) ?_
        obtain rfl := Option.some.inj h
        exact j_iret E dX8_rock_42
    · replace h := if_t h c8_
      refine j_iconst (v := (-1)) C dX8_rock_27 rfl (by decide) ?_
      obtain rfl := Option.some.inj h
      exact j_iret E dX8_rock_28
set_option maxRecDepth 100000 in
theorem c_X8_rock (l : Launch) (D : va_G) (ad : Nat → Nat) (cl : Nat → ClassId) {a1 : Int32} {a2 : Int32} (μ : Mem) (ρ : Int32 × Mem) (h : f_X8_rock a1 a2 μ = some ρ) : CI l D ad cl yX8_rock wsX8_rock rmX8_rock [.ref 113, .int a1, .int a2] μ ρ.1 ρ.2 := c_ofI (cc := cX8_rock) (nL := 3) rfl (by decide) (Nat.le_of_ble_eq_true rfl) (fun Γ C E => w_X8_rock C E μ h)
/-! X8_out -/
def wsX8_out : List Cond := .code yX8_out cX8_out 3 (some .int) :: G0
def rmX8_out : Room := { frames := 1, cells := 0, slots := 0, locals := 22 }
def f_X8_out_36 : Nat → Int32 → Int32 → Mem → Option (Int32 × Mem)
  | 0, _, _, _ => none
  | n + 1, x1, x2, μ => (if (nI 9) ≤ x2 then some (x1, μ) else gd (inb (((nI 141) + ((nI 9) * x2)) + x1) 1829) <| zl (sI μ 114 (Int32.toNatClampNeg (((nI 141) + ((nI 9) * x2)) + x1)) (nI 2)) fun μ3_ => Option.bind (f_X8_clears 114 (((nI 9) * x1) + x2) μ3_) fun p5_ => Option.bind (f_X8_clears 114 (((nI 9) * x2) + x1) p5_) fun p7_ => f_X8_out_36 n x1 (x2 + (nI 1)) p7_)
set_option maxHeartbeats 4000000 in
set_option maxRecDepth 100000 in
theorem w_X8_out_36 {Γ : jG} (C : jC Γ 3 cX8_out RX8 rmX8_out) {ρ : Int32 × Mem} (E : jEI Γ cX8_out ρ.1 ρ.2) : ∀ (n : Nat) (x1 : Int32) (x2 : Int32) (μ : Mem), f_X8_out_36 n x1 x2 μ = some ρ → jJ Γ 3 36 [(0, .ref 113), (1, .int x1), (2, .int x2)] [] μ := by
  intro n
  induction n with
  | zero => intro x1 x2 μ h; rw [f_X8_out_36] at h; cases h
  | succ n ih =>
    intro x1 x2 μ h
    rw [f_X8_out_36] at h
    refine j_iload_n C dX8_out_36 rfl 2 rfl ?_
    refine j_bipush (v := (nI 9)) C dX8_out_37 rfl (by decide) ?_
    refine j_icmp_ge (tgt := 90) C dX8_out_39 rfl (by decide) (fun c1_ => ?_) (fun c1_ => ?_)
    · replace h := if_t h c1_
      refine j_iload_n C dX8_out_90 rfl 1 rfl ?_
      obtain rfl := Option.some.inj h
      exact j_iret E dX8_out_91
    · replace h := if_f h c1_
      refine j_aload_n C dX8_out_42 rfl 0 rfl ?_
      refine j_getR (c := 114) C dX8_out_43 rfl lkX8_7 is_113 rfl ?_
      refine j_sipush (v := (nI 141)) C dX8_out_46 rfl (by decide) ?_
      refine j_bipush (v := (nI 9)) C dX8_out_49 rfl (by decide) ?_
      refine j_iload_n C dX8_out_51 rfl 2 rfl ?_
      refine j_imul C dX8_out_52 rfl ?_
      refine j_iadd C dX8_out_53 rfl ?_
      refine j_iload_n C dX8_out_54 rfl 1 rfl ?_
      refine j_iadd C dX8_out_55 rfl ?_
      refine j_iconst (v := (nI 2)) C dX8_out_56 rfl (by decide) ?_
      replace h := gd_e h
      obtain ⟨g2_, h⟩ := h
      refine j_iast C dX8_out_57 rfl is_114 g2_ ?_
      refine j_mem (fun μ3_ e4_ => ?_)
      replace h := zl_u h e4_
      refine j_aload_n C dX8_out_58 rfl 0 rfl ?_
      refine j_getR (c := 114) C dX8_out_59 rfl lkX8_7 is_113 rfl ?_
      refine j_bipush (v := (nI 9)) C dX8_out_62 rfl (by decide) ?_
      refine j_iload_n C dX8_out_64 rfl 1 rfl ?_
      refine j_imul C dX8_out_65 rfl ?_
      refine j_iload_n C dX8_out_66 rfl 2 rfl ?_
      refine j_iadd C dX8_out_67 rfl ?_
      replace h := bd_e h
      obtain ⟨p5_, h6_, h⟩ := h
      refine j_cSV (av := [.ref 114, .int (((nI 9) * x1) + x2)]) (rest := []) C dX8_out_68 rfl (c_X8_clears _ _ _ _ isRow114 μ3_ p5_ h6_) gsX8_55 ⟨⟨rfl, rfl⟩, Nat.le_of_ble_eq_true rfl, Nat.le_of_ble_eq_true rfl⟩ rfl rfl (Nat.le_of_ble_eq_true rfl) ?_
      refine j_aload_n C dX8_out_71 rfl 0 rfl ?_
      refine j_getR (c := 114) C dX8_out_72 rfl lkX8_7 is_113 rfl ?_
      refine j_bipush (v := (nI 9)) C dX8_out_75 rfl (by decide) ?_
      refine j_iload_n C dX8_out_77 rfl 2 rfl ?_
      refine j_imul C dX8_out_78 rfl ?_
      refine j_iload_n C dX8_out_79 rfl 1 rfl ?_
      refine j_iadd C dX8_out_80 rfl ?_
      replace h := bd_e h
      obtain ⟨p7_, h8_, h⟩ := h
      refine j_cSV (av := [.ref 114, .int (((nI 9) * x2) + x1)]) (rest := []) C dX8_out_81 rfl (c_X8_clears _ _ _ _ isRow114 p5_ p7_ h8_) gsX8_55 ⟨⟨rfl, rfl⟩, Nat.le_of_ble_eq_true rfl, Nat.le_of_ble_eq_true rfl⟩ rfl rfl (Nat.le_of_ble_eq_true rfl) ?_
      refine j_iinc (d := (nI 1)) (v := x2 + (nI 1)) (lv' := [(2, .int (x2 + (nI 1))), (0, .ref 113), (1, .int x1)]) C dX8_out_84 rfl (by decide) 2 rfl (by decide) rfl rfl ?_
      refine j_goto (pc' := 36) C dX8_out_87 (by decide) ?_
      refine j_lv [1, 2, 0] rfl ?_
      exact (ih) x1 (x2 + (nI 1)) p7_ h
def f_X8_out (μ : Mem) : Option (Int32 × Mem) := zl (sI μ 113 0 (nI 0)) fun μ1_ => gd (inb (nI 0) 1829) <| (if (μ1_.1 114 (Int32.toNatClampNeg (nI 0))) = 0 then some ((-4), μ1_) else zl (sI μ1_ 114 (Int32.toNatClampNeg (nI 0)) ((μ1_.1 114 (Int32.toNatClampNeg (nI 0))) - (nI 1))) fun μ5_ => zl (μ5_.1 114 (Int32.toNatClampNeg (nI 0))) fun x7_ => f_X8_out_36 zfu x7_ (nI 0) μ5_)
set_option maxHeartbeats 4000000 in
set_option maxRecDepth 100000 in
theorem w_X8_out {Γ : jG} (C : jC Γ 3 cX8_out RX8 rmX8_out) {ρ : Int32 × Mem} (E : jEI Γ cX8_out ρ.1 ρ.2) (μ : Mem) (h : f_X8_out μ = some ρ) : jJ Γ 3 0 [(0, .ref 113)] [] μ := by
  unfold f_X8_out at h
  refine j_aload_n C dX8_out_0 rfl 0 rfl ?_
  refine j_iconst (v := (nI 0)) C dX8_out_1 rfl (by decide) ?_
  refine j_putI C dX8_out_2 rfl lpX8_48 is_113 rfl ?_
  refine j_mem (fun μ1_ e2_ => ?_)
  replace h := zl_u h e2_
  refine j_aload_n C dX8_out_5 rfl 0 rfl ?_
  refine j_getR (c := 114) C dX8_out_6 rfl lkX8_7 is_113 rfl ?_
  refine j_iconst (v := (nI 0)) C dX8_out_9 rfl (by decide) ?_
  replace h := gd_e h
  obtain ⟨g3_, h⟩ := h
  refine j_iald C dX8_out_10 rfl is_114 g3_ ?_
  refine j_if_ne (tgt := 17) C dX8_out_11 rfl (by decide) (fun c4_ => ?_) (fun c4_ => ?_)
  · replace h := if_f h c4_
    refine j_aload_n C dX8_out_17 rfl 0 rfl ?_
    refine j_getR (c := 114) C dX8_out_18 rfl lkX8_7 is_113 rfl ?_
    refine j_iconst (v := (nI 0)) C dX8_out_21 rfl (by decide) ?_
    refine j_dup2 C dX8_out_22 rfl rfl rfl ?_
    refine j_iald C dX8_out_23 rfl is_114 g3_ ?_
    refine j_iconst (v := (nI 1)) C dX8_out_24 rfl (by decide) ?_
    refine j_isub C dX8_out_25 rfl ?_
    refine j_iast C dX8_out_26 rfl is_114 g3_ ?_
    refine j_mem (fun μ5_ e6_ => ?_)
    replace h := zl_u h e6_
    refine j_aload_n C dX8_out_27 rfl 0 rfl ?_
    refine j_getR (c := 114) C dX8_out_28 rfl lkX8_7 is_113 rfl ?_
    refine j_iconst (v := (nI 0)) C dX8_out_31 rfl (by decide) ?_
    refine j_iald C dX8_out_32 rfl is_114 g3_ ?_
    refine j_topi (fun x7_ e8_ => ?_)
    replace h := zl_u h e8_
    refine j_istore_n (lv' := [(1, .int x7_), (0, .ref 113)]) C dX8_out_33 rfl (by decide) rfl ?_
    refine j_iconst (v := (nI 0)) C dX8_out_34 rfl (by decide) ?_
    refine j_istore_n (lv' := [(2, .int (nI 0)), (1, .int x7_), (0, .ref 113)]) C dX8_out_35 rfl (by decide) rfl ?_
    refine j_lv [2, 1, 0] rfl ?_
    exact w_X8_out_36 C E zfu x7_ (nI 0) μ5_ h
  · replace h := if_t h c4_
    refine j_bipush (v := (-4)) C dX8_out_14 rfl (by decide) ?_
    obtain rfl := Option.some.inj h
    exact j_iret E dX8_out_16
set_option maxRecDepth 100000 in
theorem c_X8_out (l : Launch) (D : va_G) (ad : Nat → Nat) (cl : Nat → ClassId) (μ : Mem) (ρ : Int32 × Mem) (h : f_X8_out μ = some ρ) : CI l D ad cl yX8_out wsX8_out rmX8_out [.ref 113] μ ρ.1 ρ.2 := c_ofI (cc := cX8_out) (nL := 3) rfl (by decide) (Nat.le_of_ble_eq_true rfl) (fun Γ C E => w_X8_out C E μ h)
theorem gvX8_65 : jm_gv RX8 65 RX8 yX8_isRock wsX8_isRock 2 1 := ⟨_, _, gi_V gwt5_45 gwt5_47 gwp3_0 gwt1_9 gwt5_48, rfl, by decide +kernel⟩
/-! X8_turn -/
def wsX8_turn : List Cond := .code yX8_turn cX8_turn 4 (some .int) :: G0
def rmX8_turn : Room := { frames := 2, cells := 0, slots := 0, locals := 46 }
def f_X8_turn (a1 : Int32) (a2 : Int32) (μ : Mem) : Option (Int32 × Mem) := zl (sI μ 113 0 (nI 0)) fun μ1_ => Option.bind (f_X8_isRock a1 μ1_) fun p3_ => (if p3_.1 = 0 then some ((-1), p3_.2) else Option.bind (f_X8_in (Int32.toInt64 a2) 0 5 p3_.2) fun p6_ => (if p6_.1 = 0 then some ((-1), p6_.2) else gd (inb ((nI 6) + ((nI 6) * a1)) 1829) <| zl (p6_.2.1 114 (Int32.toNatClampNeg ((nI 6) + ((nI 6) * a1)))) fun x10_ => zl (sI p6_.2 114 (Int32.toNatClampNeg ((nI 6) + ((nI 6) * a1))) a2) fun μ12_ => some (x10_, μ12_)))
set_option maxHeartbeats 4000000 in
set_option maxRecDepth 100000 in
theorem w_X8_turn {Γ : jG} (C : jC Γ 4 cX8_turn RX8 rmX8_turn) {a1 : Int32} {a2 : Int32} {ρ : Int32 × Mem} (E : jEI Γ cX8_turn ρ.1 ρ.2) (μ : Mem) (h : f_X8_turn a1 a2 μ = some ρ) : jJ Γ 4 0 [(0, .ref 113), (1, .int a1), (2, .int a2)] [] μ := by
  unfold f_X8_turn at h
  refine j_aload_n C dX8_turn_0 rfl 0 rfl ?_
  refine j_iconst (v := (nI 0)) C dX8_turn_1 rfl (by decide) ?_
  refine j_putI C dX8_turn_2 rfl lpX8_48 is_113 rfl ?_
  refine j_mem (fun μ1_ e2_ => ?_)
  replace h := zl_u h e2_
  refine j_aload_n C dX8_turn_5 rfl 0 rfl ?_
  refine j_iload_n C dX8_turn_6 rfl 1 rfl ?_
  replace h := bd_e h
  obtain ⟨p3_, h4_, h⟩ := h
  refine j_cVI (av := [.int a1]) (rest := []) C dX8_turn_7 rfl (c_X8_isRock _ _ _ _ μ1_ p3_ h4_) gvX8_65 ⟨⟨rfl, rfl⟩, Nat.le_of_ble_eq_true rfl, Nat.le_of_ble_eq_true rfl⟩ rfl is_113 rfl rfl (Nat.le_of_ble_eq_true rfl) ?_
  refine j_if_eq (tgt := 25) C dX8_turn_10 rfl (by decide) (fun c5_ => ?_) (fun c5_ => ?_)
  · replace h := if_t h c5_
    refine j_iconst (v := (-1)) C dX8_turn_25 rfl (by decide) ?_
    obtain rfl := Option.some.inj h
    exact j_iret E dX8_turn_26
  · replace h := if_f h c5_
    refine j_iload_n C dX8_turn_13 rfl 2 rfl ?_
    refine j_i2l C dX8_turn_14 rfl ?_
    refine j_lconst (v := 0) C dX8_turn_15 rfl (by decide) ?_
    refine j_ldc2 (v := 5) C dX8_turn_16 rfl gwt5_27 ?_
    replace h := bd_e h
    obtain ⟨p6_, h7_, h⟩ := h
    refine j_cSI (av := [.long (Int32.toInt64 a2), .long 0, .long 5]) (rest := []) C dX8_turn_19 rfl (c_X8_in _ _ _ _ p3_.2 p6_ h7_) gsX8_51 ⟨⟨rfl, rfl⟩, Nat.le_of_ble_eq_true rfl, Nat.le_of_ble_eq_true rfl⟩ rfl rfl (Nat.le_of_ble_eq_true rfl) ?_
    refine j_if_ne (tgt := 27) C dX8_turn_22 rfl (by decide) (fun c8_ => ?_) (fun c8_ => ?_)
    · replace h := if_f h c8_
      refine j_aload_n C dX8_turn_27 rfl 0 rfl ?_
      refine j_getR (c := 114) C dX8_turn_28 rfl lkX8_7 is_113 rfl ?_
      refine j_bipush (v := (nI 6)) C dX8_turn_31 rfl (by decide) ?_
      refine j_bipush (v := (nI 6)) C dX8_turn_33 rfl (by decide) ?_
      refine j_iload_n C dX8_turn_35 rfl 1 rfl ?_
      refine j_imul C dX8_turn_36 rfl ?_
      refine j_iadd C dX8_turn_37 rfl ?_
      replace h := gd_e h
      obtain ⟨g9_, h⟩ := h
      refine j_iald C dX8_turn_38 rfl is_114 g9_ ?_
      refine j_topi (fun x10_ e11_ => ?_)
      replace h := zl_u h e11_
      refine j_istore_n (lv' := [(3, .int x10_), (0, .ref 113), (1, .int a1), (2, .int a2)]) C dX8_turn_39 rfl (by decide) rfl ?_
      refine j_aload_n C dX8_turn_40 rfl 1 rfl ?_
      refine j_getR (c := 114) C dX8_turn_41 rfl lkX8_7 is_113 rfl ?_
      refine j_bipush (v := (nI 6)) C dX8_turn_44 rfl (by decide) ?_
      refine j_bipush (v := (nI 6)) C dX8_turn_46 rfl (by decide) ?_
      refine j_iload_n C dX8_turn_48 rfl 2 rfl ?_
      refine j_imul C dX8_turn_49 rfl ?_
      refine j_iadd C dX8_turn_50 rfl ?_
      refine j_iload_n C dX8_turn_51 rfl 3 rfl ?_
      refine j_iast C dX8_turn_52 rfl is_114 g9_ ?_
      refine j_mem (fun μ12_ e13_ => ?_)
      replace h := zl_u h e13_
      refine j_iload_n C dX8_turn_53 rfl 0 rfl ?_
      obtain rfl := Option.some.inj h
      exact j_iret E dX8_turn_54
    · replace h := if_t h c8_
      refine j_iconst (v := (-1)) C dX8_turn_25 rfl (by decide) ?_
      obtain rfl := Option.some.inj h
      exact j_iret E dX8_turn_26
set_option maxRecDepth 100000 in
theorem c_X8_turn (l : Launch) (D : va_G) (ad : Nat → Nat) (cl : Nat → ClassId) {a1 : Int32} {a2 : Int32} (μ : Mem) (ρ : Int32 × Mem) (h : f_X8_turn a1 a2 μ = some ρ) : CI l D ad cl yX8_turn wsX8_turn rmX8_turn [.ref 113, .int a1, .int a2] μ ρ.1 ρ.2 := c_ofI (cc := cX8_turn) (nL := 4) rfl (by decide) (Nat.le_of_ble_eq_true rfl) (fun Γ C E => w_X8_turn C E μ h)
/-! X8_isDark -/
def wsX8_isDark : List Cond := .code yX8_isDark cX8_isDark 3 (some .boolean) :: G0
def rmX8_isDark : Room := { frames := 0, cells := 0, slots := 0, locals := 0 }
def f_X8_isDark (k0 : Nat) (a1 : Int32) (μ : Mem) : Option (Int32 × Mem) := zl ((nI 6) + ((nI 6) * a1)) fun x1_ => gd (inb (nI 1) 1829) <| gd (inb (x1_ + (nI 4)) 1829) <| (if (μ.1 k0 (Int32.toNatClampNeg (nI 1))) < (μ.1 k0 (Int32.toNatClampNeg (x1_ + (nI 4)))) then some ((nI 0), μ) else gd (inb (x1_ + (nI 5)) 1829) <| (if (μ.1 k0 (Int32.toNatClampNeg (x1_ + (nI 5)))) ≤ (μ.1 k0 (Int32.toNatClampNeg (nI 1))) then some ((nI 0), μ) else some ((nI 1), μ)))
set_option maxHeartbeats 4000000 in
set_option maxRecDepth 100000 in
theorem w_X8_isDark {Γ : jG} (C : jC Γ 3 cX8_isDark RX8 rmX8_isDark) {k0 : Nat} {a1 : Int32} (hk0 : isRow k0) {ρ : Int32 × Mem} (E : (isB ρ.1 = true → jEI Γ cX8_isDark ρ.1 ρ.2)) (μ : Mem) (h : f_X8_isDark k0 a1 μ = some ρ) : jJ Γ 3 0 [(0, .ref k0), (1, .int a1)] [] μ := by
  unfold f_X8_isDark at h
  refine j_bipush (v := (nI 6)) C dX8_isDark_0 rfl (by decide) ?_
  refine j_bipush (v := (nI 6)) C dX8_isDark_2 rfl (by decide) ?_
  refine j_iload_n C dX8_isDark_4 rfl 1 rfl ?_
  refine j_imul C dX8_isDark_5 rfl ?_
  refine j_iadd C dX8_isDark_6 rfl ?_
  refine j_topi (fun x1_ e2_ => ?_)
  replace h := zl_u h e2_
  refine j_istore_n (lv' := [(2, .int x1_), (0, .ref k0), (1, .int a1)]) C dX8_isDark_7 rfl (by decide) rfl ?_
  refine j_aload_n C dX8_isDark_8 rfl 1 rfl ?_
  refine j_iconst (v := (nI 1)) C dX8_isDark_9 rfl (by decide) ?_
  replace h := gd_e h
  obtain ⟨g3_, h⟩ := h
  refine j_iald C dX8_isDark_10 rfl (isRow_is hk0) g3_ ?_
  refine j_aload_n C dX8_isDark_11 rfl 1 rfl ?_
  refine j_iload_n C dX8_isDark_12 rfl 0 rfl ?_
  refine j_iconst (v := (nI 4)) C dX8_isDark_13 rfl (by decide) ?_
  refine j_iadd C dX8_isDark_14 rfl ?_
  replace h := gd_e h
  obtain ⟨g4_, h⟩ := h
  refine j_iald C dX8_isDark_15 rfl (isRow_is hk0) g4_ ?_
  refine j_icmp_lt (tgt := 34) C dX8_isDark_16 rfl (by decide) (fun c5_ => ?_) (fun c5_ => ?_)
  · replace h := if_t h c5_
    refine j_iconst (v := (nI 0)) C dX8_isDark_34 rfl (by decide) ?_
    obtain rfl := Option.some.inj h
    exact j_iret (E isB_0) dX8_isDark_35
  · replace h := if_f h c5_
    refine j_aload_n C dX8_isDark_19 rfl 1 rfl ?_
    refine j_iconst (v := (nI 1)) C dX8_isDark_20 rfl (by decide) ?_
    refine j_iald C dX8_isDark_21 rfl (isRow_is hk0) g3_ ?_
    refine j_aload_n C dX8_isDark_22 rfl 1 rfl ?_
    refine j_iload_n C dX8_isDark_23 rfl 0 rfl ?_
    refine j_iconst (v := (nI 5)) C dX8_isDark_24 rfl (by decide) ?_
    refine j_iadd C dX8_isDark_25 rfl ?_
    replace h := gd_e h
    obtain ⟨g6_, h⟩ := h
    refine j_iald C dX8_isDark_26 rfl (isRow_is hk0) g6_ ?_
    refine j_icmp_ge (tgt := 34) C dX8_isDark_27 rfl (by decide) (fun c7_ => ?_) (fun c7_ => ?_)
    · replace h := if_t h c7_
      refine j_iconst (v := (nI 0)) C dX8_isDark_34 rfl (by decide) ?_
      obtain rfl := Option.some.inj h
      exact j_iret (E isB_0) dX8_isDark_35
    · replace h := if_f h c7_
      refine j_iconst (v := (nI 1)) C dX8_isDark_30 rfl (by decide) ?_
      refine j_goto (pc' := 35) C dX8_isDark_31 (by decide) ?_
      obtain rfl := Option.some.inj h
      exact j_iret (E isB_1) dX8_isDark_35
set_option maxRecDepth 100000 in
theorem c_X8_isDark (l : Launch) (D : va_G) (ad : Nat → Nat) (cl : Nat → ClassId) {k0 : Nat} {a1 : Int32} (hk0 : isRow k0) (μ : Mem) (ρ : Int32 × Mem) (h : f_X8_isDark k0 a1 μ = some ρ) : CI l D ad cl yX8_isDark wsX8_isDark rmX8_isDark [.ref k0, .int a1] μ ρ.1 ρ.2 := c_ofZ (cc := cX8_isDark) (nL := 3) rfl (by decide) (Nat.le_of_ble_eq_true rfl) (fun Γ C E => w_X8_isDark C hk0 E μ h)
theorem gsX8_73 : jm_gs RX8 73 yX8_isDark wsX8_isDark 3 2 := ⟨_, _, gi_S gwt5_55 gwt5_56 gwt1_9 gwt5_57, rfl, by decide +kernel⟩
/-! X8_dark -/
def wsX8_dark : List Cond := .code yX8_dark cX8_dark 4 (some .int) :: G0
def rmX8_dark : Room := { frames := 2, cells := 0, slots := 0, locals := 46 }
def f_X8_dark (a1 : Int32) (a2 : Int32) (a3 : Int32) (μ : Mem) : Option (Int32 × Mem) := zl (sI μ 113 0 (nI 0)) fun μ1_ => Option.bind (f_X8_isRock a1 μ1_) fun p3_ => (if p3_.1 = 0 then some ((-1), p3_.2) else Option.bind (f_X8_in (Int32.toInt64 a2) 0 99 p3_.2) fun p6_ => (if p6_.1 = 0 then some ((-1), p6_.2) else Option.bind (f_X8_in (Int32.toInt64 a3) 0 100 p6_.2) fun p9_ => (if p9_.1 = 0 then some ((-1), p9_.2) else gd (inb (((nI 6) + ((nI 6) * a1)) + (nI 4)) 1829) <| zl (sI p9_.2 114 (Int32.toNatClampNeg (((nI 6) + ((nI 6) * a1)) + (nI 4))) a2) fun μ13_ => gd (inb (((nI 6) + ((nI 6) * a1)) + (nI 5)) 1829) <| zl (sI μ13_ 114 (Int32.toNatClampNeg (((nI 6) + ((nI 6) * a1)) + (nI 5))) a3) fun μ16_ => Option.bind (f_X8_isDark 114 a1 μ16_) fun p18_ => (if p18_.1 = 0 then some ((nI 0), p18_.2) else some ((nI 1), p18_.2)))))
set_option maxHeartbeats 4000000 in
set_option maxRecDepth 100000 in
theorem w_X8_dark {Γ : jG} (C : jC Γ 4 cX8_dark RX8 rmX8_dark) {a1 : Int32} {a2 : Int32} {a3 : Int32} {ρ : Int32 × Mem} (E : jEI Γ cX8_dark ρ.1 ρ.2) (μ : Mem) (h : f_X8_dark a1 a2 a3 μ = some ρ) : jJ Γ 4 0 [(0, .ref 113), (1, .int a1), (2, .int a2), (3, .int a3)] [] μ := by
  unfold f_X8_dark at h
  refine j_aload_n C dX8_dark_0 rfl 0 rfl ?_
  refine j_iconst (v := (nI 0)) C dX8_dark_1 rfl (by decide) ?_
  refine j_putI C dX8_dark_2 rfl lpX8_48 is_113 rfl ?_
  refine j_mem (fun μ1_ e2_ => ?_)
  replace h := zl_u h e2_
  refine j_aload_n C dX8_dark_5 rfl 0 rfl ?_
  refine j_iload_n C dX8_dark_6 rfl 1 rfl ?_
  replace h := bd_e h
  obtain ⟨p3_, h4_, h⟩ := h
  refine j_cVI (av := [.int a1]) (rest := []) C dX8_dark_7 rfl (c_X8_isRock _ _ _ _ μ1_ p3_ h4_) gvX8_65 ⟨⟨rfl, rfl⟩, Nat.le_of_ble_eq_true rfl, Nat.le_of_ble_eq_true rfl⟩ rfl is_113 rfl rfl (Nat.le_of_ble_eq_true rfl) ?_
  refine j_if_eq (tgt := 37) C dX8_dark_10 rfl (by decide) (fun c5_ => ?_) (fun c5_ => ?_)
  · replace h := if_t h c5_
    refine j_iconst (v := (-1)) C dX8_dark_37 rfl (by decide) ?_
    obtain rfl := Option.some.inj h
    exact j_iret E dX8_dark_38
  · replace h := if_f h c5_
    refine j_iload_n C dX8_dark_13 rfl 2 rfl ?_
    refine j_i2l C dX8_dark_14 rfl ?_
    refine j_lconst (v := 0) C dX8_dark_15 rfl (by decide) ?_
    refine j_ldc2 (v := 99) C dX8_dark_16 rfl gwt5_53 ?_
    replace h := bd_e h
    obtain ⟨p6_, h7_, h⟩ := h
    refine j_cSI (av := [.long (Int32.toInt64 a2), .long 0, .long 99]) (rest := []) C dX8_dark_19 rfl (c_X8_in _ _ _ _ p3_.2 p6_ h7_) gsX8_51 ⟨⟨rfl, rfl⟩, Nat.le_of_ble_eq_true rfl, Nat.le_of_ble_eq_true rfl⟩ rfl rfl (Nat.le_of_ble_eq_true rfl) ?_
    refine j_if_eq (tgt := 37) C dX8_dark_22 rfl (by decide) (fun c8_ => ?_) (fun c8_ => ?_)
    · replace h := if_t h c8_
      refine j_iconst (v := (-1)) C dX8_dark_37 rfl (by decide) ?_
      obtain rfl := Option.some.inj h
      exact j_iret E dX8_dark_38
    · replace h := if_f h c8_
      refine j_iload_n C dX8_dark_25 rfl 3 rfl ?_
      refine j_i2l C dX8_dark_26 rfl ?_
      refine j_lconst (v := 0) C dX8_dark_27 rfl (by decide) ?_
      refine j_ldc2 (v := 100) C dX8_dark_28 rfl gwt5_54 ?_
      replace h := bd_e h
      obtain ⟨p9_, h10_, h⟩ := h
      refine j_cSI (av := [.long (Int32.toInt64 a3), .long 0, .long 100]) (rest := []) C dX8_dark_31 rfl (c_X8_in _ _ _ _ p6_.2 p9_ h10_) gsX8_51 ⟨⟨rfl, rfl⟩, Nat.le_of_ble_eq_true rfl, Nat.le_of_ble_eq_true rfl⟩ rfl rfl (Nat.le_of_ble_eq_true rfl) ?_
      refine j_if_ne (tgt := 39) C dX8_dark_34 rfl (by decide) (fun c11_ => ?_) (fun c11_ => ?_)
      · replace h := if_f h c11_
        refine j_aload_n C dX8_dark_39 rfl 0 rfl ?_
        refine j_getR (c := 114) C dX8_dark_40 rfl lkX8_7 is_113 rfl ?_
        refine j_bipush (v := (nI 6)) C dX8_dark_43 rfl (by decide) ?_
        refine j_bipush (v := (nI 6)) C dX8_dark_45 rfl (by decide) ?_
        refine j_iload_n C dX8_dark_47 rfl 1 rfl ?_
        refine j_imul C dX8_dark_48 rfl ?_
        refine j_iadd C dX8_dark_49 rfl ?_
        refine j_iconst (v := (nI 4)) C dX8_dark_50 rfl (by decide) ?_
        refine j_iadd C dX8_dark_51 rfl ?_
        refine j_iload_n C dX8_dark_52 rfl 2 rfl ?_
        replace h := gd_e h
        obtain ⟨g12_, h⟩ := h
        refine j_iast C dX8_dark_53 rfl is_114 g12_ ?_
        refine j_mem (fun μ13_ e14_ => ?_)
        replace h := zl_u h e14_
        refine j_aload_n C dX8_dark_54 rfl 0 rfl ?_
        refine j_getR (c := 114) C dX8_dark_55 rfl lkX8_7 is_113 rfl ?_
        refine j_bipush (v := (nI 6)) C dX8_dark_58 rfl (by decide) ?_
        refine j_bipush (v := (nI 6)) C dX8_dark_60 rfl (by decide) ?_
        refine j_iload_n C dX8_dark_62 rfl 1 rfl ?_
        refine j_imul C dX8_dark_63 rfl ?_
        refine j_iadd C dX8_dark_64 rfl ?_
        refine j_iconst (v := (nI 5)) C dX8_dark_65 rfl (by decide) ?_
        refine j_iadd C dX8_dark_66 rfl ?_
        refine j_iload_n C dX8_dark_67 rfl 3 rfl ?_
        replace h := gd_e h
        obtain ⟨g15_, h⟩ := h
        refine j_iast C dX8_dark_68 rfl is_114 g15_ ?_
        refine j_mem (fun μ16_ e17_ => ?_)
        replace h := zl_u h e17_
        refine j_aload_n C dX8_dark_69 rfl 0 rfl ?_
        refine j_getR (c := 114) C dX8_dark_70 rfl lkX8_7 is_113 rfl ?_
        refine j_iload_n C dX8_dark_73 rfl 1 rfl ?_
        replace h := bd_e h
        obtain ⟨p18_, h19_, h⟩ := h
        refine j_cSI (av := [.ref 114, .int a1]) (rest := []) C dX8_dark_74 rfl (c_X8_isDark _ _ _ _ isRow114 μ16_ p18_ h19_) gsX8_73 ⟨⟨rfl, rfl⟩, Nat.le_of_ble_eq_true rfl, Nat.le_of_ble_eq_true rfl⟩ rfl rfl (Nat.le_of_ble_eq_true rfl) ?_
        refine j_if_eq (tgt := 84) C dX8_dark_77 rfl (by decide) (fun c20_ => ?_) (fun c20_ => ?_)
        · replace h := if_t h c20_
          refine j_iconst (v := (nI 0)) C dX8_dark_84 rfl (by decide) ?_
          obtain rfl := Option.some.inj h
          exact j_iret E dX8_dark_85
        · replace h := if_f h c20_
          refine j_iconst (v := (nI 1)) C dX8_dark_80 rfl (by decide) ?_
          refine j_goto (pc' := 85) C dX8_dark_81 (by decide) ?_
          obtain rfl := Option.some.inj h
          exact j_iret E dX8_dark_85
      · replace h := if_t h c11_
        refine j_iconst (v := (-1)) C dX8_dark_37 rfl (by decide) ?_
        obtain rfl := Option.some.inj h
        exact j_iret E dX8_dark_38
set_option maxRecDepth 100000 in
theorem c_X8_dark (l : Launch) (D : va_G) (ad : Nat → Nat) (cl : Nat → ClassId) {a1 : Int32} {a2 : Int32} {a3 : Int32} (μ : Mem) (ρ : Int32 × Mem) (h : f_X8_dark a1 a2 a3 μ = some ρ) : CI l D ad cl yX8_dark wsX8_dark rmX8_dark [.ref 113, .int a1, .int a2, .int a3] μ ρ.1 ρ.2 := c_ofI (cc := cX8_dark) (nL := 4) rfl (by decide) (Nat.le_of_ble_eq_true rfl) (fun Γ C E => w_X8_dark C E μ h)
/-! X8_delay -/
def wsX8_delay : List Cond := .code yX8_delay cX8_delay 5 (some .int) :: G0
def rmX8_delay : Room := { frames := 2, cells := 0, slots := 0, locals := 46 }
def f_X8_delay (a1 : Int32) (a2 : Int32) (a3 : Int32) (μ : Mem) : Option (Int32 × Mem) := zl (sI μ 113 0 (nI 0)) fun μ1_ => Option.bind (f_X8_isRock a1 μ1_) fun p3_ => (if p3_.1 = 0 then some ((-1), p3_.2) else Option.bind (f_X8_isRock a2 p3_.2) fun p6_ => (if p6_.1 = 0 then some ((-1), p6_.2) else (if a1 = a2 then some ((-1), p6_.2) else Option.bind (f_X8_in (Int32.toInt64 a3) 1 9 p6_.2) fun p10_ => (if p10_.1 = 0 then some ((-1), p10_.2) else gd (inb (((nI 60) + ((nI 9) * a1)) + a2) 1829) <| zl (p10_.2.1 114 (Int32.toNatClampNeg (((nI 60) + ((nI 9) * a1)) + a2))) fun x14_ => zl (sI p10_.2 114 (Int32.toNatClampNeg (((nI 60) + ((nI 9) * a1)) + a2)) a3) fun μ16_ => some (x14_, μ16_)))))
set_option maxHeartbeats 4000000 in
set_option maxRecDepth 100000 in
theorem w_X8_delay {Γ : jG} (C : jC Γ 5 cX8_delay RX8 rmX8_delay) {a1 : Int32} {a2 : Int32} {a3 : Int32} {ρ : Int32 × Mem} (E : jEI Γ cX8_delay ρ.1 ρ.2) (μ : Mem) (h : f_X8_delay a1 a2 a3 μ = some ρ) : jJ Γ 5 0 [(0, .ref 113), (1, .int a1), (2, .int a2), (3, .int a3)] [] μ := by
  unfold f_X8_delay at h
  refine j_aload_n C dX8_delay_0 rfl 0 rfl ?_
  refine j_iconst (v := (nI 0)) C dX8_delay_1 rfl (by decide) ?_
  refine j_putI C dX8_delay_2 rfl lpX8_48 is_113 rfl ?_
  refine j_mem (fun μ1_ e2_ => ?_)
  replace h := zl_u h e2_
  refine j_aload_n C dX8_delay_5 rfl 0 rfl ?_
  refine j_iload_n C dX8_delay_6 rfl 1 rfl ?_
  replace h := bd_e h
  obtain ⟨p3_, h4_, h⟩ := h
  refine j_cVI (av := [.int a1]) (rest := []) C dX8_delay_7 rfl (c_X8_isRock _ _ _ _ μ1_ p3_ h4_) gvX8_65 ⟨⟨rfl, rfl⟩, Nat.le_of_ble_eq_true rfl, Nat.le_of_ble_eq_true rfl⟩ rfl is_113 rfl rfl (Nat.le_of_ble_eq_true rfl) ?_
  refine j_if_eq (tgt := 38) C dX8_delay_10 rfl (by decide) (fun c5_ => ?_) (fun c5_ => ?_)
  · replace h := if_t h c5_
    refine j_iconst (v := (-1)) C dX8_delay_38 rfl (by decide) ?_
    obtain rfl := Option.some.inj h
    exact j_iret E dX8_delay_39
  · replace h := if_f h c5_
    refine j_aload_n C dX8_delay_13 rfl 0 rfl ?_
    refine j_iload_n C dX8_delay_14 rfl 2 rfl ?_
    replace h := bd_e h
    obtain ⟨p6_, h7_, h⟩ := h
    refine j_cVI (av := [.int a2]) (rest := []) C dX8_delay_15 rfl (c_X8_isRock _ _ _ _ p3_.2 p6_ h7_) gvX8_65 ⟨⟨rfl, rfl⟩, Nat.le_of_ble_eq_true rfl, Nat.le_of_ble_eq_true rfl⟩ rfl is_113 rfl rfl (Nat.le_of_ble_eq_true rfl) ?_
    refine j_if_eq (tgt := 38) C dX8_delay_18 rfl (by decide) (fun c8_ => ?_) (fun c8_ => ?_)
    · replace h := if_t h c8_
      refine j_iconst (v := (-1)) C dX8_delay_38 rfl (by decide) ?_
      obtain rfl := Option.some.inj h
      exact j_iret E dX8_delay_39
    · replace h := if_f h c8_
      refine j_iload_n C dX8_delay_21 rfl 1 rfl ?_
      refine j_iload_n C dX8_delay_22 rfl 2 rfl ?_
      refine j_icmp_eq (tgt := 38) C dX8_delay_23 rfl (by decide) (fun c9_ => ?_) (fun c9_ => ?_)
      · replace h := if_t h c9_
        refine j_iconst (v := (-1)) C dX8_delay_38 rfl (by decide) ?_
        obtain rfl := Option.some.inj h
        exact j_iret E dX8_delay_39
      · replace h := if_f h c9_
        refine j_iload_n C dX8_delay_26 rfl 3 rfl ?_
        refine j_i2l C dX8_delay_27 rfl ?_
        refine j_lconst (v := 1) C dX8_delay_28 rfl (by decide) ?_
        refine j_ldc2 (v := 9) C dX8_delay_29 rfl gwt5_62 ?_
        replace h := bd_e h
        obtain ⟨p10_, h11_, h⟩ := h
        refine j_cSI (av := [.long (Int32.toInt64 a3), .long 1, .long 9]) (rest := []) C dX8_delay_32 rfl (c_X8_in _ _ _ _ p6_.2 p10_ h11_) gsX8_51 ⟨⟨rfl, rfl⟩, Nat.le_of_ble_eq_true rfl, Nat.le_of_ble_eq_true rfl⟩ rfl rfl (Nat.le_of_ble_eq_true rfl) ?_
        refine j_if_ne (tgt := 40) C dX8_delay_35 rfl (by decide) (fun c12_ => ?_) (fun c12_ => ?_)
        · replace h := if_f h c12_
          refine j_aload_n C dX8_delay_40 rfl 0 rfl ?_
          refine j_getR (c := 114) C dX8_delay_41 rfl lkX8_7 is_113 rfl ?_
          refine j_bipush (v := (nI 60)) C dX8_delay_44 rfl (by decide) ?_
          refine j_bipush (v := (nI 9)) C dX8_delay_46 rfl (by decide) ?_
          refine j_iload_n C dX8_delay_48 rfl 1 rfl ?_
          refine j_imul C dX8_delay_49 rfl ?_
          refine j_iadd C dX8_delay_50 rfl ?_
          refine j_iload_n C dX8_delay_51 rfl 2 rfl ?_
          refine j_iadd C dX8_delay_52 rfl ?_
          replace h := gd_e h
          obtain ⟨g13_, h⟩ := h
          refine j_iald C dX8_delay_53 rfl is_114 g13_ ?_
          refine j_topi (fun x14_ e15_ => ?_)
          replace h := zl_u h e15_
          refine j_istore (lv' := [(4, .int x14_), (0, .ref 113), (1, .int a1), (2, .int a2), (3, .int a3)]) C dX8_delay_54 rfl (by decide) rfl ?_
          refine j_aload_n C dX8_delay_56 rfl 1 rfl ?_
          refine j_getR (c := 114) C dX8_delay_57 rfl lkX8_7 is_113 rfl ?_
          refine j_bipush (v := (nI 60)) C dX8_delay_60 rfl (by decide) ?_
          refine j_bipush (v := (nI 9)) C dX8_delay_62 rfl (by decide) ?_
          refine j_iload_n C dX8_delay_64 rfl 2 rfl ?_
          refine j_imul C dX8_delay_65 rfl ?_
          refine j_iadd C dX8_delay_66 rfl ?_
          refine j_iload_n C dX8_delay_67 rfl 3 rfl ?_
          refine j_iadd C dX8_delay_68 rfl ?_
          refine j_iload_n C dX8_delay_69 rfl 4 rfl ?_
          refine j_iast C dX8_delay_70 rfl is_114 g13_ ?_
          refine j_mem (fun μ16_ e17_ => ?_)
          replace h := zl_u h e17_
          refine j_iload C dX8_delay_71 rfl 0 rfl ?_
          obtain rfl := Option.some.inj h
          exact j_iret E dX8_delay_73
        · replace h := if_t h c12_
          refine j_iconst (v := (-1)) C dX8_delay_38 rfl (by decide) ?_
          obtain rfl := Option.some.inj h
          exact j_iret E dX8_delay_39
set_option maxRecDepth 100000 in
theorem c_X8_delay (l : Launch) (D : va_G) (ad : Nat → Nat) (cl : Nat → ClassId) {a1 : Int32} {a2 : Int32} {a3 : Int32} (μ : Mem) (ρ : Int32 × Mem) (h : f_X8_delay a1 a2 a3 μ = some ρ) : CI l D ad cl yX8_delay wsX8_delay rmX8_delay [.ref 113, .int a1, .int a2, .int a3] μ ρ.1 ρ.2 := c_ofI (cc := cX8_delay) (nL := 5) rfl (by decide) (Nat.le_of_ble_eq_true rfl) (fun Γ C E => w_X8_delay C E μ h)
/-! X8_isTrue -/
def wsX8_isTrue : List Cond := .code yX8_isTrue cX8_isTrue 3 (some .boolean) :: G0
def rmX8_isTrue : Room := { frames := 0, cells := 0, slots := 0, locals := 0 }
def f_X8_isTrue_19 (k0 : Nat) (a1 : Int32) (μ : Mem) : Option (Int32 × Mem) := some ((nI 1), μ)
set_option maxHeartbeats 4000000 in
set_option maxRecDepth 100000 in
theorem w_X8_isTrue_19 {Γ : jG} (C : jC Γ 3 cX8_isTrue RX8 rmX8_isTrue) {k0 : Nat} {a1 : Int32} (hk0 : isRow k0) {ρ : Int32 × Mem} (E : (isB ρ.1 = true → jEI Γ cX8_isTrue ρ.1 ρ.2)) (μ : Mem) (h : f_X8_isTrue_19 k0 a1 μ = some ρ) : jJ Γ 3 19 [] [] μ := by
  unfold f_X8_isTrue_19 at h
  refine j_iconst (v := (nI 1)) C dX8_isTrue_19 rfl (by decide) ?_
  refine j_goto (pc' := 24) C dX8_isTrue_20 (by decide) ?_
  obtain rfl := Option.some.inj h
  exact j_iret (E isB_1) dX8_isTrue_24
def f_X8_isTrue (k0 : Nat) (a1 : Int32) (μ : Mem) : Option (Int32 × Mem) := gd (inb ((nI 6) + ((nI 6) * a1)) 1829) <| zl (μ.1 k0 (Int32.toNatClampNeg ((nI 6) + ((nI 6) * a1)))) fun x2_ => (if x2_ = 0 then f_X8_isTrue_19 k0 a1 μ else (if x2_ = (nI 3) then f_X8_isTrue_19 k0 a1 μ else some ((nI 0), μ)))
set_option maxHeartbeats 4000000 in
set_option maxRecDepth 100000 in
theorem w_X8_isTrue {Γ : jG} (C : jC Γ 3 cX8_isTrue RX8 rmX8_isTrue) {k0 : Nat} {a1 : Int32} (hk0 : isRow k0) {ρ : Int32 × Mem} (E : (isB ρ.1 = true → jEI Γ cX8_isTrue ρ.1 ρ.2)) (μ : Mem) (h : f_X8_isTrue k0 a1 μ = some ρ) : jJ Γ 3 0 [(0, .ref k0), (1, .int a1)] [] μ := by
  unfold f_X8_isTrue at h
  refine j_aload_n C dX8_isTrue_0 rfl 0 rfl ?_
  refine j_bipush (v := (nI 6)) C dX8_isTrue_1 rfl (by decide) ?_
  refine j_bipush (v := (nI 6)) C dX8_isTrue_3 rfl (by decide) ?_
  refine j_iload_n C dX8_isTrue_5 rfl 1 rfl ?_
  refine j_imul C dX8_isTrue_6 rfl ?_
  refine j_iadd C dX8_isTrue_7 rfl ?_
  replace h := gd_e h
  obtain ⟨g1_, h⟩ := h
  refine j_iald C dX8_isTrue_8 rfl (isRow_is hk0) g1_ ?_
  refine j_topi (fun x2_ e3_ => ?_)
  replace h := zl_u h e3_
  refine j_istore_n (lv' := [(2, .int x2_), (0, .ref k0), (1, .int a1)]) C dX8_isTrue_9 rfl (by decide) rfl ?_
  refine j_iload_n C dX8_isTrue_10 rfl 0 rfl ?_
  refine j_if_eq (tgt := 19) C dX8_isTrue_11 rfl (by decide) (fun c4_ => ?_) (fun c4_ => ?_)
  · replace h := if_t h c4_
    refine j_lv [] rfl ?_
    exact w_X8_isTrue_19 C hk0 E μ h
  · replace h := if_f h c4_
    refine j_iload_n C dX8_isTrue_14 rfl 0 rfl ?_
    refine j_iconst (v := (nI 3)) C dX8_isTrue_15 rfl (by decide) ?_
    refine j_icmp_ne (tgt := 23) C dX8_isTrue_16 rfl (by decide) (fun c5_ => ?_) (fun c5_ => ?_)
    · replace h := if_f h c5_
      refine j_iconst (v := (nI 0)) C dX8_isTrue_23 rfl (by decide) ?_
      obtain rfl := Option.some.inj h
      exact j_iret (E isB_0) dX8_isTrue_24
    · replace h := if_t h c5_
      refine j_lv [] rfl ?_
      exact w_X8_isTrue_19 C hk0 E μ h
set_option maxRecDepth 100000 in
theorem c_X8_isTrue (l : Launch) (D : va_G) (ad : Nat → Nat) (cl : Nat → ClassId) {k0 : Nat} {a1 : Int32} (hk0 : isRow k0) (μ : Mem) (ρ : Int32 × Mem) (h : f_X8_isTrue k0 a1 μ = some ρ) : CI l D ad cl yX8_isTrue wsX8_isTrue rmX8_isTrue [.ref k0, .int a1] μ ρ.1 ρ.2 := c_ofZ (cc := cX8_isTrue) (nL := 3) rfl (by decide) (Nat.le_of_ble_eq_true rfl) (fun Γ C E => w_X8_isTrue C hk0 E μ h)
theorem gsX8_81 : jm_gs RX8 81 yX8_isTrue wsX8_isTrue 3 2 := ⟨_, _, gi_S gwt5_68 gwt5_69 gwt1_9 gwt5_70, rfl, by decide +kernel⟩
/-! X8_told -/
def wsX8_told : List Cond := .code yX8_told cX8_told 3 (some .int) :: G0
def rmX8_told : Room := { frames := 2, cells := 0, slots := 0, locals := 46 }
def f_X8_told_79 (a1 : Int32) (a2 : Int32) (μ : Mem) : Option (Int32 × Mem) := some ((nI 1), μ)
set_option maxHeartbeats 4000000 in
set_option maxRecDepth 100000 in
theorem w_X8_told_79 {Γ : jG} (C : jC Γ 3 cX8_told RX8 rmX8_told) {a1 : Int32} {a2 : Int32} {ρ : Int32 × Mem} (E : jEI Γ cX8_told ρ.1 ρ.2) (μ : Mem) (h : f_X8_told_79 a1 a2 μ = some ρ) : jJ Γ 3 79 [] [] μ := by
  unfold f_X8_told_79 at h
  refine j_iconst (v := (nI 1)) C dX8_told_79 rfl (by decide) ?_
  refine j_goto (pc' := 84) C dX8_told_80 (by decide) ?_
  obtain rfl := Option.some.inj h
  exact j_iret E dX8_told_84
def f_X8_told (a1 : Int32) (a2 : Int32) (μ : Mem) : Option (Int32 × Mem) := zl (sI μ 113 0 (nI 0)) fun μ1_ => Option.bind (f_X8_isRock a1 μ1_) fun p3_ => (if p3_.1 = 0 then some ((-1), p3_.2) else Option.bind (f_X8_in (Int32.toInt64 a2) 0 7 p3_.2) fun p6_ => (if p6_.1 = 0 then some ((-1), p6_.2) else (if (nI 6) ≤ a2 then (if a2 = (nI 6) then Option.bind (f_X8_isDark 114 a1 p6_.2) fun p14_ => (if p14_.1 = 0 then some ((nI 0), p14_.2) else f_X8_told_79 a1 a2 p14_.2) else Option.bind (f_X8_isTrue 114 a1 p6_.2) fun p11_ => (if p11_.1 = 0 then some ((nI 0), p11_.2) else f_X8_told_79 a1 a2 p11_.2)) else gd (inb (((nI 6) + ((nI 6) * a1)) + a2) 1829) <| some (p6_.2.1 114 (Int32.toNatClampNeg (((nI 6) + ((nI 6) * a1)) + a2)), p6_.2))))
set_option maxHeartbeats 4000000 in
set_option maxRecDepth 100000 in
theorem w_X8_told {Γ : jG} (C : jC Γ 3 cX8_told RX8 rmX8_told) {a1 : Int32} {a2 : Int32} {ρ : Int32 × Mem} (E : jEI Γ cX8_told ρ.1 ρ.2) (μ : Mem) (h : f_X8_told a1 a2 μ = some ρ) : jJ Γ 3 0 [(0, .ref 113), (1, .int a1), (2, .int a2)] [] μ := by
  unfold f_X8_told at h
  refine j_aload_n C dX8_told_0 rfl 0 rfl ?_
  refine j_iconst (v := (nI 0)) C dX8_told_1 rfl (by decide) ?_
  refine j_putI C dX8_told_2 rfl lpX8_48 is_113 rfl ?_
  refine j_mem (fun μ1_ e2_ => ?_)
  replace h := zl_u h e2_
  refine j_aload_n C dX8_told_5 rfl 0 rfl ?_
  refine j_iload_n C dX8_told_6 rfl 1 rfl ?_
  replace h := bd_e h
  obtain ⟨p3_, h4_, h⟩ := h
  refine j_cVI (av := [.int a1]) (rest := []) C dX8_told_7 rfl (c_X8_isRock _ _ _ _ μ1_ p3_ h4_) gvX8_65 ⟨⟨rfl, rfl⟩, Nat.le_of_ble_eq_true rfl, Nat.le_of_ble_eq_true rfl⟩ rfl is_113 rfl rfl (Nat.le_of_ble_eq_true rfl) ?_
  refine j_if_eq (tgt := 25) C dX8_told_10 rfl (by decide) (fun c5_ => ?_) (fun c5_ => ?_)
  · replace h := if_t h c5_
    refine j_iconst (v := (-1)) C dX8_told_25 rfl (by decide) ?_
    obtain rfl := Option.some.inj h
    exact j_iret E dX8_told_26
  · replace h := if_f h c5_
    refine j_iload_n C dX8_told_13 rfl 2 rfl ?_
    refine j_i2l C dX8_told_14 rfl ?_
    refine j_lconst (v := 0) C dX8_told_15 rfl (by decide) ?_
    refine j_ldc2 (v := 7) C dX8_told_16 rfl gwt5_67 ?_
    replace h := bd_e h
    obtain ⟨p6_, h7_, h⟩ := h
    refine j_cSI (av := [.long (Int32.toInt64 a2), .long 0, .long 7]) (rest := []) C dX8_told_19 rfl (c_X8_in _ _ _ _ p3_.2 p6_ h7_) gsX8_51 ⟨⟨rfl, rfl⟩, Nat.le_of_ble_eq_true rfl, Nat.le_of_ble_eq_true rfl⟩ rfl rfl (Nat.le_of_ble_eq_true rfl) ?_
    refine j_if_ne (tgt := 27) C dX8_told_22 rfl (by decide) (fun c8_ => ?_) (fun c8_ => ?_)
    · replace h := if_f h c8_
      refine j_iload_n C dX8_told_27 rfl 2 rfl ?_
      refine j_bipush (v := (nI 6)) C dX8_told_28 rfl (by decide) ?_
      refine j_icmp_ge (tgt := 48) C dX8_told_30 rfl (by decide) (fun c9_ => ?_) (fun c9_ => ?_)
      · replace h := if_t h c9_
        refine j_iload_n C dX8_told_48 rfl 2 rfl ?_
        refine j_bipush (v := (nI 6)) C dX8_told_49 rfl (by decide) ?_
        refine j_icmp_ne (tgt := 68) C dX8_told_51 rfl (by decide) (fun c10_ => ?_) (fun c10_ => ?_)
        · replace h := if_f h c10_
          refine j_aload_n C dX8_told_68 rfl 0 rfl ?_
          refine j_getR (c := 114) C dX8_told_69 rfl lkX8_7 is_113 rfl ?_
          refine j_iload_n C dX8_told_72 rfl 1 rfl ?_
          replace h := bd_e h
          obtain ⟨p11_, h12_, h⟩ := h
          refine j_cSI (av := [.ref 114, .int a1]) (rest := []) C dX8_told_73 rfl (c_X8_isTrue _ _ _ _ isRow114 p6_.2 p11_ h12_) gsX8_81 ⟨⟨rfl, rfl⟩, Nat.le_of_ble_eq_true rfl, Nat.le_of_ble_eq_true rfl⟩ rfl rfl (Nat.le_of_ble_eq_true rfl) ?_
          refine j_if_eq (tgt := 83) C dX8_told_76 rfl (by decide) (fun c13_ => ?_) (fun c13_ => ?_)
          · replace h := if_t h c13_
            refine j_iconst (v := (nI 0)) C dX8_told_83 rfl (by decide) ?_
            obtain rfl := Option.some.inj h
            exact j_iret E dX8_told_84
          · replace h := if_f h c13_
            refine j_lv [] rfl ?_
            exact w_X8_told_79 C E p11_.2 h
        · replace h := if_t h c10_
          refine j_aload_n C dX8_told_54 rfl 0 rfl ?_
          refine j_getR (c := 114) C dX8_told_55 rfl lkX8_7 is_113 rfl ?_
          refine j_iload_n C dX8_told_58 rfl 1 rfl ?_
          replace h := bd_e h
          obtain ⟨p14_, h15_, h⟩ := h
          refine j_cSI (av := [.ref 114, .int a1]) (rest := []) C dX8_told_59 rfl (c_X8_isDark _ _ _ _ isRow114 p6_.2 p14_ h15_) gsX8_73 ⟨⟨rfl, rfl⟩, Nat.le_of_ble_eq_true rfl, Nat.le_of_ble_eq_true rfl⟩ rfl rfl (Nat.le_of_ble_eq_true rfl) ?_
          refine j_if_eq (tgt := 83) C dX8_told_62 rfl (by decide) (fun c16_ => ?_) (fun c16_ => ?_)
          · replace h := if_t h c16_
            refine j_iconst (v := (nI 0)) C dX8_told_83 rfl (by decide) ?_
            obtain rfl := Option.some.inj h
            exact j_iret E dX8_told_84
          · replace h := if_f h c16_
            refine j_goto (pc' := 79) C dX8_told_65 (by decide) ?_
            refine j_lv [] rfl ?_
            exact w_X8_told_79 C E p14_.2 h
      · replace h := if_f h c9_
        refine j_aload_n C dX8_told_33 rfl 0 rfl ?_
        refine j_getR (c := 114) C dX8_told_34 rfl lkX8_7 is_113 rfl ?_
        refine j_bipush (v := (nI 6)) C dX8_told_37 rfl (by decide) ?_
        refine j_bipush (v := (nI 6)) C dX8_told_39 rfl (by decide) ?_
        refine j_iload_n C dX8_told_41 rfl 1 rfl ?_
        refine j_imul C dX8_told_42 rfl ?_
        refine j_iadd C dX8_told_43 rfl ?_
        refine j_iload_n C dX8_told_44 rfl 2 rfl ?_
        refine j_iadd C dX8_told_45 rfl ?_
        replace h := gd_e h
        obtain ⟨g17_, h⟩ := h
        refine j_iald C dX8_told_46 rfl is_114 g17_ ?_
        obtain rfl := Option.some.inj h
        exact j_iret E dX8_told_47
    · replace h := if_t h c8_
      refine j_iconst (v := (-1)) C dX8_told_25 rfl (by decide) ?_
      obtain rfl := Option.some.inj h
      exact j_iret E dX8_told_26
set_option maxRecDepth 100000 in
theorem c_X8_told (l : Launch) (D : va_G) (ad : Nat → Nat) (cl : Nat → ClassId) {a1 : Int32} {a2 : Int32} (μ : Mem) (ρ : Int32 × Mem) (h : f_X8_told a1 a2 μ = some ρ) : CI l D ad cl yX8_told wsX8_told rmX8_told [.ref 113, .int a1, .int a2] μ ρ.1 ρ.2 := c_ofI (cc := cX8_told) (nL := 3) rfl (by decide) (Nat.le_of_ble_eq_true rfl) (fun Γ C E => w_X8_told C E μ h)
/-! X8_heardBy -/
def wsX8_heardBy : List Cond := .code yX8_heardBy cX8_heardBy 3 (some .int) :: G0
def rmX8_heardBy : Room := { frames := 0, cells := 0, slots := 0, locals := 0 }
def f_X8_heardBy (k0 : Nat) (a1 : Int32) (a2 : Int32) (μ : Mem) : Option (Int32 × Mem) := (if a1 = a2 then gd (inb (((nI 6) + ((nI 6) * a1)) + (nI 1)) 1829) <| some (μ.1 k0 (Int32.toNatClampNeg (((nI 6) + ((nI 6) * a1)) + (nI 1))), μ) else gd (inb (((nI 141) + ((nI 9) * a1)) + a2) 1829) <| some (μ.1 k0 (Int32.toNatClampNeg (((nI 141) + ((nI 9) * a1)) + a2)), μ))
set_option maxHeartbeats 4000000 in
set_option maxRecDepth 100000 in
theorem w_X8_heardBy {Γ : jG} (C : jC Γ 3 cX8_heardBy RX8 rmX8_heardBy) {k0 : Nat} {a1 : Int32} {a2 : Int32} (hk0 : isRow k0) {ρ : Int32 × Mem} (E : jEI Γ cX8_heardBy ρ.1 ρ.2) (μ : Mem) (h : f_X8_heardBy k0 a1 a2 μ = some ρ) : jJ Γ 3 0 [(0, .ref k0), (1, .int a1), (2, .int a2)] [] μ := by
  unfold f_X8_heardBy at h
  refine j_iload_n C dX8_heardBy_0 rfl 1 rfl ?_
  refine j_iload_n C dX8_heardBy_1 rfl 2 rfl ?_
  refine j_icmp_ne (tgt := 19) C dX8_heardBy_2 rfl (by decide) (fun c1_ => ?_) (fun c1_ => ?_)
  · replace h := if_f h c1_
    refine j_aload_n C dX8_heardBy_19 rfl 0 rfl ?_
    refine j_sipush (v := (nI 141)) C dX8_heardBy_20 rfl (by decide) ?_
    refine j_bipush (v := (nI 9)) C dX8_heardBy_23 rfl (by decide) ?_
    refine j_iload_n C dX8_heardBy_25 rfl 1 rfl ?_
    refine j_imul C dX8_heardBy_26 rfl ?_
    refine j_iadd C dX8_heardBy_27 rfl ?_
    refine j_iload_n C dX8_heardBy_28 rfl 2 rfl ?_
    refine j_iadd C dX8_heardBy_29 rfl ?_
    replace h := gd_e h
    obtain ⟨g2_, h⟩ := h
    refine j_iald C dX8_heardBy_30 rfl (isRow_is hk0) g2_ ?_
    obtain rfl := Option.some.inj h
    exact j_iret E dX8_heardBy_31
  · replace h := if_t h c1_
    refine j_aload_n C dX8_heardBy_5 rfl 0 rfl ?_
    refine j_bipush (v := (nI 6)) C dX8_heardBy_6 rfl (by decide) ?_
    refine j_bipush (v := (nI 6)) C dX8_heardBy_8 rfl (by decide) ?_
    refine j_iload_n C dX8_heardBy_10 rfl 1 rfl ?_
    refine j_imul C dX8_heardBy_11 rfl ?_
    refine j_iadd C dX8_heardBy_12 rfl ?_
    refine j_iconst (v := (nI 1)) C dX8_heardBy_13 rfl (by decide) ?_
    refine j_iadd C dX8_heardBy_14 rfl ?_
    replace h := gd_e h
    obtain ⟨g3_, h⟩ := h
    refine j_iald C dX8_heardBy_15 rfl (isRow_is hk0) g3_ ?_
    refine j_goto (pc' := 31) C dX8_heardBy_16 (by decide) ?_
    obtain rfl := Option.some.inj h
    exact j_iret E dX8_heardBy_31
set_option maxRecDepth 100000 in
theorem c_X8_heardBy (l : Launch) (D : va_G) (ad : Nat → Nat) (cl : Nat → ClassId) {k0 : Nat} {a1 : Int32} {a2 : Int32} (hk0 : isRow k0) (μ : Mem) (ρ : Int32 × Mem) (h : f_X8_heardBy k0 a1 a2 μ = some ρ) : CI l D ad cl yX8_heardBy wsX8_heardBy rmX8_heardBy [.ref k0, .int a1, .int a2] μ ρ.1 ρ.2 := c_ofI (cc := cX8_heardBy) (nL := 3) rfl (by decide) (Nat.le_of_ble_eq_true rfl) (fun Γ C E => w_X8_heardBy C hk0 E μ h)
theorem gsX8_84 : jm_gs RX8 84 yX8_heardBy wsX8_heardBy 3 3 := ⟨_, _, gi_S gwt5_75 gwt5_76 gwt1_9 gwt5_77, rfl, by decide +kernel⟩
/-! X8_heard -/
def wsX8_heard : List Cond := .code yX8_heard cX8_heard 3 (some .int) :: G0
def rmX8_heard : Room := { frames := 2, cells := 0, slots := 0, locals := 46 }
def f_X8_heard (a1 : Int32) (a2 : Int32) (μ : Mem) : Option (Int32 × Mem) := zl (sI μ 113 0 (nI 0)) fun μ1_ => Option.bind (f_X8_isRock a1 μ1_) fun p3_ => (if p3_.1 = 0 then some ((-1), p3_.2) else Option.bind (f_X8_isRock a2 p3_.2) fun p6_ => (if p6_.1 = 0 then some ((-1), p6_.2) else Option.bind (f_X8_heardBy 114 a1 a2 p6_.2) fun p9_ => some (p9_.1, p9_.2)))
set_option maxHeartbeats 4000000 in
set_option maxRecDepth 100000 in
theorem w_X8_heard {Γ : jG} (C : jC Γ 3 cX8_heard RX8 rmX8_heard) {a1 : Int32} {a2 : Int32} {ρ : Int32 × Mem} (E : jEI Γ cX8_heard ρ.1 ρ.2) (μ : Mem) (h : f_X8_heard a1 a2 μ = some ρ) : jJ Γ 3 0 [(0, .ref 113), (1, .int a1), (2, .int a2)] [] μ := by
  unfold f_X8_heard at h
  refine j_aload_n C dX8_heard_0 rfl 0 rfl ?_
  refine j_iconst (v := (nI 0)) C dX8_heard_1 rfl (by decide) ?_
  refine j_putI C dX8_heard_2 rfl lpX8_48 is_113 rfl ?_
  refine j_mem (fun μ1_ e2_ => ?_)
  replace h := zl_u h e2_
  refine j_aload_n C dX8_heard_5 rfl 0 rfl ?_
  refine j_iload_n C dX8_heard_6 rfl 1 rfl ?_
  replace h := bd_e h
  obtain ⟨p3_, h4_, h⟩ := h
  refine j_cVI (av := [.int a1]) (rest := []) C dX8_heard_7 rfl (c_X8_isRock _ _ _ _ μ1_ p3_ h4_) gvX8_65 ⟨⟨rfl, rfl⟩, Nat.le_of_ble_eq_true rfl, Nat.le_of_ble_eq_true rfl⟩ rfl is_113 rfl rfl (Nat.le_of_ble_eq_true rfl) ?_
  refine j_if_eq (tgt := 33) C dX8_heard_10 rfl (by decide) (fun c5_ => ?_) (fun c5_ => ?_)
  · replace h := if_t h c5_
    refine j_iconst (v := (-1)) C dX8_heard_33 rfl (by decide) ?_
    obtain rfl := Option.some.inj h
    exact j_iret E dX8_heard_34
  · replace h := if_f h c5_
    refine j_aload_n C dX8_heard_13 rfl 0 rfl ?_
    refine j_iload_n C dX8_heard_14 rfl 2 rfl ?_
    replace h := bd_e h
    obtain ⟨p6_, h7_, h⟩ := h
    refine j_cVI (av := [.int a2]) (rest := []) C dX8_heard_15 rfl (c_X8_isRock _ _ _ _ p3_.2 p6_ h7_) gvX8_65 ⟨⟨rfl, rfl⟩, Nat.le_of_ble_eq_true rfl, Nat.le_of_ble_eq_true rfl⟩ rfl is_113 rfl rfl (Nat.le_of_ble_eq_true rfl) ?_
    refine j_if_eq (tgt := 33) C dX8_heard_18 rfl (by decide) (fun c8_ => ?_) (fun c8_ => ?_)
    · replace h := if_t h c8_
      refine j_iconst (v := (-1)) C dX8_heard_33 rfl (by decide) ?_
      obtain rfl := Option.some.inj h
      exact j_iret E dX8_heard_34
    · replace h := if_f h c8_
      refine j_aload_n C dX8_heard_21 rfl 0 rfl ?_
      refine j_getR (c := 114) C dX8_heard_22 rfl lkX8_7 is_113 rfl ?_
      refine j_iload_n C dX8_heard_25 rfl 1 rfl ?_
      refine j_iload_n C dX8_heard_26 rfl 2 rfl ?_
      replace h := bd_e h
      obtain ⟨p9_, h10_, h⟩ := h
      refine j_cSI (av := [.ref 114, .int a1, .int a2]) (rest := []) C dX8_heard_27 rfl (c_X8_heardBy _ _ _ _ isRow114 p6_.2 p9_ h10_) gsX8_84 ⟨⟨rfl, rfl⟩, Nat.le_of_ble_eq_true rfl, Nat.le_of_ble_eq_true rfl⟩ rfl rfl (Nat.le_of_ble_eq_true rfl) ?_
      refine j_goto (pc' := 34) C dX8_heard_30 (by decide) ?_
      obtain rfl := Option.some.inj h
      exact j_iret E dX8_heard_34
set_option maxRecDepth 100000 in
theorem c_X8_heard (l : Launch) (D : va_G) (ad : Nat → Nat) (cl : Nat → ClassId) {a1 : Int32} {a2 : Int32} (μ : Mem) (ρ : Int32 × Mem) (h : f_X8_heard a1 a2 μ = some ρ) : CI l D ad cl yX8_heard wsX8_heard rmX8_heard [.ref 113, .int a1, .int a2] μ ρ.1 ρ.2 := c_ofI (cc := cX8_heard) (nL := 3) rfl (by decide) (Nat.le_of_ble_eq_true rfl) (fun Γ C E => w_X8_heard C E μ h)
/-! X8_countBy -/
def wsX8_countBy : List Cond := .code yX8_countBy cX8_countBy 6 (some .int) :: G0
def rmX8_countBy : Room := { frames := 1, cells := 0, slots := 0, locals := 22 }
def f_X8_countBy_48 (k0 : Nat) (a1 : Int32) (a2 : Int32) (kb5 : Int32 → Int32 → Mem → Option (Int32 × Mem)) (x4 : Int32) (t0 : Int32) (t1 : Int32) (μ : Mem) : Option (Int32 × Mem) := zl (t0 + t1) fun x1_ => kb5 x1_ (x4 + (nI 1)) μ
set_option maxHeartbeats 4000000 in
set_option maxRecDepth 100000 in
theorem w_X8_countBy_48 {Γ : jG} (C : jC Γ 6 cX8_countBy RX8 rmX8_countBy) {k0 : Nat} {a1 : Int32} {a2 : Int32} (hk0 : isRow k0) {kb5 : Int32 → Int32 → Mem → Option (Int32 × Mem)} {ρ : Int32 × Mem} (E : jEI Γ cX8_countBy ρ.1 ρ.2) (Hkb5 : ∀ (x3 : Int32) (x4 : Int32) (μ : Mem), kb5 x3 x4 μ = some ρ → jJ Γ 6 5 [(0, .ref k0), (1, .int a1), (2, .int a2), (3, .int x3), (4, .int x4)] [] μ) (x4 : Int32) (t0 : Int32) (t1 : Int32) (μ : Mem) (h : f_X8_countBy_48 k0 a1 a2 kb5 x4 t0 t1 μ = some ρ) : jJ Γ 6 48 [(0, .ref k0), (1, .int a1), (2, .int a2), (4, .int x4)] [.int t1, .int t0] μ := by
  unfold f_X8_countBy_48 at h
  refine j_iadd C dX8_countBy_48 rfl ?_
  refine j_topi (fun x1_ e2_ => ?_)
  replace h := zl_u h e2_
  refine j_istore_n (lv' := [(3, .int x1_), (0, .ref k0), (1, .int a1), (2, .int a2), (4, .int x4)]) C dX8_countBy_49 rfl (by decide) rfl ?_
  refine j_iinc (d := (nI 1)) (v := x4 + (nI 1)) (lv' := [(4, .int (x4 + (nI 1))), (3, .int x1_), (0, .ref k0), (1, .int a1), (2, .int a2)]) C dX8_countBy_50 rfl (by decide) 4 rfl (by decide) rfl rfl ?_
  refine j_goto (pc' := 5) C dX8_countBy_53 (by decide) ?_
  refine j_lv [2, 3, 4, 1, 0] rfl ?_
  exact (Hkb5) x1_ (x4 + (nI 1)) μ h
def f_X8_countBy_47 (k0 : Nat) (a1 : Int32) (a2 : Int32) (kb5 : Int32 → Int32 → Mem → Option (Int32 × Mem)) (x4 : Int32) (t0 : Int32) (μ : Mem) : Option (Int32 × Mem) := f_X8_countBy_48 k0 a1 a2 kb5 x4 t0 (nI 0) μ
set_option maxHeartbeats 4000000 in
set_option maxRecDepth 100000 in
theorem w_X8_countBy_47 {Γ : jG} (C : jC Γ 6 cX8_countBy RX8 rmX8_countBy) {k0 : Nat} {a1 : Int32} {a2 : Int32} (hk0 : isRow k0) {kb5 : Int32 → Int32 → Mem → Option (Int32 × Mem)} {ρ : Int32 × Mem} (E : jEI Γ cX8_countBy ρ.1 ρ.2) (Hkb5 : ∀ (x3 : Int32) (x4 : Int32) (μ : Mem), kb5 x3 x4 μ = some ρ → jJ Γ 6 5 [(0, .ref k0), (1, .int a1), (2, .int a2), (3, .int x3), (4, .int x4)] [] μ) (x4 : Int32) (t0 : Int32) (μ : Mem) (h : f_X8_countBy_47 k0 a1 a2 kb5 x4 t0 μ = some ρ) : jJ Γ 6 47 [(0, .ref k0), (1, .int a1), (2, .int a2), (4, .int x4)] [.int t0] μ := by
  unfold f_X8_countBy_47 at h
  refine j_iconst (v := (nI 0)) C dX8_countBy_47 rfl (by decide) ?_
  refine j_lv [0, 1, 2, 3] rfl ?_
  exact w_X8_countBy_48 C hk0 E Hkb5 x4 t0 (nI 0) μ h
def f_X8_countBy_43 (k0 : Nat) (a1 : Int32) (a2 : Int32) (kb5 : Int32 → Int32 → Mem → Option (Int32 × Mem)) (x4 : Int32) (t0 : Int32) (μ : Mem) : Option (Int32 × Mem) := f_X8_countBy_48 k0 a1 a2 kb5 x4 t0 (nI 1) μ
set_option maxHeartbeats 4000000 in
set_option maxRecDepth 100000 in
theorem w_X8_countBy_43 {Γ : jG} (C : jC Γ 6 cX8_countBy RX8 rmX8_countBy) {k0 : Nat} {a1 : Int32} {a2 : Int32} (hk0 : isRow k0) {kb5 : Int32 → Int32 → Mem → Option (Int32 × Mem)} {ρ : Int32 × Mem} (E : jEI Γ cX8_countBy ρ.1 ρ.2) (Hkb5 : ∀ (x3 : Int32) (x4 : Int32) (μ : Mem), kb5 x3 x4 μ = some ρ → jJ Γ 6 5 [(0, .ref k0), (1, .int a1), (2, .int a2), (3, .int x3), (4, .int x4)] [] μ) (x4 : Int32) (t0 : Int32) (μ : Mem) (h : f_X8_countBy_43 k0 a1 a2 kb5 x4 t0 μ = some ρ) : jJ Γ 6 43 [(0, .ref k0), (1, .int a1), (2, .int a2), (4, .int x4)] [.int t0] μ := by
  unfold f_X8_countBy_43 at h
  refine j_iconst (v := (nI 1)) C dX8_countBy_43 rfl (by decide) ?_
  refine j_goto (pc' := 48) C dX8_countBy_44 (by decide) ?_
  refine j_lv [0, 1, 2, 3] rfl ?_
  exact w_X8_countBy_48 C hk0 E Hkb5 x4 t0 (nI 1) μ h
def f_X8_countBy_5 (k0 : Nat) (a1 : Int32) (a2 : Int32) : Nat → Int32 → Int32 → Mem → Option (Int32 × Mem)
  | 0, _, _, _ => none
  | n + 1, x3, x4, μ => gd (inb (nI 0) 1829) <| (if (μ.1 k0 (Int32.toNatClampNeg (nI 0))) ≤ x4 then some (x3, μ) else Option.bind (f_X8_heardBy k0 a1 x4 μ) fun p3_ => (if a2 = (nI 2) then (if (nI 2) ≤ p3_.1 then f_X8_countBy_47 k0 a1 a2 (fun x3 x4 μ => f_X8_countBy_5 k0 a1 a2 n x3 x4 μ) x4 x3 p3_.2 else f_X8_countBy_43 k0 a1 a2 (fun x3 x4 μ => f_X8_countBy_5 k0 a1 a2 n x3 x4 μ) x4 x3 p3_.2) else (if p3_.1 = a2 then f_X8_countBy_43 k0 a1 a2 (fun x3 x4 μ => f_X8_countBy_5 k0 a1 a2 n x3 x4 μ) x4 x3 p3_.2 else f_X8_countBy_47 k0 a1 a2 (fun x3 x4 μ => f_X8_countBy_5 k0 a1 a2 n x3 x4 μ) x4 x3 p3_.2)))
set_option maxHeartbeats 4000000 in
set_option maxRecDepth 100000 in
theorem w_X8_countBy_5 {Γ : jG} (C : jC Γ 6 cX8_countBy RX8 rmX8_countBy) {k0 : Nat} {a1 : Int32} {a2 : Int32} (hk0 : isRow k0) {ρ : Int32 × Mem} (E : jEI Γ cX8_countBy ρ.1 ρ.2) : ∀ (n : Nat) (x3 : Int32) (x4 : Int32) (μ : Mem), f_X8_countBy_5 k0 a1 a2 n x3 x4 μ = some ρ → jJ Γ 6 5 [(0, .ref k0), (1, .int a1), (2, .int a2), (3, .int x3), (4, .int x4)] [] μ := by
  intro n
  induction n with
  | zero => intro x3 x4 μ h; rw [f_X8_countBy_5] at h; cases h
  | succ n ih =>
    intro x3 x4 μ h
    rw [f_X8_countBy_5] at h
    refine j_iload C dX8_countBy_5 rfl 4 rfl ?_
    refine j_aload_n C dX8_countBy_7 rfl 0 rfl ?_
    refine j_iconst (v := (nI 0)) C dX8_countBy_8 rfl (by decide) ?_
    replace h := gd_e h
    obtain ⟨g1_, h⟩ := h
    refine j_iald C dX8_countBy_9 rfl (isRow_is hk0) g1_ ?_
    refine j_icmp_ge (tgt := 56) C dX8_countBy_10 rfl (by decide) (fun c2_ => ?_) (fun c2_ => ?_)
    · replace h := if_t h c2_
      refine j_iload_n C dX8_countBy_56 rfl 3 rfl ?_
      obtain rfl := Option.some.inj h
      exact j_iret E dX8_countBy_57
    · replace h := if_f h c2_
      refine j_aload_n C dX8_countBy_13 rfl 0 rfl ?_
      refine j_iload_n C dX8_countBy_14 rfl 1 rfl ?_
      refine j_iload C dX8_countBy_15 rfl 4 rfl ?_
      replace h := bd_e h
      obtain ⟨p3_, h4_, h⟩ := h
      refine j_cSI (av := [.ref k0, .int a1, .int x4]) (rest := []) C dX8_countBy_17 rfl (c_X8_heardBy _ _ _ _ hk0 μ p3_ h4_) gsX8_84 ⟨⟨rfl, rfl⟩, Nat.le_of_ble_eq_true rfl, Nat.le_of_ble_eq_true rfl⟩ rfl rfl (Nat.le_of_ble_eq_true rfl) ?_
      refine j_istore (lv' := [(5, .int p3_.1), (0, .ref k0), (1, .int a1), (2, .int a2), (3, .int x3), (4, .int x4)]) C dX8_countBy_20 rfl (by decide) rfl ?_
      refine j_iload_n C dX8_countBy_22 rfl 4 rfl ?_
      refine j_iload_n C dX8_countBy_23 rfl 3 rfl ?_
      refine j_iconst (v := (nI 2)) C dX8_countBy_24 rfl (by decide) ?_
      refine j_icmp_ne (tgt := 37) C dX8_countBy_25 rfl (by decide) (fun c5_ => ?_) (fun c5_ => ?_)
      · replace h := if_f h c5_
        refine j_iload C dX8_countBy_37 rfl 0 rfl ?_
        refine j_iload_n C dX8_countBy_39 rfl 3 rfl ?_
        refine j_icmp_ne (tgt := 47) C dX8_countBy_40 rfl (by decide) (fun c6_ => ?_) (fun c6_ => ?_)
        · replace h := if_f h c6_
          refine j_lv [1, 2, 3, 5] rfl ?_
          exact w_X8_countBy_47 C hk0 E ih x4 x3 p3_.2 h
        · replace h := if_t h c6_
          refine j_lv [1, 2, 3, 5] rfl ?_
          exact w_X8_countBy_43 C hk0 E ih x4 x3 p3_.2 h
      · replace h := if_t h c5_
        refine j_iload C dX8_countBy_28 rfl 0 rfl ?_
        refine j_iconst (v := (nI 2)) C dX8_countBy_30 rfl (by decide) ?_
        refine j_icmp_ge (tgt := 47) C dX8_countBy_31 rfl (by decide) (fun c7_ => ?_) (fun c7_ => ?_)
        · replace h := if_t h c7_
          refine j_lv [1, 2, 3, 5] rfl ?_
          exact w_X8_countBy_47 C hk0 E ih x4 x3 p3_.2 h
        · replace h := if_f h c7_
          refine j_goto (pc' := 43) C dX8_countBy_34 (by decide) ?_
          refine j_lv [1, 2, 3, 5] rfl ?_
          exact w_X8_countBy_43 C hk0 E ih x4 x3 p3_.2 h
def f_X8_countBy (k0 : Nat) (a1 : Int32) (a2 : Int32) (μ : Mem) : Option (Int32 × Mem) := f_X8_countBy_5 k0 a1 a2 zfu (nI 0) (nI 0) μ
set_option maxHeartbeats 4000000 in
set_option maxRecDepth 100000 in
theorem w_X8_countBy {Γ : jG} (C : jC Γ 6 cX8_countBy RX8 rmX8_countBy) {k0 : Nat} {a1 : Int32} {a2 : Int32} (hk0 : isRow k0) {ρ : Int32 × Mem} (E : jEI Γ cX8_countBy ρ.1 ρ.2) (μ : Mem) (h : f_X8_countBy k0 a1 a2 μ = some ρ) : jJ Γ 6 0 [(0, .ref k0), (1, .int a1), (2, .int a2)] [] μ := by
  unfold f_X8_countBy at h
  refine j_iconst (v := (nI 0)) C dX8_countBy_0 rfl (by decide) ?_
  refine j_istore_n (lv' := [(3, .int (nI 0)), (0, .ref k0), (1, .int a1), (2, .int a2)]) C dX8_countBy_1 rfl (by decide) rfl ?_
  refine j_iconst (v := (nI 0)) C dX8_countBy_2 rfl (by decide) ?_
  refine j_istore (lv' := [(4, .int (nI 0)), (3, .int (nI 0)), (0, .ref k0), (1, .int a1), (2, .int a2)]) C dX8_countBy_3 rfl (by decide) rfl ?_
  refine j_lv [2, 3, 4, 1, 0] rfl ?_
  exact w_X8_countBy_5 C hk0 E zfu (nI 0) (nI 0) μ h
set_option maxRecDepth 100000 in
theorem c_X8_countBy (l : Launch) (D : va_G) (ad : Nat → Nat) (cl : Nat → ClassId) {k0 : Nat} {a1 : Int32} {a2 : Int32} (hk0 : isRow k0) (μ : Mem) (ρ : Int32 × Mem) (h : f_X8_countBy k0 a1 a2 μ = some ρ) : CI l D ad cl yX8_countBy wsX8_countBy rmX8_countBy [.ref k0, .int a1, .int a2] μ ρ.1 ρ.2 := c_ofI (cc := cX8_countBy) (nL := 6) rfl (by decide) (Nat.le_of_ble_eq_true rfl) (fun Γ C E => w_X8_countBy C hk0 E μ h)
