/-! J7_fill_53178 -/
def wsJ7_fill_53178 : List Cond := .code yJ7_fill_53178 cJ7_fill_53178 4 none :: G0
def rmJ7_fill_53178 : Room := { frames := 0, cells := 0, slots := 0, locals := 0 }
def f_J7_fill_53178_5 (kq : Nat) (nq : Nat) (a1 : Int32) : Nat → Int32 → Int32 → Mem → Option (Mem)
  | 0, _, _, _ => none
  | n + 1, x2, x3, μ => (if x3 ≤ x2 then some μ else gd (inb x2 nq) <| zl (sI μ kq (Int32.toNatClampNeg x2) a1) fun μ3_ => f_J7_fill_53178_5 kq nq a1 n (x2 + 1) x3 μ3_)
set_option maxHeartbeats 4000000 in
set_option maxRecDepth 100000 in
theorem w_J7_fill_53178_5 {Γ : jG} (C : jC Γ 4 cJ7_fill_53178 RJ7 rmJ7_fill_53178) {kq : Nat} {nq : Nat} {a1 : Int32} (hkq : jm_is kq (.inl (0, nq, 0))) {ρ : Mem} (E : jEV Γ cJ7_fill_53178 ρ) : ∀ (n : Nat) (x2 : Int32) (x3 : Int32) (μ : Mem), f_J7_fill_53178_5 kq nq a1 n x2 x3 μ = some ρ → jJ Γ 4 5 [(0, .ref kq), (1, .int a1), (2, .int x2), (3, .int x3)] [] μ := by
  intro n
  induction n with
  | zero => intro x2 x3 μ h; rw [f_J7_fill_53178_5] at h; cases h
  | succ n ih =>
    intro x2 x3 μ h
    rw [f_J7_fill_53178_5] at h
    refine j_iload_n C dJ7_fill_53178_5 rfl 2 rfl ?_
    refine j_iload_n C dJ7_fill_53178_6 rfl 3 rfl ?_
    refine j_icmp_ge (tgt := 20) C dJ7_fill_53178_7 rfl (by decide) (fun c1_ => ?_) (fun c1_ => ?_)
    · replace h := if_t h c1_
      obtain rfl := Option.some.inj h
      exact j_vret E dJ7_fill_53178_20
    · replace h := if_f h c1_
      refine j_aload_n C dJ7_fill_53178_10 rfl 0 rfl ?_
      refine j_iload_n C dJ7_fill_53178_11 rfl 2 rfl ?_
      refine j_iload_n C dJ7_fill_53178_12 rfl 1 rfl ?_
      replace h := gd_e h
      obtain ⟨g2_, h⟩ := h
      refine j_iast C dJ7_fill_53178_13 rfl hkq g2_ ?_
      refine j_mem (fun μ3_ e4_ => ?_)
      replace h := zl_u h e4_
      refine j_iinc (d := 1) (v := x2 + 1) (lv' := [(2, .int (x2 + 1)), (0, .ref kq), (1, .int a1), (3, .int x3)]) C dJ7_fill_53178_14 rfl (by decide) 2 rfl (by decide) rfl rfl ?_
      refine j_goto (pc' := 5) C dJ7_fill_53178_17 (by decide) ?_
      refine j_lv [1, 2, 0, 3] rfl ?_
      exact (ih) (x2 + 1) x3 μ3_ h
def f_J7_fill_53178 (kq : Nat) (nq : Nat) (a1 : Int32) (μ : Mem) : Option (Mem) := zl (Int32.ofNat nq) fun x1_ => f_J7_fill_53178_5 kq nq a1 zfu 0 x1_ μ
set_option maxHeartbeats 4000000 in
set_option maxRecDepth 100000 in
theorem w_J7_fill_53178 {Γ : jG} (C : jC Γ 4 cJ7_fill_53178 RJ7 rmJ7_fill_53178) {kq : Nat} {nq : Nat} {a1 : Int32} (hkq : jm_is kq (.inl (0, nq, 0))) {ρ : Mem} (E : jEV Γ cJ7_fill_53178 ρ) (μ : Mem) (h : f_J7_fill_53178 kq nq a1 μ = some ρ) : jJ Γ 4 0 [(0, .ref kq), (1, .int a1)] [] μ := by
  unfold f_J7_fill_53178 at h
  refine j_iconst (v := 0) C dJ7_fill_53178_0 rfl (by decide) ?_
  refine j_istore_n (lv' := [(2, .int 0), (0, .ref kq), (1, .int a1)]) C dJ7_fill_53178_1 rfl (by decide) rfl ?_
  refine j_aload_n C dJ7_fill_53178_2 rfl 1 rfl ?_
  refine j_alen C dJ7_fill_53178_3 rfl (Or.inl rfl) hkq rfl ?_
  refine j_topi (fun x1_ e2_ => ?_)
  replace h := zl_u h e2_
  refine j_istore_n (lv' := [(3, .int x1_), (2, .int 0), (0, .ref kq), (1, .int a1)]) C dJ7_fill_53178_4 rfl (by decide) rfl ?_
  refine j_lv [2, 3, 1, 0] rfl ?_
  exact w_J7_fill_53178_5 C hkq E zfu 0 x1_ μ h
set_option maxRecDepth 100000 in
theorem c_J7_fill_53178 (l : Launch) (D : va_G) (ad : Nat → Nat) (cl : Nat → ClassId) {kq : Nat} {nq : Nat} {a1 : Int32} (hkq : jm_is kq (.inl (0, nq, 0))) (μ : Mem) (ρ : Mem) (h : f_J7_fill_53178 kq nq a1 μ = some ρ) : CV l D ad cl yJ7_fill_53178 wsJ7_fill_53178 rmJ7_fill_53178 [.ref kq, .int a1] μ ρ := c_ofV (cc := cJ7_fill_53178) (nL := 4) rfl (by decide) (Nat.le_of_ble_eq_true rfl) (fun Γ C E => w_J7_fill_53178 C hkq E μ h)
/-! J6_bitCount_0f7a4 -/
def wsJ6_bitCount_0f7a4 : List Cond := .code yJ6_bitCount_0f7a4 cJ6_bitCount_0f7a4 1 (some .int) :: G0
def rmJ6_bitCount_0f7a4 : Room := { frames := 0, cells := 0, slots := 0, locals := 0 }
def f_J6_bitCount_0f7a4 (a0 : Int32) (μ : Mem) : Option (Int32 × Mem) := zl (a0 - ((((Int32.toUInt32 a0) >>> ((Int32.toUInt32 1) &&& Int32.toUInt32 31)).toInt32) &&& 1431655765)) fun x1_ => zl ((x1_ &&& 858993459) + ((((Int32.toUInt32 x1_) >>> ((Int32.toUInt32 2) &&& Int32.toUInt32 31)).toInt32) &&& 858993459)) fun x3_ => zl ((x3_ + (((Int32.toUInt32 x3_) >>> ((Int32.toUInt32 4) &&& Int32.toUInt32 31)).toInt32)) &&& 252645135) fun x5_ => zl (x5_ + (((Int32.toUInt32 x5_) >>> ((Int32.toUInt32 8) &&& Int32.toUInt32 31)).toInt32)) fun x7_ => zl (x7_ + (((Int32.toUInt32 x7_) >>> ((Int32.toUInt32 16) &&& Int32.toUInt32 31)).toInt32)) fun x9_ => some (x9_ &&& 63, μ)
set_option maxHeartbeats 4000000 in
set_option maxRecDepth 100000 in
theorem w_J6_bitCount_0f7a4 {Γ : jG} (C : jC Γ 1 cJ6_bitCount_0f7a4 RJ6 rmJ6_bitCount_0f7a4) {a0 : Int32} {ρ : Int32 × Mem} (E : jEI Γ cJ6_bitCount_0f7a4 ρ.1 ρ.2) (μ : Mem) (h : f_J6_bitCount_0f7a4 a0 μ = some ρ) : jJ Γ 1 0 [(0, .int a0)] [] μ := by
  unfold f_J6_bitCount_0f7a4 at h
  refine j_iload_n C dJ6_bitCount_0f7a4_0 rfl 0 rfl ?_
  refine j_iload_n C dJ6_bitCount_0f7a4_1 rfl 0 rfl ?_
  refine j_iconst (v := 1) C dJ6_bitCount_0f7a4_2 rfl (by decide) ?_
  refine j_iushr C dJ6_bitCount_0f7a4_3 rfl ?_
  refine j_ldcw (v := 1431655765) C dJ6_bitCount_0f7a4_4 rfl gwt2_136 ?_
  refine j_iand C dJ6_bitCount_0f7a4_7 rfl ?_
  refine j_isub C dJ6_bitCount_0f7a4_8 rfl ?_
  refine j_topi (fun x1_ e2_ => ?_)
  replace h := zl_u h e2_
  refine j_istore_n (lv' := [(0, .int x1_)]) C dJ6_bitCount_0f7a4_9 rfl (by decide) rfl ?_
  refine j_iload_n C dJ6_bitCount_0f7a4_10 rfl 0 rfl ?_
  refine j_ldcw (v := 858993459) C dJ6_bitCount_0f7a4_11 rfl gwt2_137 ?_
  refine j_iand C dJ6_bitCount_0f7a4_14 rfl ?_
  refine j_iload_n C dJ6_bitCount_0f7a4_15 rfl 0 rfl ?_
  refine j_iconst (v := 2) C dJ6_bitCount_0f7a4_16 rfl (by decide) ?_
  refine j_iushr C dJ6_bitCount_0f7a4_17 rfl ?_
  refine j_ldcw (v := 858993459) C dJ6_bitCount_0f7a4_18 rfl gwt2_137 ?_
  refine j_iand C dJ6_bitCount_0f7a4_21 rfl ?_
  refine j_iadd C dJ6_bitCount_0f7a4_22 rfl ?_
  refine j_topi (fun x3_ e4_ => ?_)
  replace h := zl_u h e4_
  refine j_istore_n (lv' := [(0, .int x3_)]) C dJ6_bitCount_0f7a4_23 rfl (by decide) rfl ?_
  refine j_iload_n C dJ6_bitCount_0f7a4_24 rfl 0 rfl ?_
  refine j_iload_n C dJ6_bitCount_0f7a4_25 rfl 0 rfl ?_
  refine j_iconst (v := 4) C dJ6_bitCount_0f7a4_26 rfl (by decide) ?_
  refine j_iushr C dJ6_bitCount_0f7a4_27 rfl ?_
  refine j_iadd C dJ6_bitCount_0f7a4_28 rfl ?_
  refine j_ldcw (v := 252645135) C dJ6_bitCount_0f7a4_29 rfl gwt2_138 ?_
  refine j_iand C dJ6_bitCount_0f7a4_32 rfl ?_
  refine j_topi (fun x5_ e6_ => ?_)
  replace h := zl_u h e6_
  refine j_istore_n (lv' := [(0, .int x5_)]) C dJ6_bitCount_0f7a4_33 rfl (by decide) rfl ?_
  refine j_iload_n C dJ6_bitCount_0f7a4_34 rfl 0 rfl ?_
  refine j_iload_n C dJ6_bitCount_0f7a4_35 rfl 0 rfl ?_
  refine j_bipush (v := 8) C dJ6_bitCount_0f7a4_36 rfl (by decide) ?_
  refine j_iushr C dJ6_bitCount_0f7a4_38 rfl ?_
  refine j_iadd C dJ6_bitCount_0f7a4_39 rfl ?_
  refine j_topi (fun x7_ e8_ => ?_)
  replace h := zl_u h e8_
  refine j_istore_n (lv' := [(0, .int x7_)]) C dJ6_bitCount_0f7a4_40 rfl (by decide) rfl ?_
  refine j_iload_n C dJ6_bitCount_0f7a4_41 rfl 0 rfl ?_
  refine j_iload_n C dJ6_bitCount_0f7a4_42 rfl 0 rfl ?_
  refine j_bipush (v := 16) C dJ6_bitCount_0f7a4_43 rfl (by decide) ?_
  refine j_iushr C dJ6_bitCount_0f7a4_45 rfl ?_
  refine j_iadd C dJ6_bitCount_0f7a4_46 rfl ?_
  refine j_topi (fun x9_ e10_ => ?_)
  replace h := zl_u h e10_
  refine j_istore_n (lv' := [(0, .int x9_)]) C dJ6_bitCount_0f7a4_47 rfl (by decide) rfl ?_
  refine j_iload_n C dJ6_bitCount_0f7a4_48 rfl 0 rfl ?_
  refine j_bipush (v := 63) C dJ6_bitCount_0f7a4_49 rfl (by decide) ?_
  refine j_iand C dJ6_bitCount_0f7a4_51 rfl ?_
  obtain rfl := Option.some.inj h
  exact j_iret E dJ6_bitCount_0f7a4_52
set_option maxRecDepth 100000 in
theorem c_J6_bitCount_0f7a4 (l : Launch) (D : va_G) (ad : Nat → Nat) (cl : Nat → ClassId) {a0 : Int32} (μ : Mem) (ρ : Int32 × Mem) (h : f_J6_bitCount_0f7a4 a0 μ = some ρ) : CI l D ad cl yJ6_bitCount_0f7a4 wsJ6_bitCount_0f7a4 rmJ6_bitCount_0f7a4 [.int a0] μ ρ.1 ρ.2 := c_ofI (cc := cJ6_bitCount_0f7a4) (nL := 1) rfl (by decide) (Nat.le_of_ble_eq_true rfl) (fun Γ C E => w_J6_bitCount_0f7a4 C E μ h)
/-! J7_fill_d0a16 -/
def wsJ7_fill_d0a16 : List Cond := .code yJ7_fill_d0a16 cJ7_fill_d0a16 5 none :: G0
def rmJ7_fill_d0a16 : Room := { frames := 0, cells := 0, slots := 0, locals := 0 }
def f_J7_fill_d0a16_6 (kq : Nat) (nq : Nat) (a1 : Int64) : Nat → Int32 → Int32 → Mem → Option (Mem)
  | 0, _, _, _ => none
  | n + 1, x3, x4, μ => (if x4 ≤ x3 then some μ else gd (inb x3 nq) <| zl (sL μ kq (Int32.toNatClampNeg x3) a1) fun μ3_ => f_J7_fill_d0a16_6 kq nq a1 n (x3 + 1) x4 μ3_)
set_option maxHeartbeats 4000000 in
set_option maxRecDepth 100000 in
theorem w_J7_fill_d0a16_6 {Γ : jG} (C : jC Γ 5 cJ7_fill_d0a16 RJ7 rmJ7_fill_d0a16) {kq : Nat} {nq : Nat} {a1 : Int64} (hkq : jm_is kq (.inl (2, nq, 0))) {ρ : Mem} (E : jEV Γ cJ7_fill_d0a16 ρ) : ∀ (n : Nat) (x3 : Int32) (x4 : Int32) (μ : Mem), f_J7_fill_d0a16_6 kq nq a1 n x3 x4 μ = some ρ → jJ Γ 5 6 [(0, .ref kq), (1, .long a1), (3, .int x3), (4, .int x4)] [] μ := by
  intro n
  induction n with
  | zero => intro x3 x4 μ h; rw [f_J7_fill_d0a16_6] at h; cases h
  | succ n ih =>
    intro x3 x4 μ h
    rw [f_J7_fill_d0a16_6] at h
    refine j_iload_n C dJ7_fill_d0a16_6 rfl 2 rfl ?_
    refine j_iload C dJ7_fill_d0a16_7 rfl 3 rfl ?_
    refine j_icmp_ge (tgt := 22) C dJ7_fill_d0a16_9 rfl (by decide) (fun c1_ => ?_) (fun c1_ => ?_)
    · replace h := if_t h c1_
      obtain rfl := Option.some.inj h
      exact j_vret E dJ7_fill_d0a16_22
    · replace h := if_f h c1_
      refine j_aload_n C dJ7_fill_d0a16_12 rfl 0 rfl ?_
      refine j_iload_n C dJ7_fill_d0a16_13 rfl 2 rfl ?_
      refine j_lload_n C dJ7_fill_d0a16_14 rfl 1 rfl ?_
      replace h := gd_e h
      obtain ⟨g2_, h⟩ := h
      refine j_last C dJ7_fill_d0a16_15 rfl hkq g2_ ?_
      refine j_mem (fun μ3_ e4_ => ?_)
      replace h := zl_u h e4_
      refine j_iinc (d := 1) (v := x3 + 1) (lv' := [(3, .int (x3 + 1)), (0, .ref kq), (1, .long a1), (4, .int x4)]) C dJ7_fill_d0a16_16 rfl (by decide) 2 rfl (by decide) rfl rfl ?_
      refine j_goto (pc' := 6) C dJ7_fill_d0a16_19 (by decide) ?_
      refine j_lv [1, 2, 0, 3] rfl ?_
      exact (ih) (x3 + 1) x4 μ3_ h
def f_J7_fill_d0a16 (kq : Nat) (nq : Nat) (a1 : Int64) (μ : Mem) : Option (Mem) := zl (Int32.ofNat nq) fun x1_ => f_J7_fill_d0a16_6 kq nq a1 zfu 0 x1_ μ
set_option maxHeartbeats 4000000 in
set_option maxRecDepth 100000 in
theorem w_J7_fill_d0a16 {Γ : jG} (C : jC Γ 5 cJ7_fill_d0a16 RJ7 rmJ7_fill_d0a16) {kq : Nat} {nq : Nat} {a1 : Int64} (hkq : jm_is kq (.inl (2, nq, 0))) {ρ : Mem} (E : jEV Γ cJ7_fill_d0a16 ρ) (μ : Mem) (h : f_J7_fill_d0a16 kq nq a1 μ = some ρ) : jJ Γ 5 0 [(0, .ref kq), (1, .long a1)] [] μ := by
  unfold f_J7_fill_d0a16 at h
  refine j_iconst (v := 0) C dJ7_fill_d0a16_0 rfl (by decide) ?_
  refine j_istore_n (lv' := [(3, .int 0), (0, .ref kq), (1, .long a1)]) C dJ7_fill_d0a16_1 rfl (by decide) rfl ?_
  refine j_aload_n C dJ7_fill_d0a16_2 rfl 1 rfl ?_
  refine j_alen C dJ7_fill_d0a16_3 rfl (Or.inr rfl) hkq rfl ?_
  refine j_topi (fun x1_ e2_ => ?_)
  replace h := zl_u h e2_
  refine j_istore (lv' := [(4, .int x1_), (3, .int 0), (0, .ref kq), (1, .long a1)]) C dJ7_fill_d0a16_4 rfl (by decide) rfl ?_
  refine j_lv [2, 3, 1, 0] rfl ?_
  exact w_J7_fill_d0a16_6 C hkq E zfu 0 x1_ μ h
set_option maxRecDepth 100000 in
theorem c_J7_fill_d0a16 (l : Launch) (D : va_G) (ad : Nat → Nat) (cl : Nat → ClassId) {kq : Nat} {nq : Nat} {a1 : Int64} (hkq : jm_is kq (.inl (2, nq, 0))) (μ : Mem) (ρ : Mem) (h : f_J7_fill_d0a16 kq nq a1 μ = some ρ) : CV l D ad cl yJ7_fill_d0a16 wsJ7_fill_d0a16 rmJ7_fill_d0a16 [.ref kq, .long a1] μ ρ := c_ofV (cc := cJ7_fill_d0a16) (nL := 5) rfl (by decide) (Nat.le_of_ble_eq_true rfl) (fun Γ C E => w_J7_fill_d0a16 C hkq E μ h)
