/-! J7_fill_53178 -/
def wsJ7_fill_53178 : List Cond := .code yJ7_fill_53178 cJ7_fill_53178 4 none :: G0
def rmJ7_fill_53178 : Room := { frames := 0, cells := 0, slots := 0, locals := 0 }
def f_J7_fill_53178_5 (kq : Nat) (nq : Nat) (a1 : Int32) : Nat → Int32 → Int32 → Mem → Option (Mem)
  | 0, _, _, _ => none
  | n + 1, x2, x3, μ => (if x3 ≤ x2 then some μ else gd (inb x2 nq) <| zl (sI μ kq (Int32.toNatClampNeg x2) a1) fun μ3_ => f_J7_fill_53178_5 kq nq a1 n (x2 + (nI 1)) x3 μ3_)
set_option maxHeartbeats 4000000 in
set_option maxRecDepth 100000 in
theorem w_J7_fill_53178_5 {Γ : jG} (C : jC Γ 4 cJ7_fill_53178 RJ7 rmJ7_fill_53178) {kq : Nat} {nq : Nat} {a1 : Int32} (hkq : jm_is kq (.inl (0, nq, 0))) {ρ : Mem} (E : jEV Γ cJ7_fill_53178 ρ) : ∀ (n : Nat) (x2 : Int32) (x3 : Int32) (μ : Mem), f_J7_fill_53178_5 kq nq a1 n x2 x3 μ = some ρ → jJ Γ 4 5 [(0, .ref kq), (1, .int a1), (2, .int x2), (3, .int x3)] [] μ := by
  intro n
  induction n with
  | zero => intro x2 x3 μ h; rw [f_J7_fill_53178_5] at h; cases h
  | succ n ih =>
    intro x2 x3 μ h
    rw [f_J7_fill_53178_5] at h
    refine j_iload_n C dJ7_fill_53178_5 rfl 2 rfl ?_
    refine j_iload_n C dJ7_fill_53178_6 rfl 3 rfl ?_
    refine j_icmp_ge (tgt := 20) C dJ7_fill_53178_7 rfl (by decide) (fun c1_ => ?_) (fun c1_ => ?_)
    · replace h := if_t h c1_
      obtain rfl := Option.some.inj h
      exact j_vret E dJ7_fill_53178_20
    · replace h := if_f h c1_
      refine j_aload_n C dJ7_fill_53178_10 rfl 0 rfl ?_
      refine j_iload_n C dJ7_fill_53178_11 rfl 2 rfl ?_
      refine j_iload_n C dJ7_fill_53178_12 rfl 1 rfl ?_
      replace h := gd_e h
      obtain ⟨g2_, h⟩ := h
      refine j_iast C dJ7_fill_53178_13 rfl hkq g2_ ?_
      refine j_mem (fun μ3_ e4_ => ?_)
      replace h := zl_u h e4_
      refine j_iinc (d := (nI 1)) (v := x2 + (nI 1)) (lv' := [(2, .int (x2 + (nI 1))), (0, .ref kq), (1, .int a1), (3, .int x3)]) C dJ7_fill_53178_14 rfl (by decide) 2 rfl (by decide) rfl rfl ?_
      refine j_goto (pc' := 5) C dJ7_fill_53178_17 (by decide) ?_
      refine j_lv [1, 2, 0, 3] rfl ?_
      exact (ih) (x2 + (nI 1)) x3 μ3_ h
def f_J7_fill_53178 (kq : Nat) (nq : Nat) (a1 : Int32) (μ : Mem) : Option (Mem) := zl (Int32.ofNat nq) fun x1_ => f_J7_fill_53178_5 kq nq a1 zfu (nI 0) x1_ μ
set_option maxHeartbeats 4000000 in
set_option maxRecDepth 100000 in
theorem w_J7_fill_53178 {Γ : jG} (C : jC Γ 4 cJ7_fill_53178 RJ7 rmJ7_fill_53178) {kq : Nat} {nq : Nat} {a1 : Int32} (hkq : jm_is kq (.inl (0, nq, 0))) {ρ : Mem} (E : jEV Γ cJ7_fill_53178 ρ) (μ : Mem) (h : f_J7_fill_53178 kq nq a1 μ = some ρ) : jJ Γ 4 0 [(0, .ref kq), (1, .int a1)] [] μ := by
  unfold f_J7_fill_53178 at h
  refine j_iconst (v := (nI 0)) C dJ7_fill_53178_0 rfl (by decide) ?_
  refine j_istore_n (lv' := [(2, .int (nI 0)), (0, .ref kq), (1, .int a1)]) C dJ7_fill_53178_1 rfl (by decide) rfl ?_
  refine j_aload_n C dJ7_fill_53178_2 rfl 1 rfl ?_
  refine j_alen C dJ7_fill_53178_3 rfl (Or.inl rfl) hkq rfl ?_
  refine j_topi (fun x1_ e2_ => ?_)
  replace h := zl_u h e2_
  refine j_istore_n (lv' := [(3, .int x1_), (2, .int (nI 0)), (0, .ref kq), (1, .int a1)]) C dJ7_fill_53178_4 rfl (by decide) rfl ?_
  refine j_lv [2, 3, 1, 0] rfl ?_
  exact w_J7_fill_53178_5 C hkq E zfu (nI 0) x1_ μ h
set_option maxRecDepth 100000 in
theorem c_J7_fill_53178 (l : Launch) (D : va_G) (ad : Nat → Nat) (cl : Nat → ClassId) {kq : Nat} {nq : Nat} {a1 : Int32} (hkq : jm_is kq (.inl (0, nq, 0))) (μ : Mem) (ρ : Mem) (h : f_J7_fill_53178 kq nq a1 μ = some ρ) : CV l D ad cl yJ7_fill_53178 wsJ7_fill_53178 rmJ7_fill_53178 [.ref kq, .int a1] μ ρ := c_ofV (cc := cJ7_fill_53178) (nL := 4) rfl (by decide) (Nat.le_of_ble_eq_true rfl) (fun Γ C E => w_J7_fill_53178 C hkq E μ h)
/-! J6_bitCount_0f7a4 -/
def wsJ6_bitCount_0f7a4 : List Cond := .code yJ6_bitCount_0f7a4 cJ6_bitCount_0f7a4 1 (some .int) :: G0
def rmJ6_bitCount_0f7a4 : Room := { frames := 0, cells := 0, slots := 0, locals := 0 }
def f_J6_bitCount_0f7a4 (a0 : Int32) (μ : Mem) : Option (Int32 × Mem) := zl (a0 - ((((Int32.toUInt32 a0) >>> ((Int32.toUInt32 (nI 1)) &&& Int32.toUInt32 31)).toInt32) &&& (nI 1431655765))) fun x1_ => zl ((x1_ &&& (nI 858993459)) + ((((Int32.toUInt32 x1_) >>> ((Int32.toUInt32 (nI 2)) &&& Int32.toUInt32 31)).toInt32) &&& (nI 858993459))) fun x3_ => zl ((x3_ + (((Int32.toUInt32 x3_) >>> ((Int32.toUInt32 (nI 4)) &&& Int32.toUInt32 31)).toInt32)) &&& (nI 252645135)) fun x5_ => zl (x5_ + (((Int32.toUInt32 x5_) >>> ((Int32.toUInt32 (nI 8)) &&& Int32.toUInt32 31)).toInt32)) fun x7_ => zl (x7_ + (((Int32.toUInt32 x7_) >>> ((Int32.toUInt32 (nI 16)) &&& Int32.toUInt32 31)).toInt32)) fun x9_ => some (x9_ &&& (nI 63), μ)
set_option maxHeartbeats 4000000 in
set_option maxRecDepth 100000 in
theorem w_J6_bitCount_0f7a4 {Γ : jG} (C : jC Γ 1 cJ6_bitCount_0f7a4 RJ6 rmJ6_bitCount_0f7a4) {a0 : Int32} {ρ : Int32 × Mem} (E : jEI Γ cJ6_bitCount_0f7a4 ρ.1 ρ.2) (μ : Mem) (h : f_J6_bitCount_0f7a4 a0 μ = some ρ) : jJ Γ 1 0 [(0, .int a0)] [] μ := by
  unfold f_J6_bitCount_0f7a4 at h
  refine j_iload_n C dJ6_bitCount_0f7a4_0 rfl 0 rfl ?_
  refine j_iload_n C dJ6_bitCount_0f7a4_1 rfl 0 rfl ?_
  refine j_iconst (v := (nI 1)) C dJ6_bitCount_0f7a4_2 rfl (by decide) ?_
  refine j_iushr C dJ6_bitCount_0f7a4_3 rfl ?_
  refine j_ldcw (v := (nI 1431655765)) C dJ6_bitCount_0f7a4_4 rfl gwt2_136 ?_
  refine j_iand C dJ6_bitCount_0f7a4_7 rfl ?_
  refine j_isub C dJ6_bitCount_0f7a4_8 rfl ?_
  refine j_topi (fun x1_ e2_ => ?_)
  replace h := zl_u h e2_
  refine j_istore_n (lv' := [(0, .int x1_)]) C dJ6_bitCount_0f7a4_9 rfl (by decide) rfl ?_
  refine j_iload_n C dJ6_bitCount_0f7a4_10 rfl 0 rfl ?_
  refine j_ldcw (v := (nI 858993459)) C dJ6_bitCount_0f7a4_11 rfl gwt2_137 ?_
  refine j_iand C dJ6_bitCount_0f7a4_14 rfl ?_
  refine j_iload_n C dJ6_bitCount_0f7a4_15 rfl 0 rfl ?_
  refine j_iconst (v := (nI 2)) C dJ6_bitCount_0f7a4_16 rfl (by decide) ?_
  refine j_iushr C dJ6_bitCount_0f7a4_17 rfl ?_
  refine j_ldcw (v := (nI 858993459)) C dJ6_bitCount_0f7a4_18 rfl gwt2_137 ?_
  refine j_iand C dJ6_bitCount_0f7a4_21 rfl ?_
  refine j_iadd C dJ6_bitCount_0f7a4_22 rfl ?_
  refine j_topi (fun x3_ e4_ => ?_)
  replace h := zl_u h e4_
  refine j_istore_n (lv' := [(0, .int x3_)]) C dJ6_bitCount_0f7a4_23 rfl (by decide) rfl ?_
  refine j_iload_n C dJ6_bitCount_0f7a4_24 rfl 0 rfl ?_
  refine j_iload_n C dJ6_bitCount_0f7a4_25 rfl 0 rfl ?_
  refine j_iconst (v := (nI 4)) C dJ6_bitCount_0f7a4_26 rfl (by decide) ?_
  refine j_iushr C dJ6_bitCount_0f7a4_27 rfl ?_
  refine j_iadd C dJ6_bitCount_0f7a4_28 rfl ?_
  refine j_ldcw (v := (nI 252645135)) C dJ6_bitCount_0f7a4_29 rfl gwt2_138 ?_
  refine j_iand C dJ6_bitCount_0f7a4_32 rfl ?_
  refine j_topi (fun x5_ e6_ => ?_)
  replace h := zl_u h e6_
  refine j_istore_n (lv' := [(0, .int x5_)]) C dJ6_bitCount_0f7a4_33 rfl (by decide) rfl ?_
  refine j_iload_n C dJ6_bitCount_0f7a4_34 rfl 0 rfl ?_
  refine j_iload_n C dJ6_bitCount_0f7a4_35 rfl 0 rfl ?_
  refine j_bipush (v := (nI 8)) C dJ6_bitCount_0f7a4_36 rfl (by decide) ?_
  refine j_iushr C dJ6_bitCount_0f7a4_38 rfl ?_
  refine j_iadd C dJ6_bitCount_0f7a4_39 rfl ?_
  refine j_topi (fun x7_ e8_ => ?_)
  replace h := zl_u h e8_
  refine j_istore_n (lv' := [(0, .int x7_)]) C dJ6_bitCount_0f7a4_40 rfl (by decide) rfl ?_
  refine j_iload_n C dJ6_bitCount_0f7a4_41 rfl 0 rfl ?_
  refine j_iload_n C dJ6_bitCount_0f7a4_42 rfl 0 rfl ?_
  refine j_bipush (v := (nI 16)) C dJ6_bitCount_0f7a4_43 rfl (by decide) ?_
  refine j_iushr C dJ6_bitCount_0f7a4_45 rfl ?_
  refine j_iadd C dJ6_bitCount_0f7a4_46 rfl ?_
  refine j_topi (fun x9_ e10_ => ?_)
  replace h := zl_u h e10_
  refine j_istore_n (lv' := [(0, .int x9_)]) C dJ6_bitCount_0f7a4_47 rfl (by decide) rfl ?_
  refine j_iload_n C dJ6_bitCount_0f7a4_48 rfl 0 rfl ?_
  refine j_bipush (v := (nI 63)) C dJ6_bitCount_0f7a4_49 rfl (by decide) ?_
  refine j_iand C dJ6_bitCount_0f7a4_51 rfl ?_
  obtain rfl := Option.some.inj h
  exact j_iret E dJ6_bitCount_0f7a4_52
set_option maxRecDepth 100000 in
theorem c_J6_bitCount_0f7a4 (l : Launch) (D : va_G) (ad : Nat → Nat) (cl : Nat → ClassId) {a0 : Int32} (μ : Mem) (ρ : Int32 × Mem) (h : f_J6_bitCount_0f7a4 a0 μ = some ρ) : CI l D ad cl yJ6_bitCount_0f7a4 wsJ6_bitCount_0f7a4 rmJ6_bitCount_0f7a4 [.int a0] μ ρ.1 ρ.2 := c_ofI (cc := cJ6_bitCount_0f7a4) (nL := 1) rfl (by decide) (Nat.le_of_ble_eq_true rfl) (fun Γ C E => w_J6_bitCount_0f7a4 C E μ h)
/-! J7_fill_d0a16 -/
def wsJ7_fill_d0a16 : List Cond := .code yJ7_fill_d0a16 cJ7_fill_d0a16 5 none :: G0
def rmJ7_fill_d0a16 : Room := { frames := 0, cells := 0, slots := 0, locals := 0 }
def f_J7_fill_d0a16_6 (kq : Nat) (nq : Nat) (a1 : Int64) : Nat → Int32 → Int32 → Mem → Option (Mem)
  | 0, _, _, _ => none
  | n + 1, x3, x4, μ => (if x4 ≤ x3 then some μ else gd (inb x3 nq) <| zl (sL μ kq (Int32.toNatClampNeg x3) a1) fun μ3_ => f_J7_fill_d0a16_6 kq nq a1 n (x3 + (nI 1)) x4 μ3_)
set_option maxHeartbeats 4000000 in
set_option maxRecDepth 100000 in
theorem w_J7_fill_d0a16_6 {Γ : jG} (C : jC Γ 5 cJ7_fill_d0a16 RJ7 rmJ7_fill_d0a16) {kq : Nat} {nq : Nat} {a1 : Int64} (hkq : jm_is kq (.inl (2, nq, 0))) {ρ : Mem} (E : jEV Γ cJ7_fill_d0a16 ρ) : ∀ (n : Nat) (x3 : Int32) (x4 : Int32) (μ : Mem), f_J7_fill_d0a16_6 kq nq a1 n x3 x4 μ = some ρ → jJ Γ 5 6 [(0, .ref kq), (1, .long a1), (3, .int x3), (4, .int x4)] [] μ := by
  intro n
  induction n with
  | zero => intro x3 x4 μ h; rw [f_J7_fill_d0a16_6] at h; cases h
  | succ n ih =>
    intro x3 x4 μ h
    rw [f_J7_fill_d0a16_6] at h
    refine j_iload_n C dJ7_fill_d0a16_6 rfl 2 rfl ?_
    refine j_iload C dJ7_fill_d0a16_7 rfl 3 rfl ?_
    refine j_icmp_ge (tgt := 22) C dJ7_fill_d0a16_9 rfl (by decide) (fun c1_ => ?_) (fun c1_ => ?_)
    · replace h := if_t h c1_
      obtain rfl := Option.some.inj h
      exact j_vret E dJ7_fill_d0a16_22
    · replace h := if_f h c1_
      refine j_aload_n C dJ7_fill_d0a16_12 rfl 0 rfl ?_
      refine j_iload_n C dJ7_fill_d0a16_13 rfl 2 rfl ?_
      refine j_lload_n C dJ7_fill_d0a16_14 rfl 1 rfl ?_
      replace h := gd_e h
      obtain ⟨g2_, h⟩ := h
      refine j_last C dJ7_fill_d0a16_15 rfl hkq g2_ ?_
      refine j_mem (fun μ3_ e4_ => ?_)
      replace h := zl_u h e4_
      refine j_iinc (d := (nI 1)) (v := x3 + (nI 1)) (lv' := [(3, .int (x3 + (nI 1))), (0, .ref kq), (1, .long a1), (4, .int x4)]) C dJ7_fill_d0a16_16 rfl (by decide) 2 rfl (by decide) rfl rfl ?_
      refine j_goto (pc' := 6) C dJ7_fill_d0a16_19 (by decide) ?_
      refine j_lv [1, 2, 0, 3] rfl ?_
      exact (ih) (x3 + (nI 1)) x4 μ3_ h
def f_J7_fill_d0a16 (kq : Nat) (nq : Nat) (a1 : Int64) (μ : Mem) : Option (Mem) := zl (Int32.ofNat nq) fun x1_ => f_J7_fill_d0a16_6 kq nq a1 zfu (nI 0) x1_ μ
set_option maxHeartbeats 4000000 in
set_option maxRecDepth 100000 in
theorem w_J7_fill_d0a16 {Γ : jG} (C : jC Γ 5 cJ7_fill_d0a16 RJ7 rmJ7_fill_d0a16) {kq : Nat} {nq : Nat} {a1 : Int64} (hkq : jm_is kq (.inl (2, nq, 0))) {ρ : Mem} (E : jEV Γ cJ7_fill_d0a16 ρ) (μ : Mem) (h : f_J7_fill_d0a16 kq nq a1 μ = some ρ) : jJ Γ 5 0 [(0, .ref kq), (1, .long a1)] [] μ := by
  unfold f_J7_fill_d0a16 at h
  refine j_iconst (v := (nI 0)) C dJ7_fill_d0a16_0 rfl (by decide) ?_
  refine j_istore_n (lv' := [(3, .int (nI 0)), (0, .ref kq), (1, .long a1)]) C dJ7_fill_d0a16_1 rfl (by decide) rfl ?_
  refine j_aload_n C dJ7_fill_d0a16_2 rfl 1 rfl ?_
  refine j_alen C dJ7_fill_d0a16_3 rfl (Or.inr rfl) hkq rfl ?_
  refine j_topi (fun x1_ e2_ => ?_)
  replace h := zl_u h e2_
  refine j_istore (lv' := [(4, .int x1_), (3, .int (nI 0)), (0, .ref kq), (1, .long a1)]) C dJ7_fill_d0a16_4 rfl (by decide) rfl ?_
  refine j_lv [2, 3, 1, 0] rfl ?_
  exact w_J7_fill_d0a16_6 C hkq E zfu (nI 0) x1_ μ h
set_option maxRecDepth 100000 in
theorem c_J7_fill_d0a16 (l : Launch) (D : va_G) (ad : Nat → Nat) (cl : Nat → ClassId) {kq : Nat} {nq : Nat} {a1 : Int64} (hkq : jm_is kq (.inl (2, nq, 0))) (μ : Mem) (ρ : Mem) (h : f_J7_fill_d0a16 kq nq a1 μ = some ρ) : CV l D ad cl yJ7_fill_d0a16 wsJ7_fill_d0a16 rmJ7_fill_d0a16 [.ref kq, .long a1] μ ρ := c_ofV (cc := cJ7_fill_d0a16) (nL := 5) rfl (by decide) (Nat.le_of_ble_eq_true rfl) (fun Γ C E => w_J7_fill_d0a16 C hkq E μ h)
/-! J1_indexOfChar_4cfef -/
def wsJ1_indexOfChar_4cfef : List Cond := .code yJ1_indexOfChar_4cfef cJ1_indexOfChar_4cfef 6 (some .int) :: G0
def rmJ1_indexOfChar_4cfef : Room := { frames := 0, cells := 0, slots := 0, locals := 0 }
def f_J1_indexOfChar_4cfef_7 (s0 : Nat) (a1 : Int32) (a2 : Int32) (a3 : Int32) : Nat → Int32 → Int32 → Mem → Option (Int32 × Mem)
  | 0, _, _, _ => none
  | n + 1, x4, x5, μ => (if a3 ≤ x5 then some ((-1), μ) else gd (inb x5 (sk_len.getD s0 0)) <| (if ((sk_byt.getD s0 []).getD (Int32.toNatClampNeg x5) 0) = x4 then some (x5, μ) else f_J1_indexOfChar_4cfef_7 s0 a1 a2 a3 n x4 (x5 + (nI 1)) μ))
set_option maxHeartbeats 4000000 in
set_option maxRecDepth 100000 in
theorem w_J1_indexOfChar_4cfef_7 {Γ : jG} (C : jC Γ 6 cJ1_indexOfChar_4cfef RJ1 rmJ1_indexOfChar_4cfef) {s0 : Nat} {a1 : Int32} {a2 : Int32} {a3 : Int32} (hs0 : s0 < 6) {ρ : Int32 × Mem} (E : jEI Γ cJ1_indexOfChar_4cfef ρ.1 ρ.2) : ∀ (n : Nat) (x4 : Int32) (x5 : Int32) (μ : Mem), f_J1_indexOfChar_4cfef_7 s0 a1 a2 a3 n x4 x5 μ = some ρ → jJ Γ 6 7 [(0, .ref (2000 + s0)), (3, .int a3), (4, .int x4), (5, .int x5)] [] μ := by
  intro n
  induction n with
  | zero => intro x4 x5 μ h; rw [f_J1_indexOfChar_4cfef_7] at h; cases h
  | succ n ih =>
    intro x4 x5 μ h
    rw [f_J1_indexOfChar_4cfef_7] at h
    refine j_iload C dJ1_indexOfChar_4cfef_7 rfl 3 rfl ?_
    refine j_iload_n C dJ1_indexOfChar_4cfef_9 rfl 1 rfl ?_
    refine j_icmp_ge (tgt := 31) C dJ1_indexOfChar_4cfef_10 rfl (by decide) (fun c1_ => ?_) (fun c1_ => ?_)
    · replace h := if_t h c1_
      refine j_iconst (v := (-1)) C dJ1_indexOfChar_4cfef_31 rfl (by decide) ?_
      obtain rfl := Option.some.inj h
      exact j_iret E dJ1_indexOfChar_4cfef_32
    · replace h := if_f h c1_
      refine j_aload_n C dJ1_indexOfChar_4cfef_13 rfl 0 rfl ?_
      refine j_iload C dJ1_indexOfChar_4cfef_14 rfl 3 rfl ?_
      replace h := gd_e h
      obtain ⟨g2_, h⟩ := h
      refine j_bald C dJ1_indexOfChar_4cfef_16 rfl hs0 g2_ ?_
      refine j_iload C dJ1_indexOfChar_4cfef_17 rfl 2 rfl ?_
      refine j_icmp_ne (tgt := 25) C dJ1_indexOfChar_4cfef_19 rfl (by decide) (fun c3_ => ?_) (fun c3_ => ?_)
      · replace h := if_f h c3_
        refine j_iinc (d := (nI 1)) (v := x5 + (nI 1)) (lv' := [(5, .int (x5 + (nI 1))), (0, .ref (2000 + s0)), (3, .int a3), (4, .int x4)]) C dJ1_indexOfChar_4cfef_25 rfl (by decide) 3 rfl (by decide) rfl rfl ?_
        refine j_goto (pc' := 7) C dJ1_indexOfChar_4cfef_28 (by decide) ?_
        refine j_lv [1, 2, 3, 0] rfl ?_
        exact (ih) x4 (x5 + (nI 1)) μ h
      · replace h := if_t h c3_
        refine j_iload C dJ1_indexOfChar_4cfef_22 rfl 3 rfl ?_
        obtain rfl := Option.some.inj h
        exact j_iret E dJ1_indexOfChar_4cfef_24
def f_J1_indexOfChar_4cfef (s0 : Nat) (a1 : Int32) (a2 : Int32) (a3 : Int32) (μ : Mem) : Option (Int32 × Mem) := zl ((Int32.toInt8 a1).toInt32) fun x1_ => f_J1_indexOfChar_4cfef_7 s0 a1 a2 a3 zfu x1_ a2 μ
set_option maxHeartbeats 4000000 in
set_option maxRecDepth 100000 in
theorem w_J1_indexOfChar_4cfef {Γ : jG} (C : jC Γ 6 cJ1_indexOfChar_4cfef RJ1 rmJ1_indexOfChar_4cfef) {s0 : Nat} {a1 : Int32} {a2 : Int32} {a3 : Int32} (hs0 : s0 < 6) {ρ : Int32 × Mem} (E : jEI Γ cJ1_indexOfChar_4cfef ρ.1 ρ.2) (μ : Mem) (h : f_J1_indexOfChar_4cfef s0 a1 a2 a3 μ = some ρ) : jJ Γ 6 0 [(0, .ref (2000 + s0)), (1, .int a1), (2, .int a2), (3, .int a3)] [] μ := by
  unfold f_J1_indexOfChar_4cfef at h
  refine j_iload_n C dJ1_indexOfChar_4cfef_0 rfl 1 rfl ?_
  refine j_i2b C dJ1_indexOfChar_4cfef_1 rfl ?_
  refine j_topi (fun x1_ e2_ => ?_)
  replace h := zl_u h e2_
  refine j_istore (lv' := [(4, .int x1_), (0, .ref (2000 + s0)), (1, .int a1), (2, .int a2), (3, .int a3)]) C dJ1_indexOfChar_4cfef_2 rfl (by decide) rfl ?_
  refine j_iload_n C dJ1_indexOfChar_4cfef_4 rfl 3 rfl ?_
  refine j_istore (lv' := [(5, .int a2), (4, .int x1_), (0, .ref (2000 + s0)), (1, .int a1), (2, .int a2), (3, .int a3)]) C dJ1_indexOfChar_4cfef_5 rfl (by decide) rfl ?_
  refine j_lv [2, 5, 1, 0] rfl ?_
  exact w_J1_indexOfChar_4cfef_7 C hs0 E zfu x1_ a2 μ h
set_option maxRecDepth 100000 in
theorem c_J1_indexOfChar_4cfef (l : Launch) (D : va_G) (ad : Nat → Nat) (cl : Nat → ClassId) {s0 : Nat} {a1 : Int32} {a2 : Int32} {a3 : Int32} (hs0 : s0 < 6) (μ : Mem) (ρ : Int32 × Mem) (h : f_J1_indexOfChar_4cfef s0 a1 a2 a3 μ = some ρ) : CI l D ad cl yJ1_indexOfChar_4cfef wsJ1_indexOfChar_4cfef rmJ1_indexOfChar_4cfef [.ref (2000 + s0), .int a1, .int a2, .int a3] μ ρ.1 ρ.2 := c_ofI (cc := cJ1_indexOfChar_4cfef) (nL := 6) rfl (by decide) (Nat.le_of_ble_eq_true rfl) (fun Γ C E => w_J1_indexOfChar_4cfef C hs0 E μ h)
/-! J1_canEncode_9a6ad -/
def wsJ1_canEncode_9a6ad : List Cond := .code yJ1_canEncode_9a6ad cJ1_canEncode_9a6ad 1 (some .boolean) :: G0
def rmJ1_canEncode_9a6ad : Room := { frames := 0, cells := 0, slots := 0, locals := 0 }
def f_J1_canEncode_9a6ad (a0 : Int32) (μ : Mem) : Option (Int32 × Mem) := (if a0 < 0 then some ((nI 0), μ) else (if (nI 255) < a0 then some ((nI 0), μ) else some ((nI 1), μ)))
set_option maxHeartbeats 4000000 in
set_option maxRecDepth 100000 in
theorem w_J1_canEncode_9a6ad {Γ : jG} (C : jC Γ 1 cJ1_canEncode_9a6ad RJ1 rmJ1_canEncode_9a6ad) {a0 : Int32} {ρ : Int32 × Mem} (E : (isB ρ.1 = true → jEI Γ cJ1_canEncode_9a6ad ρ.1 ρ.2)) (μ : Mem) (h : f_J1_canEncode_9a6ad a0 μ = some ρ) : jJ Γ 1 0 [(0, .int a0)] [] μ := by
  unfold f_J1_canEncode_9a6ad at h
  refine j_iload_n C dJ1_canEncode_9a6ad_0 rfl 0 rfl ?_
  refine j_if_lt (tgt := 15) C dJ1_canEncode_9a6ad_1 rfl (by decide) (fun c1_ => ?_) (fun c1_ => ?_)
  · replace h := if_t h c1_
    refine j_iconst (v := (nI 0)) C dJ1_canEncode_9a6ad_15 rfl (by decide) ?_
    obtain rfl := Option.some.inj h
    exact j_iret (E isB_0) dJ1_canEncode_9a6ad_16
  · replace h := if_f h c1_
    refine j_iload_n C dJ1_canEncode_9a6ad_4 rfl 0 rfl ?_
    refine j_sipush (v := (nI 255)) C dJ1_canEncode_9a6ad_5 rfl (by decide) ?_
    refine j_icmp_gt (tgt := 15) C dJ1_canEncode_9a6ad_8 rfl (by decide) (fun c2_ => ?_) (fun c2_ => ?_)
    · replace h := if_t h c2_
      refine j_iconst (v := (nI 0)) C dJ1_canEncode_9a6ad_15 rfl (by decide) ?_
      obtain rfl := Option.some.inj h
      exact j_iret (E isB_0) dJ1_canEncode_9a6ad_16
    · replace h := if_f h c2_
      refine j_iconst (v := (nI 1)) C dJ1_canEncode_9a6ad_11 rfl (by decide) ?_
      refine j_goto (pc' := 16) C dJ1_canEncode_9a6ad_12 (by decide) ?_
      obtain rfl := Option.some.inj h
      exact j_iret (E isB_1) dJ1_canEncode_9a6ad_16
set_option maxRecDepth 100000 in
theorem c_J1_canEncode_9a6ad (l : Launch) (D : va_G) (ad : Nat → Nat) (cl : Nat → ClassId) {a0 : Int32} (μ : Mem) (ρ : Int32 × Mem) (h : f_J1_canEncode_9a6ad a0 μ = some ρ) : CI l D ad cl yJ1_canEncode_9a6ad wsJ1_canEncode_9a6ad rmJ1_canEncode_9a6ad [.int a0] μ ρ.1 ρ.2 := c_ofZ (cc := cJ1_canEncode_9a6ad) (nL := 1) rfl (by decide) (Nat.le_of_ble_eq_true rfl) (fun Γ C E => w_J1_canEncode_9a6ad C E μ h)
theorem gsJ1_88 : jm_gs RJ1 88 yJ1_canEncode_9a6ad wsJ1_canEncode_9a6ad 1 1 := ⟨_, _, gi_S gwt2_217 gwt2_218 gwt1_12 gwt2_219, rfl, by decide +kernel⟩
theorem gsJ1_95 : jm_gs RJ1 95 yJ1_indexOfChar_4cfef wsJ1_indexOfChar_4cfef 6 4 := ⟨_, _, gi_S gwt2_226 gwt2_227 gwt1_12 gwt2_228, rfl, by decide +kernel⟩
/-! J1_indexOf_4cfef -/
def wsJ1_indexOf_4cfef : List Cond := .code yJ1_indexOf_4cfef cJ1_indexOf_4cfef 4 (some .int) :: G0
def rmJ1_indexOf_4cfef : Room := { frames := 1, cells := 0, slots := 0, locals := 40 }
def f_J1_indexOf_4cfef (s0 : Nat) (a1 : Int32) (a2 : Int32) (a3 : Int32) (μ : Mem) : Option (Int32 × Mem) := Option.bind (f_J1_canEncode_9a6ad a1 μ) fun p1_ => (if p1_.1 = 0 then some ((-1), p1_.2) else zl (if a2 < (nI 0) then (nI 0) else a2) fun x4_ => zl (if (Int32.ofNat (sk_len.getD s0 0)) < a3 then (Int32.ofNat (sk_len.getD s0 0)) else a3) fun x6_ => (if x4_ < x6_ then Option.bind (f_J1_indexOfChar_4cfef s0 a1 x4_ x6_ p1_.2) fun p9_ => some (p9_.1, p9_.2) else some ((-1), p1_.2)))
set_option maxHeartbeats 4000000 in
set_option maxRecDepth 100000 in
theorem w_J1_indexOf_4cfef {Γ : jG} (C : jC Γ 4 cJ1_indexOf_4cfef RJ1 rmJ1_indexOf_4cfef) {s0 : Nat} {a1 : Int32} {a2 : Int32} {a3 : Int32} (hs0 : s0 < 6) {ρ : Int32 × Mem} (E : jEI Γ cJ1_indexOf_4cfef ρ.1 ρ.2) (μ : Mem) (h : f_J1_indexOf_4cfef s0 a1 a2 a3 μ = some ρ) : jJ Γ 4 0 [(0, .ref (2000 + s0)), (1, .int a1), (2, .int a2), (3, .int a3)] [] μ := by
  unfold f_J1_indexOf_4cfef at h
  refine j_iload_n C dJ1_indexOf_4cfef_0 rfl 1 rfl ?_
  replace h := bd_e h
  obtain ⟨p1_, h2_, h⟩ := h
  refine j_cSI (av := [.int a1]) (rest := []) C dJ1_indexOf_4cfef_1 rfl (c_J1_canEncode_9a6ad _ _ _ _ μ p1_ h2_) gsJ1_88 ⟨⟨rfl, rfl⟩, Nat.le_of_ble_eq_true rfl, Nat.le_of_ble_eq_true rfl⟩ rfl rfl (Nat.le_of_ble_eq_true rfl) ?_
  refine j_if_ne (tgt := 9) C dJ1_indexOf_4cfef_4 rfl (by decide) (fun c3_ => ?_) (fun c3_ => ?_)
  · replace h := if_f h c3_
    refine j_iload_n C dJ1_indexOf_4cfef_9 rfl 2 rfl ?_
    refine j_iconst (v := (nI 0)) C dJ1_indexOf_4cfef_10 rfl (by decide) ?_
    refine j_mmax C dJ1_indexOf_4cfef_11 rfl qmJ1_92 ⟨Nat.le_of_ble_eq_true rfl, Nat.le_of_ble_eq_true rfl⟩ ?_
    refine j_topi (fun x4_ e5_ => ?_)
    replace h := zl_u h e5_
    refine j_istore_n (lv' := [(2, .int x4_), (0, .ref (2000 + s0)), (1, .int a1), (3, .int a3)]) C dJ1_indexOf_4cfef_14 rfl (by decide) rfl ?_
    refine j_iload_n C dJ1_indexOf_4cfef_15 rfl 3 rfl ?_
    refine j_aload_n C dJ1_indexOf_4cfef_16 rfl 1 rfl ?_
    refine j_blen C dJ1_indexOf_4cfef_17 rfl hs0 ?_
    refine j_mmin C dJ1_indexOf_4cfef_18 rfl qmJ1_38 ⟨Nat.le_of_ble_eq_true rfl, Nat.le_of_ble_eq_true rfl⟩ ?_
    refine j_topi (fun x6_ e7_ => ?_)
    replace h := zl_u h e7_
    refine j_istore_n (lv' := [(3, .int x6_), (2, .int x4_), (0, .ref (2000 + s0)), (1, .int a1)]) C dJ1_indexOf_4cfef_21 rfl (by decide) rfl ?_
    refine j_iload_n C dJ1_indexOf_4cfef_22 rfl 1 rfl ?_
    refine j_iload_n C dJ1_indexOf_4cfef_23 rfl 0 rfl ?_
    refine j_icmp_lt (tgt := 29) C dJ1_indexOf_4cfef_24 rfl (by decide) (fun c8_ => ?_) (fun c8_ => ?_)
    · replace h := if_t h c8_
      refine j_aload_n C dJ1_indexOf_4cfef_29 rfl 2 rfl ?_
      refine j_iload_n C dJ1_indexOf_4cfef_30 rfl 3 rfl ?_
      refine j_iload_n C dJ1_indexOf_4cfef_31 rfl 1 rfl ?_
      refine j_iload_n C dJ1_indexOf_4cfef_32 rfl 0 rfl ?_
      replace h := bd_e h
      obtain ⟨p9_, h10_, h⟩ := h
      refine j_cSI (av := [.ref (2000 + s0), .int a1, .int x4_, .int x6_]) (rest := []) C dJ1_indexOf_4cfef_33 rfl (c_J1_indexOfChar_4cfef _ _ _ _ hs0 p1_.2 p9_ h10_) gsJ1_95 ⟨⟨rfl, rfl⟩, Nat.le_of_ble_eq_true rfl, Nat.le_of_ble_eq_true rfl⟩ rfl rfl (Nat.le_of_ble_eq_true rfl) ?_
      obtain rfl := Option.some.inj h
      exact j_iret E dJ1_indexOf_4cfef_36
    · replace h := if_f h c8_
      refine j_iconst (v := (-1)) C dJ1_indexOf_4cfef_27 rfl (by decide) ?_
      obtain rfl := Option.some.inj h
      exact j_iret E dJ1_indexOf_4cfef_28
  · replace h := if_t h c3_
    refine j_iconst (v := (-1)) C dJ1_indexOf_4cfef_7 rfl (by decide) ?_
    obtain rfl := Option.some.inj h
    exact j_iret E dJ1_indexOf_4cfef_8
set_option maxRecDepth 100000 in
theorem c_J1_indexOf_4cfef (l : Launch) (D : va_G) (ad : Nat → Nat) (cl : Nat → ClassId) {s0 : Nat} {a1 : Int32} {a2 : Int32} {a3 : Int32} (hs0 : s0 < 6) (μ : Mem) (ρ : Int32 × Mem) (h : f_J1_indexOf_4cfef s0 a1 a2 a3 μ = some ρ) : CI l D ad cl yJ1_indexOf_4cfef wsJ1_indexOf_4cfef rmJ1_indexOf_4cfef [.ref (2000 + s0), .int a1, .int a2, .int a3] μ ρ.1 ρ.2 := c_ofI (cc := cJ1_indexOf_4cfef) (nL := 4) rfl (by decide) (Nat.le_of_ble_eq_true rfl) (fun Γ C E => w_J1_indexOf_4cfef C hs0 E μ h)
/-! J0_coder_7d493 -/
def wsJ0_coder_7d493 : List Cond := .code yJ0_coder_7d493 cJ0_coder_7d493 1 (some .byte) :: G0
def rmJ0_coder_7d493 : Room := { frames := 0, cells := 0, slots := 0, locals := 0 }
def f_J0_coder_7d493 (s0 : Nat) (μ : Mem) : Option (Int32 × Mem) := (if (1 : Int32) = 0 then some ((nI 1), μ) else some (0, μ))
set_option maxHeartbeats 4000000 in
set_option maxRecDepth 100000 in
theorem w_J0_coder_7d493 {Γ : jG} (C : jC Γ 1 cJ0_coder_7d493 RJ0 rmJ0_coder_7d493) {s0 : Nat} (hs0 : s0 < 6) {ρ : Int32 × Mem} (E : (narrow .byte (.int ρ.1) = .int ρ.1 → jEI Γ cJ0_coder_7d493 ρ.1 ρ.2)) (μ : Mem) (h : f_J0_coder_7d493 s0 μ = some ρ) : jJ Γ 1 0 [(0, .ref (1000 + s0))] [] μ := by
  unfold f_J0_coder_7d493 at h
  refine j_getsC C dJ0_coder_7d493_0 rfl gwt2_204 ?_
  refine j_if_eq (tgt := 13) C dJ0_coder_7d493_3 rfl (by decide) (fun c1_ => ?_) (fun c1_ => ?_)
  · replace h := if_t h c1_
    refine j_iconst (v := (nI 1)) C dJ0_coder_7d493_13 rfl (by decide) ?_
    obtain rfl := Option.some.inj h
    exact j_iret (E rfl) dJ0_coder_7d493_14
  · replace h := if_f h c1_
    refine j_aload_n C dJ0_coder_7d493_6 rfl 0 rfl ?_
    refine j_getC C dJ0_coder_7d493_7 rfl gwt6_109 hs0 ?_
    refine j_goto (pc' := 14) C dJ0_coder_7d493_10 (by decide) ?_
    obtain rfl := Option.some.inj h
    exact j_iret (E rfl) dJ0_coder_7d493_14
set_option maxRecDepth 100000 in
theorem c_J0_coder_7d493 (l : Launch) (D : va_G) (ad : Nat → Nat) (cl : Nat → ClassId) {s0 : Nat} (hs0 : s0 < 6) (μ : Mem) (ρ : Int32 × Mem) (h : f_J0_coder_7d493 s0 μ = some ρ) : CI l D ad cl yJ0_coder_7d493 wsJ0_coder_7d493 rmJ0_coder_7d493 [.ref (1000 + s0)] μ ρ.1 ρ.2 := c_ofB (cc := cJ0_coder_7d493) (nL := 1) rfl (by decide) (Nat.le_of_ble_eq_true rfl) (fun Γ C E => w_J0_coder_7d493 C hs0 E μ h)
theorem gvJ0_335 : jm_gv RJ0 335 RJ0 yJ0_coder_7d493 wsJ0_coder_7d493 1 0 := ⟨_, _, gi_V gwt2_210 gwt2_211 gwt2_212 gwt1_11 gwt2_213, rfl, by decide +kernel⟩
/-! J0_length_8abf5 -/
def wsJ0_length_8abf5 : List Cond := .code yJ0_length_8abf5 cJ0_length_8abf5 1 (some .int) :: G0
def rmJ0_length_8abf5 : Room := { frames := 1, cells := 0, slots := 0, locals := 20 }
def f_J0_length_8abf5 (s0 : Nat) (μ : Mem) : Option (Int32 × Mem) := Option.bind (f_J0_coder_7d493 s0 μ) fun p1_ => some ((Int32.ofNat (sk_len.getD s0 0)) >>> (p1_.1 &&& 31), p1_.2)
set_option maxHeartbeats 4000000 in
set_option maxRecDepth 100000 in
theorem w_J0_length_8abf5 {Γ : jG} (C : jC Γ 1 cJ0_length_8abf5 RJ0 rmJ0_length_8abf5) {s0 : Nat} (hs0 : s0 < 6) {ρ : Int32 × Mem} (E : jEI Γ cJ0_length_8abf5 ρ.1 ρ.2) (μ : Mem) (h : f_J0_length_8abf5 s0 μ = some ρ) : jJ Γ 1 0 [(0, .ref (1000 + s0))] [] μ := by
  unfold f_J0_length_8abf5 at h
  refine j_aload_n C dJ0_length_8abf5_0 rfl 0 rfl ?_
  refine j_getB C dJ0_length_8abf5_1 rfl gwt6_110 hs0 ?_
  refine j_blen C dJ0_length_8abf5_4 rfl hs0 ?_
  refine j_aload_n C dJ0_length_8abf5_5 rfl 0 rfl ?_
  replace h := bd_e h
  obtain ⟨p1_, h2_, h⟩ := h
  refine j_cKI (av := []) (rest := [.int (Int32.ofNat (sk_len.getD s0 0))]) C dJ0_length_8abf5_6 rfl (c_J0_coder_7d493 _ _ _ _ hs0 μ p1_ h2_) gvJ0_335 ⟨⟨rfl, rfl⟩, Nat.le_of_ble_eq_true rfl, Nat.le_of_ble_eq_true rfl⟩ rfl hs0 rfl (Nat.le_of_ble_eq_true rfl) ?_
  refine j_ishr C dJ0_length_8abf5_9 rfl ?_
  obtain rfl := Option.some.inj h
  exact j_iret E dJ0_length_8abf5_10
set_option maxRecDepth 100000 in
theorem c_J0_length_8abf5 (l : Launch) (D : va_G) (ad : Nat → Nat) (cl : Nat → ClassId) {s0 : Nat} (hs0 : s0 < 6) (μ : Mem) (ρ : Int32 × Mem) (h : f_J0_length_8abf5 s0 μ = some ρ) : CI l D ad cl yJ0_length_8abf5 wsJ0_length_8abf5 rmJ0_length_8abf5 [.ref (1000 + s0)] μ ρ.1 ρ.2 := c_ofI (cc := cJ0_length_8abf5) (nL := 1) rfl (by decide) (Nat.le_of_ble_eq_true rfl) (fun Γ C E => w_J0_length_8abf5 C hs0 E μ h)
/-! J0_isLatin1_aae02 -/
def wsJ0_isLatin1_aae02 : List Cond := .code yJ0_isLatin1_aae02 cJ0_isLatin1_aae02 1 (some .boolean) :: G0
def rmJ0_isLatin1_aae02 : Room := { frames := 0, cells := 0, slots := 0, locals := 0 }
def f_J0_isLatin1_aae02 (s0 : Nat) (μ : Mem) : Option (Int32 × Mem) := (if (1 : Int32) = 0 then some ((nI 0), μ) else (if (0 : Int32) = 0 then some ((nI 1), μ) else some ((nI 0), μ)))
set_option maxHeartbeats 4000000 in
set_option maxRecDepth 100000 in
theorem w_J0_isLatin1_aae02 {Γ : jG} (C : jC Γ 1 cJ0_isLatin1_aae02 RJ0 rmJ0_isLatin1_aae02) {s0 : Nat} (hs0 : s0 < 6) {ρ : Int32 × Mem} (E : (isB ρ.1 = true → jEI Γ cJ0_isLatin1_aae02 ρ.1 ρ.2)) (μ : Mem) (h : f_J0_isLatin1_aae02 s0 μ = some ρ) : jJ Γ 1 0 [(0, .ref (1000 + s0))] [] μ := by
  unfold f_J0_isLatin1_aae02 at h
  refine j_getsC C dJ0_isLatin1_aae02_0 rfl gwt2_204 ?_
  refine j_if_eq (tgt := 17) C dJ0_isLatin1_aae02_3 rfl (by decide) (fun c1_ => ?_) (fun c1_ => ?_)
  · replace h := if_t h c1_
    refine j_iconst (v := (nI 0)) C dJ0_isLatin1_aae02_17 rfl (by decide) ?_
    obtain rfl := Option.some.inj h
    exact j_iret (E isB_0) dJ0_isLatin1_aae02_18
  · replace h := if_f h c1_
    refine j_aload_n C dJ0_isLatin1_aae02_6 rfl 0 rfl ?_
    refine j_getC C dJ0_isLatin1_aae02_7 rfl gwt6_109 hs0 ?_
    refine j_if_ne (tgt := 17) C dJ0_isLatin1_aae02_10 rfl (by decide) (fun c2_ => ?_) (fun c2_ => ?_)
    · replace h := if_f h c2_
      refine j_iconst (v := (nI 0)) C dJ0_isLatin1_aae02_17 rfl (by decide) ?_
      obtain rfl := Option.some.inj h
      exact j_iret (E isB_0) dJ0_isLatin1_aae02_18
    · replace h := if_t h c2_
      refine j_iconst (v := (nI 1)) C dJ0_isLatin1_aae02_13 rfl (by decide) ?_
      refine j_goto (pc' := 18) C dJ0_isLatin1_aae02_14 (by decide) ?_
      obtain rfl := Option.some.inj h
      exact j_iret (E isB_1) dJ0_isLatin1_aae02_18
set_option maxRecDepth 100000 in
theorem c_J0_isLatin1_aae02 (l : Launch) (D : va_G) (ad : Nat → Nat) (cl : Nat → ClassId) {s0 : Nat} (hs0 : s0 < 6) (μ : Mem) (ρ : Int32 × Mem) (h : f_J0_isLatin1_aae02 s0 μ = some ρ) : CI l D ad cl yJ0_isLatin1_aae02 wsJ0_isLatin1_aae02 rmJ0_isLatin1_aae02 [.ref (1000 + s0)] μ ρ.1 ρ.2 := c_ofZ (cc := cJ0_isLatin1_aae02) (nL := 1) rfl (by decide) (Nat.le_of_ble_eq_true rfl) (fun Γ C E => w_J0_isLatin1_aae02 C hs0 E μ h)
theorem gvJ0_492 : jm_gv RJ0 492 RJ0 yJ0_isLatin1_aae02 wsJ0_isLatin1_aae02 1 0 := ⟨_, _, gi_V gwt2_200 gwt2_201 gwt2_202 gwt1_11 gwt2_203, rfl, by decide +kernel⟩
theorem gvJ0_505 : jm_gv RJ0 505 RJ0 yJ0_length_8abf5 wsJ0_length_8abf5 1 0 := ⟨_, _, gi_V gwt2_206 gwt2_207 gwt2_208 gwt1_11 gwt2_209, rfl, by decide +kernel⟩
theorem gsJ0_637 : jm_gs RJ0 637 yJ1_indexOf_4cfef wsJ1_indexOf_4cfef 4 4 := ⟨_, _, gi_S gwt2_214 gwt2_215 gwt1_12 gwt2_216, rfl, by decide +kernel⟩
/-! J0_indexOf_7cf53 -/
def wsJ0_indexOf_7cf53 : List Cond := .code yJ0_indexOf_7cf53 cJ0_indexOf_7cf53 3 (some .int) :: G0
def rmJ0_indexOf_7cf53 : Room := { frames := 2, cells := 0, slots := 0, locals := 63 }
def f_J0_indexOf_7cf53 (s0 : Nat) (a1 : Int32) (a2 : Int32) (μ : Mem) : Option (Int32 × Mem) := Option.bind (f_J0_isLatin1_aae02 s0 μ) fun p1_ => (if p1_.1 = 0 then none else Option.bind (f_J0_length_8abf5 s0 p1_.2) fun p4_ => Option.bind (f_J1_indexOf_4cfef s0 a1 a2 p4_.1 p4_.2) fun p6_ => some (p6_.1, p6_.2))
set_option maxHeartbeats 4000000 in
set_option maxRecDepth 100000 in
theorem w_J0_indexOf_7cf53 {Γ : jG} (C : jC Γ 3 cJ0_indexOf_7cf53 RJ0 rmJ0_indexOf_7cf53) {s0 : Nat} {a1 : Int32} {a2 : Int32} (hs0 : s0 < 6) {ρ : Int32 × Mem} (E : jEI Γ cJ0_indexOf_7cf53 ρ.1 ρ.2) (μ : Mem) (h : f_J0_indexOf_7cf53 s0 a1 a2 μ = some ρ) : jJ Γ 3 0 [(0, .ref (1000 + s0)), (1, .int a1), (2, .int a2)] [] μ := by
  unfold f_J0_indexOf_7cf53 at h
  refine j_aload_n C dJ0_indexOf_7cf53_0 rfl 0 rfl ?_
  replace h := bd_e h
  obtain ⟨p1_, h2_, h⟩ := h
  refine j_cKI (av := []) (rest := []) C dJ0_indexOf_7cf53_1 rfl (c_J0_isLatin1_aae02 _ _ _ _ hs0 μ p1_ h2_) gvJ0_492 ⟨⟨rfl, rfl⟩, Nat.le_of_ble_eq_true rfl, Nat.le_of_ble_eq_true rfl⟩ rfl hs0 rfl (Nat.le_of_ble_eq_true rfl) ?_
  refine j_if_eq (tgt := 23) C dJ0_indexOf_7cf53_4 rfl (by decide) (fun c3_ => ?_) (fun c3_ => ?_)
  · replace h := if_t h c3_
    cases h
  · replace h := if_f h c3_
    refine j_aload_n C dJ0_indexOf_7cf53_7 rfl 0 rfl ?_
    refine j_getB C dJ0_indexOf_7cf53_8 rfl gwt6_110 hs0 ?_
    refine j_iload_n C dJ0_indexOf_7cf53_11 rfl 1 rfl ?_
    refine j_iload_n C dJ0_indexOf_7cf53_12 rfl 2 rfl ?_
    refine j_aload_n C dJ0_indexOf_7cf53_13 rfl 0 rfl ?_
    replace h := bd_e h
    obtain ⟨p4_, h5_, h⟩ := h
    refine j_cKI (av := []) (rest := [.int a2, .int a1, .ref (2000 + s0)]) C dJ0_indexOf_7cf53_14 rfl (c_J0_length_8abf5 _ _ _ _ hs0 p1_.2 p4_ h5_) gvJ0_505 ⟨⟨rfl, rfl⟩, Nat.le_of_ble_eq_true rfl, Nat.le_of_ble_eq_true rfl⟩ rfl hs0 rfl (Nat.le_of_ble_eq_true rfl) ?_
    replace h := bd_e h
    obtain ⟨p6_, h7_, h⟩ := h
    refine j_cSI (av := [.ref (2000 + s0), .int a1, .int a2, .int p4_.1]) (rest := []) C dJ0_indexOf_7cf53_17 rfl (c_J1_indexOf_4cfef _ _ _ _ hs0 p4_.2 p6_ h7_) gsJ0_637 ⟨⟨rfl, rfl⟩, Nat.le_of_ble_eq_true rfl, Nat.le_of_ble_eq_true rfl⟩ rfl rfl (Nat.le_of_ble_eq_true rfl) ?_
    refine j_goto (pc' := 36) C dJ0_indexOf_7cf53_20 (by decide) ?_
    obtain rfl := Option.some.inj h
    exact j_iret E dJ0_indexOf_7cf53_36
set_option maxRecDepth 100000 in
theorem c_J0_indexOf_7cf53 (l : Launch) (D : va_G) (ad : Nat → Nat) (cl : Nat → ClassId) {s0 : Nat} {a1 : Int32} {a2 : Int32} (hs0 : s0 < 6) (μ : Mem) (ρ : Int32 × Mem) (h : f_J0_indexOf_7cf53 s0 a1 a2 μ = some ρ) : CI l D ad cl yJ0_indexOf_7cf53 wsJ0_indexOf_7cf53 rmJ0_indexOf_7cf53 [.ref (1000 + s0), .int a1, .int a2] μ ρ.1 ρ.2 := c_ofI (cc := cJ0_indexOf_7cf53) (nL := 3) rfl (by decide) (Nat.le_of_ble_eq_true rfl) (fun Γ C E => w_J0_indexOf_7cf53 C hs0 E μ h)
theorem gvJ0_633 : jm_gv RJ0 633 RJ0 yJ0_indexOf_7cf53 wsJ0_indexOf_7cf53 3 2 := ⟨_, _, gi_V gwt2_196 gwt2_197 gwt2_198 gwt1_11 gwt2_199, rfl, by decide +kernel⟩
/-! J0_indexOf_0f7a4 -/
def wsJ0_indexOf_0f7a4 : List Cond := .code yJ0_indexOf_0f7a4 cJ0_indexOf_0f7a4 2 (some .int) :: G0
def rmJ0_indexOf_0f7a4 : Room := { frames := 3, cells := 0, slots := 0, locals := 85 }
def f_J0_indexOf_0f7a4 (s0 : Nat) (a1 : Int32) (μ : Mem) : Option (Int32 × Mem) := Option.bind (f_J0_indexOf_7cf53 s0 a1 (nI 0) μ) fun p1_ => some (p1_.1, p1_.2)
set_option maxHeartbeats 4000000 in
set_option maxRecDepth 100000 in
theorem w_J0_indexOf_0f7a4 {Γ : jG} (C : jC Γ 2 cJ0_indexOf_0f7a4 RJ0 rmJ0_indexOf_0f7a4) {s0 : Nat} {a1 : Int32} (hs0 : s0 < 6) {ρ : Int32 × Mem} (E : jEI Γ cJ0_indexOf_0f7a4 ρ.1 ρ.2) (μ : Mem) (h : f_J0_indexOf_0f7a4 s0 a1 μ = some ρ) : jJ Γ 2 0 [(0, .ref (1000 + s0)), (1, .int a1)] [] μ := by
  unfold f_J0_indexOf_0f7a4 at h
  refine j_aload_n C dJ0_indexOf_0f7a4_0 rfl 0 rfl ?_
  refine j_iload_n C dJ0_indexOf_0f7a4_1 rfl 1 rfl ?_
  refine j_iconst (v := (nI 0)) C dJ0_indexOf_0f7a4_2 rfl (by decide) ?_
  replace h := bd_e h
  obtain ⟨p1_, h2_, h⟩ := h
  refine j_cKI (av := [.int a1, .int (nI 0)]) (rest := []) C dJ0_indexOf_0f7a4_3 rfl (c_J0_indexOf_7cf53 _ _ _ _ hs0 μ p1_ h2_) gvJ0_633 ⟨⟨rfl, rfl⟩, Nat.le_of_ble_eq_true rfl, Nat.le_of_ble_eq_true rfl⟩ rfl hs0 rfl (Nat.le_of_ble_eq_true rfl) ?_
  obtain rfl := Option.some.inj h
  exact j_iret E dJ0_indexOf_0f7a4_6
set_option maxRecDepth 100000 in
theorem c_J0_indexOf_0f7a4 (l : Launch) (D : va_G) (ad : Nat → Nat) (cl : Nat → ClassId) {s0 : Nat} {a1 : Int32} (hs0 : s0 < 6) (μ : Mem) (ρ : Int32 × Mem) (h : f_J0_indexOf_0f7a4 s0 a1 μ = some ρ) : CI l D ad cl yJ0_indexOf_0f7a4 wsJ0_indexOf_0f7a4 rmJ0_indexOf_0f7a4 [.ref (1000 + s0), .int a1] μ ρ.1 ρ.2 := c_ofI (cc := cJ0_indexOf_0f7a4) (nL := 2) rfl (by decide) (Nat.le_of_ble_eq_true rfl) (fun Γ C E => w_J0_indexOf_0f7a4 C hs0 E μ h)
