theorem gwt1_101 : Cond.arrayClass .int ∈ G0 := gm_t1 (List.mem_of_getElem? (i := 101) rfl) rfl
theorem gwt1_102 : Cond.classLink RX4 16 RX0 ∈ G0 := gm_t1 (List.mem_of_getElem? (i := 102) rfl) rfl
theorem gwt1_103 : Cond.instantiable RX0 5 ∈ G0 := gm_t1 (List.mem_of_getElem? (i := 103) rfl) rfl
theorem gwt1_105 : Cond.instanceMethod yX0_init ∈ G0 := gm_t1 (List.mem_of_getElem? (i := 105) rfl) rfl
theorem gwt1_106 : Cond.code yX0_init cX0_init 1 none ∈ G0 := gm_t1 (List.mem_of_getElem? (i := 106) rfl) rfl
theorem gwt1_107 : Cond.methodLink RX0 3 Lib.objectInit ∈ G0 := gm_t1 (List.mem_of_getElem? (i := 107) rfl) rfl
theorem gwt1_136 : Cond.classLink RX4 23 RX1 ∈ G0 := gm_t1 (List.mem_of_getElem? (i := 136) rfl) rfl
theorem gwt1_137 : Cond.instantiable RX1 4 ∈ G0 := gm_t1 (List.mem_of_getElem? (i := 137) rfl) rfl
theorem gwt1_139 : Cond.instanceMethod yX1_init ∈ G0 := gm_t1 (List.mem_of_getElem? (i := 139) rfl) rfl
theorem gwt1_140 : Cond.code yX1_init cX1_init 1 none ∈ G0 := gm_t1 (List.mem_of_getElem? (i := 140) rfl) rfl
theorem gwt1_141 : Cond.methodLink RX1 3 Lib.objectInit ∈ G0 := gm_t1 (List.mem_of_getElem? (i := 141) rfl) rfl
theorem gwt1_169 : Cond.classLink RX7 23 RX5 ∈ G0 := gm_t1 (List.mem_of_getElem? (i := 169) rfl) rfl
theorem gwt1_170 : Cond.instantiable RX5 9 ∈ G0 := gm_t1 (List.mem_of_getElem? (i := 170) rfl) rfl
theorem gwt1_172 : Cond.instanceMethod yX5_init ∈ G0 := gm_t1 (List.mem_of_getElem? (i := 172) rfl) rfl
theorem gwt1_173 : Cond.code yX5_init cX5_init 1 none ∈ G0 := gm_t1 (List.mem_of_getElem? (i := 173) rfl) rfl
theorem gwt1_174 : Cond.methodLink RX5 3 Lib.objectInit ∈ G0 := gm_t1 (List.mem_of_getElem? (i := 174) rfl) rfl
theorem gwt1_175 : Cond.classLink RX5 15 RX0 ∈ G0 := gm_t1 (List.mem_of_getElem? (i := 175) rfl) rfl
theorem gwt1_211 : Cond.arrayClass .char ∈ G0 := gm_t1 (List.mem_of_getElem? (i := 211) rfl) rfl
theorem gwt1_212 : Cond.classLink RX7 30 RX3 ∈ G0 := gm_t1 (List.mem_of_getElem? (i := 212) rfl) rfl
theorem gwt1_214 : Cond.classLink RX7 36 RX6 ∈ G0 := gm_t1 (List.mem_of_getElem? (i := 214) rfl) rfl
theorem gwt1_215 : Cond.instantiable RX6 8 ∈ G0 := gm_t1 (List.mem_of_getElem? (i := 215) rfl) rfl
theorem gwt1_216 : Cond.methodLink RX7 46 yX6_init ∈ G0 := gm_t1 (List.mem_of_getElem? (i := 216) rfl) rfl
theorem gwt1_217 : Cond.instanceMethod yX6_init ∈ G0 := gm_t1 (List.mem_of_getElem? (i := 217) rfl) rfl
theorem gwt1_218 : Cond.code yX6_init cX6_init 3 none ∈ G0 := gm_t1 (List.mem_of_getElem? (i := 218) rfl) rfl
theorem gwt1_219 : Cond.methodLink RX6 3 Lib.objectInit ∈ G0 := gm_t1 (List.mem_of_getElem? (i := 219) rfl) rfl
theorem gwt1_220 : Cond.classLink RX6 9 RX2 ∈ G0 := gm_t1 (List.mem_of_getElem? (i := 220) rfl) rfl
theorem gwt1_222 : Cond.classLink RX6 18 RX0 ∈ G0 := gm_t1 (List.mem_of_getElem? (i := 222) rfl) rfl
theorem gwt1_24 : Cond.methodLink RX7 1 Lib.objectInit ∈ G0 := gm_t1 (List.mem_of_getElem? (i := 24) rfl) rfl
theorem gwt1_25 : Cond.instanceMethod Lib.objectInit ∈ G0 := gm_t1 (List.mem_of_getElem? (i := 25) rfl) rfl
theorem gwt1_26 : Cond.code Lib.objectInit ⟨#[0xb1]⟩ 1 none ∈ G0 := gm_t1 (List.mem_of_getElem? (i := 26) rfl) rfl
theorem gwt1_27 : Cond.classLink RX7 7 RX4 ∈ G0 := gm_t1 (List.mem_of_getElem? (i := 27) rfl) rfl
theorem gwt1_28 : Cond.instantiable RX4 3 ∈ G0 := gm_t1 (List.mem_of_getElem? (i := 28) rfl) rfl
theorem gwt1_30 : Cond.instanceMethod yX4_init ∈ G0 := gm_t1 (List.mem_of_getElem? (i := 30) rfl) rfl
theorem gwt1_31 : Cond.code yX4_init cX4_init 1 none ∈ G0 := gm_t1 (List.mem_of_getElem? (i := 31) rfl) rfl
theorem gwt1_32 : Cond.methodLink RX4 1 Lib.objectInit ∈ G0 := gm_t1 (List.mem_of_getElem? (i := 32) rfl) rfl
theorem gwt1_33 : Cond.classLink RX4 7 RX2 ∈ G0 := gm_t1 (List.mem_of_getElem? (i := 33) rfl) rfl
theorem gwt1_34 : Cond.instantiable RX2 15 ∈ G0 := gm_t1 (List.mem_of_getElem? (i := 34) rfl) rfl
theorem gwt1_36 : Cond.instanceMethod yX2_init ∈ G0 := gm_t1 (List.mem_of_getElem? (i := 36) rfl) rfl
theorem gwt1_37 : Cond.code yX2_init cX2_init 1 none ∈ G0 := gm_t1 (List.mem_of_getElem? (i := 37) rfl) rfl
theorem gwt1_38 : Cond.methodLink RX2 3 Lib.objectInit ∈ G0 := gm_t1 (List.mem_of_getElem? (i := 38) rfl) rfl
theorem gwt1_39 : Cond.classLink RX2 50 "[[I" ∈ G0 := gm_t1 (List.mem_of_getElem? (i := 39) rfl) rfl
theorem gwt2_11 : Cond.instantiable RX3 4 ∈ G0 := gm_t2 (List.mem_of_getElem? (i := 11) rfl) rfl
theorem gwt2_13 : Cond.instanceMethod yX3_init ∈ G0 := gm_t2 (List.mem_of_getElem? (i := 13) rfl) rfl
theorem gwt2_14 : Cond.code yX3_init cX3_init 1 none ∈ G0 := gm_t2 (List.mem_of_getElem? (i := 14) rfl) rfl
theorem gwt2_15 : Cond.methodLink RX3 3 Lib.objectInit ∈ G0 := gm_t2 (List.mem_of_getElem? (i := 15) rfl) rfl
theorem gwt2_33 : Cond.arrayClass .long ∈ G0 := gm_t2 (List.mem_of_getElem? (i := 33) rfl) rfl
theorem gwt4_198 : Cond.methodLink RX8 1 Lib.objectInit ∈ G0 := gm_t4 (List.mem_of_getElem? (i := 198) rfl) rfl
def kI (cl : Nat → ClassId) (N : Nat) : va_E := .inl (cl 0, N, .inl (fun _ => 0))
def kCh (cl : Nat → ClassId) (N : Nat) : va_E := .inl (cl 1, N, .inl (fun _ => 0))
def kJ (cl : Nat → ClassId) (N : Nat) : va_E := .inl (cl 2, N, .inr (.inl (fun _ => 0)))
def kA (cl : Nat → ClassId) (t N c : Nat) : va_E := .inl (cl t, N, .inr (.inr (.inr (.inr (fun i => if i < N then some (c + i) else none)))))
theorem k_rI (U : State) (cA : ClassId) (h : va_RA U cA .int) : U.vm.findClass ("[" ++ FieldType.int.toString) = some cA := h
theorem k_rC (U : State) (cA : ClassId) (h : va_RA U cA .char) : U.vm.findClass ("[" ++ FieldType.char.toString) = some cA := h
theorem k_rJ (U : State) (cA : ClassId) (h : va_RA U cA .long) : U.vm.findClass ("[" ++ FieldType.long.toString) = some cA := h
theorem inb_nI {i n : Nat} (h : i < n) (hn : n < 2 ^ 31) : inb (nI i) n = true := by
  unfold inb
  rw [nI_clamp (by omega)]
  simp [nI_pos (show i < 2 ^ 31 by omega), h]
/-! X0 -/
def dX0 : va_E := .inr (0, [.int 0, .null, .null, .null, .null])
def oX0f (n0 : Nat) : List Value := [.int 0, .ref (n0 + 0), .ref (n0 + 1), .ref (n0 + 2), .ref (n0 + 3)]
def oX0 (n0 : Nat) : va_E := .inr (0, oX0f n0)
theorem k_dfX0 : ∀ j, j < 5 → defaultValue (tyX0 j) = vp_V [.int 0, .null, .null, .null, .null] j := by
  intro j hj
  match j, hj with
  | 0, _ => rfl
  | 1, _ => rfl
  | 2, _ => rfl
  | 3, _ => rfl
  | 4, _ => rfl
  | j + 5, h => exact absurd h (by omega)
def nvX0_0 (_ : Nat → ClassId) (_ : Nat) : List va_E := []
theorem lnX0_0 (cl : Nat → ClassId) (n0 : Nat) : (nvX0_0 cl n0).length = 0 := rfl
def nvX0_1 (cl : Nat → ClassId) (n0 : Nat) : List va_E := nvX0_0 cl n0 ++ [kI cl 8]
theorem lnX0_1 (cl : Nat → ClassId) (n0 : Nat) : (nvX0_1 cl n0).length = 1 := by
  unfold nvX0_1
  simp [lnX0_0]
def nvX0_2 (cl : Nat → ClassId) (n0 : Nat) : List va_E := nvX0_1 cl n0 ++ [kI cl 8]
theorem lnX0_2 (cl : Nat → ClassId) (n0 : Nat) : (nvX0_2 cl n0).length = 2 := by
  unfold nvX0_2
  simp [lnX0_1]
def nvX0_3 (cl : Nat → ClassId) (n0 : Nat) : List va_E := nvX0_2 cl n0 ++ [kI cl 8]
theorem lnX0_3 (cl : Nat → ClassId) (n0 : Nat) : (nvX0_3 cl n0).length = 3 := by
  unfold nvX0_3
  simp [lnX0_2]
def nvX0_4 (cl : Nat → ClassId) (n0 : Nat) : List va_E := nvX0_3 cl n0 ++ [kI cl 8]
theorem lnX0_4 (cl : Nat → ClassId) (n0 : Nat) : (nvX0_4 cl n0).length = 4 := by
  unfold nvX0_4
  simp [lnX0_3]
def nwX0 (cl : Nat → ClassId) (n0 : Nat) : List va_E := nvX0_4 cl n0
theorem lnX0 (cl : Nat → ClassId) (n0 : Nat) : (nwX0 cl n0).length = 4 := lnX0_4 cl n0
def wsX0_init : List Cond := .code yX0_init cX0_init 1 none :: G0
def rmX0_init : Room := { frames := 1, cells := 4, slots := 32, locals := 20 }
set_option maxRecDepth 100000 in
set_option maxHeartbeats 4000000 in
theorem kc_X0 (l : Launch) (D : va_G) (cl : Nat → ClassId) (B : Nat) (ac0 : Nat → va_E) (k0 n0 : Nat) (hk : k0 < n0) : KC l D cl B yX0_init wsX0_init rmX0_init [.ref k0] ac0 k0 n0 dX0 (oX0 n0) (nwX0 cl n0) 32 := by
  refine kc_of (cc := cX0_init) (nL := 1) rfl (by decide) rfl (Nat.le_of_ble_eq_true rfl) ?_
  intro Γ C hcl hin E
  subst hcl
  rw [lnX0] at E
  refine k_aload_n (nw := (nvX0_0 (kgcl Γ) n0)) C dX0_init_0 rfl 0 rfl ?_
  refine k_objInit (nw := (nvX0_0 (kgcl Γ) n0)) C dX0_init_1 rfl gwt1_107 gwt1_25 gwt1_26 ⟨Nat.le_of_ble_eq_true rfl, Nat.le_of_ble_eq_true rfl⟩ ?_
  refine k_aload_n (nw := (nvX0_0 (kgcl Γ) n0)) C dX0_init_4 rfl 0 rfl ?_
  refine k_iconst (nw := (nvX0_0 (kgcl Γ) n0)) (v := 0) C dX0_init_5 rfl (by decide) ?_
  refine k_putV (nw := (nvX0_0 (kgcl Γ) n0)) (j := 0) (fs := [.int 0, .null, .null, .null, .null]) C dX0_init_6 rfl lpX0_9 hk rfl (Nat.le_of_ble_eq_true rfl) (fun _ => ⟨rfl, rfl⟩) ?_
  refine k_aload_n (nw := (nvX0_0 (kgcl Γ) n0)) C dX0_init_9 rfl 0 rfl ?_
  refine k_bipush (nw := (nvX0_0 (kgcl Γ) n0)) (v := 8) C dX0_init_10 rfl (by decide) ?_
  refine k_newa (nw := (nvX0_0 (kgcl Γ) n0)) (t := 0) (ty := .int) (N := 8) (z := (8, .inl (fun _ => 0))) C dX0_init_12 rfl rfl gwt1_101 (fun _ => rfl) k_rI (fun _ => rfl) (fun _ _ => rfl) (by decide) (by decide) (by decide) ⟨Nat.le_of_ble_eq_true rfl, Nat.le_of_ble_eq_true rfl⟩ (lnX0_0 _ _) (Or.inl hk) ?_
  refine k_putF (nw := (nvX0_1 (kgcl Γ) n0)) (ci := 0) (j := 1) (CC := RX0) (T := TX0) (N := 5) (ty0 := tyX0) (ty := (.array .int)) (fs := [.int 0, .null, .null, .null, .null]) C hin dX0_init_14 rfl rfl inGX0 (by decide) gwt1_113 tyX0_ok nmX0 rfl (tyX0_ok 1 (by decide)) rfl hk rfl (Nat.le_of_ble_eq_true rfl) (fun _ => ⟨rfl, rfl⟩) ?_
  refine k_aload_n (nw := (nvX0_1 (kgcl Γ) n0)) C dX0_init_17 rfl 0 rfl ?_
  refine k_bipush (nw := (nvX0_1 (kgcl Γ) n0)) (v := 8) C dX0_init_18 rfl (by decide) ?_
  refine k_newa (nw := (nvX0_1 (kgcl Γ) n0)) (t := 0) (ty := .int) (N := 8) (z := (8, .inl (fun _ => 0))) C dX0_init_20 rfl rfl gwt1_101 (fun _ => rfl) k_rI (fun _ => rfl) (fun _ _ => rfl) (by decide) (by decide) (by decide) ⟨Nat.le_of_ble_eq_true rfl, Nat.le_of_ble_eq_true rfl⟩ (lnX0_1 _ _) (Or.inl hk) ?_
  refine k_putF (nw := (nvX0_2 (kgcl Γ) n0)) (ci := 0) (j := 2) (CC := RX0) (T := TX0) (N := 5) (ty0 := tyX0) (ty := (.array .int)) (fs := [.int 0, .ref (n0 + 0), .null, .null, .null]) C hin dX0_init_22 rfl rfl inGX0 (by decide) gwt1_116 tyX0_ok nmX0 rfl (tyX0_ok 2 (by decide)) rfl hk rfl (Nat.le_of_ble_eq_true rfl) (fun _ => ⟨rfl, rfl⟩) ?_
  refine k_aload_n (nw := (nvX0_2 (kgcl Γ) n0)) C dX0_init_25 rfl 0 rfl ?_
  refine k_bipush (nw := (nvX0_2 (kgcl Γ) n0)) (v := 8) C dX0_init_26 rfl (by decide) ?_
  refine k_newa (nw := (nvX0_2 (kgcl Γ) n0)) (t := 0) (ty := .int) (N := 8) (z := (8, .inl (fun _ => 0))) C dX0_init_28 rfl rfl gwt1_101 (fun _ => rfl) k_rI (fun _ => rfl) (fun _ _ => rfl) (by decide) (by decide) (by decide) ⟨Nat.le_of_ble_eq_true rfl, Nat.le_of_ble_eq_true rfl⟩ (lnX0_2 _ _) (Or.inl hk) ?_
  refine k_putF (nw := (nvX0_3 (kgcl Γ) n0)) (ci := 0) (j := 3) (CC := RX0) (T := TX0) (N := 5) (ty0 := tyX0) (ty := (.array .int)) (fs := [.int 0, .ref (n0 + 0), .ref (n0 + 1), .null, .null]) C hin dX0_init_30 rfl rfl inGX0 (by decide) gwt1_119 tyX0_ok nmX0 rfl (tyX0_ok 3 (by decide)) rfl hk rfl (Nat.le_of_ble_eq_true rfl) (fun _ => ⟨rfl, rfl⟩) ?_
  refine k_aload_n (nw := (nvX0_3 (kgcl Γ) n0)) C dX0_init_33 rfl 0 rfl ?_
  refine k_bipush (nw := (nvX0_3 (kgcl Γ) n0)) (v := 8) C dX0_init_34 rfl (by decide) ?_
  refine k_newa (nw := (nvX0_3 (kgcl Γ) n0)) (t := 0) (ty := .int) (N := 8) (z := (8, .inl (fun _ => 0))) C dX0_init_36 rfl rfl gwt1_101 (fun _ => rfl) k_rI (fun _ => rfl) (fun _ _ => rfl) (by decide) (by decide) (by decide) ⟨Nat.le_of_ble_eq_true rfl, Nat.le_of_ble_eq_true rfl⟩ (lnX0_3 _ _) (Or.inl hk) ?_
  refine k_putF (nw := (nvX0_4 (kgcl Γ) n0)) (ci := 0) (j := 4) (CC := RX0) (T := TX0) (N := 5) (ty0 := tyX0) (ty := (.array .int)) (fs := [.int 0, .ref (n0 + 0), .ref (n0 + 1), .ref (n0 + 2), .null]) C hin dX0_init_38 rfl rfl inGX0 (by decide) gwt1_122 tyX0_ok nmX0 rfl (tyX0_ok 4 (by decide)) rfl hk rfl (Nat.le_of_ble_eq_true rfl) (fun _ => ⟨rfl, rfl⟩) ?_
  exact k_vret (nw := (nvX0_4 (kgcl Γ) n0)) E dX0_init_41
/-! X1 -/
def dX1 : va_E := .inr (1, [.int 0, .null, .null, .null])
def oX1f (n0 : Nat) : List Value := [.int 0, .ref (n0 + 0), .ref (n0 + 1), .ref (n0 + 2)]
def oX1 (n0 : Nat) : va_E := .inr (1, oX1f n0)
theorem k_dfX1 : ∀ j, j < 4 → defaultValue (tyX1 j) = vp_V [.int 0, .null, .null, .null] j := by
  intro j hj
  match j, hj with
  | 0, _ => rfl
  | 1, _ => rfl
  | 2, _ => rfl
  | 3, _ => rfl
  | j + 4, h => exact absurd h (by omega)
def nvX1_0 (_ : Nat → ClassId) (_ : Nat) : List va_E := []
theorem lnX1_0 (cl : Nat → ClassId) (n0 : Nat) : (nvX1_0 cl n0).length = 0 := rfl
def nvX1_1 (cl : Nat → ClassId) (n0 : Nat) : List va_E := nvX1_0 cl n0 ++ [kI cl 12]
theorem lnX1_1 (cl : Nat → ClassId) (n0 : Nat) : (nvX1_1 cl n0).length = 1 := by
  unfold nvX1_1
  simp [lnX1_0]
def nvX1_2 (cl : Nat → ClassId) (n0 : Nat) : List va_E := nvX1_1 cl n0 ++ [kI cl 12]
theorem lnX1_2 (cl : Nat → ClassId) (n0 : Nat) : (nvX1_2 cl n0).length = 2 := by
  unfold nvX1_2
  simp [lnX1_1]
def nvX1_3 (cl : Nat → ClassId) (n0 : Nat) : List va_E := nvX1_2 cl n0 ++ [kI cl 12]
theorem lnX1_3 (cl : Nat → ClassId) (n0 : Nat) : (nvX1_3 cl n0).length = 3 := by
  unfold nvX1_3
  simp [lnX1_2]
def nwX1 (cl : Nat → ClassId) (n0 : Nat) : List va_E := nvX1_3 cl n0
theorem lnX1 (cl : Nat → ClassId) (n0 : Nat) : (nwX1 cl n0).length = 3 := lnX1_3 cl n0
def wsX1_init : List Cond := .code yX1_init cX1_init 1 none :: G0
def rmX1_init : Room := { frames := 1, cells := 3, slots := 36, locals := 20 }
set_option maxRecDepth 100000 in
set_option maxHeartbeats 4000000 in
theorem kc_X1 (l : Launch) (D : va_G) (cl : Nat → ClassId) (B : Nat) (ac0 : Nat → va_E) (k0 n0 : Nat) (hk : k0 < n0) : KC l D cl B yX1_init wsX1_init rmX1_init [.ref k0] ac0 k0 n0 dX1 (oX1 n0) (nwX1 cl n0) 36 := by
  refine kc_of (cc := cX1_init) (nL := 1) rfl (by decide) rfl (Nat.le_of_ble_eq_true rfl) ?_
  intro Γ C hcl hin E
  subst hcl
  rw [lnX1] at E
  refine k_aload_n (nw := (nvX1_0 (kgcl Γ) n0)) C dX1_init_0 rfl 0 rfl ?_
  refine k_objInit (nw := (nvX1_0 (kgcl Γ) n0)) C dX1_init_1 rfl gwt1_141 gwt1_25 gwt1_26 ⟨Nat.le_of_ble_eq_true rfl, Nat.le_of_ble_eq_true rfl⟩ ?_
  refine k_aload_n (nw := (nvX1_0 (kgcl Γ) n0)) C dX1_init_4 rfl 0 rfl ?_
  refine k_iconst (nw := (nvX1_0 (kgcl Γ) n0)) (v := 0) C dX1_init_5 rfl (by decide) ?_
  refine k_putV (nw := (nvX1_0 (kgcl Γ) n0)) (j := 0) (fs := [.int 0, .null, .null, .null]) C dX1_init_6 rfl lpX1_9 hk rfl (Nat.le_of_ble_eq_true rfl) (fun _ => ⟨rfl, rfl⟩) ?_
  refine k_aload_n (nw := (nvX1_0 (kgcl Γ) n0)) C dX1_init_9 rfl 0 rfl ?_
  refine k_bipush (nw := (nvX1_0 (kgcl Γ) n0)) (v := 12) C dX1_init_10 rfl (by decide) ?_
  refine k_newa (nw := (nvX1_0 (kgcl Γ) n0)) (t := 0) (ty := .int) (N := 12) (z := (12, .inl (fun _ => 0))) C dX1_init_12 rfl rfl gwt1_101 (fun _ => rfl) k_rI (fun _ => rfl) (fun _ _ => rfl) (by decide) (by decide) (by decide) ⟨Nat.le_of_ble_eq_true rfl, Nat.le_of_ble_eq_true rfl⟩ (lnX1_0 _ _) (Or.inl hk) ?_
  refine k_putF (nw := (nvX1_1 (kgcl Γ) n0)) (ci := 1) (j := 1) (CC := RX1) (T := TX1) (N := 4) (ty0 := tyX1) (ty := (.array .int)) (fs := [.int 0, .null, .null, .null]) C hin dX1_init_14 rfl rfl inGX1 (by decide) gwt1_144 tyX1_ok nmX1 rfl (tyX1_ok 1 (by decide)) rfl hk rfl (Nat.le_of_ble_eq_true rfl) (fun _ => ⟨rfl, rfl⟩) ?_
  refine k_aload_n (nw := (nvX1_1 (kgcl Γ) n0)) C dX1_init_17 rfl 0 rfl ?_
  refine k_bipush (nw := (nvX1_1 (kgcl Γ) n0)) (v := 12) C dX1_init_18 rfl (by decide) ?_
  refine k_newa (nw := (nvX1_1 (kgcl Γ) n0)) (t := 0) (ty := .int) (N := 12) (z := (12, .inl (fun _ => 0))) C dX1_init_20 rfl rfl gwt1_101 (fun _ => rfl) k_rI (fun _ => rfl) (fun _ _ => rfl) (by decide) (by decide) (by decide) ⟨Nat.le_of_ble_eq_true rfl, Nat.le_of_ble_eq_true rfl⟩ (lnX1_1 _ _) (Or.inl hk) ?_
  refine k_putF (nw := (nvX1_2 (kgcl Γ) n0)) (ci := 1) (j := 2) (CC := RX1) (T := TX1) (N := 4) (ty0 := tyX1) (ty := (.array .int)) (fs := [.int 0, .ref (n0 + 0), .null, .null]) C hin dX1_init_22 rfl rfl inGX1 (by decide) gwt1_145 tyX1_ok nmX1 rfl (tyX1_ok 2 (by decide)) rfl hk rfl (Nat.le_of_ble_eq_true rfl) (fun _ => ⟨rfl, rfl⟩) ?_
  refine k_aload_n (nw := (nvX1_2 (kgcl Γ) n0)) C dX1_init_25 rfl 0 rfl ?_
  refine k_bipush (nw := (nvX1_2 (kgcl Γ) n0)) (v := 12) C dX1_init_26 rfl (by decide) ?_
  refine k_newa (nw := (nvX1_2 (kgcl Γ) n0)) (t := 0) (ty := .int) (N := 12) (z := (12, .inl (fun _ => 0))) C dX1_init_28 rfl rfl gwt1_101 (fun _ => rfl) k_rI (fun _ => rfl) (fun _ _ => rfl) (by decide) (by decide) (by decide) ⟨Nat.le_of_ble_eq_true rfl, Nat.le_of_ble_eq_true rfl⟩ (lnX1_2 _ _) (Or.inl hk) ?_
  refine k_putF (nw := (nvX1_3 (kgcl Γ) n0)) (ci := 1) (j := 3) (CC := RX1) (T := TX1) (N := 4) (ty0 := tyX1) (ty := (.array .int)) (fs := [.int 0, .ref (n0 + 0), .ref (n0 + 1), .null]) C hin dX1_init_30 rfl rfl inGX1 (by decide) gwt1_146 tyX1_ok nmX1 rfl (tyX1_ok 3 (by decide)) rfl hk rfl (Nat.le_of_ble_eq_true rfl) (fun _ => ⟨rfl, rfl⟩) ?_
  exact k_vret (nw := (nvX1_3 (kgcl Γ) n0)) E dX1_init_33
/-! X3 -/
def dX3 : va_E := .inr (3, [.int 0, .int 0, .int 0, .null])
def oX3f (n0 : Nat) : List Value := [.int 0, .int 0, .int 0, .ref (n0 + 0)]
def oX3 (n0 : Nat) : va_E := .inr (3, oX3f n0)
theorem k_dfX3 : ∀ j, j < 4 → defaultValue (tyX3 j) = vp_V [.int 0, .int 0, .int 0, .null] j := by
  intro j hj
  match j, hj with
  | 0, _ => rfl
  | 1, _ => rfl
  | 2, _ => rfl
  | 3, _ => rfl
  | j + 4, h => exact absurd h (by omega)
def nvX3_0 (_ : Nat → ClassId) (_ : Nat) : List va_E := []
theorem lnX3_0 (cl : Nat → ClassId) (n0 : Nat) : (nvX3_0 cl n0).length = 0 := rfl
def nvX3_1 (cl : Nat → ClassId) (n0 : Nat) : List va_E := nvX3_0 cl n0 ++ [kJ cl 24]
theorem lnX3_1 (cl : Nat → ClassId) (n0 : Nat) : (nvX3_1 cl n0).length = 1 := by
  unfold nvX3_1
  simp [lnX3_0]
def nwX3 (cl : Nat → ClassId) (n0 : Nat) : List va_E := nvX3_1 cl n0
theorem lnX3 (cl : Nat → ClassId) (n0 : Nat) : (nwX3 cl n0).length = 1 := lnX3_1 cl n0
def wsX3_init : List Cond := .code yX3_init cX3_init 1 none :: G0
def rmX3_init : Room := { frames := 1, cells := 1, slots := 24, locals := 20 }
set_option maxRecDepth 100000 in
set_option maxHeartbeats 4000000 in
theorem kc_X3 (l : Launch) (D : va_G) (cl : Nat → ClassId) (B : Nat) (ac0 : Nat → va_E) (k0 n0 : Nat) (hk : k0 < n0) : KC l D cl B yX3_init wsX3_init rmX3_init [.ref k0] ac0 k0 n0 dX3 (oX3 n0) (nwX3 cl n0) 24 := by
  refine kc_of (cc := cX3_init) (nL := 1) rfl (by decide) rfl (Nat.le_of_ble_eq_true rfl) ?_
  intro Γ C hcl hin E
  subst hcl
  rw [lnX3] at E
  refine k_aload_n (nw := (nvX3_0 (kgcl Γ) n0)) C dX3_init_0 rfl 0 rfl ?_
  refine k_objInit (nw := (nvX3_0 (kgcl Γ) n0)) C dX3_init_1 rfl gwt2_15 gwt1_25 gwt1_26 ⟨Nat.le_of_ble_eq_true rfl, Nat.le_of_ble_eq_true rfl⟩ ?_
  refine k_aload_n (nw := (nvX3_0 (kgcl Γ) n0)) C dX3_init_4 rfl 0 rfl ?_
  refine k_iconst (nw := (nvX3_0 (kgcl Γ) n0)) (v := 0) C dX3_init_5 rfl (by decide) ?_
  refine k_putV (nw := (nvX3_0 (kgcl Γ) n0)) (j := 0) (fs := [.int 0, .int 0, .int 0, .null]) C dX3_init_6 rfl lpX3_9 hk rfl (Nat.le_of_ble_eq_true rfl) (fun _ => ⟨rfl, rfl⟩) ?_
  refine k_aload_n (nw := (nvX3_0 (kgcl Γ) n0)) C dX3_init_9 rfl 0 rfl ?_
  refine k_iconst (nw := (nvX3_0 (kgcl Γ) n0)) (v := 0) C dX3_init_10 rfl (by decide) ?_
  refine k_putV (nw := (nvX3_0 (kgcl Γ) n0)) (j := 1) (fs := [.int 0, .int 0, .int 0, .null]) C dX3_init_11 rfl lpX3_15 hk rfl (Nat.le_of_ble_eq_true rfl) (fun _ => ⟨rfl, rfl⟩) ?_
  refine k_aload_n (nw := (nvX3_0 (kgcl Γ) n0)) C dX3_init_14 rfl 0 rfl ?_
  refine k_iconst (nw := (nvX3_0 (kgcl Γ) n0)) (v := 0) C dX3_init_15 rfl (by decide) ?_
  refine k_putV (nw := (nvX3_0 (kgcl Γ) n0)) (j := 2) (fs := [.int 0, .int 0, .int 0, .null]) C dX3_init_16 rfl lpX3_19 hk rfl (Nat.le_of_ble_eq_true rfl) (fun _ => ⟨rfl, rfl⟩) ?_
  refine k_aload_n (nw := (nvX3_0 (kgcl Γ) n0)) C dX3_init_19 rfl 0 rfl ?_
  refine k_bipush (nw := (nvX3_0 (kgcl Γ) n0)) (v := 24) C dX3_init_20 rfl (by decide) ?_
  refine k_newa (nw := (nvX3_0 (kgcl Γ) n0)) (t := 2) (ty := .long) (N := 24) (z := (24, .inr (.inl (fun _ => 0)))) C dX3_init_22 rfl rfl gwt2_33 (fun _ => rfl) k_rJ (fun _ => rfl) (fun _ _ => rfl) (by decide) (by decide) (by decide) ⟨Nat.le_of_ble_eq_true rfl, Nat.le_of_ble_eq_true rfl⟩ (lnX3_0 _ _) (Or.inl hk) ?_
  refine k_putF (nw := (nvX3_1 (kgcl Γ) n0)) (ci := 3) (j := 3) (CC := RX3) (T := TX3) (N := 4) (ty0 := tyX3) (ty := (.array .long)) (fs := [.int 0, .int 0, .int 0, .null]) C hin dX3_init_24 rfl rfl inGX3 (by decide) gwt2_22 tyX3_ok nmX3 rfl (tyX3_ok 3 (by decide)) rfl hk rfl (Nat.le_of_ble_eq_true rfl) (fun _ => ⟨rfl, rfl⟩) ?_
  exact k_vret (nw := (nvX3_1 (kgcl Γ) n0)) E dX3_init_27
/-! X2 -/
def dX2 : va_E := .inr (2, [.int 0, .int 0, .int 0, .int 0, .int 0, .int 0, .int 0, .null, .null, .null, .null, .null, .null, .null, .null])
def oX2f (n0 : Nat) : List Value := [.int 0, .int 0, .int 0, .int 1, .int 0, .int 0, .int 0, .ref (n0 + 0), .ref (n0 + 1), .ref (n0 + 2), .ref (n0 + 3), .ref (n0 + 4), .ref (n0 + 5), .ref (n0 + 15), .ref (n0 + 18)]
def oX2 (n0 : Nat) : va_E := .inr (2, oX2f n0)
theorem k_dfX2 : ∀ j, j < 15 → defaultValue (tyX2 j) = vp_V [.int 0, .int 0, .int 0, .int 0, .int 0, .int 0, .int 0, .null, .null, .null, .null, .null, .null, .null, .null] j := by
  intro j hj
  match j, hj with
  | 0, _ => rfl
  | 1, _ => rfl
  | 2, _ => rfl
  | 3, _ => rfl
  | 4, _ => rfl
  | 5, _ => rfl
  | 6, _ => rfl
  | 7, _ => rfl
  | 8, _ => rfl
  | 9, _ => rfl
  | 10, _ => rfl
  | 11, _ => rfl
  | 12, _ => rfl
  | 13, _ => rfl
  | 14, _ => rfl
  | j + 15, h => exact absurd h (by omega)
def nvX2_0 (_ : Nat → ClassId) (_ : Nat) : List va_E := []
theorem lnX2_0 (cl : Nat → ClassId) (n0 : Nat) : (nvX2_0 cl n0).length = 0 := rfl
def nvX2_1 (cl : Nat → ClassId) (n0 : Nat) : List va_E := nvX2_0 cl n0 ++ [kI cl 9]
theorem lnX2_1 (cl : Nat → ClassId) (n0 : Nat) : (nvX2_1 cl n0).length = 1 := by
  unfold nvX2_1
  simp [lnX2_0]
def nvX2_2 (cl : Nat → ClassId) (n0 : Nat) : List va_E := nvX2_1 cl n0 ++ [kI cl 9]
theorem lnX2_2 (cl : Nat → ClassId) (n0 : Nat) : (nvX2_2 cl n0).length = 2 := by
  unfold nvX2_2
  simp [lnX2_1]
def nvX2_3 (cl : Nat → ClassId) (n0 : Nat) : List va_E := nvX2_2 cl n0 ++ [kI cl 9]
theorem lnX2_3 (cl : Nat → ClassId) (n0 : Nat) : (nvX2_3 cl n0).length = 3 := by
  unfold nvX2_3
  simp [lnX2_2]
def nvX2_4 (cl : Nat → ClassId) (n0 : Nat) : List va_E := nvX2_3 cl n0 ++ [kI cl 9]
theorem lnX2_4 (cl : Nat → ClassId) (n0 : Nat) : (nvX2_4 cl n0).length = 4 := by
  unfold nvX2_4
  simp [lnX2_3]
def nvX2_5 (cl : Nat → ClassId) (n0 : Nat) : List va_E := nvX2_4 cl n0 ++ [kI cl 9]
theorem lnX2_5 (cl : Nat → ClassId) (n0 : Nat) : (nvX2_5 cl n0).length = 5 := by
  unfold nvX2_5
  simp [lnX2_4]
def nvX2_6 (cl : Nat → ClassId) (n0 : Nat) : List va_E := nvX2_5 cl n0 ++ (kA cl 3 9 (n0 + 5 + 1) :: List.replicate 9 (kI cl 9))
theorem lnX2_6 (cl : Nat → ClassId) (n0 : Nat) : (nvX2_6 cl n0).length = 15 := by
  unfold nvX2_6
  simp [lnX2_5]
def nvX2_7 (cl : Nat → ClassId) (n0 : Nat) : List va_E := nvX2_6 cl n0 ++ (kA cl 3 2 (n0 + 15 + 1) :: List.replicate 2 (kI cl 9))
theorem lnX2_7 (cl : Nat → ClassId) (n0 : Nat) : (nvX2_7 cl n0).length = 18 := by
  unfold nvX2_7
  simp [lnX2_6]
def nvX2_8 (cl : Nat → ClassId) (n0 : Nat) : List va_E := nvX2_7 cl n0 ++ (kA cl 3 2 (n0 + 18 + 1) :: List.replicate 2 (kI cl 171))
theorem lnX2_8 (cl : Nat → ClassId) (n0 : Nat) : (nvX2_8 cl n0).length = 21 := by
  unfold nvX2_8
  simp [lnX2_7]
def nwX2 (cl : Nat → ClassId) (n0 : Nat) : List va_E := nvX2_8 cl n0
theorem lnX2 (cl : Nat → ClassId) (n0 : Nat) : (nwX2 cl n0).length = 21 := lnX2_8 cl n0
def wsX2_init : List Cond := .code yX2_init cX2_init 1 none :: G0
def rmX2_init : Room := { frames := 1, cells := 21, slots := 499, locals := 20 }
set_option maxRecDepth 100000 in
set_option maxHeartbeats 4000000 in
theorem kc_X2 (l : Launch) (D : va_G) (cl : Nat → ClassId) (B : Nat) (ac0 : Nat → va_E) (k0 n0 : Nat) (hk : k0 < n0) : KC l D cl B yX2_init wsX2_init rmX2_init [.ref k0] ac0 k0 n0 dX2 (oX2 n0) (nwX2 cl n0) 499 := by
  refine kc_of (cc := cX2_init) (nL := 1) rfl (by decide) rfl (Nat.le_of_ble_eq_true rfl) ?_
  intro Γ C hcl hin E
  subst hcl
  rw [lnX2] at E
  refine k_aload_n (nw := (nvX2_0 (kgcl Γ) n0)) C dX2_init_0 rfl 0 rfl ?_
  refine k_objInit (nw := (nvX2_0 (kgcl Γ) n0)) C dX2_init_1 rfl gwt1_38 gwt1_25 gwt1_26 ⟨Nat.le_of_ble_eq_true rfl, Nat.le_of_ble_eq_true rfl⟩ ?_
  refine k_aload_n (nw := (nvX2_0 (kgcl Γ) n0)) C dX2_init_4 rfl 0 rfl ?_
  refine k_iconst (nw := (nvX2_0 (kgcl Γ) n0)) (v := 0) C dX2_init_5 rfl (by decide) ?_
  refine k_putV (nw := (nvX2_0 (kgcl Γ) n0)) (j := 0) (fs := [.int 0, .int 0, .int 0, .int 0, .int 0, .int 0, .int 0, .null, .null, .null, .null, .null, .null, .null, .null]) C dX2_init_6 rfl lpX2_9 hk rfl (Nat.le_of_ble_eq_true rfl) (fun _ => ⟨rfl, rfl⟩) ?_
  refine k_aload_n (nw := (nvX2_0 (kgcl Γ) n0)) C dX2_init_9 rfl 0 rfl ?_
  refine k_iconst (nw := (nvX2_0 (kgcl Γ) n0)) (v := 0) C dX2_init_10 rfl (by decide) ?_
  refine k_putV (nw := (nvX2_0 (kgcl Γ) n0)) (j := 1) (fs := [.int 0, .int 0, .int 0, .int 0, .int 0, .int 0, .int 0, .null, .null, .null, .null, .null, .null, .null, .null]) C dX2_init_11 rfl lpX2_15 hk rfl (Nat.le_of_ble_eq_true rfl) (fun _ => ⟨rfl, rfl⟩) ?_
  refine k_aload_n (nw := (nvX2_0 (kgcl Γ) n0)) C dX2_init_14 rfl 0 rfl ?_
  refine k_iconst (nw := (nvX2_0 (kgcl Γ) n0)) (v := 0) C dX2_init_15 rfl (by decide) ?_
  refine k_putV (nw := (nvX2_0 (kgcl Γ) n0)) (j := 2) (fs := [.int 0, .int 0, .int 0, .int 0, .int 0, .int 0, .int 0, .null, .null, .null, .null, .null, .null, .null, .null]) C dX2_init_16 rfl lpX2_18 hk rfl (Nat.le_of_ble_eq_true rfl) (fun _ => ⟨rfl, rfl⟩) ?_
  refine k_aload_n (nw := (nvX2_0 (kgcl Γ) n0)) C dX2_init_19 rfl 0 rfl ?_
  refine k_iconst (nw := (nvX2_0 (kgcl Γ) n0)) (v := 1) C dX2_init_20 rfl (by decide) ?_
  refine k_putV (nw := (nvX2_0 (kgcl Γ) n0)) (j := 3) (fs := [.int 0, .int 0, .int 0, .int 0, .int 0, .int 0, .int 0, .null, .null, .null, .null, .null, .null, .null, .null]) C dX2_init_21 rfl lpX2_21 hk rfl (Nat.le_of_ble_eq_true rfl) (fun _ => ⟨rfl, rfl⟩) ?_
  refine k_aload_n (nw := (nvX2_0 (kgcl Γ) n0)) C dX2_init_24 rfl 0 rfl ?_
  refine k_iconst (nw := (nvX2_0 (kgcl Γ) n0)) (v := 0) C dX2_init_25 rfl (by decide) ?_
  refine k_putV (nw := (nvX2_0 (kgcl Γ) n0)) (j := 4) (fs := [.int 0, .int 0, .int 0, .int 1, .int 0, .int 0, .int 0, .null, .null, .null, .null, .null, .null, .null, .null]) C dX2_init_26 rfl lpX2_24 hk rfl (Nat.le_of_ble_eq_true rfl) (fun _ => ⟨rfl, rfl⟩) ?_
  refine k_aload_n (nw := (nvX2_0 (kgcl Γ) n0)) C dX2_init_29 rfl 0 rfl ?_
  refine k_iconst (nw := (nvX2_0 (kgcl Γ) n0)) (v := 0) C dX2_init_30 rfl (by decide) ?_
  refine k_putV (nw := (nvX2_0 (kgcl Γ) n0)) (j := 5) (fs := [.int 0, .int 0, .int 0, .int 1, .int 0, .int 0, .int 0, .null, .null, .null, .null, .null, .null, .null, .null]) C dX2_init_31 rfl lpX2_27 hk rfl (Nat.le_of_ble_eq_true rfl) (fun _ => ⟨rfl, rfl⟩) ?_
  refine k_aload_n (nw := (nvX2_0 (kgcl Γ) n0)) C dX2_init_34 rfl 0 rfl ?_
  refine k_iconst (nw := (nvX2_0 (kgcl Γ) n0)) (v := 0) C dX2_init_35 rfl (by decide) ?_
  refine k_putV (nw := (nvX2_0 (kgcl Γ) n0)) (j := 6) (fs := [.int 0, .int 0, .int 0, .int 1, .int 0, .int 0, .int 0, .null, .null, .null, .null, .null, .null, .null, .null]) C dX2_init_36 rfl lpX2_30 hk rfl (Nat.le_of_ble_eq_true rfl) (fun _ => ⟨rfl, rfl⟩) ?_
  refine k_aload_n (nw := (nvX2_0 (kgcl Γ) n0)) C dX2_init_39 rfl 0 rfl ?_
  refine k_bipush (nw := (nvX2_0 (kgcl Γ) n0)) (v := 9) C dX2_init_40 rfl (by decide) ?_
  refine k_newa (nw := (nvX2_0 (kgcl Γ) n0)) (t := 0) (ty := .int) (N := 9) (z := (9, .inl (fun _ => 0))) C dX2_init_42 rfl rfl gwt1_101 (fun _ => rfl) k_rI (fun _ => rfl) (fun _ _ => rfl) (by decide) (by decide) (by decide) ⟨Nat.le_of_ble_eq_true rfl, Nat.le_of_ble_eq_true rfl⟩ (lnX2_0 _ _) (Or.inl hk) ?_
  refine k_putF (nw := (nvX2_1 (kgcl Γ) n0)) (ci := 2) (j := 7) (CC := RX2) (T := TX2) (N := 15) (ty0 := tyX2) (ty := (.array .int)) (fs := [.int 0, .int 0, .int 0, .int 1, .int 0, .int 0, .int 0, .null, .null, .null, .null, .null, .null, .null, .null]) C hin dX2_init_44 rfl rfl inGX2 (by decide) gwt1_54 tyX2_ok nmX2 rfl (tyX2_ok 7 (by decide)) rfl hk rfl (Nat.le_of_ble_eq_true rfl) (fun _ => ⟨rfl, rfl⟩) ?_
  refine k_aload_n (nw := (nvX2_1 (kgcl Γ) n0)) C dX2_init_47 rfl 0 rfl ?_
  refine k_bipush (nw := (nvX2_1 (kgcl Γ) n0)) (v := 9) C dX2_init_48 rfl (by decide) ?_
  refine k_newa (nw := (nvX2_1 (kgcl Γ) n0)) (t := 0) (ty := .int) (N := 9) (z := (9, .inl (fun _ => 0))) C dX2_init_50 rfl rfl gwt1_101 (fun _ => rfl) k_rI (fun _ => rfl) (fun _ _ => rfl) (by decide) (by decide) (by decide) ⟨Nat.le_of_ble_eq_true rfl, Nat.le_of_ble_eq_true rfl⟩ (lnX2_1 _ _) (Or.inl hk) ?_
  refine k_putF (nw := (nvX2_2 (kgcl Γ) n0)) (ci := 2) (j := 8) (CC := RX2) (T := TX2) (N := 15) (ty0 := tyX2) (ty := (.array .int)) (fs := [.int 0, .int 0, .int 0, .int 1, .int 0, .int 0, .int 0, .ref (n0 + 0), .null, .null, .null, .null, .null, .null, .null]) C hin dX2_init_52 rfl rfl inGX2 (by decide) gwt1_57 tyX2_ok nmX2 rfl (tyX2_ok 8 (by decide)) rfl hk rfl (Nat.le_of_ble_eq_true rfl) (fun _ => ⟨rfl, rfl⟩) ?_
  refine k_aload_n (nw := (nvX2_2 (kgcl Γ) n0)) C dX2_init_55 rfl 0 rfl ?_
  refine k_bipush (nw := (nvX2_2 (kgcl Γ) n0)) (v := 9) C dX2_init_56 rfl (by decide) ?_
  refine k_newa (nw := (nvX2_2 (kgcl Γ) n0)) (t := 0) (ty := .int) (N := 9) (z := (9, .inl (fun _ => 0))) C dX2_init_58 rfl rfl gwt1_101 (fun _ => rfl) k_rI (fun _ => rfl) (fun _ _ => rfl) (by decide) (by decide) (by decide) ⟨Nat.le_of_ble_eq_true rfl, Nat.le_of_ble_eq_true rfl⟩ (lnX2_2 _ _) (Or.inl hk) ?_
  refine k_putF (nw := (nvX2_3 (kgcl Γ) n0)) (ci := 2) (j := 9) (CC := RX2) (T := TX2) (N := 15) (ty0 := tyX2) (ty := (.array .int)) (fs := [.int 0, .int 0, .int 0, .int 1, .int 0, .int 0, .int 0, .ref (n0 + 0), .ref (n0 + 1), .null, .null, .null, .null, .null, .null]) C hin dX2_init_60 rfl rfl inGX2 (by decide) gwt1_59 tyX2_ok nmX2 rfl (tyX2_ok 9 (by decide)) rfl hk rfl (Nat.le_of_ble_eq_true rfl) (fun _ => ⟨rfl, rfl⟩) ?_
  refine k_aload_n (nw := (nvX2_3 (kgcl Γ) n0)) C dX2_init_63 rfl 0 rfl ?_
  refine k_bipush (nw := (nvX2_3 (kgcl Γ) n0)) (v := 9) C dX2_init_64 rfl (by decide) ?_
  refine k_newa (nw := (nvX2_3 (kgcl Γ) n0)) (t := 0) (ty := .int) (N := 9) (z := (9, .inl (fun _ => 0))) C dX2_init_66 rfl rfl gwt1_101 (fun _ => rfl) k_rI (fun _ => rfl) (fun _ _ => rfl) (by decide) (by decide) (by decide) ⟨Nat.le_of_ble_eq_true rfl, Nat.le_of_ble_eq_true rfl⟩ (lnX2_3 _ _) (Or.inl hk) ?_
  refine k_putF (nw := (nvX2_4 (kgcl Γ) n0)) (ci := 2) (j := 10) (CC := RX2) (T := TX2) (N := 15) (ty0 := tyX2) (ty := (.array .int)) (fs := [.int 0, .int 0, .int 0, .int 1, .int 0, .int 0, .int 0, .ref (n0 + 0), .ref (n0 + 1), .ref (n0 + 2), .null, .null, .null, .null, .null]) C hin dX2_init_68 rfl rfl inGX2 (by decide) gwt1_61 tyX2_ok nmX2 rfl (tyX2_ok 10 (by decide)) rfl hk rfl (Nat.le_of_ble_eq_true rfl) (fun _ => ⟨rfl, rfl⟩) ?_
  refine k_aload_n (nw := (nvX2_4 (kgcl Γ) n0)) C dX2_init_71 rfl 0 rfl ?_
  refine k_bipush (nw := (nvX2_4 (kgcl Γ) n0)) (v := 9) C dX2_init_72 rfl (by decide) ?_
  refine k_newa (nw := (nvX2_4 (kgcl Γ) n0)) (t := 0) (ty := .int) (N := 9) (z := (9, .inl (fun _ => 0))) C dX2_init_74 rfl rfl gwt1_101 (fun _ => rfl) k_rI (fun _ => rfl) (fun _ _ => rfl) (by decide) (by decide) (by decide) ⟨Nat.le_of_ble_eq_true rfl, Nat.le_of_ble_eq_true rfl⟩ (lnX2_4 _ _) (Or.inl hk) ?_
  refine k_putF (nw := (nvX2_5 (kgcl Γ) n0)) (ci := 2) (j := 11) (CC := RX2) (T := TX2) (N := 15) (ty0 := tyX2) (ty := (.array .int)) (fs := [.int 0, .int 0, .int 0, .int 1, .int 0, .int 0, .int 0, .ref (n0 + 0), .ref (n0 + 1), .ref (n0 + 2), .ref (n0 + 3), .null, .null, .null, .null]) C hin dX2_init_76 rfl rfl inGX2 (by decide) gwt1_63 tyX2_ok nmX2 rfl (tyX2_ok 11 (by decide)) rfl hk rfl (Nat.le_of_ble_eq_true rfl) (fun _ => ⟨rfl, rfl⟩) ?_
  refine k_aload_n (nw := (nvX2_5 (kgcl Γ) n0)) C dX2_init_79 rfl 0 rfl ?_
  refine k_bipush (nw := (nvX2_5 (kgcl Γ) n0)) (v := 9) C dX2_init_80 rfl (by decide) ?_
  refine k_bipush (nw := (nvX2_5 (kgcl Γ) n0)) (v := 9) C dX2_init_82 rfl (by decide) ?_
  refine k_mna (nw := (nvX2_5 (kgcl Γ) n0)) (N := 9) (M := 9) C dX2_init_84 rfl gwt1_39 gwt1_101 (by decide) (by decide) (by decide) (by decide) (by decide) (by decide) ⟨Nat.le_of_ble_eq_true rfl, Nat.le_of_ble_eq_true rfl⟩ (lnX2_5 _ _) (Or.inl hk) ?_
  refine k_putF (nw := (nvX2_6 (kgcl Γ) n0)) (ci := 2) (j := 12) (CC := RX2) (T := TX2) (N := 15) (ty0 := tyX2) (ty := (.array (.array .int))) (fs := [.int 0, .int 0, .int 0, .int 1, .int 0, .int 0, .int 0, .ref (n0 + 0), .ref (n0 + 1), .ref (n0 + 2), .ref (n0 + 3), .ref (n0 + 4), .null, .null, .null]) C hin dX2_init_88 rfl rfl inGX2 (by decide) gwt1_65 tyX2_ok nmX2 rfl (tyX2_ok 12 (by decide)) rfl hk rfl (Nat.le_of_ble_eq_true rfl) (fun _ => ⟨rfl, rfl⟩) ?_
  refine k_aload_n (nw := (nvX2_6 (kgcl Γ) n0)) C dX2_init_91 rfl 0 rfl ?_
  refine k_iconst (nw := (nvX2_6 (kgcl Γ) n0)) (v := 2) C dX2_init_92 rfl (by decide) ?_
  refine k_bipush (nw := (nvX2_6 (kgcl Γ) n0)) (v := 9) C dX2_init_93 rfl (by decide) ?_
  refine k_mna (nw := (nvX2_6 (kgcl Γ) n0)) (N := 2) (M := 9) C dX2_init_95 rfl gwt1_39 gwt1_101 (by decide) (by decide) (by decide) (by decide) (by decide) (by decide) ⟨Nat.le_of_ble_eq_true rfl, Nat.le_of_ble_eq_true rfl⟩ (lnX2_6 _ _) (Or.inl hk) ?_
  refine k_putF (nw := (nvX2_7 (kgcl Γ) n0)) (ci := 2) (j := 13) (CC := RX2) (T := TX2) (N := 15) (ty0 := tyX2) (ty := (.array (.array .int))) (fs := [.int 0, .int 0, .int 0, .int 1, .int 0, .int 0, .int 0, .ref (n0 + 0), .ref (n0 + 1), .ref (n0 + 2), .ref (n0 + 3), .ref (n0 + 4), .ref (n0 + 5), .null, .null]) C hin dX2_init_99 rfl rfl inGX2 (by decide) gwt1_68 tyX2_ok nmX2 rfl (tyX2_ok 13 (by decide)) rfl hk rfl (Nat.le_of_ble_eq_true rfl) (fun _ => ⟨rfl, rfl⟩) ?_
  refine k_aload_n (nw := (nvX2_7 (kgcl Γ) n0)) C dX2_init_102 rfl 0 rfl ?_
  refine k_iconst (nw := (nvX2_7 (kgcl Γ) n0)) (v := 2) C dX2_init_103 rfl (by decide) ?_
  refine k_sipush (nw := (nvX2_7 (kgcl Γ) n0)) (v := 171) C dX2_init_104 rfl (by decide) ?_
  refine k_mna (nw := (nvX2_7 (kgcl Γ) n0)) (N := 2) (M := 171) C dX2_init_107 rfl gwt1_39 gwt1_101 (by decide) (by decide) (by decide) (by decide) (by decide) (by decide) ⟨Nat.le_of_ble_eq_true rfl, Nat.le_of_ble_eq_true rfl⟩ (lnX2_7 _ _) (Or.inl hk) ?_
  refine k_putF (nw := (nvX2_8 (kgcl Γ) n0)) (ci := 2) (j := 14) (CC := RX2) (T := TX2) (N := 15) (ty0 := tyX2) (ty := (.array (.array .int))) (fs := [.int 0, .int 0, .int 0, .int 1, .int 0, .int 0, .int 0, .ref (n0 + 0), .ref (n0 + 1), .ref (n0 + 2), .ref (n0 + 3), .ref (n0 + 4), .ref (n0 + 5), .ref (n0 + 15), .null]) C hin dX2_init_111 rfl rfl inGX2 (by decide) gwt1_69 tyX2_ok nmX2 rfl (tyX2_ok 14 (by decide)) rfl hk rfl (Nat.le_of_ble_eq_true rfl) (fun _ => ⟨rfl, rfl⟩) ?_
  exact k_vret (nw := (nvX2_8 (kgcl Γ) n0)) E dX2_init_114
/-! X4 -/
def dX4 : va_E := .inr (4, [.null, .null, .null])
def oX4f (n0 : Nat) : List Value := [.ref (n0 + 0), .ref (n0 + 22), .ref (n0 + 27)]
def oX4 (n0 : Nat) : va_E := .inr (4, oX4f n0)
theorem k_dfX4 : ∀ j, j < 3 → defaultValue (tyX4 j) = vp_V [.null, .null, .null] j := by
  intro j hj
  match j, hj with
  | 0, _ => rfl
  | 1, _ => rfl
  | 2, _ => rfl
  | j + 3, h => exact absurd h (by omega)
def nvX4_0 (_ : Nat → ClassId) (_ : Nat) : List va_E := []
theorem lnX4_0 (cl : Nat → ClassId) (n0 : Nat) : (nvX4_0 cl n0).length = 0 := rfl
def nvX4_1 (cl : Nat → ClassId) (n0 : Nat) : List va_E := nvX4_0 cl n0 ++ [dX2]
theorem lnX4_1 (cl : Nat → ClassId) (n0 : Nat) : (nvX4_1 cl n0).length = 1 := by
  unfold nvX4_1
  simp [lnX4_0]
def nvX4_2 (cl : Nat → ClassId) (n0 : Nat) : List va_E := nvX4_0 cl n0 ++ (oX2 (n0 + 1) :: nwX2 cl (n0 + 1))
theorem lnX4_2 (cl : Nat → ClassId) (n0 : Nat) : (nvX4_2 cl n0).length = 22 := by
  unfold nvX4_2
  rw [List.length_append, List.length_cons, lnX2, lnX4_0]
def nvX4_3 (cl : Nat → ClassId) (n0 : Nat) : List va_E := nvX4_2 cl n0 ++ [dX0]
theorem lnX4_3 (cl : Nat → ClassId) (n0 : Nat) : (nvX4_3 cl n0).length = 23 := by
  unfold nvX4_3
  simp [lnX4_2]
def nvX4_4 (cl : Nat → ClassId) (n0 : Nat) : List va_E := nvX4_2 cl n0 ++ (oX0 (n0 + 23) :: nwX0 cl (n0 + 23))
theorem lnX4_4 (cl : Nat → ClassId) (n0 : Nat) : (nvX4_4 cl n0).length = 27 := by
  unfold nvX4_4
  rw [List.length_append, List.length_cons, lnX0, lnX4_2]
def nvX4_5 (cl : Nat → ClassId) (n0 : Nat) : List va_E := nvX4_4 cl n0 ++ [dX1]
theorem lnX4_5 (cl : Nat → ClassId) (n0 : Nat) : (nvX4_5 cl n0).length = 28 := by
  unfold nvX4_5
  simp [lnX4_4]
def nvX4_6 (cl : Nat → ClassId) (n0 : Nat) : List va_E := nvX4_4 cl n0 ++ (oX1 (n0 + 28) :: nwX1 cl (n0 + 28))
theorem lnX4_6 (cl : Nat → ClassId) (n0 : Nat) : (nvX4_6 cl n0).length = 31 := by
  unfold nvX4_6
  rw [List.length_append, List.length_cons, lnX1, lnX4_4]
def nwX4 (cl : Nat → ClassId) (n0 : Nat) : List va_E := nvX4_6 cl n0
theorem lnX4 (cl : Nat → ClassId) (n0 : Nat) : (nwX4 cl n0).length = 31 := lnX4_6 cl n0
theorem kgX4_9 : kgw RX4 9 yX2_init wsX2_init 1 0 := ⟨cX2_init, rfl, gwt1_37, gwt1_3, gwt1_36, rfl, by decide +kernel, Or.inr ⟨_, List.mem_of_getElem? (i := 1) rfl⟩⟩
theorem kgX4_18 : kgw RX4 18 yX0_init wsX0_init 1 0 := ⟨cX0_init, rfl, gwt1_106, gwt1_4, gwt1_105, rfl, by decide +kernel, Or.inr ⟨_, List.mem_of_getElem? (i := 2) rfl⟩⟩
theorem kgX4_25 : kgw RX4 25 yX1_init wsX1_init 1 0 := ⟨cX1_init, rfl, gwt1_140, gwt1_5, gwt1_139, rfl, by decide +kernel, Or.inr ⟨_, List.mem_of_getElem? (i := 3) rfl⟩⟩
def wsX4_init : List Cond := .code yX4_init cX4_init 1 none :: G0
def rmX4_init : Room := { frames := 2, cells := 31, slots := 591, locals := 40 }
set_option maxRecDepth 100000 in
set_option maxHeartbeats 4000000 in
theorem kc_X4 (l : Launch) (D : va_G) (cl : Nat → ClassId) (B : Nat) (ac0 : Nat → va_E) (k0 n0 : Nat) (hk : k0 < n0) : KC l D cl B yX4_init wsX4_init rmX4_init [.ref k0] ac0 k0 n0 dX4 (oX4 n0) (nwX4 cl n0) 591 := by
  refine kc_of (cc := cX4_init) (nL := 1) rfl (by decide) rfl (Nat.le_of_ble_eq_true rfl) ?_
  intro Γ C hcl hin E
  subst hcl
  rw [lnX4] at E
  refine k_aload_n (nw := (nvX4_0 (kgcl Γ) n0)) C dX4_init_0 rfl 0 rfl ?_
  refine k_objInit (nw := (nvX4_0 (kgcl Γ) n0)) C dX4_init_1 rfl gwt1_32 gwt1_25 gwt1_26 ⟨Nat.le_of_ble_eq_true rfl, Nat.le_of_ble_eq_true rfl⟩ ?_
  refine k_aload_n (nw := (nvX4_0 (kgcl Γ) n0)) C dX4_init_4 rfl 0 rfl ?_
  refine k_new (nw := (nvX4_0 (kgcl Γ) n0)) (ci := 2) (CC := RX2) (T := TX2) (N := 15) (ty := tyX2) (fs := [.int 0, .int 0, .int 0, .int 0, .int 0, .int 0, .int 0, .null, .null, .null, .null, .null, .null, .null, .null]) C dX4_init_5 rfl rfl inGX2 tyX2_ok gwt1_33 gwt1_34 gwt1_3 (k_dfX2) (fun _ => rfl) ⟨Nat.le_of_ble_eq_true rfl, Nat.le_of_ble_eq_true rfl⟩ (lnX4_0 _ _) (Or.inl hk) ?_
  refine k_dup (nw := (nvX4_1 (kgcl Γ) n0)) C dX4_init_8 rfl rfl ?_
  refine k_call (nw := (nvX4_1 (kgcl Γ) n0)) (nv := nvX4_0 (kgcl Γ) n0) (d := dX2) (o' := oX2 (n0 + 1)) (nw' := nwX2 (kgcl Γ) (n0 + 1)) (av := []) (rest := [.ref (n0 + 0), .ref k0]) (n := 0) (ms := 499) C dX4_init_9 rfl (fun ac => by rw [lnX4_0]; exact kc_X2 _ _ _ _ ac (n0 + 0) (n0 + 1) (by omega)) kgX4_9 ⟨(by rw [lnX2]; rfl), rfl, Nat.le_of_ble_eq_true rfl, Nat.le_of_ble_eq_true rfl⟩ rfl rfl (by rw [lnX4_0]; rfl) (Nat.le_of_ble_eq_true rfl) (by rw [lnX2]; exact ⟨Nat.le_of_ble_eq_true rfl, Nat.le_of_ble_eq_true rfl⟩) (Or.inl hk) ?_
  rw [lnX2]
  refine k_putF (nw := (nvX4_2 (kgcl Γ) n0)) (ci := 4) (j := 0) (CC := RX4) (T := TX4) (N := 3) (ty0 := tyX4) (ty := (.object "NineLamps$Night")) (fs := [.null, .null, .null]) C hin dX4_init_12 rfl rfl inGX4 (by decide) gwt1_156 tyX4_ok nmX4 rfl (tyX4_ok 0 (by decide)) rfl hk rfl (Nat.le_of_ble_eq_true rfl) (fun _ => ⟨rfl, rfl⟩) ?_
  refine k_aload_n (nw := (nvX4_2 (kgcl Γ) n0)) C dX4_init_15 rfl 0 rfl ?_
  refine k_new (nw := (nvX4_2 (kgcl Γ) n0)) (ci := 0) (CC := RX0) (T := TX0) (N := 5) (ty := tyX0) (fs := [.int 0, .null, .null, .null, .null]) C dX4_init_16 rfl rfl inGX0 tyX0_ok gwt1_102 gwt1_103 gwt1_4 (k_dfX0) (fun _ => rfl) ⟨Nat.le_of_ble_eq_true rfl, Nat.le_of_ble_eq_true rfl⟩ (lnX4_2 _ _) (Or.inl hk) ?_
  refine k_dup (nw := (nvX4_3 (kgcl Γ) n0)) C dX4_init_19 rfl rfl ?_
  refine k_call (nw := (nvX4_3 (kgcl Γ) n0)) (nv := nvX4_2 (kgcl Γ) n0) (d := dX0) (o' := oX0 (n0 + 23)) (nw' := nwX0 (kgcl Γ) (n0 + 23)) (av := []) (rest := [.ref (n0 + 22), .ref k0]) (n := 0) (ms := 32) C dX4_init_20 rfl (fun ac => by rw [lnX4_2]; exact kc_X0 _ _ _ _ ac (n0 + 22) (n0 + 23) (by omega)) kgX4_18 ⟨(by rw [lnX0]; rfl), rfl, Nat.le_of_ble_eq_true rfl, Nat.le_of_ble_eq_true rfl⟩ rfl rfl (by rw [lnX4_2]; rfl) (Nat.le_of_ble_eq_true rfl) (by rw [lnX0]; exact ⟨Nat.le_of_ble_eq_true rfl, Nat.le_of_ble_eq_true rfl⟩) (Or.inl hk) ?_
  rw [lnX0]
  refine k_putF (nw := (nvX4_4 (kgcl Γ) n0)) (ci := 4) (j := 1) (CC := RX4) (T := TX4) (N := 3) (ty0 := tyX4) (ty := (.object "NineLamps$Law")) (fs := [.ref (n0 + 0), .null, .null]) C hin dX4_init_23 rfl rfl inGX4 (by decide) gwt1_158 tyX4_ok nmX4 rfl (tyX4_ok 1 (by decide)) rfl hk rfl (Nat.le_of_ble_eq_true rfl) (fun _ => ⟨rfl, rfl⟩) ?_
  refine k_aload_n (nw := (nvX4_4 (kgcl Γ) n0)) C dX4_init_26 rfl 0 rfl ?_
  refine k_new (nw := (nvX4_4 (kgcl Γ) n0)) (ci := 1) (CC := RX1) (T := TX1) (N := 4) (ty := tyX1) (fs := [.int 0, .null, .null, .null]) C dX4_init_27 rfl rfl inGX1 tyX1_ok gwt1_136 gwt1_137 gwt1_5 (k_dfX1) (fun _ => rfl) ⟨Nat.le_of_ble_eq_true rfl, Nat.le_of_ble_eq_true rfl⟩ (lnX4_4 _ _) (Or.inl hk) ?_
  refine k_dup (nw := (nvX4_5 (kgcl Γ) n0)) C dX4_init_30 rfl rfl ?_
  refine k_call (nw := (nvX4_5 (kgcl Γ) n0)) (nv := nvX4_4 (kgcl Γ) n0) (d := dX1) (o' := oX1 (n0 + 28)) (nw' := nwX1 (kgcl Γ) (n0 + 28)) (av := []) (rest := [.ref (n0 + 27), .ref k0]) (n := 0) (ms := 36) C dX4_init_31 rfl (fun ac => by rw [lnX4_4]; exact kc_X1 _ _ _ _ ac (n0 + 27) (n0 + 28) (by omega)) kgX4_25 ⟨(by rw [lnX1]; rfl), rfl, Nat.le_of_ble_eq_true rfl, Nat.le_of_ble_eq_true rfl⟩ rfl rfl (by rw [lnX4_4]; rfl) (Nat.le_of_ble_eq_true rfl) (by rw [lnX1]; exact ⟨Nat.le_of_ble_eq_true rfl, Nat.le_of_ble_eq_true rfl⟩) (Or.inl hk) ?_
  rw [lnX1]
  refine k_putF (nw := (nvX4_6 (kgcl Γ) n0)) (ci := 4) (j := 2) (CC := RX4) (T := TX4) (N := 3) (ty0 := tyX4) (ty := (.object "NineLamps$Logs")) (fs := [.ref (n0 + 0), .ref (n0 + 22), .null]) C hin dX4_init_34 rfl rfl inGX4 (by decide) gwt1_160 tyX4_ok nmX4 rfl (tyX4_ok 2 (by decide)) rfl hk rfl (Nat.le_of_ble_eq_true rfl) (fun _ => ⟨rfl, rfl⟩) ?_
  exact k_vret (nw := (nvX4_6 (kgcl Γ) n0)) E dX4_init_37
/-! X5 -/
def dX5 : va_E := .inr (5, [.int 0, .null, .null, .null, .null, .null, .null, .int 0, .int 0])
def oX5f (n0 : Nat) : List Value := [.int 0, .ref (n0 + 0), .ref (n0 + 5), .ref (n0 + 6), .ref (n0 + 7), .ref (n0 + 8), .ref (n0 + 9), .int 0, .int (-1)]
def oX5 (n0 : Nat) : va_E := .inr (5, oX5f n0)
theorem k_dfX5 : ∀ j, j < 9 → defaultValue (tyX5 j) = vp_V [.int 0, .null, .null, .null, .null, .null, .null, .int 0, .int 0] j := by
  intro j hj
  match j, hj with
  | 0, _ => rfl
  | 1, _ => rfl
  | 2, _ => rfl
  | 3, _ => rfl
  | 4, _ => rfl
  | 5, _ => rfl
  | 6, _ => rfl
  | 7, _ => rfl
  | 8, _ => rfl
  | j + 9, h => exact absurd h (by omega)
def nvX5_0 (_ : Nat → ClassId) (_ : Nat) : List va_E := []
theorem lnX5_0 (cl : Nat → ClassId) (n0 : Nat) : (nvX5_0 cl n0).length = 0 := rfl
def nvX5_1 (cl : Nat → ClassId) (n0 : Nat) : List va_E := nvX5_0 cl n0 ++ [dX0]
theorem lnX5_1 (cl : Nat → ClassId) (n0 : Nat) : (nvX5_1 cl n0).length = 1 := by
  unfold nvX5_1
  simp [lnX5_0]
def nvX5_2 (cl : Nat → ClassId) (n0 : Nat) : List va_E := nvX5_0 cl n0 ++ (oX0 (n0 + 1) :: nwX0 cl (n0 + 1))
theorem lnX5_2 (cl : Nat → ClassId) (n0 : Nat) : (nvX5_2 cl n0).length = 5 := by
  unfold nvX5_2
  rw [List.length_append, List.length_cons, lnX0, lnX5_0]
def nvX5_3 (cl : Nat → ClassId) (n0 : Nat) : List va_E := nvX5_2 cl n0 ++ [kI cl 9]
theorem lnX5_3 (cl : Nat → ClassId) (n0 : Nat) : (nvX5_3 cl n0).length = 6 := by
  unfold nvX5_3
  simp [lnX5_2]
def nvX5_4 (cl : Nat → ClassId) (n0 : Nat) : List va_E := nvX5_3 cl n0 ++ [kI cl 9]
theorem lnX5_4 (cl : Nat → ClassId) (n0 : Nat) : (nvX5_4 cl n0).length = 7 := by
  unfold nvX5_4
  simp [lnX5_3]
def nvX5_5 (cl : Nat → ClassId) (n0 : Nat) : List va_E := nvX5_4 cl n0 ++ [kI cl 9]
theorem lnX5_5 (cl : Nat → ClassId) (n0 : Nat) : (nvX5_5 cl n0).length = 8 := by
  unfold nvX5_5
  simp [lnX5_4]
def nvX5_6 (cl : Nat → ClassId) (n0 : Nat) : List va_E := nvX5_5 cl n0 ++ [kI cl 9]
theorem lnX5_6 (cl : Nat → ClassId) (n0 : Nat) : (nvX5_6 cl n0).length = 9 := by
  unfold nvX5_6
  simp [lnX5_5]
def nvX5_7 (cl : Nat → ClassId) (n0 : Nat) : List va_E := nvX5_6 cl n0 ++ [kCh cl 160]
theorem lnX5_7 (cl : Nat → ClassId) (n0 : Nat) : (nvX5_7 cl n0).length = 10 := by
  unfold nvX5_7
  simp [lnX5_6]
def nwX5 (cl : Nat → ClassId) (n0 : Nat) : List va_E := nvX5_7 cl n0
theorem lnX5 (cl : Nat → ClassId) (n0 : Nat) : (nwX5 cl n0).length = 10 := lnX5_7 cl n0
theorem kgX5_17 : kgw RX5 17 yX0_init wsX0_init 1 0 := ⟨cX0_init, rfl, gwt1_106, gwt1_4, gwt1_105, rfl, by decide +kernel, Or.inr ⟨_, List.mem_of_getElem? (i := 5) rfl⟩⟩
def wsX5_init : List Cond := .code yX5_init cX5_init 1 none :: G0
def rmX5_init : Room := { frames := 2, cells := 10, slots := 233, locals := 40 }
set_option maxRecDepth 100000 in
set_option maxHeartbeats 4000000 in
theorem kc_X5 (l : Launch) (D : va_G) (cl : Nat → ClassId) (B : Nat) (ac0 : Nat → va_E) (k0 n0 : Nat) (hk : k0 < n0) : KC l D cl B yX5_init wsX5_init rmX5_init [.ref k0] ac0 k0 n0 dX5 (oX5 n0) (nwX5 cl n0) 233 := by
  refine kc_of (cc := cX5_init) (nL := 1) rfl (by decide) rfl (Nat.le_of_ble_eq_true rfl) ?_
  intro Γ C hcl hin E
  subst hcl
  rw [lnX5] at E
  refine k_aload_n (nw := (nvX5_0 (kgcl Γ) n0)) C dX5_init_0 rfl 0 rfl ?_
  refine k_objInit (nw := (nvX5_0 (kgcl Γ) n0)) C dX5_init_1 rfl gwt1_174 gwt1_25 gwt1_26 ⟨Nat.le_of_ble_eq_true rfl, Nat.le_of_ble_eq_true rfl⟩ ?_
  refine k_aload_n (nw := (nvX5_0 (kgcl Γ) n0)) C dX5_init_4 rfl 0 rfl ?_
  refine k_iconst (nw := (nvX5_0 (kgcl Γ) n0)) (v := 0) C dX5_init_5 rfl (by decide) ?_
  refine k_putV (nw := (nvX5_0 (kgcl Γ) n0)) (j := 0) (fs := [.int 0, .null, .null, .null, .null, .null, .null, .int 0, .int 0]) C dX5_init_6 rfl lpX5_9 hk rfl (Nat.le_of_ble_eq_true rfl) (fun _ => ⟨rfl, rfl⟩) ?_
  refine k_aload_n (nw := (nvX5_0 (kgcl Γ) n0)) C dX5_init_9 rfl 0 rfl ?_
  refine k_new (nw := (nvX5_0 (kgcl Γ) n0)) (ci := 0) (CC := RX0) (T := TX0) (N := 5) (ty := tyX0) (fs := [.int 0, .null, .null, .null, .null]) C dX5_init_10 rfl rfl inGX0 tyX0_ok gwt1_175 gwt1_103 gwt1_4 (k_dfX0) (fun _ => rfl) ⟨Nat.le_of_ble_eq_true rfl, Nat.le_of_ble_eq_true rfl⟩ (lnX5_0 _ _) (Or.inl hk) ?_
  refine k_dup (nw := (nvX5_1 (kgcl Γ) n0)) C dX5_init_13 rfl rfl ?_
  refine k_call (nw := (nvX5_1 (kgcl Γ) n0)) (nv := nvX5_0 (kgcl Γ) n0) (d := dX0) (o' := oX0 (n0 + 1)) (nw' := nwX0 (kgcl Γ) (n0 + 1)) (av := []) (rest := [.ref (n0 + 0), .ref k0]) (n := 0) (ms := 32) C dX5_init_14 rfl (fun ac => by rw [lnX5_0]; exact kc_X0 _ _ _ _ ac (n0 + 0) (n0 + 1) (by omega)) kgX5_17 ⟨(by rw [lnX0]; rfl), rfl, Nat.le_of_ble_eq_true rfl, Nat.le_of_ble_eq_true rfl⟩ rfl rfl (by rw [lnX5_0]; rfl) (Nat.le_of_ble_eq_true rfl) (by rw [lnX0]; exact ⟨Nat.le_of_ble_eq_true rfl, Nat.le_of_ble_eq_true rfl⟩) (Or.inl hk) ?_
  rw [lnX0]
  refine k_putF (nw := (nvX5_2 (kgcl Γ) n0)) (ci := 5) (j := 1) (CC := RX5) (T := TX5) (N := 9) (ty0 := tyX5) (ty := (.object "NineLamps$Law")) (fs := [.int 0, .null, .null, .null, .null, .null, .null, .int 0, .int 0]) C hin dX5_init_17 rfl rfl inGX5 (by decide) gwt1_179 tyX5_ok nmX5 rfl (tyX5_ok 1 (by decide)) rfl hk rfl (Nat.le_of_ble_eq_true rfl) (fun _ => ⟨rfl, rfl⟩) ?_
  refine k_aload_n (nw := (nvX5_2 (kgcl Γ) n0)) C dX5_init_20 rfl 0 rfl ?_
  refine k_bipush (nw := (nvX5_2 (kgcl Γ) n0)) (v := 9) C dX5_init_21 rfl (by decide) ?_
  refine k_newa (nw := (nvX5_2 (kgcl Γ) n0)) (t := 0) (ty := .int) (N := 9) (z := (9, .inl (fun _ => 0))) C dX5_init_23 rfl rfl gwt1_101 (fun _ => rfl) k_rI (fun _ => rfl) (fun _ _ => rfl) (by decide) (by decide) (by decide) ⟨Nat.le_of_ble_eq_true rfl, Nat.le_of_ble_eq_true rfl⟩ (lnX5_2 _ _) (Or.inl hk) ?_
  refine k_putF (nw := (nvX5_3 (kgcl Γ) n0)) (ci := 5) (j := 2) (CC := RX5) (T := TX5) (N := 9) (ty0 := tyX5) (ty := (.array .int)) (fs := [.int 0, .ref (n0 + 0), .null, .null, .null, .null, .null, .int 0, .int 0]) C hin dX5_init_25 rfl rfl inGX5 (by decide) gwt1_181 tyX5_ok nmX5 rfl (tyX5_ok 2 (by decide)) rfl hk rfl (Nat.le_of_ble_eq_true rfl) (fun _ => ⟨rfl, rfl⟩) ?_
  refine k_aload_n (nw := (nvX5_3 (kgcl Γ) n0)) C dX5_init_28 rfl 0 rfl ?_
  refine k_bipush (nw := (nvX5_3 (kgcl Γ) n0)) (v := 9) C dX5_init_29 rfl (by decide) ?_
  refine k_newa (nw := (nvX5_3 (kgcl Γ) n0)) (t := 0) (ty := .int) (N := 9) (z := (9, .inl (fun _ => 0))) C dX5_init_31 rfl rfl gwt1_101 (fun _ => rfl) k_rI (fun _ => rfl) (fun _ _ => rfl) (by decide) (by decide) (by decide) ⟨Nat.le_of_ble_eq_true rfl, Nat.le_of_ble_eq_true rfl⟩ (lnX5_3 _ _) (Or.inl hk) ?_
  refine k_putF (nw := (nvX5_4 (kgcl Γ) n0)) (ci := 5) (j := 3) (CC := RX5) (T := TX5) (N := 9) (ty0 := tyX5) (ty := (.array .int)) (fs := [.int 0, .ref (n0 + 0), .ref (n0 + 5), .null, .null, .null, .null, .int 0, .int 0]) C hin dX5_init_33 rfl rfl inGX5 (by decide) gwt1_183 tyX5_ok nmX5 rfl (tyX5_ok 3 (by decide)) rfl hk rfl (Nat.le_of_ble_eq_true rfl) (fun _ => ⟨rfl, rfl⟩) ?_
  refine k_aload_n (nw := (nvX5_4 (kgcl Γ) n0)) C dX5_init_36 rfl 0 rfl ?_
  refine k_bipush (nw := (nvX5_4 (kgcl Γ) n0)) (v := 9) C dX5_init_37 rfl (by decide) ?_
  refine k_newa (nw := (nvX5_4 (kgcl Γ) n0)) (t := 0) (ty := .int) (N := 9) (z := (9, .inl (fun _ => 0))) C dX5_init_39 rfl rfl gwt1_101 (fun _ => rfl) k_rI (fun _ => rfl) (fun _ _ => rfl) (by decide) (by decide) (by decide) ⟨Nat.le_of_ble_eq_true rfl, Nat.le_of_ble_eq_true rfl⟩ (lnX5_4 _ _) (Or.inl hk) ?_
  refine k_putF (nw := (nvX5_5 (kgcl Γ) n0)) (ci := 5) (j := 4) (CC := RX5) (T := TX5) (N := 9) (ty0 := tyX5) (ty := (.array .int)) (fs := [.int 0, .ref (n0 + 0), .ref (n0 + 5), .ref (n0 + 6), .null, .null, .null, .int 0, .int 0]) C hin dX5_init_41 rfl rfl inGX5 (by decide) gwt1_185 tyX5_ok nmX5 rfl (tyX5_ok 4 (by decide)) rfl hk rfl (Nat.le_of_ble_eq_true rfl) (fun _ => ⟨rfl, rfl⟩) ?_
  refine k_aload_n (nw := (nvX5_5 (kgcl Γ) n0)) C dX5_init_44 rfl 0 rfl ?_
  refine k_bipush (nw := (nvX5_5 (kgcl Γ) n0)) (v := 9) C dX5_init_45 rfl (by decide) ?_
  refine k_newa (nw := (nvX5_5 (kgcl Γ) n0)) (t := 0) (ty := .int) (N := 9) (z := (9, .inl (fun _ => 0))) C dX5_init_47 rfl rfl gwt1_101 (fun _ => rfl) k_rI (fun _ => rfl) (fun _ _ => rfl) (by decide) (by decide) (by decide) ⟨Nat.le_of_ble_eq_true rfl, Nat.le_of_ble_eq_true rfl⟩ (lnX5_5 _ _) (Or.inl hk) ?_
  refine k_putF (nw := (nvX5_6 (kgcl Γ) n0)) (ci := 5) (j := 5) (CC := RX5) (T := TX5) (N := 9) (ty0 := tyX5) (ty := (.array .int)) (fs := [.int 0, .ref (n0 + 0), .ref (n0 + 5), .ref (n0 + 6), .ref (n0 + 7), .null, .null, .int 0, .int 0]) C hin dX5_init_49 rfl rfl inGX5 (by decide) gwt1_187 tyX5_ok nmX5 rfl (tyX5_ok 5 (by decide)) rfl hk rfl (Nat.le_of_ble_eq_true rfl) (fun _ => ⟨rfl, rfl⟩) ?_
  refine k_aload_n (nw := (nvX5_6 (kgcl Γ) n0)) C dX5_init_52 rfl 0 rfl ?_
  refine k_sipush (nw := (nvX5_6 (kgcl Γ) n0)) (v := 160) C dX5_init_53 rfl (by decide) ?_
  refine k_newa (nw := (nvX5_6 (kgcl Γ) n0)) (t := 1) (ty := .char) (N := 160) (z := (160, .inl (fun _ => 0))) C dX5_init_56 rfl rfl gwt1_211 (fun _ => rfl) k_rC (fun _ => rfl) (fun _ _ => rfl) (by decide) (by decide) (by decide) ⟨Nat.le_of_ble_eq_true rfl, Nat.le_of_ble_eq_true rfl⟩ (lnX5_6 _ _) (Or.inl hk) ?_
  refine k_putF (nw := (nvX5_7 (kgcl Γ) n0)) (ci := 5) (j := 6) (CC := RX5) (T := TX5) (N := 9) (ty0 := tyX5) (ty := (.array .char)) (fs := [.int 0, .ref (n0 + 0), .ref (n0 + 5), .ref (n0 + 6), .ref (n0 + 7), .ref (n0 + 8), .null, .int 0, .int 0]) C hin dX5_init_58 rfl rfl inGX5 (by decide) gwt1_189 tyX5_ok nmX5 rfl (tyX5_ok 6 (by decide)) rfl hk rfl (Nat.le_of_ble_eq_true rfl) (fun _ => ⟨rfl, rfl⟩) ?_
  refine k_aload_n (nw := (nvX5_7 (kgcl Γ) n0)) C dX5_init_61 rfl 0 rfl ?_
  refine k_iconst (nw := (nvX5_7 (kgcl Γ) n0)) (v := 0) C dX5_init_62 rfl (by decide) ?_
  refine k_putV (nw := (nvX5_7 (kgcl Γ) n0)) (j := 7) (fs := [.int 0, .ref (n0 + 0), .ref (n0 + 5), .ref (n0 + 6), .ref (n0 + 7), .ref (n0 + 8), .ref (n0 + 9), .int 0, .int 0]) C dX5_init_63 rfl lpX5_39 hk rfl (Nat.le_of_ble_eq_true rfl) (fun _ => ⟨rfl, rfl⟩) ?_
  refine k_aload_n (nw := (nvX5_7 (kgcl Γ) n0)) C dX5_init_66 rfl 0 rfl ?_
  refine k_iconst (nw := (nvX5_7 (kgcl Γ) n0)) (v := (-1)) C dX5_init_67 rfl (by decide) ?_
  refine k_putV (nw := (nvX5_7 (kgcl Γ) n0)) (j := 8) (fs := [.int 0, .ref (n0 + 0), .ref (n0 + 5), .ref (n0 + 6), .ref (n0 + 7), .ref (n0 + 8), .ref (n0 + 9), .int 0, .int 0]) C dX5_init_68 rfl lpX5_42 hk rfl (Nat.le_of_ble_eq_true rfl) (fun _ => ⟨rfl, rfl⟩) ?_
  exact k_vret (nw := (nvX5_7 (kgcl Γ) n0)) E dX5_init_71
/-! X6 -/
def dX6 : va_E := .inr (6, [.null, .null, .null, .null, .null, .int 0, .int 0, .int 0])
def oX6f (n0 : Nat) (b1 : Nat) (b2 : Nat) : List Value := [.ref b1, .ref b2, .ref (n0 + 0), .ref (n0 + 22), .null, .int 0, .int 0, .int 0]
def oX6 (n0 : Nat) (b1 : Nat) (b2 : Nat) : va_E := .inr (6, oX6f n0 b1 b2)
theorem k_dfX6 : ∀ j, j < 8 → defaultValue (tyX6 j) = vp_V [.null, .null, .null, .null, .null, .int 0, .int 0, .int 0] j := by
  intro j hj
  match j, hj with
  | 0, _ => rfl
  | 1, _ => rfl
  | 2, _ => rfl
  | 3, _ => rfl
  | 4, _ => rfl
  | 5, _ => rfl
  | 6, _ => rfl
  | 7, _ => rfl
  | j + 8, h => exact absurd h (by omega)
def nvX6_0 (_ : Nat → ClassId) (_ : Nat) : List va_E := []
theorem lnX6_0 (cl : Nat → ClassId) (n0 : Nat) : (nvX6_0 cl n0).length = 0 := rfl
def nvX6_1 (cl : Nat → ClassId) (n0 : Nat) : List va_E := nvX6_0 cl n0 ++ [dX2]
theorem lnX6_1 (cl : Nat → ClassId) (n0 : Nat) : (nvX6_1 cl n0).length = 1 := by
  unfold nvX6_1
  simp [lnX6_0]
def nvX6_2 (cl : Nat → ClassId) (n0 : Nat) : List va_E := nvX6_0 cl n0 ++ (oX2 (n0 + 1) :: nwX2 cl (n0 + 1))
theorem lnX6_2 (cl : Nat → ClassId) (n0 : Nat) : (nvX6_2 cl n0).length = 22 := by
  unfold nvX6_2
  rw [List.length_append, List.length_cons, lnX2, lnX6_0]
def nvX6_3 (cl : Nat → ClassId) (n0 : Nat) : List va_E := nvX6_2 cl n0 ++ [dX0]
theorem lnX6_3 (cl : Nat → ClassId) (n0 : Nat) : (nvX6_3 cl n0).length = 23 := by
  unfold nvX6_3
  simp [lnX6_2]
def nvX6_4 (cl : Nat → ClassId) (n0 : Nat) : List va_E := nvX6_2 cl n0 ++ (oX0 (n0 + 23) :: nwX0 cl (n0 + 23))
theorem lnX6_4 (cl : Nat → ClassId) (n0 : Nat) : (nvX6_4 cl n0).length = 27 := by
  unfold nvX6_4
  rw [List.length_append, List.length_cons, lnX0, lnX6_2]
def nwX6 (cl : Nat → ClassId) (n0 : Nat) : List va_E := nvX6_4 cl n0
theorem lnX6 (cl : Nat → ClassId) (n0 : Nat) : (nwX6 cl n0).length = 27 := lnX6_4 cl n0
theorem kgX6_11 : kgw RX6 11 yX2_init wsX2_init 1 0 := ⟨cX2_init, rfl, gwt1_37, gwt1_3, gwt1_36, rfl, by decide +kernel, Or.inr ⟨_, List.mem_of_getElem? (i := 6) rfl⟩⟩
theorem kgX6_20 : kgw RX6 20 yX0_init wsX0_init 1 0 := ⟨cX0_init, rfl, gwt1_106, gwt1_4, gwt1_105, rfl, by decide +kernel, Or.inr ⟨_, List.mem_of_getElem? (i := 7) rfl⟩⟩
def wsX6_init : List Cond := .code yX6_init cX6_init 3 none :: G0
def rmX6_init : Room := { frames := 2, cells := 27, slots := 551, locals := 40 }
set_option maxRecDepth 100000 in
set_option maxHeartbeats 4000000 in
theorem kc_X6 (l : Launch) (D : va_G) (cl : Nat → ClassId) (B : Nat) (ac0 : Nat → va_E) (k0 n0 : Nat) (hk : k0 < n0) (b1 : Nat) (b2 : Nat) : KC l D cl B yX6_init wsX6_init rmX6_init [.ref k0, .ref b1, .ref b2] ac0 k0 n0 dX6 (oX6 n0 b1 b2) (nwX6 cl n0) 551 := by
  refine kc_of (cc := cX6_init) (nL := 3) rfl (by decide) rfl (Nat.le_of_ble_eq_true rfl) ?_
  intro Γ C hcl hin E
  subst hcl
  rw [lnX6] at E
  refine k_aload_n (nw := (nvX6_0 (kgcl Γ) n0)) C dX6_init_0 rfl 0 rfl ?_
  refine k_objInit (nw := (nvX6_0 (kgcl Γ) n0)) C dX6_init_1 rfl gwt1_219 gwt1_25 gwt1_26 ⟨Nat.le_of_ble_eq_true rfl, Nat.le_of_ble_eq_true rfl⟩ ?_
  refine k_aload_n (nw := (nvX6_0 (kgcl Γ) n0)) C dX6_init_4 rfl 0 rfl ?_
  refine k_new (nw := (nvX6_0 (kgcl Γ) n0)) (ci := 2) (CC := RX2) (T := TX2) (N := 15) (ty := tyX2) (fs := [.int 0, .int 0, .int 0, .int 0, .int 0, .int 0, .int 0, .null, .null, .null, .null, .null, .null, .null, .null]) C dX6_init_5 rfl rfl inGX2 tyX2_ok gwt1_220 gwt1_34 gwt1_3 (k_dfX2) (fun _ => rfl) ⟨Nat.le_of_ble_eq_true rfl, Nat.le_of_ble_eq_true rfl⟩ (lnX6_0 _ _) (Or.inl hk) ?_
  refine k_dup (nw := (nvX6_1 (kgcl Γ) n0)) C dX6_init_8 rfl rfl ?_
  refine k_call (nw := (nvX6_1 (kgcl Γ) n0)) (nv := nvX6_0 (kgcl Γ) n0) (d := dX2) (o' := oX2 (n0 + 1)) (nw' := nwX2 (kgcl Γ) (n0 + 1)) (av := []) (rest := [.ref (n0 + 0), .ref k0]) (n := 0) (ms := 499) C dX6_init_9 rfl (fun ac => by rw [lnX6_0]; exact kc_X2 _ _ _ _ ac (n0 + 0) (n0 + 1) (by omega)) kgX6_11 ⟨(by rw [lnX2]; rfl), rfl, Nat.le_of_ble_eq_true rfl, Nat.le_of_ble_eq_true rfl⟩ rfl rfl (by rw [lnX6_0]; rfl) (Nat.le_of_ble_eq_true rfl) (by rw [lnX2]; exact ⟨Nat.le_of_ble_eq_true rfl, Nat.le_of_ble_eq_true rfl⟩) (Or.inl hk) ?_
  rw [lnX2]
  refine k_putF (nw := (nvX6_2 (kgcl Γ) n0)) (ci := 6) (j := 2) (CC := RX6) (T := TX6) (N := 8) (ty0 := tyX6) (ty := (.object "NineLamps$Night")) (fs := [.null, .null, .null, .null, .null, .int 0, .int 0, .int 0]) C hin dX6_init_12 rfl rfl inGX6 (by decide) gwt1_226 tyX6_ok nmX6 rfl (tyX6_ok 2 (by decide)) rfl hk rfl (Nat.le_of_ble_eq_true rfl) (fun _ => ⟨rfl, rfl⟩) ?_
  refine k_aload_n (nw := (nvX6_2 (kgcl Γ) n0)) C dX6_init_15 rfl 0 rfl ?_
  refine k_new (nw := (nvX6_2 (kgcl Γ) n0)) (ci := 0) (CC := RX0) (T := TX0) (N := 5) (ty := tyX0) (fs := [.int 0, .null, .null, .null, .null]) C dX6_init_16 rfl rfl inGX0 tyX0_ok gwt1_222 gwt1_103 gwt1_4 (k_dfX0) (fun _ => rfl) ⟨Nat.le_of_ble_eq_true rfl, Nat.le_of_ble_eq_true rfl⟩ (lnX6_2 _ _) (Or.inl hk) ?_
  refine k_dup (nw := (nvX6_3 (kgcl Γ) n0)) C dX6_init_19 rfl rfl ?_
  refine k_call (nw := (nvX6_3 (kgcl Γ) n0)) (nv := nvX6_2 (kgcl Γ) n0) (d := dX0) (o' := oX0 (n0 + 23)) (nw' := nwX0 (kgcl Γ) (n0 + 23)) (av := []) (rest := [.ref (n0 + 22), .ref k0]) (n := 0) (ms := 32) C dX6_init_20 rfl (fun ac => by rw [lnX6_2]; exact kc_X0 _ _ _ _ ac (n0 + 22) (n0 + 23) (by omega)) kgX6_20 ⟨(by rw [lnX0]; rfl), rfl, Nat.le_of_ble_eq_true rfl, Nat.le_of_ble_eq_true rfl⟩ rfl rfl (by rw [lnX6_2]; rfl) (Nat.le_of_ble_eq_true rfl) (by rw [lnX0]; exact ⟨Nat.le_of_ble_eq_true rfl, Nat.le_of_ble_eq_true rfl⟩) (Or.inl hk) ?_
  rw [lnX0]
  refine k_putF (nw := (nvX6_4 (kgcl Γ) n0)) (ci := 6) (j := 3) (CC := RX6) (T := TX6) (N := 8) (ty0 := tyX6) (ty := (.object "NineLamps$Law")) (fs := [.null, .null, .ref (n0 + 0), .null, .null, .int 0, .int 0, .int 0]) C hin dX6_init_23 rfl rfl inGX6 (by decide) gwt1_227 tyX6_ok nmX6 rfl (tyX6_ok 3 (by decide)) rfl hk rfl (Nat.le_of_ble_eq_true rfl) (fun _ => ⟨rfl, rfl⟩) ?_
  refine k_aload_n (nw := (nvX6_4 (kgcl Γ) n0)) C dX6_init_26 rfl 0 rfl ?_
  refine k_null (nw := (nvX6_4 (kgcl Γ) n0)) C dX6_init_27 rfl ?_
  refine k_putV (nw := (nvX6_4 (kgcl Γ) n0)) (j := 4) (fs := [.null, .null, .ref (n0 + 0), .ref (n0 + 22), .null, .int 0, .int 0, .int 0]) C dX6_init_28 rfl lpX6_25 hk rfl (Nat.le_of_ble_eq_true rfl) (fun _ => ⟨rfl, rfl⟩) ?_
  refine k_aload_n (nw := (nvX6_4 (kgcl Γ) n0)) C dX6_init_31 rfl 0 rfl ?_
  refine k_iconst (nw := (nvX6_4 (kgcl Γ) n0)) (v := 0) C dX6_init_32 rfl (by decide) ?_
  refine k_putV (nw := (nvX6_4 (kgcl Γ) n0)) (j := 5) (fs := [.null, .null, .ref (n0 + 0), .ref (n0 + 22), .null, .int 0, .int 0, .int 0]) C dX6_init_33 rfl lpX6_29 hk rfl (Nat.le_of_ble_eq_true rfl) (fun _ => ⟨rfl, rfl⟩) ?_
  refine k_aload_n (nw := (nvX6_4 (kgcl Γ) n0)) C dX6_init_36 rfl 0 rfl ?_
  refine k_iconst (nw := (nvX6_4 (kgcl Γ) n0)) (v := 0) C dX6_init_37 rfl (by decide) ?_
  refine k_putV (nw := (nvX6_4 (kgcl Γ) n0)) (j := 6) (fs := [.null, .null, .ref (n0 + 0), .ref (n0 + 22), .null, .int 0, .int 0, .int 0]) C dX6_init_38 rfl lpX6_33 hk rfl (Nat.le_of_ble_eq_true rfl) (fun _ => ⟨rfl, rfl⟩) ?_
  refine k_aload_n (nw := (nvX6_4 (kgcl Γ) n0)) C dX6_init_41 rfl 0 rfl ?_
  refine k_iconst (nw := (nvX6_4 (kgcl Γ) n0)) (v := 0) C dX6_init_42 rfl (by decide) ?_
  refine k_putV (nw := (nvX6_4 (kgcl Γ) n0)) (j := 7) (fs := [.null, .null, .ref (n0 + 0), .ref (n0 + 22), .null, .int 0, .int 0, .int 0]) C dX6_init_43 rfl lpX6_36 hk rfl (Nat.le_of_ble_eq_true rfl) (fun _ => ⟨rfl, rfl⟩) ?_
  refine k_aload_n (nw := (nvX6_4 (kgcl Γ) n0)) C dX6_init_46 rfl 0 rfl ?_
  refine k_aload_n (nw := (nvX6_4 (kgcl Γ) n0)) C dX6_init_47 rfl 1 rfl ?_
  refine k_putF (nw := (nvX6_4 (kgcl Γ) n0)) (ci := 6) (j := 0) (CC := RX6) (T := TX6) (N := 8) (ty0 := tyX6) (ty := (.object "NineLamps$Night")) (fs := [.null, .null, .ref (n0 + 0), .ref (n0 + 22), .null, .int 0, .int 0, .int 0]) C hin dX6_init_48 rfl rfl inGX6 (by decide) gwt1_224 tyX6_ok nmX6 rfl (tyX6_ok 0 (by decide)) rfl hk rfl (Nat.le_of_ble_eq_true rfl) (fun _ => ⟨rfl, rfl⟩) ?_
  refine k_aload_n (nw := (nvX6_4 (kgcl Γ) n0)) C dX6_init_51 rfl 0 rfl ?_
  refine k_aload_n (nw := (nvX6_4 (kgcl Γ) n0)) C dX6_init_52 rfl 2 rfl ?_
  refine k_putF (nw := (nvX6_4 (kgcl Γ) n0)) (ci := 6) (j := 1) (CC := RX6) (T := TX6) (N := 8) (ty0 := tyX6) (ty := (.object "NineLamps$Law")) (fs := [.ref b1, .null, .ref (n0 + 0), .ref (n0 + 22), .null, .int 0, .int 0, .int 0]) C hin dX6_init_53 rfl rfl inGX6 (by decide) gwt1_225 tyX6_ok nmX6 rfl (tyX6_ok 1 (by decide)) rfl hk rfl (Nat.le_of_ble_eq_true rfl) (fun _ => ⟨rfl, rfl⟩) ?_
  exact k_vret (nw := (nvX6_4 (kgcl Γ) n0)) E dX6_init_56
