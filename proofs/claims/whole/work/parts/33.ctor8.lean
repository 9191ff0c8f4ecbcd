/-! X8 -/
def dX8 : va_E := .inr (8, [.int 0, .null, .null, .null, .null, .int 0, .null, .int 0, .int 0, .int 0, .int 0, .null, .int 0, .null, .null, .null, .int 0, .int 0, .int 0, .null, .null])
def oX8f (n0 : Nat) : List Value := [.int 0, .ref (n0 + 0), .ref (n0 + 1), .ref (n0 + 2), .ref (n0 + 3), .int 0, .ref (n0 + 4), .int 0, .int 0, .int 0, .int 0, .ref (n0 + 5), .int 0, .ref (n0 + 6), .ref (n0 + 7), .ref (n0 + 8), .int 0, .int (-1), .int 0, .ref (n0 + 9), .ref (n0 + 10)]
def oX8 (n0 : Nat) : va_E := .inr (8, oX8f n0)
theorem k_dfX8 : ∀ j, j < 21 → defaultValue (tyX8 j) = vp_V [.int 0, .null, .null, .null, .null, .int 0, .null, .int 0, .int 0, .int 0, .int 0, .null, .int 0, .null, .null, .null, .int 0, .int 0, .int 0, .null, .null] j := by
  intro j hj
  match j, hj with
  | 0, _ => rfl
  | 1, _ => rfl
  | 2, _ => rfl
  | 3, _ => rfl
  | 4, _ => rfl
  | 5, _ => rfl
  | 6, _ => rfl
  | 7, _ => rfl
  | 8, _ => rfl
  | 9, _ => rfl
  | 10, _ => rfl
  | 11, _ => rfl
  | 12, _ => rfl
  | 13, _ => rfl
  | 14, _ => rfl
  | 15, _ => rfl
  | 16, _ => rfl
  | 17, _ => rfl
  | 18, _ => rfl
  | 19, _ => rfl
  | 20, _ => rfl
  | j + 21, h => exact absurd h (by omega)
def nvX8_0 (_ : Nat → ClassId) (_ : Nat) : List va_E := []
theorem lnX8_0 (cl : Nat → ClassId) (n0 : Nat) : (nvX8_0 cl n0).length = 0 := rfl
def nvX8_1 (cl : Nat → ClassId) (n0 : Nat) : List va_E := nvX8_0 cl n0 ++ [kI cl 1829]
theorem lnX8_1 (cl : Nat → ClassId) (n0 : Nat) : (nvX8_1 cl n0).length = 1 := by
  unfold nvX8_1
  simp [lnX8_0]
def nvX8_2 (cl : Nat → ClassId) (n0 : Nat) : List va_E := nvX8_1 cl n0 ++ [kI cl 1829]
theorem lnX8_2 (cl : Nat → ClassId) (n0 : Nat) : (nvX8_2 cl n0).length = 2 := by
  unfold nvX8_2
  simp [lnX8_1]
def nvX8_3 (cl : Nat → ClassId) (n0 : Nat) : List va_E := nvX8_2 cl n0 ++ [kI cl 1829]
theorem lnX8_3 (cl : Nat → ClassId) (n0 : Nat) : (nvX8_3 cl n0).length = 3 := by
  unfold nvX8_3
  simp [lnX8_2]
def nvX8_4 (cl : Nat → ClassId) (n0 : Nat) : List va_E := nvX8_3 cl n0 ++ [kI cl 1829]
theorem lnX8_4 (cl : Nat → ClassId) (n0 : Nat) : (nvX8_4 cl n0).length = 4 := by
  unfold nvX8_4
  simp [lnX8_3]
def nvX8_5 (cl : Nat → ClassId) (n0 : Nat) : List va_E := nvX8_4 cl n0 ++ [kI cl 160]
theorem lnX8_5 (cl : Nat → ClassId) (n0 : Nat) : (nvX8_5 cl n0).length = 5 := by
  unfold nvX8_5
  simp [lnX8_4]
def nvX8_6 (cl : Nat → ClassId) (n0 : Nat) : List va_E := nvX8_5 cl n0 ++ [kI cl 36]
theorem lnX8_6 (cl : Nat → ClassId) (n0 : Nat) : (nvX8_6 cl n0).length = 6 := by
  unfold nvX8_6
  simp [lnX8_5]
def nvX8_7 (cl : Nat → ClassId) (n0 : Nat) : List va_E := nvX8_6 cl n0 ++ [kI cl 4]
theorem lnX8_7 (cl : Nat → ClassId) (n0 : Nat) : (nvX8_7 cl n0).length = 7 := by
  unfold nvX8_7
  simp [lnX8_6]
def nvX8_8 (cl : Nat → ClassId) (n0 : Nat) : List va_E := nvX8_7 cl n0 ++ [kI cl 4]
theorem lnX8_8 (cl : Nat → ClassId) (n0 : Nat) : (nvX8_8 cl n0).length = 8 := by
  unfold nvX8_8
  simp [lnX8_7]
def nvX8_9 (cl : Nat → ClassId) (n0 : Nat) : List va_E := nvX8_8 cl n0 ++ [kJ cl 96]
theorem lnX8_9 (cl : Nat → ClassId) (n0 : Nat) : (nvX8_9 cl n0).length = 9 := by
  unfold nvX8_9
  simp [lnX8_8]
def nvX8_10 (cl : Nat → ClassId) (n0 : Nat) : List va_E := nvX8_9 cl n0 ++ [kI cl 9]
theorem lnX8_10 (cl : Nat → ClassId) (n0 : Nat) : (nvX8_10 cl n0).length = 10 := by
  unfold nvX8_10
  simp [lnX8_9]
def nvX8_11 (cl : Nat → ClassId) (n0 : Nat) : List va_E := nvX8_10 cl n0 ++ [kJ cl 24]
theorem lnX8_11 (cl : Nat → ClassId) (n0 : Nat) : (nvX8_11 cl n0).length = 11 := by
  unfold nvX8_11
  simp [lnX8_10]
def nvX8_12 (cl : Nat → ClassId) (n0 : Nat) : List va_E := (nvX8_11 cl n0).set 0 (.inl (cl 0, 1829, .inl (upd (fun _ => 0) 5 1)))
theorem lnX8_12 (cl : Nat → ClassId) (n0 : Nat) : (nvX8_12 cl n0).length = 11 := by
  unfold nvX8_12
  rw [List.length_set, lnX8_11]
def nvX8_13 (cl : Nat → ClassId) (n0 : Nat) : List va_E := (nvX8_12 cl n0).set 6 (.inl (cl 0, 4, .inl (upd (fun _ => 0) 0 (-1))))
theorem lnX8_13 (cl : Nat → ClassId) (n0 : Nat) : (nvX8_13 cl n0).length = 11 := by
  unfold nvX8_13
  rw [List.length_set, lnX8_12]
def nvX8_14 (cl : Nat → ClassId) (n0 : Nat) : List va_E := (nvX8_13 cl n0).set 6 (.inl (cl 0, 4, .inl (upd (upd (fun _ => 0) 0 (-1)) 1 (-1))))
theorem lnX8_14 (cl : Nat → ClassId) (n0 : Nat) : (nvX8_14 cl n0).length = 11 := by
  unfold nvX8_14
  rw [List.length_set, lnX8_13]
def nvX8_15 (cl : Nat → ClassId) (n0 : Nat) : List va_E := (nvX8_14 cl n0).set 6 (.inl (cl 0, 4, .inl (upd (upd (upd (fun _ => 0) 0 (-1)) 1 (-1)) 2 (-1))))
theorem lnX8_15 (cl : Nat → ClassId) (n0 : Nat) : (nvX8_15 cl n0).length = 11 := by
  unfold nvX8_15
  rw [List.length_set, lnX8_14]
def nvX8_16 (cl : Nat → ClassId) (n0 : Nat) : List va_E := (nvX8_15 cl n0).set 6 (.inl (cl 0, 4, .inl (upd (upd (upd (upd (fun _ => 0) 0 (-1)) 1 (-1)) 2 (-1)) 3 (-1))))
theorem lnX8_16 (cl : Nat → ClassId) (n0 : Nat) : (nvX8_16 cl n0).length = 11 := by
  unfold nvX8_16
  rw [List.length_set, lnX8_15]
def nvX8_kS (k : Nat) : Nat → Int32 := fun j => if 60 ≤ j ∧ j < 60 + k then 1 else if 141 ≤ j ∧ j < 141 + k then 2 else if j = 5 then 1 else 0
def nvX8_k (cl : Nat → ClassId) (n0 k : Nat) : List va_E := (nvX8_16 cl n0).set 0 (.inl (cl 0, 1829, .inl (nvX8_kS k)))
theorem lnX8_k (cl : Nat → ClassId) (n0 k : Nat) : (nvX8_k cl n0 k).length = 11 := by unfold nvX8_k; rw [List.length_set, lnX8_16]
def nwX8 (cl : Nat → ClassId) (n0 : Nat) : List va_E := nvX8_k cl n0 81
theorem lnX8 (cl : Nat → ClassId) (n0 : Nat) : (nwX8 cl n0).length = 11 := lnX8_k cl n0 81
def wsX8_init : List Cond := .code yX8_init cX8_init 2 none :: G0
def rmX8_init : Room := { frames := 1, cells := 11, slots := 7649, locals := 20 }
theorem nvX8_kS_s (k : Nat) (hk : k < 81) : upd (upd (nvX8_kS k) (60 + k) 1) (141 + k) 2 = nvX8_kS (k + 1) := by
  funext j
  unfold upd nvX8_kS
  repeat' split
  all_goals first | rfl | (exfalso; omega)
theorem nvX8_kS_0 : upd (fun _ => 0) 5 1 = nvX8_kS 0 := by
  funext j
  unfold upd nvX8_kS
  repeat' split
  all_goals first | rfl | (exfalso; omega)
set_option maxRecDepth 100000 in
set_option maxHeartbeats 4000000 in
theorem kc_X8_loop {Γ : kG} (C : kC Γ 2 cX8_init RX8 rmX8_init) {ac0 : Nat → va_E} {k0 n0 : Nat} (hk : k0 < n0) (E : kE_V Γ cX8_init ac0 k0 n0 (oX8 n0) (nwX8 (kgcl Γ) n0) 11 7649) : ∀ m k, k + m = 81 → jK Γ 2 129 [(1, .int (nI k)), (0, .ref k0)] [] ac0 k0 n0 (oX8 n0) (nvX8_k (kgcl Γ) n0 k) 11 7649 := by
  intro m
  induction m with
  | zero =>
    intro k h
    have hk81 : k = 81 := by omega
    subst hk81
    refine k_iload_n C dX8_init_129 rfl 0 rfl ?_
    refine k_bipush (v := 81) C dX8_init_130 rfl (by decide) ?_
    refine k_ge (tgt := 162) C dX8_init_132 rfl (by decide) (fun _ => ?_) (fun q => absurd (by decide) q)
    exact k_vret E dX8_init_162
  | succ m ih =>
    intro k h
    refine k_iload_n C dX8_init_129 rfl 0 rfl ?_
    refine k_bipush (v := nI 81) C dX8_init_130 rfl (by decide) ?_
    refine k_ge (tgt := 162) C dX8_init_132 rfl (by decide) (fun q => absurd q (nI_ge (by omega) (by decide))) (fun _ => ?_)
    refine k_aload_n C dX8_init_135 rfl 1 rfl ?_
    refine k_get (q := k0) (ci := 8) (fs := oX8f n0) (v := .ref (n0 + 0)) C dX8_init_136 rfl lkX8_7 (by omega) kst_k rfl ?_
    refine k_bipush (v := nI 60) C dX8_init_139 rfl (by decide) ?_
    refine k_iload_n C dX8_init_141 rfl 0 rfl ?_
    refine k_iadd (v := nI (60 + k)) C dX8_init_142 rfl (nI_add 60 k) ?_
    refine k_iconst (v := 1) C dX8_init_143 rfl (by decide) ?_
    refine k_iast (i := 0) (N := 1829) (f := nvX8_kS k) C dX8_init_144 rfl hk (by rw [nvX8_k, List.getElem?_set, if_pos rfl, if_pos (by rw [lnX8_16]; decide)]) (inb_nI (by omega) (by decide)) ?_
    rw [nI_clamp (by omega), nvX8_k, List.set_set]
    refine k_aload_n C dX8_init_145 rfl 1 rfl ?_
    refine k_get (q := k0) (ci := 8) (fs := oX8f n0) (v := .ref (n0 + 0)) C dX8_init_146 rfl lkX8_7 (by omega) kst_k rfl ?_
    refine k_sipush (v := nI 141) C dX8_init_149 rfl (by decide) ?_
    refine k_iload_n C dX8_init_152 rfl 0 rfl ?_
    refine k_iadd (v := nI (141 + k)) C dX8_init_153 rfl (nI_add 141 k) ?_
    refine k_iconst (v := 2) C dX8_init_154 rfl (by decide) ?_
    refine k_iast (i := 0) (N := 1829) (f := upd (nvX8_kS k) (60 + k) 1) C dX8_init_155 rfl hk (by rw [List.getElem?_set, if_pos rfl, if_pos (by rw [lnX8_16]; decide)]) (inb_nI (by omega) (by decide)) ?_
    rw [nI_clamp (by omega), List.set_set, nvX8_kS_s k (by omega)]
    refine k_iinc (d := 1) (v := nI (k + 1)) (lv' := [(1, .int (nI (k + 1))), (0, .ref k0)]) C dX8_init_156 rfl (by decide) 0 rfl (by decide) (nI_1 k) rfl ?_
    refine k_goto (pc' := 129) C dX8_init_159 (by decide) ?_
    exact ih (k + 1) (by omega)
set_option maxRecDepth 100000 in
set_option maxHeartbeats 4000000 in
theorem kc_X8 (l : Launch) (D : va_G) (cl : Nat → ClassId) (B : Nat) (ac0 : Nat → va_E) (k0 n0 : Nat) (hk : k0 < n0) : KC l D cl B yX8_init wsX8_init rmX8_init [.ref k0] ac0 k0 n0 dX8 (oX8 n0) (nwX8 cl n0) 7649 := by
  refine kc_of (cc := cX8_init) (nL := 2) rfl (by decide) rfl (Nat.le_of_ble_eq_true rfl) ?_
  intro Γ C hcl hin E
  subst hcl
  rw [lnX8] at E
  refine k_aload_n (nw := (nvX8_0 (kgcl Γ) n0)) C dX8_init_0 rfl 0 rfl ?_
  refine k_objInit (nw := (nvX8_0 (kgcl Γ) n0)) C dX8_init_1 rfl gwt4_198 gwt1_25 gwt1_26 ⟨Nat.le_of_ble_eq_true rfl, Nat.le_of_ble_eq_true rfl⟩ ?_
  refine k_aload_n (nw := (nvX8_0 (kgcl Γ) n0)) C dX8_init_4 rfl 0 rfl ?_
  refine k_sipush (nw := (nvX8_0 (kgcl Γ) n0)) (v := 1829) C dX8_init_5 rfl (by decide) ?_
  refine k_newa (nw := (nvX8_0 (kgcl Γ) n0)) (t := 0) (ty := .int) (N := 1829) (z := (1829, .inl (fun _ => 0))) C dX8_init_8 rfl rfl gwt1_101 (fun _ => rfl) k_rI (fun _ => rfl) (fun _ _ => rfl) (by decide) (by decide) (by decide) ⟨Nat.le_of_ble_eq_true rfl, Nat.le_of_ble_eq_true rfl⟩ (lnX8_0 _ _) (Or.inl hk) ?_
  refine k_putF (nw := (nvX8_1 (kgcl Γ) n0)) (ci := 8) (j := 1) (CC := RX8) (T := TX8) (N := 21) (ty0 := tyX8) (ty := (.array .int)) (fs := [.int 0, .null, .null, .null, .null, .int 0, .null, .int 0, .int 0, .int 0, .int 0, .null, .int 0, .null, .null, .null, .int 0, .int 0, .int 0, .null, .null]) C hin dX8_init_10 rfl rfl inGX8 (by decide) gwt4_200 tyX8_ok nmX8 rfl (tyX8_ok 1 (by decide)) rfl hk rfl (Nat.le_of_ble_eq_true rfl) (fun _ => ⟨rfl, rfl⟩) ?_
  refine k_aload_n (nw := (nvX8_1 (kgcl Γ) n0)) C dX8_init_13 rfl 0 rfl ?_
  refine k_sipush (nw := (nvX8_1 (kgcl Γ) n0)) (v := 1829) C dX8_init_14 rfl (by decide) ?_
  refine k_newa (nw := (nvX8_1 (kgcl Γ) n0)) (t := 0) (ty := .int) (N := 1829) (z := (1829, .inl (fun _ => 0))) C dX8_init_17 rfl rfl gwt1_101 (fun _ => rfl) k_rI (fun _ => rfl) (fun _ _ => rfl) (by decide) (by decide) (by decide) ⟨Nat.le_of_ble_eq_true rfl, Nat.le_of_ble_eq_true rfl⟩ (lnX8_1 _ _) (Or.inl hk) ?_
  refine k_putF (nw := (nvX8_2 (kgcl Γ) n0)) (ci := 8) (j := 2) (CC := RX8) (T := TX8) (N := 21) (ty0 := tyX8) (ty := (.array .int)) (fs := [.int 0, .ref (n0 + 0), .null, .null, .null, .int 0, .null, .int 0, .int 0, .int 0, .int 0, .null, .int 0, .null, .null, .null, .int 0, .int 0, .int 0, .null, .null]) C hin dX8_init_19 rfl rfl inGX8 (by decide) gwt4_201 tyX8_ok nmX8 rfl (tyX8_ok 2 (by decide)) rfl hk rfl (Nat.le_of_ble_eq_true rfl) (fun _ => ⟨rfl, rfl⟩) ?_
  refine k_aload_n (nw := (nvX8_2 (kgcl Γ) n0)) C dX8_init_22 rfl 0 rfl ?_
  refine k_sipush (nw := (nvX8_2 (kgcl Γ) n0)) (v := 1829) C dX8_init_23 rfl (by decide) ?_
  refine k_newa (nw := (nvX8_2 (kgcl Γ) n0)) (t := 0) (ty := .int) (N := 1829) (z := (1829, .inl (fun _ => 0))) C dX8_init_26 rfl rfl gwt1_101 (fun _ => rfl) k_rI (fun _ => rfl) (fun _ _ => rfl) (by decide) (by decide) (by decide) ⟨Nat.le_of_ble_eq_true rfl, Nat.le_of_ble_eq_true rfl⟩ (lnX8_2 _ _) (Or.inl hk) ?_
  refine k_putF (nw := (nvX8_3 (kgcl Γ) n0)) (ci := 8) (j := 3) (CC := RX8) (T := TX8) (N := 21) (ty0 := tyX8) (ty := (.array .int)) (fs := [.int 0, .ref (n0 + 0), .ref (n0 + 1), .null, .null, .int 0, .null, .int 0, .int 0, .int 0, .int 0, .null, .int 0, .null, .null, .null, .int 0, .int 0, .int 0, .null, .null]) C hin dX8_init_28 rfl rfl inGX8 (by decide) gwt4_202 tyX8_ok nmX8 rfl (tyX8_ok 3 (by decide)) rfl hk rfl (Nat.le_of_ble_eq_true rfl) (fun _ => ⟨rfl, rfl⟩) ?_
  refine k_aload_n (nw := (nvX8_3 (kgcl Γ) n0)) C dX8_init_31 rfl 0 rfl ?_
  refine k_sipush (nw := (nvX8_3 (kgcl Γ) n0)) (v := 1829) C dX8_init_32 rfl (by decide) ?_
  refine k_newa (nw := (nvX8_3 (kgcl Γ) n0)) (t := 0) (ty := .int) (N := 1829) (z := (1829, .inl (fun _ => 0))) C dX8_init_35 rfl rfl gwt1_101 (fun _ => rfl) k_rI (fun _ => rfl) (fun _ _ => rfl) (by decide) (by decide) (by decide) ⟨Nat.le_of_ble_eq_true rfl, Nat.le_of_ble_eq_true rfl⟩ (lnX8_3 _ _) (Or.inl hk) ?_
  refine k_putF (nw := (nvX8_4 (kgcl Γ) n0)) (ci := 8) (j := 4) (CC := RX8) (T := TX8) (N := 21) (ty0 := tyX8) (ty := (.array .int)) (fs := [.int 0, .ref (n0 + 0), .ref (n0 + 1), .ref (n0 + 2), .null, .int 0, .null, .int 0, .int 0, .int 0, .int 0, .null, .int 0, .null, .null, .null, .int 0, .int 0, .int 0, .null, .null]) C hin dX8_init_37 rfl rfl inGX8 (by decide) gwt4_203 tyX8_ok nmX8 rfl (tyX8_ok 4 (by decide)) rfl hk rfl (Nat.le_of_ble_eq_true rfl) (fun _ => ⟨rfl, rfl⟩) ?_
  refine k_aload_n (nw := (nvX8_4 (kgcl Γ) n0)) C dX8_init_40 rfl 0 rfl ?_
  refine k_sipush (nw := (nvX8_4 (kgcl Γ) n0)) (v := 160) C dX8_init_41 rfl (by decide) ?_
  refine k_newa (nw := (nvX8_4 (kgcl Γ) n0)) (t := 0) (ty := .int) (N := 160) (z := (160, .inl (fun _ => 0))) C dX8_init_44 rfl rfl gwt1_101 (fun _ => rfl) k_rI (fun _ => rfl) (fun _ _ => rfl) (by decide) (by decide) (by decide) ⟨Nat.le_of_ble_eq_true rfl, Nat.le_of_ble_eq_true rfl⟩ (lnX8_4 _ _) (Or.inl hk) ?_
  refine k_putF (nw := (nvX8_5 (kgcl Γ) n0)) (ci := 8) (j := 6) (CC := RX8) (T := TX8) (N := 21) (ty0 := tyX8) (ty := (.array .int)) (fs := [.int 0, .ref (n0 + 0), .ref (n0 + 1), .ref (n0 + 2), .ref (n0 + 3), .int 0, .null, .int 0, .int 0, .int 0, .int 0, .null, .int 0, .null, .null, .null, .int 0, .int 0, .int 0, .null, .null]) C hin dX8_init_46 rfl rfl inGX8 (by decide) gwt4_205 tyX8_ok nmX8 rfl (tyX8_ok 6 (by decide)) rfl hk rfl (Nat.le_of_ble_eq_true rfl) (fun _ => ⟨rfl, rfl⟩) ?_
  refine k_aload_n (nw := (nvX8_5 (kgcl Γ) n0)) C dX8_init_49 rfl 0 rfl ?_
  refine k_bipush (nw := (nvX8_5 (kgcl Γ) n0)) (v := 36) C dX8_init_50 rfl (by decide) ?_
  refine k_newa (nw := (nvX8_5 (kgcl Γ) n0)) (t := 0) (ty := .int) (N := 36) (z := (36, .inl (fun _ => 0))) C dX8_init_52 rfl rfl gwt1_101 (fun _ => rfl) k_rI (fun _ => rfl) (fun _ _ => rfl) (by decide) (by decide) (by decide) ⟨Nat.le_of_ble_eq_true rfl, Nat.le_of_ble_eq_true rfl⟩ (lnX8_5 _ _) (Or.inl hk) ?_
  refine k_putF (nw := (nvX8_6 (kgcl Γ) n0)) (ci := 8) (j := 11) (CC := RX8) (T := TX8) (N := 21) (ty0 := tyX8) (ty := (.array .int)) (fs := [.int 0, .ref (n0 + 0), .ref (n0 + 1), .ref (n0 + 2), .ref (n0 + 3), .int 0, .ref (n0 + 4), .int 0, .int 0, .int 0, .int 0, .null, .int 0, .null, .null, .null, .int 0, .int 0, .int 0, .null, .null]) C hin dX8_init_54 rfl rfl inGX8 (by decide) gwt4_210 tyX8_ok nmX8 rfl (tyX8_ok 11 (by decide)) rfl hk rfl (Nat.le_of_ble_eq_true rfl) (fun _ => ⟨rfl, rfl⟩) ?_
  refine k_aload_n (nw := (nvX8_6 (kgcl Γ) n0)) C dX8_init_57 rfl 0 rfl ?_
  refine k_iconst (nw := (nvX8_6 (kgcl Γ) n0)) (v := 4) C dX8_init_58 rfl (by decide) ?_
  refine k_newa (nw := (nvX8_6 (kgcl Γ) n0)) (t := 0) (ty := .int) (N := 4) (z := (4, .inl (fun _ => 0))) C dX8_init_59 rfl rfl gwt1_101 (fun _ => rfl) k_rI (fun _ => rfl) (fun _ _ => rfl) (by decide) (by decide) (by decide) ⟨Nat.le_of_ble_eq_true rfl, Nat.le_of_ble_eq_true rfl⟩ (lnX8_6 _ _) (Or.inl hk) ?_
  refine k_putF (nw := (nvX8_7 (kgcl Γ) n0)) (ci := 8) (j := 13) (CC := RX8) (T := TX8) (N := 21) (ty0 := tyX8) (ty := (.array .int)) (fs := [.int 0, .ref (n0 + 0), .ref (n0 + 1), .ref (n0 + 2), .ref (n0 + 3), .int 0, .ref (n0 + 4), .int 0, .int 0, .int 0, .int 0, .ref (n0 + 5), .int 0, .null, .null, .null, .int 0, .int 0, .int 0, .null, .null]) C hin dX8_init_61 rfl rfl inGX8 (by decide) gwt4_212 tyX8_ok nmX8 rfl (tyX8_ok 13 (by decide)) rfl hk rfl (Nat.le_of_ble_eq_true rfl) (fun _ => ⟨rfl, rfl⟩) ?_
  refine k_aload_n (nw := (nvX8_7 (kgcl Γ) n0)) C dX8_init_64 rfl 0 rfl ?_
  refine k_iconst (nw := (nvX8_7 (kgcl Γ) n0)) (v := 4) C dX8_init_65 rfl (by decide) ?_
  refine k_newa (nw := (nvX8_7 (kgcl Γ) n0)) (t := 0) (ty := .int) (N := 4) (z := (4, .inl (fun _ => 0))) C dX8_init_66 rfl rfl gwt1_101 (fun _ => rfl) k_rI (fun _ => rfl) (fun _ _ => rfl) (by decide) (by decide) (by decide) ⟨Nat.le_of_ble_eq_true rfl, Nat.le_of_ble_eq_true rfl⟩ (lnX8_7 _ _) (Or.inl hk) ?_
  refine k_putF (nw := (nvX8_8 (kgcl Γ) n0)) (ci := 8) (j := 14) (CC := RX8) (T := TX8) (N := 21) (ty0 := tyX8) (ty := (.array .int)) (fs := [.int 0, .ref (n0 + 0), .ref (n0 + 1), .ref (n0 + 2), .ref (n0 + 3), .int 0, .ref (n0 + 4), .int 0, .int 0, .int 0, .int 0, .ref (n0 + 5), .int 0, .ref (n0 + 6), .null, .null, .int 0, .int 0, .int 0, .null, .null]) C hin dX8_init_68 rfl rfl inGX8 (by decide) gwt4_213 tyX8_ok nmX8 rfl (tyX8_ok 14 (by decide)) rfl hk rfl (Nat.le_of_ble_eq_true rfl) (fun _ => ⟨rfl, rfl⟩) ?_
  refine k_aload_n (nw := (nvX8_8 (kgcl Γ) n0)) C dX8_init_71 rfl 0 rfl ?_
  refine k_bipush (nw := (nvX8_8 (kgcl Γ) n0)) (v := 96) C dX8_init_72 rfl (by decide) ?_
  refine k_newa (nw := (nvX8_8 (kgcl Γ) n0)) (t := 2) (ty := .long) (N := 96) (z := (96, .inr (.inl (fun _ => 0)))) C dX8_init_74 rfl rfl gwt2_33 (fun _ => rfl) k_rJ (fun _ => rfl) (fun _ _ => rfl) (by decide) (by decide) (by decide) ⟨Nat.le_of_ble_eq_true rfl, Nat.le_of_ble_eq_true rfl⟩ (lnX8_8 _ _) (Or.inl hk) ?_
  refine k_putF (nw := (nvX8_9 (kgcl Γ) n0)) (ci := 8) (j := 15) (CC := RX8) (T := TX8) (N := 21) (ty0 := tyX8) (ty := (.array .long)) (fs := [.int 0, .ref (n0 + 0), .ref (n0 + 1), .ref (n0 + 2), .ref (n0 + 3), .int 0, .ref (n0 + 4), .int 0, .int 0, .int 0, .int 0, .ref (n0 + 5), .int 0, .ref (n0 + 6), .ref (n0 + 7), .null, .int 0, .int 0, .int 0, .null, .null]) C hin dX8_init_76 rfl rfl inGX8 (by decide) gwt4_214 tyX8_ok nmX8 rfl (tyX8_ok 15 (by decide)) rfl hk rfl (Nat.le_of_ble_eq_true rfl) (fun _ => ⟨rfl, rfl⟩) ?_
  refine k_aload_n (nw := (nvX8_9 (kgcl Γ) n0)) C dX8_init_79 rfl 0 rfl ?_
  refine k_iconst (nw := (nvX8_9 (kgcl Γ) n0)) (v := (-1)) C dX8_init_80 rfl (by decide) ?_
  refine k_putV (nw := (nvX8_9 (kgcl Γ) n0)) (j := 17) (fs := [.int 0, .ref (n0 + 0), .ref (n0 + 1), .ref (n0 + 2), .ref (n0 + 3), .int 0, .ref (n0 + 4), .int 0, .int 0, .int 0, .int 0, .ref (n0 + 5), .int 0, .ref (n0 + 6), .ref (n0 + 7), .ref (n0 + 8), .int 0, .int 0, .int 0, .null, .null]) C dX8_init_81 rfl lpX8_38 hk rfl (Nat.le_of_ble_eq_true rfl) (fun _ => ⟨rfl, rfl⟩) ?_
  refine k_aload_n (nw := (nvX8_9 (kgcl Γ) n0)) C dX8_init_84 rfl 0 rfl ?_
  refine k_bipush (nw := (nvX8_9 (kgcl Γ) n0)) (v := 9) C dX8_init_85 rfl (by decide) ?_
  refine k_newa (nw := (nvX8_9 (kgcl Γ) n0)) (t := 0) (ty := .int) (N := 9) (z := (9, .inl (fun _ => 0))) C dX8_init_87 rfl rfl gwt1_101 (fun _ => rfl) k_rI (fun _ => rfl) (fun _ _ => rfl) (by decide) (by decide) (by decide) ⟨Nat.le_of_ble_eq_true rfl, Nat.le_of_ble_eq_true rfl⟩ (lnX8_9 _ _) (Or.inl hk) ?_
  refine k_putF (nw := (nvX8_10 (kgcl Γ) n0)) (ci := 8) (j := 19) (CC := RX8) (T := TX8) (N := 21) (ty0 := tyX8) (ty := (.array .int)) (fs := [.int 0, .ref (n0 + 0), .ref (n0 + 1), .ref (n0 + 2), .ref (n0 + 3), .int 0, .ref (n0 + 4), .int 0, .int 0, .int 0, .int 0, .ref (n0 + 5), .int 0, .ref (n0 + 6), .ref (n0 + 7), .ref (n0 + 8), .int 0, .int (-1), .int 0, .null, .null]) C hin dX8_init_89 rfl rfl inGX8 (by decide) gwt4_218 tyX8_ok nmX8 rfl (tyX8_ok 19 (by decide)) rfl hk rfl (Nat.le_of_ble_eq_true rfl) (fun _ => ⟨rfl, rfl⟩) ?_
  refine k_aload_n (nw := (nvX8_10 (kgcl Γ) n0)) C dX8_init_92 rfl 0 rfl ?_
  refine k_bipush (nw := (nvX8_10 (kgcl Γ) n0)) (v := 24) C dX8_init_93 rfl (by decide) ?_
  refine k_newa (nw := (nvX8_10 (kgcl Γ) n0)) (t := 2) (ty := .long) (N := 24) (z := (24, .inr (.inl (fun _ => 0)))) C dX8_init_95 rfl rfl gwt2_33 (fun _ => rfl) k_rJ (fun _ => rfl) (fun _ _ => rfl) (by decide) (by decide) (by decide) ⟨Nat.le_of_ble_eq_true rfl, Nat.le_of_ble_eq_true rfl⟩ (lnX8_10 _ _) (Or.inl hk) ?_
  refine k_putF (nw := (nvX8_11 (kgcl Γ) n0)) (ci := 8) (j := 20) (CC := RX8) (T := TX8) (N := 21) (ty0 := tyX8) (ty := (.array .long)) (fs := [.int 0, .ref (n0 + 0), .ref (n0 + 1), .ref (n0 + 2), .ref (n0 + 3), .int 0, .ref (n0 + 4), .int 0, .int 0, .int 0, .int 0, .ref (n0 + 5), .int 0, .ref (n0 + 6), .ref (n0 + 7), .ref (n0 + 8), .int 0, .int (-1), .int 0, .ref (n0 + 9), .null]) C hin dX8_init_97 rfl rfl inGX8 (by decide) gwt4_219 tyX8_ok nmX8 rfl (tyX8_ok 20 (by decide)) rfl hk rfl (Nat.le_of_ble_eq_true rfl) (fun _ => ⟨rfl, rfl⟩) ?_
  refine k_aload_n (nw := (nvX8_11 (kgcl Γ) n0)) C dX8_init_100 rfl 0 rfl ?_
  refine k_get (nw := (nvX8_11 (kgcl Γ) n0)) (q := k0) (ci := 8) (fs := [.int 0, .ref (n0 + 0), .ref (n0 + 1), .ref (n0 + 2), .ref (n0 + 3), .int 0, .ref (n0 + 4), .int 0, .int 0, .int 0, .int 0, .ref (n0 + 5), .int 0, .ref (n0 + 6), .ref (n0 + 7), .ref (n0 + 8), .int 0, .int (-1), .int 0, .ref (n0 + 9), .ref (n0 + 10)]) (v := .ref (n0 + 0)) C dX8_init_101 rfl lkX8_7 (by omega) kst_k rfl ?_
  refine k_iconst (nw := (nvX8_11 (kgcl Γ) n0)) (v := 5) C dX8_init_104 rfl (by decide) ?_
  refine k_iconst (nw := (nvX8_11 (kgcl Γ) n0)) (v := 1) C dX8_init_105 rfl (by decide) ?_
  refine k_iast (nw := (nvX8_11 (kgcl Γ) n0)) (i := 0) (N := 1829) (f := (fun _ => 0)) C dX8_init_106 rfl hk rfl (by decide) ?_
  refine k_iconst (nw := (nvX8_12 (kgcl Γ) n0)) (v := 0) C dX8_init_107 rfl (by decide) ?_
  refine k_istore_n (nw := (nvX8_12 (kgcl Γ) n0)) (lv' := [(1, .int 0), (0, .ref k0)]) C dX8_init_108 rfl (by decide) rfl ?_
  refine k_iload_n (nw := (nvX8_12 (kgcl Γ) n0)) C dX8_init_109 rfl 0 rfl ?_
  refine k_iconst (nw := (nvX8_12 (kgcl Γ) n0)) (v := 4) C dX8_init_110 rfl (by decide) ?_
  refine k_ge (nw := (nvX8_12 (kgcl Γ) n0)) (tgt := 127) C dX8_init_111 rfl (by decide) (fun q => absurd q (by decide)) (fun _ => ?_)
  refine k_aload_n (nw := (nvX8_12 (kgcl Γ) n0)) C dX8_init_114 rfl 1 rfl ?_
  refine k_get (nw := (nvX8_12 (kgcl Γ) n0)) (q := k0) (ci := 8) (fs := [.int 0, .ref (n0 + 0), .ref (n0 + 1), .ref (n0 + 2), .ref (n0 + 3), .int 0, .ref (n0 + 4), .int 0, .int 0, .int 0, .int 0, .ref (n0 + 5), .int 0, .ref (n0 + 6), .ref (n0 + 7), .ref (n0 + 8), .int 0, .int (-1), .int 0, .ref (n0 + 9), .ref (n0 + 10)]) (v := .ref (n0 + 6)) C dX8_init_115 rfl lkX8_28 (by omega) kst_k rfl ?_
  refine k_iload_n (nw := (nvX8_12 (kgcl Γ) n0)) C dX8_init_118 rfl 0 rfl ?_
  refine k_iconst (nw := (nvX8_12 (kgcl Γ) n0)) (v := (-1)) C dX8_init_119 rfl (by decide) ?_
  refine k_iast (nw := (nvX8_12 (kgcl Γ) n0)) (i := 6) (N := 4) (f := (fun _ => 0)) C dX8_init_120 rfl hk rfl (by decide) ?_
  refine k_iinc (nw := (nvX8_13 (kgcl Γ) n0)) (d := 1) (v := 1) (lv' := [(1, .int 1), (0, .ref k0)]) C dX8_init_121 rfl (by decide) 0 rfl (by decide) (by decide) rfl ?_
  refine k_goto (nw := (nvX8_13 (kgcl Γ) n0)) (pc' := 109) C dX8_init_124 (by decide) ?_
  refine k_iload_n (nw := (nvX8_13 (kgcl Γ) n0)) C dX8_init_109 rfl 0 rfl ?_
  refine k_iconst (nw := (nvX8_13 (kgcl Γ) n0)) (v := 4) C dX8_init_110 rfl (by decide) ?_
  refine k_ge (nw := (nvX8_13 (kgcl Γ) n0)) (tgt := 127) C dX8_init_111 rfl (by decide) (fun q => absurd q (by decide)) (fun _ => ?_)
  refine k_aload_n (nw := (nvX8_13 (kgcl Γ) n0)) C dX8_init_114 rfl 1 rfl ?_
  refine k_get (nw := (nvX8_13 (kgcl Γ) n0)) (q := k0) (ci := 8) (fs := [.int 0, .ref (n0 + 0), .ref (n0 + 1), .ref (n0 + 2), .ref (n0 + 3), .int 0, .ref (n0 + 4), .int 0, .int 0, .int 0, .int 0, .ref (n0 + 5), .int 0, .ref (n0 + 6), .ref (n0 + 7), .ref (n0 + 8), .int 0, .int (-1), .int 0, .ref (n0 + 9), .ref (n0 + 10)]) (v := .ref (n0 + 6)) C dX8_init_115 rfl lkX8_28 (by omega) kst_k rfl ?_
  refine k_iload_n (nw := (nvX8_13 (kgcl Γ) n0)) C dX8_init_118 rfl 0 rfl ?_
  refine k_iconst (nw := (nvX8_13 (kgcl Γ) n0)) (v := (-1)) C dX8_init_119 rfl (by decide) ?_
  refine k_iast (nw := (nvX8_13 (kgcl Γ) n0)) (i := 6) (N := 4) (f := (upd (fun _ => 0) 0 (-1))) C dX8_init_120 rfl hk rfl (by decide) ?_
  refine k_iinc (nw := (nvX8_14 (kgcl Γ) n0)) (d := 1) (v := 2) (lv' := [(1, .int 2), (0, .ref k0)]) C dX8_init_121 rfl (by decide) 0 rfl (by decide) (by decide) rfl ?_
  refine k_goto (nw := (nvX8_14 (kgcl Γ) n0)) (pc' := 109) C dX8_init_124 (by decide) ?_
  refine k_iload_n (nw := (nvX8_14 (kgcl Γ) n0)) C dX8_init_109 rfl 0 rfl ?_
  refine k_iconst (nw := (nvX8_14 (kgcl Γ) n0)) (v := 4) C dX8_init_110 rfl (by decide) ?_
  refine k_ge (nw := (nvX8_14 (kgcl Γ) n0)) (tgt := 127) C dX8_init_111 rfl (by decide) (fun q => absurd q (by decide)) (fun _ => ?_)
  refine k_aload_n (nw := (nvX8_14 (kgcl Γ) n0)) C dX8_init_114 rfl 1 rfl ?_
  refine k_get (nw := (nvX8_14 (kgcl Γ) n0)) (q := k0) (ci := 8) (fs := [.int 0, .ref (n0 + 0), .ref (n0 + 1), .ref (n0 + 2), .ref (n0 + 3), .int 0, .ref (n0 + 4), .int 0, .int 0, .int 0, .int 0, .ref (n0 + 5), .int 0, .ref (n0 + 6), .ref (n0 + 7), .ref (n0 + 8), .int 0, .int (-1), .int 0, .ref (n0 + 9), .ref (n0 + 10)]) (v := .ref (n0 + 6)) C dX8_init_115 rfl lkX8_28 (by omega) kst_k rfl ?_
  refine k_iload_n (nw := (nvX8_14 (kgcl Γ) n0)) C dX8_init_118 rfl 0 rfl ?_
  refine k_iconst (nw := (nvX8_14 (kgcl Γ) n0)) (v := (-1)) C dX8_init_119 rfl (by decide) ?_
  refine k_iast (nw := (nvX8_14 (kgcl Γ) n0)) (i := 6) (N := 4) (f := (upd (upd (fun _ => 0) 0 (-1)) 1 (-1))) C dX8_init_120 rfl hk rfl (by decide) ?_
  refine k_iinc (nw := (nvX8_15 (kgcl Γ) n0)) (d := 1) (v := 3) (lv' := [(1, .int 3), (0, .ref k0)]) C dX8_init_121 rfl (by decide) 0 rfl (by decide) (by decide) rfl ?_
  refine k_goto (nw := (nvX8_15 (kgcl Γ) n0)) (pc' := 109) C dX8_init_124 (by decide) ?_
  refine k_iload_n (nw := (nvX8_15 (kgcl Γ) n0)) C dX8_init_109 rfl 0 rfl ?_
  refine k_iconst (nw := (nvX8_15 (kgcl Γ) n0)) (v := 4) C dX8_init_110 rfl (by decide) ?_
  refine k_ge (nw := (nvX8_15 (kgcl Γ) n0)) (tgt := 127) C dX8_init_111 rfl (by decide) (fun q => absurd q (by decide)) (fun _ => ?_)
  refine k_aload_n (nw := (nvX8_15 (kgcl Γ) n0)) C dX8_init_114 rfl 1 rfl ?_
  refine k_get (nw := (nvX8_15 (kgcl Γ) n0)) (q := k0) (ci := 8) (fs := [.int 0, .ref (n0 + 0), .ref (n0 + 1), .ref (n0 + 2), .ref (n0 + 3), .int 0, .ref (n0 + 4), .int 0, .int 0, .int 0, .int 0, .ref (n0 + 5), .int 0, .ref (n0 + 6), .ref (n0 + 7), .ref (n0 + 8), .int 0, .int (-1), .int 0, .ref (n0 + 9), .ref (n0 + 10)]) (v := .ref (n0 + 6)) C dX8_init_115 rfl lkX8_28 (by omega) kst_k rfl ?_
  refine k_iload_n (nw := (nvX8_15 (kgcl Γ) n0)) C dX8_init_118 rfl 0 rfl ?_
  refine k_iconst (nw := (nvX8_15 (kgcl Γ) n0)) (v := (-1)) C dX8_init_119 rfl (by decide) ?_
  refine k_iast (nw := (nvX8_15 (kgcl Γ) n0)) (i := 6) (N := 4) (f := (upd (upd (upd (fun _ => 0) 0 (-1)) 1 (-1)) 2 (-1))) C dX8_init_120 rfl hk rfl (by decide) ?_
  refine k_iinc (nw := (nvX8_16 (kgcl Γ) n0)) (d := 1) (v := 4) (lv' := [(1, .int 4), (0, .ref k0)]) C dX8_init_121 rfl (by decide) 0 rfl (by decide) (by decide) rfl ?_
  refine k_goto (nw := (nvX8_16 (kgcl Γ) n0)) (pc' := 109) C dX8_init_124 (by decide) ?_
  refine k_iload_n (nw := (nvX8_16 (kgcl Γ) n0)) C dX8_init_109 rfl 0 rfl ?_
  refine k_iconst (nw := (nvX8_16 (kgcl Γ) n0)) (v := 4) C dX8_init_110 rfl (by decide) ?_
  refine k_ge (nw := (nvX8_16 (kgcl Γ) n0)) (tgt := 127) C dX8_init_111 rfl (by decide) (fun _ => ?_) (fun q => absurd (by decide) q)
  refine k_iconst (nw := (nvX8_16 (kgcl Γ) n0)) (v := 0) C dX8_init_127 rfl (by decide) ?_
  refine k_istore_n (nw := (nvX8_16 (kgcl Γ) n0)) (lv' := [(1, .int 0), (0, .ref k0)]) C dX8_init_128 rfl (by decide) rfl ?_
  have h9 := kc_X8_loop C hk E 81 0 rfl
  rw [nvX8_k, ← nvX8_kS_0] at h9
  exact h9
