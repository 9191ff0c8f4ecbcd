/-! X7 -/
def dX7 : va_E := .inr (7, [.null, .null, .int 0, .null, .null, .null])
def oX7f (n0 : Nat) : List Value := [.ref (n0 + 0), .ref (n0 + 32), .int 0, .ref (n0 + 76), .ref (n0 + 64), .ref (n0 + 75)]
def oX7 (n0 : Nat) : va_E := .inr (7, oX7f n0)
theorem k_dfX7 : ∀ j, j < 6 → defaultValue (tyX7 j) = vp_V [.null, .null, .int 0, .null, .null, .null] j := by
  intro j hj
  match j, hj with
  | 0, _ => rfl
  | 1, _ => rfl
  | 2, _ => rfl
  | 3, _ => rfl
  | 4, _ => rfl
  | 5, _ => rfl
  | j + 6, h => exact absurd h (by omega)
def nvX7_0 (_ : Nat → ClassId) (_ : Nat) : List va_E := []
theorem lnX7_0 (cl : Nat → ClassId) (n0 : Nat) : (nvX7_0 cl n0).length = 0 := rfl
def nvX7_1 (cl : Nat → ClassId) (n0 : Nat) : List va_E := nvX7_0 cl n0 ++ [dX4]
theorem lnX7_1 (cl : Nat → ClassId) (n0 : Nat) : (nvX7_1 cl n0).length = 1 := by
  unfold nvX7_1
  simp [lnX7_0]
def nvX7_2 (cl : Nat → ClassId) (n0 : Nat) : List va_E := nvX7_0 cl n0 ++ (oX4 (n0 + 1) :: nwX4 cl (n0 + 1))
theorem lnX7_2 (cl : Nat → ClassId) (n0 : Nat) : (nvX7_2 cl n0).length = 32 := by
  unfold nvX7_2
  rw [List.length_append, List.length_cons, lnX4, lnX7_0]
def nvX7_3 (cl : Nat → ClassId) (n0 : Nat) : List va_E := nvX7_2 cl n0 ++ [dX4]
theorem lnX7_3 (cl : Nat → ClassId) (n0 : Nat) : (nvX7_3 cl n0).length = 33 := by
  unfold nvX7_3
  simp [lnX7_2]
def nvX7_4 (cl : Nat → ClassId) (n0 : Nat) : List va_E := nvX7_2 cl n0 ++ (oX4 (n0 + 33) :: nwX4 cl (n0 + 33))
theorem lnX7_4 (cl : Nat → ClassId) (n0 : Nat) : (nvX7_4 cl n0).length = 64 := by
  unfold nvX7_4
  rw [List.length_append, List.length_cons, lnX4, lnX7_2]
def nvX7_5 (cl : Nat → ClassId) (n0 : Nat) : List va_E := nvX7_4 cl n0 ++ [dX5]
theorem lnX7_5 (cl : Nat → ClassId) (n0 : Nat) : (nvX7_5 cl n0).length = 65 := by
  unfold nvX7_5
  simp [lnX7_4]
def nvX7_6 (cl : Nat → ClassId) (n0 : Nat) : List va_E := nvX7_4 cl n0 ++ (oX5 (n0 + 65) :: nwX5 cl (n0 + 65))
theorem lnX7_6 (cl : Nat → ClassId) (n0 : Nat) : (nvX7_6 cl n0).length = 75 := by
  unfold nvX7_6
  rw [List.length_append, List.length_cons, lnX5, lnX7_4]
def nvX7_7 (cl : Nat → ClassId) (n0 : Nat) : List va_E := nvX7_6 cl n0 ++ [.inl (cl 4, 4, .inr (.inr (.inr (.inr (fun _ => none)))))]
theorem lnX7_7 (cl : Nat → ClassId) (n0 : Nat) : (nvX7_7 cl n0).length = 76 := by
  unfold nvX7_7
  simp [lnX7_6]
def nvX7_8 (cl : Nat → ClassId) (n0 : Nat) : List va_E := nvX7_7 cl n0 ++ [dX6]
theorem lnX7_8 (cl : Nat → ClassId) (n0 : Nat) : (nvX7_8 cl n0).length = 77 := by
  unfold nvX7_8
  simp [lnX7_7]
def nvX7_9 (cl : Nat → ClassId) (n0 : Nat) : List va_E := nvX7_7 cl n0 ++ (oX6 (n0 + 77) (n0 + 1) (n0 + 23) :: nwX6 cl (n0 + 77))
theorem lnX7_9 (cl : Nat → ClassId) (n0 : Nat) : (nvX7_9 cl n0).length = 104 := by
  unfold nvX7_9
  rw [List.length_append, List.length_cons, lnX6, lnX7_7]
def nvX7_10 (cl : Nat → ClassId) (n0 : Nat) : List va_E := nvX7_9 cl n0 ++ [dX3]
theorem lnX7_10 (cl : Nat → ClassId) (n0 : Nat) : (nvX7_10 cl n0).length = 105 := by
  unfold nvX7_10
  simp [lnX7_9]
def nvX7_11 (cl : Nat → ClassId) (n0 : Nat) : List va_E := nvX7_9 cl n0 ++ (oX3 (n0 + 105) :: nwX3 cl (n0 + 105))
theorem lnX7_11 (cl : Nat → ClassId) (n0 : Nat) : (nvX7_11 cl n0).length = 106 := by
  unfold nvX7_11
  rw [List.length_append, List.length_cons, lnX3, lnX7_9]
theorem e75X7_7 (cl : Nat → ClassId) (n0 : Nat) : (nvX7_7 cl n0)[75]? = some (.inl (cl 4, 4, .inr (.inr (.inr (.inr (fun _ => none)))))) := by
  unfold nvX7_7
  rw [List.getElem?_append_right (by rw [lnX7_6]; decide), lnX7_6]
  rfl
theorem e75X7_8 (cl : Nat → ClassId) (n0 : Nat) : (nvX7_8 cl n0)[75]? = some (.inl (cl 4, 4, .inr (.inr (.inr (.inr (fun _ => none)))))) := by
  unfold nvX7_8
  rw [List.getElem?_append_left (by rw [lnX7_7]; decide), e75X7_7]
theorem e75X7_9 (cl : Nat → ClassId) (n0 : Nat) : (nvX7_9 cl n0)[75]? = some (.inl (cl 4, 4, .inr (.inr (.inr (.inr (fun _ => none)))))) := by
  unfold nvX7_9
  rw [List.getElem?_append_left (by rw [lnX7_7]; decide), e75X7_7]
theorem e75X7_10 (cl : Nat → ClassId) (n0 : Nat) : (nvX7_10 cl n0)[75]? = some (.inl (cl 4, 4, .inr (.inr (.inr (.inr (fun _ => none)))))) := by
  unfold nvX7_10
  rw [List.getElem?_append_left (by rw [lnX7_9]; decide), e75X7_9]
theorem e75X7_11 (cl : Nat → ClassId) (n0 : Nat) : (nvX7_11 cl n0)[75]? = some (.inl (cl 4, 4, .inr (.inr (.inr (.inr (fun _ => none)))))) := by
  unfold nvX7_11
  rw [List.getElem?_append_left (by rw [lnX7_9]; decide), e75X7_9]
theorem ejX7_11 (cl : Nat → ClassId) (n0 : Nat) : (nvX7_11 cl n0)[104]? = some (.inr (3, oX3f (n0 + 105))) := by
  unfold nvX7_11
  rw [List.getElem?_append_right (by rw [lnX7_9]; decide), lnX7_9]
  rfl
def nvX7_12 (cl : Nat → ClassId) (n0 : Nat) : List va_E := (nvX7_11 cl n0).set 75 (.inl (cl 4, 4, .inr (.inr (.inr (.inr (va_up (fun _ => none) 0 (some (n0 + 104))))))))
theorem lnX7_12 (cl : Nat → ClassId) (n0 : Nat) : (nvX7_12 cl n0).length = 106 := by
  unfold nvX7_12
  rw [List.length_set, lnX7_11]
def nvX7_13 (cl : Nat → ClassId) (n0 : Nat) : List va_E := nvX7_12 cl n0 ++ [dX3]
theorem lnX7_13 (cl : Nat → ClassId) (n0 : Nat) : (nvX7_13 cl n0).length = 107 := by
  unfold nvX7_13
  simp [lnX7_12]
def nvX7_14 (cl : Nat → ClassId) (n0 : Nat) : List va_E := nvX7_12 cl n0 ++ (oX3 (n0 + 107) :: nwX3 cl (n0 + 107))
theorem lnX7_14 (cl : Nat → ClassId) (n0 : Nat) : (nvX7_14 cl n0).length = 108 := by
  unfold nvX7_14
  rw [List.length_append, List.length_cons, lnX3, lnX7_12]
theorem e75X7_12 (cl : Nat → ClassId) (n0 : Nat) : (nvX7_12 cl n0)[75]? = some (.inl (cl 4, 4, .inr (.inr (.inr (.inr (va_up (fun _ => none) 0 (some (n0 + 104)))))))) := by
  unfold nvX7_12
  rw [List.getElem?_set, if_pos rfl, if_pos (by rw [lnX7_11]; decide)]
theorem e75X7_13 (cl : Nat → ClassId) (n0 : Nat) : (nvX7_13 cl n0)[75]? = some (.inl (cl 4, 4, .inr (.inr (.inr (.inr (va_up (fun _ => none) 0 (some (n0 + 104)))))))) := by
  unfold nvX7_13
  rw [List.getElem?_append_left (by rw [lnX7_12]; decide), e75X7_12]
theorem e75X7_14 (cl : Nat → ClassId) (n0 : Nat) : (nvX7_14 cl n0)[75]? = some (.inl (cl 4, 4, .inr (.inr (.inr (.inr (va_up (fun _ => none) 0 (some (n0 + 104)))))))) := by
  unfold nvX7_14
  rw [List.getElem?_append_left (by rw [lnX7_12]; decide), e75X7_12]
theorem ejX7_14 (cl : Nat → ClassId) (n0 : Nat) : (nvX7_14 cl n0)[106]? = some (.inr (3, oX3f (n0 + 107))) := by
  unfold nvX7_14
  rw [List.getElem?_append_right (by rw [lnX7_12]; decide), lnX7_12]
  rfl
def nvX7_15 (cl : Nat → ClassId) (n0 : Nat) : List va_E := (nvX7_14 cl n0).set 75 (.inl (cl 4, 4, .inr (.inr (.inr (.inr (va_up (va_up (fun _ => none) 0 (some (n0 + 104))) 1 (some (n0 + 106))))))))
theorem lnX7_15 (cl : Nat → ClassId) (n0 : Nat) : (nvX7_15 cl n0).length = 108 := by
  unfold nvX7_15
  rw [List.length_set, lnX7_14]
def nvX7_16 (cl : Nat → ClassId) (n0 : Nat) : List va_E := nvX7_15 cl n0 ++ [dX3]
theorem lnX7_16 (cl : Nat → ClassId) (n0 : Nat) : (nvX7_16 cl n0).length = 109 := by
  unfold nvX7_16
  simp [lnX7_15]
def nvX7_17 (cl : Nat → ClassId) (n0 : Nat) : List va_E := nvX7_15 cl n0 ++ (oX3 (n0 + 109) :: nwX3 cl (n0 + 109))
theorem lnX7_17 (cl : Nat → ClassId) (n0 : Nat) : (nvX7_17 cl n0).length = 110 := by
  unfold nvX7_17
  rw [List.length_append, List.length_cons, lnX3, lnX7_15]
theorem e75X7_15 (cl : Nat → ClassId) (n0 : Nat) : (nvX7_15 cl n0)[75]? = some (.inl (cl 4, 4, .inr (.inr (.inr (.inr (va_up (va_up (fun _ => none) 0 (some (n0 + 104))) 1 (some (n0 + 106)))))))) := by
  unfold nvX7_15
  rw [List.getElem?_set, if_pos rfl, if_pos (by rw [lnX7_14]; decide)]
theorem e75X7_16 (cl : Nat → ClassId) (n0 : Nat) : (nvX7_16 cl n0)[75]? = some (.inl (cl 4, 4, .inr (.inr (.inr (.inr (va_up (va_up (fun _ => none) 0 (some (n0 + 104))) 1 (some (n0 + 106)))))))) := by
  unfold nvX7_16
  rw [List.getElem?_append_left (by rw [lnX7_15]; decide), e75X7_15]
theorem e75X7_17 (cl : Nat → ClassId) (n0 : Nat) : (nvX7_17 cl n0)[75]? = some (.inl (cl 4, 4, .inr (.inr (.inr (.inr (va_up (va_up (fun _ => none) 0 (some (n0 + 104))) 1 (some (n0 + 106)))))))) := by
  unfold nvX7_17
  rw [List.getElem?_append_left (by rw [lnX7_15]; decide), e75X7_15]
theorem ejX7_17 (cl : Nat → ClassId) (n0 : Nat) : (nvX7_17 cl n0)[108]? = some (.inr (3, oX3f (n0 + 109))) := by
  unfold nvX7_17
  rw [List.getElem?_append_right (by rw [lnX7_15]; decide), lnX7_15]
  rfl
def nvX7_18 (cl : Nat → ClassId) (n0 : Nat) : List va_E := (nvX7_17 cl n0).set 75 (.inl (cl 4, 4, .inr (.inr (.inr (.inr (va_up (va_up (va_up (fun _ => none) 0 (some (n0 + 104))) 1 (some (n0 + 106))) 2 (some (n0 + 108))))))))
theorem lnX7_18 (cl : Nat → ClassId) (n0 : Nat) : (nvX7_18 cl n0).length = 110 := by
  unfold nvX7_18
  rw [List.length_set, lnX7_17]
def nvX7_19 (cl : Nat → ClassId) (n0 : Nat) : List va_E := nvX7_18 cl n0 ++ [dX3]
theorem lnX7_19 (cl : Nat → ClassId) (n0 : Nat) : (nvX7_19 cl n0).length = 111 := by
  unfold nvX7_19
  simp [lnX7_18]
def nvX7_20 (cl : Nat → ClassId) (n0 : Nat) : List va_E := nvX7_18 cl n0 ++ (oX3 (n0 + 111) :: nwX3 cl (n0 + 111))
theorem lnX7_20 (cl : Nat → ClassId) (n0 : Nat) : (nvX7_20 cl n0).length = 112 := by
  unfold nvX7_20
  rw [List.length_append, List.length_cons, lnX3, lnX7_18]
theorem e75X7_18 (cl : Nat → ClassId) (n0 : Nat) : (nvX7_18 cl n0)[75]? = some (.inl (cl 4, 4, .inr (.inr (.inr (.inr (va_up (va_up (va_up (fun _ => none) 0 (some (n0 + 104))) 1 (some (n0 + 106))) 2 (some (n0 + 108)))))))) := by
  unfold nvX7_18
  rw [List.getElem?_set, if_pos rfl, if_pos (by rw [lnX7_17]; decide)]
theorem e75X7_19 (cl : Nat → ClassId) (n0 : Nat) : (nvX7_19 cl n0)[75]? = some (.inl (cl 4, 4, .inr (.inr (.inr (.inr (va_up (va_up (va_up (fun _ => none) 0 (some (n0 + 104))) 1 (some (n0 + 106))) 2 (some (n0 + 108)))))))) := by
  unfold nvX7_19
  rw [List.getElem?_append_left (by rw [lnX7_18]; decide), e75X7_18]
theorem e75X7_20 (cl : Nat → ClassId) (n0 : Nat) : (nvX7_20 cl n0)[75]? = some (.inl (cl 4, 4, .inr (.inr (.inr (.inr (va_up (va_up (va_up (fun _ => none) 0 (some (n0 + 104))) 1 (some (n0 + 106))) 2 (some (n0 + 108)))))))) := by
  unfold nvX7_20
  rw [List.getElem?_append_left (by rw [lnX7_18]; decide), e75X7_18]
theorem ejX7_20 (cl : Nat → ClassId) (n0 : Nat) : (nvX7_20 cl n0)[110]? = some (.inr (3, oX3f (n0 + 111))) := by
  unfold nvX7_20
  rw [List.getElem?_append_right (by rw [lnX7_18]; decide), lnX7_18]
  rfl
def nvX7_21 (cl : Nat → ClassId) (n0 : Nat) : List va_E := (nvX7_20 cl n0).set 75 (.inl (cl 4, 4, .inr (.inr (.inr (.inr (va_up (va_up (va_up (va_up (fun _ => none) 0 (some (n0 + 104))) 1 (some (n0 + 106))) 2 (some (n0 + 108))) 3 (some (n0 + 110))))))))
theorem lnX7_21 (cl : Nat → ClassId) (n0 : Nat) : (nvX7_21 cl n0).length = 112 := by
  unfold nvX7_21
  rw [List.length_set, lnX7_20]
def nwX7 (cl : Nat → ClassId) (n0 : Nat) : List va_E := nvX7_21 cl n0
theorem lnX7 (cl : Nat → ClassId) (n0 : Nat) : (nwX7 cl n0).length = 112 := lnX7_21 cl n0
theorem kgX7_9 : kgw RX7 9 yX4_init wsX4_init 1 0 := ⟨cX4_init, rfl, gwt1_31, gwt1_2, gwt1_30, rfl, by decide +kernel, Or.inr ⟨_, List.mem_of_getElem? (i := 0) rfl⟩⟩
theorem kgX7_25 : kgw RX7 25 yX5_init wsX5_init 1 0 := ⟨cX5_init, rfl, gwt1_173, gwt1_6, gwt1_172, rfl, by decide +kernel, Or.inr ⟨_, List.mem_of_getElem? (i := 4) rfl⟩⟩
theorem kgX7_46 : kgw RX7 46 yX6_init wsX6_init 3 2 := ⟨cX6_init, rfl, gwt1_218, gwt1_7, gwt1_217, rfl, by decide +kernel, Or.inl gwt1_216⟩
theorem kgX7_53 : kgw RX7 53 yX3_init wsX3_init 1 0 := ⟨cX3_init, rfl, gwt2_14, gwt1_8, gwt2_13, rfl, by decide +kernel, Or.inr ⟨_, List.mem_of_getElem? (i := 8) rfl⟩⟩
def wsX7_init : List Cond := .code yX7_init cX7_init 2 none :: G0
def rmX7_init : Room := { frames := 3, cells := 112, slots := 2105, locals := 62 }
set_option maxRecDepth 100000 in
set_option maxHeartbeats 4000000 in
theorem kc_X7 (l : Launch) (D : va_G) (cl : Nat → ClassId) (B : Nat) (ac0 : Nat → va_E) (k0 n0 : Nat) (hk : k0 < n0) : KC l D cl B yX7_init wsX7_init rmX7_init [.ref k0] ac0 k0 n0 dX7 (oX7 n0) (nwX7 cl n0) 2105 := by
  refine kc_of (cc := cX7_init) (nL := 2) rfl (by decide) rfl (Nat.le_of_ble_eq_true rfl) ?_
  intro Γ C hcl hin E
  subst hcl
  rw [lnX7] at E
  refine k_aload_n (nw := (nvX7_0 (kgcl Γ) n0)) C dX7_init_0 rfl 0 rfl ?_
  refine k_objInit (nw := (nvX7_0 (kgcl Γ) n0)) C dX7_init_1 rfl gwt1_24 gwt1_25 gwt1_26 ⟨Nat.le_of_ble_eq_true rfl, Nat.le_of_ble_eq_true rfl⟩ ?_
  refine k_aload_n (nw := (nvX7_0 (kgcl Γ) n0)) C dX7_init_4 rfl 0 rfl ?_
  refine k_new (nw := (nvX7_0 (kgcl Γ) n0)) (ci := 4) (CC := RX4) (T := TX4) (N := 3) (ty := tyX4) (fs := [.null, .null, .null]) C dX7_init_5 rfl rfl inGX4 tyX4_ok gwt1_27 gwt1_28 gwt1_2 (k_dfX4) (fun _ => rfl) ⟨Nat.le_of_ble_eq_true rfl, Nat.le_of_ble_eq_true rfl⟩ (lnX7_0 _ _) (Or.inl hk) ?_
  refine k_dup (nw := (nvX7_1 (kgcl Γ) n0)) C dX7_init_8 rfl rfl ?_
  refine k_call (nw := (nvX7_1 (kgcl Γ) n0)) (nv := nvX7_0 (kgcl Γ) n0) (d := dX4) (o' := oX4 (n0 + 1)) (nw' := nwX4 (kgcl Γ) (n0 + 1)) (av := []) (rest := [.ref (n0 + 0), .ref k0]) (n := 0) (ms := 591) C dX7_init_9 rfl (fun ac => by rw [lnX7_0]; exact kc_X4 _ _ _ _ ac (n0 + 0) (n0 + 1) (by omega)) kgX7_9 ⟨(by rw [lnX4]; rfl), rfl, Nat.le_of_ble_eq_true rfl, Nat.le_of_ble_eq_true rfl⟩ rfl rfl (by rw [lnX7_0]; rfl) (Nat.le_of_ble_eq_true rfl) (by rw [lnX4]; exact ⟨Nat.le_of_ble_eq_true rfl, Nat.le_of_ble_eq_true rfl⟩) (Or.inl hk) ?_
  rw [lnX4]
  refine k_putF (nw := (nvX7_2 (kgcl Γ) n0)) (ci := 7) (j := 0) (CC := RX7) (T := TX7) (N := 6) (ty0 := tyX7) (ty := (.object "NineLamps$State")) (fs := [.null, .null, .int 0, .null, .null, .null]) C hin dX7_init_12 rfl rfl inGX7 (by decide) gwt2_34 tyX7_ok nmX7 rfl (tyX7_ok 0 (by decide)) rfl hk rfl (Nat.le_of_ble_eq_true rfl) (fun _ => ⟨rfl, rfl⟩) ?_
  refine k_aload_n (nw := (nvX7_2 (kgcl Γ) n0)) C dX7_init_15 rfl 0 rfl ?_
  refine k_new (nw := (nvX7_2 (kgcl Γ) n0)) (ci := 4) (CC := RX4) (T := TX4) (N := 3) (ty := tyX4) (fs := [.null, .null, .null]) C dX7_init_16 rfl rfl inGX4 tyX4_ok gwt1_27 gwt1_28 gwt1_2 (k_dfX4) (fun _ => rfl) ⟨Nat.le_of_ble_eq_true rfl, Nat.le_of_ble_eq_true rfl⟩ (lnX7_2 _ _) (Or.inl hk) ?_
  refine k_dup (nw := (nvX7_3 (kgcl Γ) n0)) C dX7_init_19 rfl rfl ?_
  refine k_call (nw := (nvX7_3 (kgcl Γ) n0)) (nv := nvX7_2 (kgcl Γ) n0) (d := dX4) (o' := oX4 (n0 + 33)) (nw' := nwX4 (kgcl Γ) (n0 + 33)) (av := []) (rest := [.ref (n0 + 32), .ref k0]) (n := 0) (ms := 591) C dX7_init_20 rfl (fun ac => by rw [lnX7_2]; exact kc_X4 _ _ _ _ ac (n0 + 32) (n0 + 33) (by omega)) kgX7_9 ⟨(by rw [lnX4]; rfl), rfl, Nat.le_of_ble_eq_true rfl, Nat.le_of_ble_eq_true rfl⟩ rfl rfl (by rw [lnX7_2]; rfl) (Nat.le_of_ble_eq_true rfl) (by rw [lnX4]; exact ⟨Nat.le_of_ble_eq_true rfl, Nat.le_of_ble_eq_true rfl⟩) (Or.inl hk) ?_
  rw [lnX4]
  refine k_putF (nw := (nvX7_4 (kgcl Γ) n0)) (ci := 7) (j := 1) (CC := RX7) (T := TX7) (N := 6) (ty0 := tyX7) (ty := (.object "NineLamps$State")) (fs := [.ref (n0 + 0), .null, .int 0, .null, .null, .null]) C hin dX7_init_23 rfl rfl inGX7 (by decide) gwt2_35 tyX7_ok nmX7 rfl (tyX7_ok 1 (by decide)) rfl hk rfl (Nat.le_of_ble_eq_true rfl) (fun _ => ⟨rfl, rfl⟩) ?_
  refine k_aload_n (nw := (nvX7_4 (kgcl Γ) n0)) C dX7_init_26 rfl 0 rfl ?_
  refine k_iconst (nw := (nvX7_4 (kgcl Γ) n0)) (v := 0) C dX7_init_27 rfl (by decide) ?_
  refine k_putV (nw := (nvX7_4 (kgcl Γ) n0)) (j := 2) (fs := [.ref (n0 + 0), .ref (n0 + 32), .int 0, .null, .null, .null]) C dX7_init_28 rfl lpX7_19 hk rfl (Nat.le_of_ble_eq_true rfl) (fun _ => ⟨rfl, rfl⟩) ?_
  refine k_aload_n (nw := (nvX7_4 (kgcl Γ) n0)) C dX7_init_31 rfl 0 rfl ?_
  refine k_new (nw := (nvX7_4 (kgcl Γ) n0)) (ci := 5) (CC := RX5) (T := TX5) (N := 9) (ty := tyX5) (fs := [.int 0, .null, .null, .null, .null, .null, .null, .int 0, .int 0]) C dX7_init_32 rfl rfl inGX5 tyX5_ok gwt1_169 gwt1_170 gwt1_6 (k_dfX5) (fun _ => rfl) ⟨Nat.le_of_ble_eq_true rfl, Nat.le_of_ble_eq_true rfl⟩ (lnX7_4 _ _) (Or.inl hk) ?_
  refine k_dup (nw := (nvX7_5 (kgcl Γ) n0)) C dX7_init_35 rfl rfl ?_
  refine k_call (nw := (nvX7_5 (kgcl Γ) n0)) (nv := nvX7_4 (kgcl Γ) n0) (d := dX5) (o' := oX5 (n0 + 65)) (nw' := nwX5 (kgcl Γ) (n0 + 65)) (av := []) (rest := [.ref (n0 + 64), .ref k0]) (n := 0) (ms := 233) C dX7_init_36 rfl (fun ac => by rw [lnX7_4]; exact kc_X5 _ _ _ _ ac (n0 + 64) (n0 + 65) (by omega)) kgX7_25 ⟨(by rw [lnX5]; rfl), rfl, Nat.le_of_ble_eq_true rfl, Nat.le_of_ble_eq_true rfl⟩ rfl rfl (by rw [lnX7_4]; rfl) (Nat.le_of_ble_eq_true rfl) (by rw [lnX5]; exact ⟨Nat.le_of_ble_eq_true rfl, Nat.le_of_ble_eq_true rfl⟩) (Or.inl hk) ?_
  rw [lnX5]
  refine k_putF (nw := (nvX7_6 (kgcl Γ) n0)) (ci := 7) (j := 4) (CC := RX7) (T := TX7) (N := 6) (ty0 := tyX7) (ty := (.object "NineLamps$Tape")) (fs := [.ref (n0 + 0), .ref (n0 + 32), .int 0, .null, .null, .null]) C hin dX7_init_39 rfl rfl inGX7 (by decide) gwt2_38 tyX7_ok nmX7 rfl (tyX7_ok 4 (by decide)) rfl hk rfl (Nat.le_of_ble_eq_true rfl) (fun _ => ⟨rfl, rfl⟩) ?_
  refine k_aload_n (nw := (nvX7_6 (kgcl Γ) n0)) C dX7_init_42 rfl 0 rfl ?_
  refine k_iconst (nw := (nvX7_6 (kgcl Γ) n0)) (v := 4) C dX7_init_43 rfl (by decide) ?_
  refine k_anew (nw := (nvX7_6 (kgcl Γ) n0)) (N := 4) C dX7_init_44 rfl gwt1_212 (by decide) (by decide) (by decide) ⟨Nat.le_of_ble_eq_true rfl, Nat.le_of_ble_eq_true rfl⟩ (lnX7_6 _ _) (Or.inl hk) ?_
  refine k_putF (nw := (nvX7_7 (kgcl Γ) n0)) (ci := 7) (j := 5) (CC := RX7) (T := TX7) (N := 6) (ty0 := tyX7) (ty := (.array (.object "NineLamps$Sheet"))) (fs := [.ref (n0 + 0), .ref (n0 + 32), .int 0, .null, .ref (n0 + 64), .null]) C hin dX7_init_47 rfl rfl inGX7 (by decide) gwt2_39 tyX7_ok nmX7 rfl (tyX7_ok 5 (by decide)) rfl hk rfl (Nat.le_of_ble_eq_true rfl) (fun _ => ⟨rfl, rfl⟩) ?_
  refine k_aload_n (nw := (nvX7_7 (kgcl Γ) n0)) C dX7_init_50 rfl 0 rfl ?_
  refine k_new (nw := (nvX7_7 (kgcl Γ) n0)) (ci := 6) (CC := RX6) (T := TX6) (N := 8) (ty := tyX6) (fs := [.null, .null, .null, .null, .null, .int 0, .int 0, .int 0]) C dX7_init_51 rfl rfl inGX6 tyX6_ok gwt1_214 gwt1_215 gwt1_7 (k_dfX6) (fun _ => rfl) ⟨Nat.le_of_ble_eq_true rfl, Nat.le_of_ble_eq_true rfl⟩ (lnX7_7 _ _) (Or.inl hk) ?_
  refine k_dup (nw := (nvX7_8 (kgcl Γ) n0)) C dX7_init_54 rfl rfl ?_
  refine k_aload_n (nw := (nvX7_8 (kgcl Γ) n0)) C dX7_init_55 rfl 0 rfl ?_
  refine k_get (nw := (nvX7_8 (kgcl Γ) n0)) (q := k0) (ci := 7) (fs := [.ref (n0 + 0), .ref (n0 + 32), .int 0, .null, .ref (n0 + 64), .ref (n0 + 75)]) (v := .ref (n0 + 0)) C dX7_init_56 rfl lkX7_10 (by omega) kst_k rfl ?_
  refine k_get (nw := (nvX7_8 (kgcl Γ) n0)) (q := n0 + 0) (ci := 4) (fs := oX4f (n0 + 1)) C dX7_init_59 rfl lkX7_38 (by rw [lnX7_8]; omega) (kst_n (Or.inl hk) rfl) rfl ?_
  refine k_aload_n (nw := (nvX7_8 (kgcl Γ) n0)) C dX7_init_62 rfl 0 rfl ?_
  refine k_get (nw := (nvX7_8 (kgcl Γ) n0)) (q := k0) (ci := 7) (fs := [.ref (n0 + 0), .ref (n0 + 32), .int 0, .null, .ref (n0 + 64), .ref (n0 + 75)]) (v := .ref (n0 + 0)) C dX7_init_63 rfl lkX7_10 (by omega) kst_k rfl ?_
  refine k_get (nw := (nvX7_8 (kgcl Γ) n0)) (q := n0 + 0) (ci := 4) (fs := oX4f (n0 + 1)) C dX7_init_66 rfl lkX7_42 (by rw [lnX7_8]; omega) (kst_n (Or.inl hk) rfl) rfl ?_
  refine k_call (nw := (nvX7_8 (kgcl Γ) n0)) (nv := nvX7_7 (kgcl Γ) n0) (d := dX6) (o' := oX6 (n0 + 77) (n0 + 1) (n0 + 23)) (nw' := nwX6 (kgcl Γ) (n0 + 77)) (av := [.ref (n0 + 1), .ref (n0 + 23)]) (rest := [.ref (n0 + 76), .ref k0]) (n := 2) (ms := 551) C dX7_init_69 rfl (fun ac => by rw [lnX7_7]; exact kc_X6 _ _ _ _ ac (n0 + 76) (n0 + 77) (by omega) (n0 + 1) (n0 + 23)) kgX7_46 ⟨(by rw [lnX6]; rfl), rfl, Nat.le_of_ble_eq_true rfl, Nat.le_of_ble_eq_true rfl⟩ rfl rfl (by rw [lnX7_7]; rfl) (Nat.le_of_ble_eq_true rfl) (by rw [lnX6]; exact ⟨Nat.le_of_ble_eq_true rfl, Nat.le_of_ble_eq_true rfl⟩) (Or.inl hk) ?_
  rw [lnX6]
  refine k_putF (nw := (nvX7_9 (kgcl Γ) n0)) (ci := 7) (j := 3) (CC := RX7) (T := TX7) (N := 6) (ty0 := tyX7) (ty := (.object "NineLamps$Trials")) (fs := [.ref (n0 + 0), .ref (n0 + 32), .int 0, .null, .ref (n0 + 64), .ref (n0 + 75)]) C hin dX7_init_72 rfl rfl inGX7 (by decide) gwt2_37 tyX7_ok nmX7 rfl (tyX7_ok 3 (by decide)) rfl hk rfl (Nat.le_of_ble_eq_true rfl) (fun _ => ⟨rfl, rfl⟩) ?_
  refine k_iconst (nw := (nvX7_9 (kgcl Γ) n0)) (v := 0) C dX7_init_75 rfl (by decide) ?_
  refine k_istore_n (nw := (nvX7_9 (kgcl Γ) n0)) (lv' := [(1, .int 0), (0, .ref k0)]) C dX7_init_76 rfl (by decide) rfl ?_
  refine k_iload_n (nw := (nvX7_9 (kgcl Γ) n0)) C dX7_init_77 rfl 0 rfl ?_
  refine k_iconst (nw := (nvX7_9 (kgcl Γ) n0)) (v := 4) C dX7_init_78 rfl (by decide) ?_
  refine k_ge (nw := (nvX7_9 (kgcl Γ) n0)) (tgt := 101) C dX7_init_79 rfl (by decide) (fun q => absurd q (by decide)) (fun _ => ?_)
  refine k_aload_n (nw := (nvX7_9 (kgcl Γ) n0)) C dX7_init_82 rfl 1 rfl ?_
  refine k_get (nw := (nvX7_9 (kgcl Γ) n0)) (q := k0) (ci := 7) (fs := [.ref (n0 + 0), .ref (n0 + 32), .int 0, .ref (n0 + 76), .ref (n0 + 64), .ref (n0 + 75)]) (v := .ref (n0 + 75)) C dX7_init_83 rfl lkX7_32 (by omega) kst_k rfl ?_
  refine k_iload_n (nw := (nvX7_9 (kgcl Γ) n0)) C dX7_init_86 rfl 0 rfl ?_
  refine k_new (nw := (nvX7_9 (kgcl Γ) n0)) (ci := 3) (CC := RX3) (T := TX3) (N := 4) (ty := tyX3) (fs := [.int 0, .int 0, .int 0, .null]) C dX7_init_87 rfl rfl inGX3 tyX3_ok gwt1_212 gwt2_11 gwt1_8 (k_dfX3) (fun _ => rfl) ⟨Nat.le_of_ble_eq_true rfl, Nat.le_of_ble_eq_true rfl⟩ (lnX7_9 _ _) (Or.inl hk) ?_
  refine k_dup (nw := (nvX7_10 (kgcl Γ) n0)) C dX7_init_90 rfl rfl ?_
  refine k_call (nw := (nvX7_10 (kgcl Γ) n0)) (nv := nvX7_9 (kgcl Γ) n0) (d := dX3) (o' := oX3 (n0 + 105)) (nw' := nwX3 (kgcl Γ) (n0 + 105)) (av := []) (rest := [.ref (n0 + 104), .int 0, .ref (n0 + 75)]) (n := 0) (ms := 24) C dX7_init_91 rfl (fun ac => by rw [lnX7_9]; exact kc_X3 _ _ _ _ ac (n0 + 104) (n0 + 105) (by omega)) kgX7_53 ⟨(by rw [lnX3]; rfl), rfl, Nat.le_of_ble_eq_true rfl, Nat.le_of_ble_eq_true rfl⟩ rfl rfl (by rw [lnX7_9]; rfl) (Nat.le_of_ble_eq_true rfl) (by rw [lnX3]; exact ⟨Nat.le_of_ble_eq_true rfl, Nat.le_of_ble_eq_true rfl⟩) (Or.inl hk) ?_
  rw [lnX3]
  refine k_aast (nw := (nvX7_11 (kgcl Γ) n0)) (i := 75) (j := 104) (N := 4) (f := (fun _ => none)) (fs := oX3f (n0 + 105)) C dX7_init_94 rfl hk (e75X7_11 _ _) (ejX7_11 _ _) (by decide) ?_
  refine k_iinc (nw := (nvX7_12 (kgcl Γ) n0)) (d := 1) (v := 1) (lv' := [(1, .int 1), (0, .ref k0)]) C dX7_init_95 rfl (by decide) 0 rfl (by decide) (by decide) rfl ?_
  refine k_goto (nw := (nvX7_12 (kgcl Γ) n0)) (pc' := 77) C dX7_init_98 (by decide) ?_
  refine k_iload_n (nw := (nvX7_12 (kgcl Γ) n0)) C dX7_init_77 rfl 0 rfl ?_
  refine k_iconst (nw := (nvX7_12 (kgcl Γ) n0)) (v := 4) C dX7_init_78 rfl (by decide) ?_
  refine k_ge (nw := (nvX7_12 (kgcl Γ) n0)) (tgt := 101) C dX7_init_79 rfl (by decide) (fun q => absurd q (by decide)) (fun _ => ?_)
  refine k_aload_n (nw := (nvX7_12 (kgcl Γ) n0)) C dX7_init_82 rfl 1 rfl ?_
  refine k_get (nw := (nvX7_12 (kgcl Γ) n0)) (q := k0) (ci := 7) (fs := [.ref (n0 + 0), .ref (n0 + 32), .int 0, .ref (n0 + 76), .ref (n0 + 64), .ref (n0 + 75)]) (v := .ref (n0 + 75)) C dX7_init_83 rfl lkX7_32 (by omega) kst_k rfl ?_
  refine k_iload_n (nw := (nvX7_12 (kgcl Γ) n0)) C dX7_init_86 rfl 0 rfl ?_
  refine k_new (nw := (nvX7_12 (kgcl Γ) n0)) (ci := 3) (CC := RX3) (T := TX3) (N := 4) (ty := tyX3) (fs := [.int 0, .int 0, .int 0, .null]) C dX7_init_87 rfl rfl inGX3 tyX3_ok gwt1_212 gwt2_11 gwt1_8 (k_dfX3) (fun _ => rfl) ⟨Nat.le_of_ble_eq_true rfl, Nat.le_of_ble_eq_true rfl⟩ (lnX7_12 _ _) (Or.inl hk) ?_
  refine k_dup (nw := (nvX7_13 (kgcl Γ) n0)) C dX7_init_90 rfl rfl ?_
  refine k_call (nw := (nvX7_13 (kgcl Γ) n0)) (nv := nvX7_12 (kgcl Γ) n0) (d := dX3) (o' := oX3 (n0 + 107)) (nw' := nwX3 (kgcl Γ) (n0 + 107)) (av := []) (rest := [.ref (n0 + 106), .int 1, .ref (n0 + 75)]) (n := 0) (ms := 24) C dX7_init_91 rfl (fun ac => by rw [lnX7_12]; exact kc_X3 _ _ _ _ ac (n0 + 106) (n0 + 107) (by omega)) kgX7_53 ⟨(by rw [lnX3]; rfl), rfl, Nat.le_of_ble_eq_true rfl, Nat.le_of_ble_eq_true rfl⟩ rfl rfl (by rw [lnX7_12]; rfl) (Nat.le_of_ble_eq_true rfl) (by rw [lnX3]; exact ⟨Nat.le_of_ble_eq_true rfl, Nat.le_of_ble_eq_true rfl⟩) (Or.inl hk) ?_
  rw [lnX3]
  refine k_aast (nw := (nvX7_14 (kgcl Γ) n0)) (i := 75) (j := 106) (N := 4) (f := (va_up (fun _ => none) 0 (some (n0 + 104)))) (fs := oX3f (n0 + 107)) C dX7_init_94 rfl hk (e75X7_14 _ _) (ejX7_14 _ _) (by decide) ?_
  refine k_iinc (nw := (nvX7_15 (kgcl Γ) n0)) (d := 1) (v := 2) (lv' := [(1, .int 2), (0, .ref k0)]) C dX7_init_95 rfl (by decide) 0 rfl (by decide) (by decide) rfl ?_
  refine k_goto (nw := (nvX7_15 (kgcl Γ) n0)) (pc' := 77) C dX7_init_98 (by decide) ?_
  refine k_iload_n (nw := (nvX7_15 (kgcl Γ) n0)) C dX7_init_77 rfl 0 rfl ?_
  refine k_iconst (nw := (nvX7_15 (kgcl Γ) n0)) (v := 4) C dX7_init_78 rfl (by decide) ?_
  refine k_ge (nw := (nvX7_15 (kgcl Γ) n0)) (tgt := 101) C dX7_init_79 rfl (by decide) (fun q => absurd q (by decide)) (fun _ => ?_)
  refine k_aload_n (nw := (nvX7_15 (kgcl Γ) n0)) C dX7_init_82 rfl 1 rfl ?_
  refine k_get (nw := (nvX7_15 (kgcl Γ) n0)) (q := k0) (ci := 7) (fs := [.ref (n0 + 0), .ref (n0 + 32), .int 0, .ref (n0 + 76), .ref (n0 + 64), .ref (n0 + 75)]) (v := .ref (n0 + 75)) C dX7_init_83 rfl lkX7_32 (by omega) kst_k rfl ?_
  refine k_iload_n (nw := (nvX7_15 (kgcl Γ) n0)) C dX7_init_86 rfl 0 rfl ?_
  refine k_new (nw := (nvX7_15 (kgcl Γ) n0)) (ci := 3) (CC := RX3) (T := TX3) (N := 4) (ty := tyX3) (fs := [.int 0, .int 0, .int 0, .null]) C dX7_init_87 rfl rfl inGX3 tyX3_ok gwt1_212 gwt2_11 gwt1_8 (k_dfX3) (fun _ => rfl) ⟨Nat.le_of_ble_eq_true rfl, Nat.le_of_ble_eq_true rfl⟩ (lnX7_15 _ _) (Or.inl hk) ?_
  refine k_dup (nw := (nvX7_16 (kgcl Γ) n0)) C dX7_init_90 rfl rfl ?_
  refine k_call (nw := (nvX7_16 (kgcl Γ) n0)) (nv := nvX7_15 (kgcl Γ) n0) (d := dX3) (o' := oX3 (n0 + 109)) (nw' := nwX3 (kgcl Γ) (n0 + 109)) (av := []) (rest := [.ref (n0 + 108), .int 2, .ref (n0 + 75)]) (n := 0) (ms := 24) C dX7_init_91 rfl (fun ac => by rw [lnX7_15]; exact kc_X3 _ _ _ _ ac (n0 + 108) (n0 + 109) (by omega)) kgX7_53 ⟨(by rw [lnX3]; rfl), rfl, Nat.le_of_ble_eq_true rfl, Nat.le_of_ble_eq_true rfl⟩ rfl rfl (by rw [lnX7_15]; rfl) (Nat.le_of_ble_eq_true rfl) (by rw [lnX3]; exact ⟨Nat.le_of_ble_eq_true rfl, Nat.le_of_ble_eq_true rfl⟩) (Or.inl hk) ?_
  rw [lnX3]
  refine k_aast (nw := (nvX7_17 (kgcl Γ) n0)) (i := 75) (j := 108) (N := 4) (f := (va_up (va_up (fun _ => none) 0 (some (n0 + 104))) 1 (some (n0 + 106)))) (fs := oX3f (n0 + 109)) C dX7_init_94 rfl hk (e75X7_17 _ _) (ejX7_17 _ _) (by decide) ?_
  refine k_iinc (nw := (nvX7_18 (kgcl Γ) n0)) (d := 1) (v := 3) (lv' := [(1, .int 3), (0, .ref k0)]) C dX7_init_95 rfl (by decide) 0 rfl (by decide) (by decide) rfl ?_
  refine k_goto (nw := (nvX7_18 (kgcl Γ) n0)) (pc' := 77) C dX7_init_98 (by decide) ?_
  refine k_iload_n (nw := (nvX7_18 (kgcl Γ) n0)) C dX7_init_77 rfl 0 rfl ?_
  refine k_iconst (nw := (nvX7_18 (kgcl Γ) n0)) (v := 4) C dX7_init_78 rfl (by decide) ?_
  refine k_ge (nw := (nvX7_18 (kgcl Γ) n0)) (tgt := 101) C dX7_init_79 rfl (by decide) (fun q => absurd q (by decide)) (fun _ => ?_)
  refine k_aload_n (nw := (nvX7_18 (kgcl Γ) n0)) C dX7_init_82 rfl 1 rfl ?_
  refine k_get (nw := (nvX7_18 (kgcl Γ) n0)) (q := k0) (ci := 7) (fs := [.ref (n0 + 0), .ref (n0 + 32), .int 0, .ref (n0 + 76), .ref (n0 + 64), .ref (n0 + 75)]) (v := .ref (n0 + 75)) C dX7_init_83 rfl lkX7_32 (by omega) kst_k rfl ?_
  refine k_iload_n (nw := (nvX7_18 (kgcl Γ) n0)) C dX7_init_86 rfl 0 rfl ?_
  refine k_new (nw := (nvX7_18 (kgcl Γ) n0)) (ci := 3) (CC := RX3) (T := TX3) (N := 4) (ty := tyX3) (fs := [.int 0, .int 0, .int 0, .null]) C dX7_init_87 rfl rfl inGX3 tyX3_ok gwt1_212 gwt2_11 gwt1_8 (k_dfX3) (fun _ => rfl) ⟨Nat.le_of_ble_eq_true rfl, Nat.le_of_ble_eq_true rfl⟩ (lnX7_18 _ _) (Or.inl hk) ?_
  refine k_dup (nw := (nvX7_19 (kgcl Γ) n0)) C dX7_init_90 rfl rfl ?_
  refine k_call (nw := (nvX7_19 (kgcl Γ) n0)) (nv := nvX7_18 (kgcl Γ) n0) (d := dX3) (o' := oX3 (n0 + 111)) (nw' := nwX3 (kgcl Γ) (n0 + 111)) (av := []) (rest := [.ref (n0 + 110), .int 3, .ref (n0 + 75)]) (n := 0) (ms := 24) C dX7_init_91 rfl (fun ac => by rw [lnX7_18]; exact kc_X3 _ _ _ _ ac (n0 + 110) (n0 + 111) (by omega)) kgX7_53 ⟨(by rw [lnX3]; rfl), rfl, Nat.le_of_ble_eq_true rfl, Nat.le_of_ble_eq_true rfl⟩ rfl rfl (by rw [lnX7_18]; rfl) (Nat.le_of_ble_eq_true rfl) (by rw [lnX3]; exact ⟨Nat.le_of_ble_eq_true rfl, Nat.le_of_ble_eq_true rfl⟩) (Or.inl hk) ?_
  rw [lnX3]
  refine k_aast (nw := (nvX7_20 (kgcl Γ) n0)) (i := 75) (j := 110) (N := 4) (f := (va_up (va_up (va_up (fun _ => none) 0 (some (n0 + 104))) 1 (some (n0 + 106))) 2 (some (n0 + 108)))) (fs := oX3f (n0 + 111)) C dX7_init_94 rfl hk (e75X7_20 _ _) (ejX7_20 _ _) (by decide) ?_
  refine k_iinc (nw := (nvX7_21 (kgcl Γ) n0)) (d := 1) (v := 4) (lv' := [(1, .int 4), (0, .ref k0)]) C dX7_init_95 rfl (by decide) 0 rfl (by decide) (by decide) rfl ?_
  refine k_goto (nw := (nvX7_21 (kgcl Γ) n0)) (pc' := 77) C dX7_init_98 (by decide) ?_
  refine k_iload_n (nw := (nvX7_21 (kgcl Γ) n0)) C dX7_init_77 rfl 0 rfl ?_
  refine k_iconst (nw := (nvX7_21 (kgcl Γ) n0)) (v := 4) C dX7_init_78 rfl (by decide) ?_
  refine k_ge (nw := (nvX7_21 (kgcl Γ) n0)) (tgt := 101) C dX7_init_79 rfl (by decide) (fun _ => ?_) (fun q => absurd (by decide) q)
  exact k_vret (nw := (nvX7_21 (kgcl Γ) n0)) E dX7_init_101
