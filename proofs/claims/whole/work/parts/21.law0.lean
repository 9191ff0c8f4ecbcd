/-! X0_append -/
def wsX0_append : List Cond := .code yX0_append cX0_append 5 (some .int) :: G0
def rmX0_append : Room := { frames := 0, cells := 0, slots := 0, locals := 0 }
def f_X0_append (b0 : Nat) (a1 : Int32) (a2 : Int32) (a3 : Int32) (a4 : Int32) (μ : Mem) : Option (Int32 × Mem) := gd (inb (μ.1 b0 0) 8) <| zl (sI μ (b0 + 1) (Int32.toNatClampNeg (μ.1 b0 0)) a1) fun μ2_ => gd (inb (μ2_.1 b0 0) 8) <| zl (sI μ2_ (b0 + 2) (Int32.toNatClampNeg (μ2_.1 b0 0)) a2) fun μ5_ => gd (inb (μ5_.1 b0 0) 8) <| zl (sI μ5_ (b0 + 3) (Int32.toNatClampNeg (μ5_.1 b0 0)) a3) fun μ8_ => gd (inb (μ8_.1 b0 0) 8) <| zl (sI μ8_ (b0 + 4) (Int32.toNatClampNeg (μ8_.1 b0 0)) a4) fun μ11_ => zl (sI μ11_ b0 0 ((μ11_.1 b0 0) + (nI 1))) fun μ13_ => some (μ13_.1 b0 0, μ13_)
set_option maxHeartbeats 4000000 in
set_option maxRecDepth 100000 in
theorem w_X0_append {Γ : jG} (C : jC Γ 5 cX0_append RX0 rmX0_append) {b0 : Nat} {a1 : Int32} {a2 : Int32} {a3 : Int32} {a4 : Int32} (hb0 : isLaw b0) {ρ : Int32 × Mem} (E : jEI Γ cX0_append ρ.1 ρ.2) (μ : Mem) (h : f_X0_append b0 a1 a2 a3 a4 μ = some ρ) : jJ Γ 5 0 [(0, .ref b0), (1, .int a1), (2, .int a2), (3, .int a3), (4, .int a4)] [] μ := by
  unfold f_X0_append at h
  refine j_aload_n C dX0_append_0 rfl 0 rfl ?_
  refine j_getR (c := b0 + 1) C dX0_append_1 rfl lkX0_15 (isW_0 hb0) rfl ?_
  refine j_aload_n C dX0_append_4 rfl 0 rfl ?_
  refine j_getI C dX0_append_5 rfl lkX0_9 (isW_0 hb0) rfl ?_
  refine j_iload_n C dX0_append_8 rfl 1 rfl ?_
  replace h := gd_e h
  obtain ⟨g1_, h⟩ := h
  refine j_iast C dX0_append_9 rfl (isW_a1 hb0) g1_ ?_
  refine j_mem (fun μ2_ e3_ => ?_)
  replace h := zl_u h e3_
  refine j_aload_n C dX0_append_10 rfl 0 rfl ?_
  refine j_getR (c := b0 + 2) C dX0_append_11 rfl lkX0_19 (isW_0 hb0) rfl ?_
  refine j_aload_n C dX0_append_14 rfl 0 rfl ?_
  refine j_getI C dX0_append_15 rfl lkX0_9 (isW_0 hb0) rfl ?_
  refine j_iload_n C dX0_append_18 rfl 2 rfl ?_
  replace h := gd_e h
  obtain ⟨g4_, h⟩ := h
  refine j_iast C dX0_append_19 rfl (isW_a2 hb0) g4_ ?_
  refine j_mem (fun μ5_ e6_ => ?_)
  replace h := zl_u h e6_
  refine j_aload_n C dX0_append_20 rfl 0 rfl ?_
  refine j_getR (c := b0 + 3) C dX0_append_21 rfl lkX0_22 (isW_0 hb0) rfl ?_
  refine j_aload_n C dX0_append_24 rfl 0 rfl ?_
  refine j_getI C dX0_append_25 rfl lkX0_9 (isW_0 hb0) rfl ?_
  refine j_iload_n C dX0_append_28 rfl 3 rfl ?_
  replace h := gd_e h
  obtain ⟨g7_, h⟩ := h
  refine j_iast C dX0_append_29 rfl (isW_a3 hb0) g7_ ?_
  refine j_mem (fun μ8_ e9_ => ?_)
  replace h := zl_u h e9_
  refine j_aload_n C dX0_append_30 rfl 0 rfl ?_
  refine j_getR (c := b0 + 4) C dX0_append_31 rfl lkX0_25 (isW_0 hb0) rfl ?_
  refine j_aload_n C dX0_append_34 rfl 0 rfl ?_
  refine j_getI C dX0_append_35 rfl lkX0_9 (isW_0 hb0) rfl ?_
  refine j_iload C dX0_append_38 rfl 4 rfl ?_
  replace h := gd_e h
  obtain ⟨g10_, h⟩ := h
  refine j_iast C dX0_append_40 rfl (isW_a4 hb0) g10_ ?_
  refine j_mem (fun μ11_ e12_ => ?_)
  replace h := zl_u h e12_
  refine j_aload_n C dX0_append_41 rfl 0 rfl ?_
  refine j_dup C dX0_append_42 rfl rfl ?_
  refine j_getI C dX0_append_43 rfl lkX0_9 (isW_0 hb0) rfl ?_
  refine j_iconst (v := (nI 1)) C dX0_append_46 rfl (by decide) ?_
  refine j_iadd C dX0_append_47 rfl ?_
  refine j_putI C dX0_append_48 rfl lpX0_9 (isW_0 hb0) rfl ?_
  refine j_mem (fun μ13_ e14_ => ?_)
  replace h := zl_u h e14_
  refine j_aload_n C dX0_append_51 rfl 0 rfl ?_
  refine j_getI C dX0_append_52 rfl lkX0_9 (isW_0 hb0) rfl ?_
  obtain rfl := Option.some.inj h
  exact j_iret E dX0_append_55
set_option maxRecDepth 100000 in
theorem c_X0_append (l : Launch) (D : va_G) (ad : Nat → Nat) (cl : Nat → ClassId) {b0 : Nat} {a1 : Int32} {a2 : Int32} {a3 : Int32} {a4 : Int32} (hb0 : isLaw b0) (μ : Mem) (ρ : Int32 × Mem) (h : f_X0_append b0 a1 a2 a3 a4 μ = some ρ) : CI l D ad cl yX0_append wsX0_append rmX0_append [.ref b0, .int a1, .int a2, .int a3, .int a4] μ ρ.1 ρ.2 := c_ofI (cc := cX0_append) (nL := 5) rfl (by decide) (Nat.le_of_ble_eq_true rfl) (fun Γ C E => w_X0_append C hb0 E μ h)
theorem gvX0_42 : jm_gv RX0 42 RX0 yX0_append wsX0_append 5 4 := ⟨_, _, gi_V gwt3_70 gwt2_156 gwt2_157 gwt1_4 gwt2_158, rfl, by decide +kernel⟩
/-! X0_becomeWithout -/
def wsX0_becomeWithout : List Cond := .code yX0_becomeWithout cX0_becomeWithout 4 none :: G0
def rmX0_becomeWithout : Room := { frames := 1, cells := 0, slots := 0, locals := 24 }
def f_X0_becomeWithout_49 (b0 : Nat) (k1 : Nat) (a2 : Int32) (kb7 : Int32 → Mem → Option (Mem)) (x3 : Int32) (μ : Mem) : Option (Mem) := kb7 (x3 + (nI 1)) μ
set_option maxHeartbeats 4000000 in
set_option maxRecDepth 100000 in
theorem w_X0_becomeWithout_49 {Γ : jG} (C : jC Γ 4 cX0_becomeWithout RX0 rmX0_becomeWithout) {b0 : Nat} {k1 : Nat} {a2 : Int32} (hb0 : isLaw b0) (hk1 : isLaw k1) {kb7 : Int32 → Mem → Option (Mem)} {ρ : Mem} (E : jEV Γ cX0_becomeWithout ρ) (Hkb7 : ∀ (x3 : Int32) (μ : Mem), kb7 x3 μ = some ρ → jJ Γ 4 7 [(0, .ref b0), (1, .ref k1), (2, .int a2), (3, .int x3)] [] μ) (x3 : Int32) (μ : Mem) (h : f_X0_becomeWithout_49 b0 k1 a2 kb7 x3 μ = some ρ) : jJ Γ 4 49 [(0, .ref b0), (1, .ref k1), (2, .int a2), (3, .int x3)] [] μ := by
  unfold f_X0_becomeWithout_49 at h
  refine j_iinc (d := (nI 1)) (v := x3 + (nI 1)) (lv' := [(3, .int (x3 + (nI 1))), (0, .ref b0), (1, .ref k1), (2, .int a2)]) C dX0_becomeWithout_49 rfl (by decide) 3 rfl (by decide) rfl rfl ?_
  refine j_goto (pc' := 7) C dX0_becomeWithout_52 (by decide) ?_
  refine j_lv [1, 2, 3, 0] rfl ?_
  exact (Hkb7) (x3 + (nI 1)) μ h
def f_X0_becomeWithout_7 (b0 : Nat) (k1 : Nat) (a2 : Int32) : Nat → Int32 → Mem → Option (Mem)
  | 0, _, _ => none
  | n + 1, x3, μ => (if (μ.1 k1 0) ≤ x3 then some μ else (if x3 = a2 then f_X0_becomeWithout_49 b0 k1 a2 (fun x3 μ => f_X0_becomeWithout_7 b0 k1 a2 n x3 μ) x3 μ else gd (inb x3 8) <| Option.bind (f_X0_append b0 (μ.1 (k1 + 1) (Int32.toNatClampNeg x3)) (μ.1 (k1 + 2) (Int32.toNatClampNeg x3)) (μ.1 (k1 + 3) (Int32.toNatClampNeg x3)) (μ.1 (k1 + 4) (Int32.toNatClampNeg x3)) μ) fun p4_ => f_X0_becomeWithout_49 b0 k1 a2 (fun x3 μ => f_X0_becomeWithout_7 b0 k1 a2 n x3 μ) x3 p4_.2))
set_option maxHeartbeats 4000000 in
set_option maxRecDepth 100000 in
theorem w_X0_becomeWithout_7 {Γ : jG} (C : jC Γ 4 cX0_becomeWithout RX0 rmX0_becomeWithout) {b0 : Nat} {k1 : Nat} {a2 : Int32} (hb0 : isLaw b0) (hk1 : isLaw k1) {ρ : Mem} (E : jEV Γ cX0_becomeWithout ρ) : ∀ (n : Nat) (x3 : Int32) (μ : Mem), f_X0_becomeWithout_7 b0 k1 a2 n x3 μ = some ρ → jJ Γ 4 7 [(0, .ref b0), (1, .ref k1), (2, .int a2), (3, .int x3)] [] μ := by
  intro n
  induction n with
  | zero => intro x3 μ h; rw [f_X0_becomeWithout_7] at h; cases h
  | succ n ih =>
    intro x3 μ h
    rw [f_X0_becomeWithout_7] at h
    refine j_iload_n C dX0_becomeWithout_7 rfl 3 rfl ?_
    refine j_aload_n C dX0_becomeWithout_8 rfl 1 rfl ?_
    refine j_getI C dX0_becomeWithout_9 rfl lkX0_9 (isW_0 hk1) rfl ?_
    refine j_icmp_ge (tgt := 55) C dX0_becomeWithout_12 rfl (by decide) (fun c1_ => ?_) (fun c1_ => ?_)
    · replace h := if_t h c1_
      obtain rfl := Option.some.inj h
      exact j_vret E dX0_becomeWithout_55
    · replace h := if_f h c1_
      refine j_iload_n C dX0_becomeWithout_15 rfl 3 rfl ?_
      refine j_iload_n C dX0_becomeWithout_16 rfl 2 rfl ?_
      refine j_icmp_eq (tgt := 49) C dX0_becomeWithout_17 rfl (by decide) (fun c2_ => ?_) (fun c2_ => ?_)
      · replace h := if_t h c2_
        refine j_lv [0, 1, 2, 3] rfl ?_
        exact w_X0_becomeWithout_49 C hb0 hk1 E ih x3 μ h
      · replace h := if_f h c2_
        refine j_aload_n C dX0_becomeWithout_20 rfl 0 rfl ?_
        refine j_aload_n C dX0_becomeWithout_21 rfl 1 rfl ?_
        refine j_getR (c := k1 + 1) C dX0_becomeWithout_22 rfl lkX0_15 (isW_0 hk1) rfl ?_
        refine j_iload_n C dX0_becomeWithout_25 rfl 3 rfl ?_
        replace h := gd_e h
        obtain ⟨g3_, h⟩ := h
        refine j_iald C dX0_becomeWithout_26 rfl (isW_a1 hk1) g3_ ?_
        refine j_aload_n C dX0_becomeWithout_27 rfl 1 rfl ?_
        refine j_getR (c := k1 + 2) C dX0_becomeWithout_28 rfl lkX0_19 (isW_0 hk1) rfl ?_
        refine j_iload_n C dX0_becomeWithout_31 rfl 3 rfl ?_
        refine j_iald C dX0_becomeWithout_32 rfl (isW_a2 hk1) g3_ ?_
        refine j_aload_n C dX0_becomeWithout_33 rfl 1 rfl ?_
        refine j_getR (c := k1 + 3) C dX0_becomeWithout_34 rfl lkX0_22 (isW_0 hk1) rfl ?_
        refine j_iload_n C dX0_becomeWithout_37 rfl 3 rfl ?_
        refine j_iald C dX0_becomeWithout_38 rfl (isW_a3 hk1) g3_ ?_
        refine j_aload_n C dX0_becomeWithout_39 rfl 1 rfl ?_
        refine j_getR (c := k1 + 4) C dX0_becomeWithout_40 rfl lkX0_25 (isW_0 hk1) rfl ?_
        refine j_iload_n C dX0_becomeWithout_43 rfl 3 rfl ?_
        refine j_iald C dX0_becomeWithout_44 rfl (isW_a4 hk1) g3_ ?_
        replace h := bd_e h
        obtain ⟨p4_, h5_, h⟩ := h
        refine j_cVI (av := [.int (μ.1 (k1 + 1) (Int32.toNatClampNeg x3)), .int (μ.1 (k1 + 2) (Int32.toNatClampNeg x3)), .int (μ.1 (k1 + 3) (Int32.toNatClampNeg x3)), .int (μ.1 (k1 + 4) (Int32.toNatClampNeg x3))]) (rest := []) C dX0_becomeWithout_45 rfl (c_X0_append _ _ _ _ hb0 μ p4_ h5_) gvX0_42 ⟨⟨rfl, rfl⟩, Nat.le_of_ble_eq_true rfl, Nat.le_of_ble_eq_true rfl⟩ rfl (isW_0 hb0) rfl rfl (Nat.le_of_ble_eq_true rfl) ?_
        refine j_pop C dX0_becomeWithout_48 rfl rfl ?_
        refine j_lv [0, 1, 2, 3] rfl ?_
        exact w_X0_becomeWithout_49 C hb0 hk1 E ih x3 p4_.2 h
def f_X0_becomeWithout (b0 : Nat) (k1 : Nat) (a2 : Int32) (μ : Mem) : Option (Mem) := zl (sI μ b0 0 (nI 0)) fun μ1_ => f_X0_becomeWithout_7 b0 k1 a2 zfu (nI 0) μ1_
set_option maxHeartbeats 4000000 in
set_option maxRecDepth 100000 in
theorem w_X0_becomeWithout {Γ : jG} (C : jC Γ 4 cX0_becomeWithout RX0 rmX0_becomeWithout) {b0 : Nat} {k1 : Nat} {a2 : Int32} (hb0 : isLaw b0) (hk1 : isLaw k1) {ρ : Mem} (E : jEV Γ cX0_becomeWithout ρ) (μ : Mem) (h : f_X0_becomeWithout b0 k1 a2 μ = some ρ) : jJ Γ 4 0 [(0, .ref b0), (1, .ref k1), (2, .int a2)] [] μ := by
  unfold f_X0_becomeWithout at h
  refine j_aload_n C dX0_becomeWithout_0 rfl 0 rfl ?_
  refine j_iconst (v := (nI 0)) C dX0_becomeWithout_1 rfl (by decide) ?_
  refine j_putI C dX0_becomeWithout_2 rfl lpX0_9 (isW_0 hb0) rfl ?_
  refine j_mem (fun μ1_ e2_ => ?_)
  replace h := zl_u h e2_
  refine j_iconst (v := (nI 0)) C dX0_becomeWithout_5 rfl (by decide) ?_
  refine j_istore_n (lv' := [(3, .int (nI 0)), (0, .ref b0), (1, .ref k1), (2, .int a2)]) C dX0_becomeWithout_6 rfl (by decide) rfl ?_
  refine j_lv [1, 2, 3, 0] rfl ?_
  exact w_X0_becomeWithout_7 C hb0 hk1 E zfu (nI 0) μ1_ h
set_option maxRecDepth 100000 in
theorem c_X0_becomeWithout (l : Launch) (D : va_G) (ad : Nat → Nat) (cl : Nat → ClassId) {b0 : Nat} {k1 : Nat} {a2 : Int32} (hb0 : isLaw b0) (hk1 : isLaw k1) (μ : Mem) (ρ : Mem) (h : f_X0_becomeWithout b0 k1 a2 μ = some ρ) : CV l D ad cl yX0_becomeWithout wsX0_becomeWithout rmX0_becomeWithout [.ref b0, .ref k1, .int a2] μ ρ := c_ofV (cc := cX0_becomeWithout) (nL := 4) rfl (by decide) (Nat.le_of_ble_eq_true rfl) (fun Γ C E => w_X0_becomeWithout C hb0 hk1 E μ h)
theorem gvX0_28 : jm_gv RX0 28 RX0 yX0_becomeWithout wsX0_becomeWithout 4 2 := ⟨_, _, gi_V gwt3_66 gwt3_67 gwt3_68 gwt1_4 gwt3_69, rfl, by decide +kernel⟩
/-! X0_become -/
def wsX0_become : List Cond := .code yX0_become cX0_become 2 none :: G0
def rmX0_become : Room := { frames := 2, cells := 0, slots := 0, locals := 47 }
def f_X0_become (b0 : Nat) (k1 : Nat) (μ : Mem) : Option (Mem) := Option.bind (f_X0_becomeWithout b0 k1 (-1) μ) fun p1_ => some p1_
set_option maxHeartbeats 4000000 in
set_option maxRecDepth 100000 in
theorem w_X0_become {Γ : jG} (C : jC Γ 2 cX0_become RX0 rmX0_become) {b0 : Nat} {k1 : Nat} (hb0 : isLaw b0) (hk1 : isLaw k1) {ρ : Mem} (E : jEV Γ cX0_become ρ) (μ : Mem) (h : f_X0_become b0 k1 μ = some ρ) : jJ Γ 2 0 [(0, .ref b0), (1, .ref k1)] [] μ := by
  unfold f_X0_become at h
  refine j_aload_n C dX0_become_0 rfl 0 rfl ?_
  refine j_aload_n C dX0_become_1 rfl 1 rfl ?_
  refine j_iconst (v := (-1)) C dX0_become_2 rfl (by decide) ?_
  replace h := bd_e h
  obtain ⟨p1_, h2_, h⟩ := h
  refine j_cVV (av := [.ref k1, .int (-1)]) (rest := []) C dX0_become_3 rfl (c_X0_becomeWithout _ _ _ _ hb0 hk1 μ p1_ h2_) gvX0_28 ⟨⟨rfl, rfl⟩, Nat.le_of_ble_eq_true rfl, Nat.le_of_ble_eq_true rfl⟩ rfl (isW_0 hb0) rfl rfl (Nat.le_of_ble_eq_true rfl) ?_
  obtain rfl := Option.some.inj h
  exact j_vret E dX0_become_6
set_option maxRecDepth 100000 in
theorem c_X0_become (l : Launch) (D : va_G) (ad : Nat → Nat) (cl : Nat → ClassId) {b0 : Nat} {k1 : Nat} (hb0 : isLaw b0) (hk1 : isLaw k1) (μ : Mem) (ρ : Mem) (h : f_X0_become b0 k1 μ = some ρ) : CV l D ad cl yX0_become wsX0_become rmX0_become [.ref b0, .ref k1] μ ρ := c_ofV (cc := cX0_become) (nL := 2) rfl (by decide) (Nat.le_of_ble_eq_true rfl) (fun Γ C E => w_X0_become C hb0 hk1 E μ h)
theorem gsX0_36 : jm_gs RX0 36 yJ7_fill_53178 wsJ7_fill_53178 4 2 := ⟨_, _, gi_S gwt4_53 gwt3_99 gwt1_17 gwt3_100, rfl, by decide +kernel⟩
theorem gvX0_32 : jm_gv RX0 32 RX0 yX0_become wsX0_become 2 1 := ⟨_, _, gi_V gwt4_52 gwt3_63 gwt3_64 gwt1_4 gwt3_65, rfl, by decide +kernel⟩
/-! X0_becomeWithNumber -/
def wsX0_becomeWithNumber : List Cond := .code yX0_becomeWithNumber cX0_becomeWithNumber 3 none :: G0
def rmX0_becomeWithNumber : Room := { frames := 3, cells := 0, slots := 0, locals := 68 }
def f_X0_becomeWithNumber (b0 : Nat) (k1 : Nat) (a2 : Int32) (μ : Mem) : Option (Mem) := Option.bind (f_X0_become b0 k1 μ) fun p1_ => Option.bind (f_J7_fill_53178 (b0 + 2) 8 a2 p1_) fun p3_ => some p3_
set_option maxHeartbeats 4000000 in
set_option maxRecDepth 100000 in
theorem w_X0_becomeWithNumber {Γ : jG} (C : jC Γ 3 cX0_becomeWithNumber RX0 rmX0_becomeWithNumber) {b0 : Nat} {k1 : Nat} {a2 : Int32} (hb0 : isLaw b0) (hk1 : isLaw k1) {ρ : Mem} (E : jEV Γ cX0_becomeWithNumber ρ) (μ : Mem) (h : f_X0_becomeWithNumber b0 k1 a2 μ = some ρ) : jJ Γ 3 0 [(0, .ref b0), (1, .ref k1), (2, .int a2)] [] μ := by
  unfold f_X0_becomeWithNumber at h
  refine j_aload_n C dX0_becomeWithNumber_0 rfl 0 rfl ?_
  refine j_aload_n C dX0_becomeWithNumber_1 rfl 1 rfl ?_
  replace h := bd_e h
  obtain ⟨p1_, h2_, h⟩ := h
  refine j_cVV (av := [.ref k1]) (rest := []) C dX0_becomeWithNumber_2 rfl (c_X0_become _ _ _ _ hb0 hk1 μ p1_ h2_) gvX0_32 ⟨⟨rfl, rfl⟩, Nat.le_of_ble_eq_true rfl, Nat.le_of_ble_eq_true rfl⟩ rfl (isW_0 hb0) rfl rfl (Nat.le_of_ble_eq_true rfl) ?_
  refine j_aload_n C dX0_becomeWithNumber_5 rfl 0 rfl ?_
  refine j_getR (c := b0 + 2) C dX0_becomeWithNumber_6 rfl lkX0_19 (isW_0 hb0) rfl ?_
  refine j_iload_n C dX0_becomeWithNumber_9 rfl 2 rfl ?_
  replace h := bd_e h
  obtain ⟨p3_, h4_, h⟩ := h
  refine j_cSV (av := [.ref (b0 + 2), .int a2]) (rest := []) C dX0_becomeWithNumber_10 rfl (c_J7_fill_53178 _ _ _ _ (isW_a2 hb0) p1_ p3_ h4_) gsX0_36 ⟨⟨rfl, rfl⟩, Nat.le_of_ble_eq_true rfl, Nat.le_of_ble_eq_true rfl⟩ rfl rfl (Nat.le_of_ble_eq_true rfl) ?_
  obtain rfl := Option.some.inj h
  exact j_vret E dX0_becomeWithNumber_13
set_option maxRecDepth 100000 in
theorem c_X0_becomeWithNumber (l : Launch) (D : va_G) (ad : Nat → Nat) (cl : Nat → ClassId) {b0 : Nat} {k1 : Nat} {a2 : Int32} (hb0 : isLaw b0) (hk1 : isLaw k1) (μ : Mem) (ρ : Mem) (h : f_X0_becomeWithNumber b0 k1 a2 μ = some ρ) : CV l D ad cl yX0_becomeWithNumber wsX0_becomeWithNumber rmX0_becomeWithNumber [.ref b0, .ref k1, .int a2] μ ρ := c_ofV (cc := cX0_becomeWithNumber) (nL := 3) rfl (by decide) (Nat.le_of_ble_eq_true rfl) (fun Γ C E => w_X0_becomeWithNumber C hb0 hk1 E μ h)
