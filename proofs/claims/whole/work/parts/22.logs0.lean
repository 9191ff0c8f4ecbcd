/-! X1_append -/
def wsX1_append : List Cond := .code yX1_append cX1_append 4 (some .int) :: G0
def rmX1_append : Room := { frames := 0, cells := 0, slots := 0, locals := 0 }
def f_X1_append (b0 : Nat) (a1 : Int32) (a2 : Int32) (a3 : Int32) (μ : Mem) : Option (Int32 × Mem) := gd (inb (μ.1 b0 0) 12) <| zl (sI μ (b0 + 1) (Int32.toNatClampNeg (μ.1 b0 0)) a1) fun μ2_ => gd (inb (μ2_.1 b0 0) 12) <| zl (sI μ2_ (b0 + 2) (Int32.toNatClampNeg (μ2_.1 b0 0)) a2) fun μ5_ => gd (inb (μ5_.1 b0 0) 12) <| zl (sI μ5_ (b0 + 3) (Int32.toNatClampNeg (μ5_.1 b0 0)) a3) fun μ8_ => zl (sI μ8_ b0 0 ((μ8_.1 b0 0) + (nI 1))) fun μ10_ => some (μ10_.1 b0 0, μ10_)
set_option maxHeartbeats 4000000 in
set_option maxRecDepth 100000 in
theorem w_X1_append {Γ : jG} (C : jC Γ 4 cX1_append RX1 rmX1_append) {b0 : Nat} {a1 : Int32} {a2 : Int32} {a3 : Int32} (hb0 : isLogs b0) {ρ : Int32 × Mem} (E : jEI Γ cX1_append ρ.1 ρ.2) (μ : Mem) (h : f_X1_append b0 a1 a2 a3 μ = some ρ) : jJ Γ 4 0 [(0, .ref b0), (1, .int a1), (2, .int a2), (3, .int a3)] [] μ := by
  unfold f_X1_append at h
  refine j_aload_n C dX1_append_0 rfl 0 rfl ?_
  refine j_getR (c := b0 + 1) C dX1_append_1 rfl lkX1_15 (isG_0 hb0) rfl ?_
  refine j_aload_n C dX1_append_4 rfl 0 rfl ?_
  refine j_getI C dX1_append_5 rfl lkX1_9 (isG_0 hb0) rfl ?_
  refine j_iload_n C dX1_append_8 rfl 1 rfl ?_
  replace h := gd_e h
  obtain ⟨g1_, h⟩ := h
  refine j_iast C dX1_append_9 rfl (isG_a1 hb0) g1_ ?_
  refine j_mem (fun μ2_ e3_ => ?_)
  replace h := zl_u h e3_
  refine j_aload_n C dX1_append_10 rfl 0 rfl ?_
  refine j_getR (c := b0 + 2) C dX1_append_11 rfl lkX1_19 (isG_0 hb0) rfl ?_
  refine j_aload_n C dX1_append_14 rfl 0 rfl ?_
  refine j_getI C dX1_append_15 rfl lkX1_9 (isG_0 hb0) rfl ?_
  refine j_iload_n C dX1_append_18 rfl 2 rfl ?_
  replace h := gd_e h
  obtain ⟨g4_, h⟩ := h
  refine j_iast C dX1_append_19 rfl (isG_a2 hb0) g4_ ?_
  refine j_mem (fun μ5_ e6_ => ?_)
  replace h := zl_u h e6_
  refine j_aload_n C dX1_append_20 rfl 0 rfl ?_
  refine j_getR (c := b0 + 3) C dX1_append_21 rfl lkX1_22 (isG_0 hb0) rfl ?_
  refine j_aload_n C dX1_append_24 rfl 0 rfl ?_
  refine j_getI C dX1_append_25 rfl lkX1_9 (isG_0 hb0) rfl ?_
  refine j_iload_n C dX1_append_28 rfl 3 rfl ?_
  replace h := gd_e h
  obtain ⟨g7_, h⟩ := h
  refine j_iast C dX1_append_29 rfl (isG_a3 hb0) g7_ ?_
  refine j_mem (fun μ8_ e9_ => ?_)
  replace h := zl_u h e9_
  refine j_aload_n C dX1_append_30 rfl 0 rfl ?_
  refine j_dup C dX1_append_31 rfl rfl ?_
  refine j_getI C dX1_append_32 rfl lkX1_9 (isG_0 hb0) rfl ?_
  refine j_iconst (v := (nI 1)) C dX1_append_35 rfl (by decide) ?_
  refine j_iadd C dX1_append_36 rfl ?_
  refine j_putI C dX1_append_37 rfl lpX1_9 (isG_0 hb0) rfl ?_
  refine j_mem (fun μ10_ e11_ => ?_)
  replace h := zl_u h e11_
  refine j_aload_n C dX1_append_40 rfl 0 rfl ?_
  refine j_getI C dX1_append_41 rfl lkX1_9 (isG_0 hb0) rfl ?_
  obtain rfl := Option.some.inj h
  exact j_iret E dX1_append_44
set_option maxRecDepth 100000 in
theorem c_X1_append (l : Launch) (D : va_G) (ad : Nat → Nat) (cl : Nat → ClassId) {b0 : Nat} {a1 : Int32} {a2 : Int32} {a3 : Int32} (hb0 : isLogs b0) (μ : Mem) (ρ : Int32 × Mem) (h : f_X1_append b0 a1 a2 a3 μ = some ρ) : CI l D ad cl yX1_append wsX1_append rmX1_append [.ref b0, .int a1, .int a2, .int a3] μ ρ.1 ρ.2 := c_ofI (cc := cX1_append) (nL := 4) rfl (by decide) (Nat.le_of_ble_eq_true rfl) (fun Γ C E => w_X1_append C hb0 E μ h)
theorem gvX1_25 : jm_gv RX1 25 RX1 yX1_append wsX1_append 4 3 := ⟨_, _, gi_V gwt4_135 gwt4_72 gwt4_73 gwt1_5 gwt4_74, rfl, by decide +kernel⟩
/-! X1_become -/
def wsX1_become : List Cond := .code yX1_become cX1_become 3 none :: G0
def rmX1_become : Room := { frames := 1, cells := 0, slots := 0, locals := 23 }
def f_X1_become_7 (b0 : Nat) (k1 : Nat) : Nat → Int32 → Mem → Option (Mem)
  | 0, _, _ => none
  | n + 1, x2, μ => (if (μ.1 k1 0) ≤ x2 then some μ else gd (inb x2 12) <| Option.bind (f_X1_append b0 (μ.1 (k1 + 1) (Int32.toNatClampNeg x2)) (μ.1 (k1 + 2) (Int32.toNatClampNeg x2)) (μ.1 (k1 + 3) (Int32.toNatClampNeg x2)) μ) fun p3_ => f_X1_become_7 b0 k1 n (x2 + (nI 1)) p3_.2)
set_option maxHeartbeats 4000000 in
set_option maxRecDepth 100000 in
theorem w_X1_become_7 {Γ : jG} (C : jC Γ 3 cX1_become RX1 rmX1_become) {b0 : Nat} {k1 : Nat} (hb0 : isLogs b0) (hk1 : isLogs k1) {ρ : Mem} (E : jEV Γ cX1_become ρ) : ∀ (n : Nat) (x2 : Int32) (μ : Mem), f_X1_become_7 b0 k1 n x2 μ = some ρ → jJ Γ 3 7 [(0, .ref b0), (1, .ref k1), (2, .int x2)] [] μ := by
  intro n
  induction n with
  | zero => intro x2 μ h; rw [f_X1_become_7] at h; cases h
  | succ n ih =>
    intro x2 μ h
    rw [f_X1_become_7] at h
    refine j_iload_n C dX1_become_7 rfl 2 rfl ?_
    refine j_aload_n C dX1_become_8 rfl 1 rfl ?_
    refine j_getI C dX1_become_9 rfl lkX1_9 (isG_0 hk1) rfl ?_
    refine j_icmp_ge (tgt := 44) C dX1_become_12 rfl (by decide) (fun c1_ => ?_) (fun c1_ => ?_)
    · replace h := if_t h c1_
      obtain rfl := Option.some.inj h
      exact j_vret E dX1_become_44
    · replace h := if_f h c1_
      refine j_aload_n C dX1_become_15 rfl 0 rfl ?_
      refine j_aload_n C dX1_become_16 rfl 1 rfl ?_
      refine j_getR (c := k1 + 1) C dX1_become_17 rfl lkX1_15 (isG_0 hk1) rfl ?_
      refine j_iload_n C dX1_become_20 rfl 2 rfl ?_
      replace h := gd_e h
      obtain ⟨g2_, h⟩ := h
      refine j_iald C dX1_become_21 rfl (isG_a1 hk1) g2_ ?_
      refine j_aload_n C dX1_become_22 rfl 1 rfl ?_
      refine j_getR (c := k1 + 2) C dX1_become_23 rfl lkX1_19 (isG_0 hk1) rfl ?_
      refine j_iload_n C dX1_become_26 rfl 2 rfl ?_
      refine j_iald C dX1_become_27 rfl (isG_a2 hk1) g2_ ?_
      refine j_aload_n C dX1_become_28 rfl 1 rfl ?_
      refine j_getR (c := k1 + 3) C dX1_become_29 rfl lkX1_22 (isG_0 hk1) rfl ?_
      refine j_iload_n C dX1_become_32 rfl 2 rfl ?_
      refine j_iald C dX1_become_33 rfl (isG_a3 hk1) g2_ ?_
      replace h := bd_e h
      obtain ⟨p3_, h4_, h⟩ := h
      refine j_cVI (av := [.int (μ.1 (k1 + 1) (Int32.toNatClampNeg x2)), .int (μ.1 (k1 + 2) (Int32.toNatClampNeg x2)), .int (μ.1 (k1 + 3) (Int32.toNatClampNeg x2))]) (rest := []) C dX1_become_34 rfl (c_X1_append _ _ _ _ hb0 μ p3_ h4_) gvX1_25 ⟨⟨rfl, rfl⟩, Nat.le_of_ble_eq_true rfl, Nat.le_of_ble_eq_true rfl⟩ rfl (isG_0 hb0) rfl rfl (Nat.le_of_ble_eq_true rfl) ?_
      refine j_pop C dX1_become_37 rfl rfl ?_
      refine j_iinc (d := (nI 1)) (v := x2 + (nI 1)) (lv' := [(2, .int (x2 + (nI 1))), (0, .ref b0), (1, .ref k1)]) C dX1_become_38 rfl (by decide) 2 rfl (by decide) rfl rfl ?_
      refine j_goto (pc' := 7) C dX1_become_41 (by decide) ?_
      refine j_lv [1, 2, 0] rfl ?_
      exact (ih) (x2 + (nI 1)) p3_.2 h
def f_X1_become (b0 : Nat) (k1 : Nat) (μ : Mem) : Option (Mem) := zl (sI μ b0 0 (nI 0)) fun μ1_ => f_X1_become_7 b0 k1 zfu (nI 0) μ1_
set_option maxHeartbeats 4000000 in
set_option maxRecDepth 100000 in
theorem w_X1_become {Γ : jG} (C : jC Γ 3 cX1_become RX1 rmX1_become) {b0 : Nat} {k1 : Nat} (hb0 : isLogs b0) (hk1 : isLogs k1) {ρ : Mem} (E : jEV Γ cX1_become ρ) (μ : Mem) (h : f_X1_become b0 k1 μ = some ρ) : jJ Γ 3 0 [(0, .ref b0), (1, .ref k1)] [] μ := by
  unfold f_X1_become at h
  refine j_aload_n C dX1_become_0 rfl 0 rfl ?_
  refine j_iconst (v := (nI 0)) C dX1_become_1 rfl (by decide) ?_
  refine j_putI C dX1_become_2 rfl lpX1_9 (isG_0 hb0) rfl ?_
  refine j_mem (fun μ1_ e2_ => ?_)
  replace h := zl_u h e2_
  refine j_iconst (v := (nI 0)) C dX1_become_5 rfl (by decide) ?_
  refine j_istore_n (lv' := [(2, .int (nI 0)), (0, .ref b0), (1, .ref k1)]) C dX1_become_6 rfl (by decide) rfl ?_
  refine j_lv [1, 2, 0] rfl ?_
  exact w_X1_become_7 C hb0 hk1 E zfu (nI 0) μ1_ h
set_option maxRecDepth 100000 in
theorem c_X1_become (l : Launch) (D : va_G) (ad : Nat → Nat) (cl : Nat → ClassId) {b0 : Nat} {k1 : Nat} (hb0 : isLogs b0) (hk1 : isLogs k1) (μ : Mem) (ρ : Mem) (h : f_X1_become b0 k1 μ = some ρ) : CV l D ad cl yX1_become wsX1_become rmX1_become [.ref b0, .ref k1] μ ρ := c_ofV (cc := cX1_become) (nL := 3) rfl (by decide) (Nat.le_of_ble_eq_true rfl) (fun Γ C E => w_X1_become C hb0 hk1 E μ h)
/-! X1_sureLiars -/
def wsX1_sureLiars : List Cond := .code yX1_sureLiars cX1_sureLiars 4 (some .int) :: G0
def rmX1_sureLiars : Room := { frames := 0, cells := 0, slots := 0, locals := 0 }
def f_X1_sureLiars_48 (b0 : Nat) (kb6 : Int32 → Int32 → Int32 → Mem → Option (Int32 × Mem)) (x1 : Int32) (x2 : Int32) (x3 : Int32) (μ : Mem) : Option (Int32 × Mem) := kb6 x1 x2 (x3 + (nI 1)) μ
set_option maxHeartbeats 4000000 in
set_option maxRecDepth 100000 in
theorem w_X1_sureLiars_48 {Γ : jG} (C : jC Γ 4 cX1_sureLiars RX1 rmX1_sureLiars) {b0 : Nat} (hb0 : isLogs b0) {kb6 : Int32 → Int32 → Int32 → Mem → Option (Int32 × Mem)} {ρ : Int32 × Mem} (E : jEI Γ cX1_sureLiars ρ.1 ρ.2) (Hkb6 : ∀ (x1 : Int32) (x2 : Int32) (x3 : Int32) (μ : Mem), kb6 x1 x2 x3 μ = some ρ → jJ Γ 4 6 [(0, .ref b0), (1, .int x1), (2, .int x2), (3, .int x3)] [] μ) (x1 : Int32) (x2 : Int32) (x3 : Int32) (μ : Mem) (h : f_X1_sureLiars_48 b0 kb6 x1 x2 x3 μ = some ρ) : jJ Γ 4 48 [(0, .ref b0), (1, .int x1), (2, .int x2), (3, .int x3)] [] μ := by
  unfold f_X1_sureLiars_48 at h
  refine j_iinc (d := (nI 1)) (v := x3 + (nI 1)) (lv' := [(3, .int (x3 + (nI 1))), (0, .ref b0), (1, .int x1), (2, .int x2)]) C dX1_sureLiars_48 rfl (by decide) 3 rfl (by decide) rfl rfl ?_
  refine j_goto (pc' := 6) C dX1_sureLiars_51 (by decide) ?_
  refine j_lv [1, 2, 3, 0] rfl ?_
  exact (Hkb6) x1 x2 (x3 + (nI 1)) μ h
def f_X1_sureLiars_6 (b0 : Nat) : Nat → Int32 → Int32 → Int32 → Mem → Option (Int32 × Mem)
  | 0, _, _, _, _ => none
  | n + 1, x1, x2, x3, μ => (if (μ.1 b0 0) ≤ x3 then some (x1 &&& x2, μ) else gd (inb x3 12) <| (if (μ.1 (b0 + 3) (Int32.toNatClampNeg x3)) = 0 then zl (x1 ||| ((nI 1) <<< ((μ.1 (b0 + 1) (Int32.toNatClampNeg x3)) &&& 31))) fun x6_ => f_X1_sureLiars_48 b0 (fun x1 x2 x3 μ => f_X1_sureLiars_6 b0 n x1 x2 x3 μ) x6_ x2 x3 μ else zl (x2 ||| ((nI 1) <<< ((μ.1 (b0 + 1) (Int32.toNatClampNeg x3)) &&& 31))) fun x4_ => f_X1_sureLiars_48 b0 (fun x1 x2 x3 μ => f_X1_sureLiars_6 b0 n x1 x2 x3 μ) x1 x4_ x3 μ))
set_option maxHeartbeats 4000000 in
set_option maxRecDepth 100000 in
theorem w_X1_sureLiars_6 {Γ : jG} (C : jC Γ 4 cX1_sureLiars RX1 rmX1_sureLiars) {b0 : Nat} (hb0 : isLogs b0) {ρ : Int32 × Mem} (E : jEI Γ cX1_sureLiars ρ.1 ρ.2) : ∀ (n : Nat) (x1 : Int32) (x2 : Int32) (x3 : Int32) (μ : Mem), f_X1_sureLiars_6 b0 n x1 x2 x3 μ = some ρ → jJ Γ 4 6 [(0, .ref b0), (1, .int x1), (2, .int x2), (3, .int x3)] [] μ := by
  intro n
  induction n with
  | zero => intro x1 x2 x3 μ h; rw [f_X1_sureLiars_6] at h; cases h
  | succ n ih =>
    intro x1 x2 x3 μ h
    rw [f_X1_sureLiars_6] at h
    refine j_iload_n C dX1_sureLiars_6 rfl 3 rfl ?_
    refine j_aload_n C dX1_sureLiars_7 rfl 0 rfl ?_
    refine j_getI C dX1_sureLiars_8 rfl lkX1_9 (isG_0 hb0) rfl ?_
    refine j_icmp_ge (tgt := 54) C dX1_sureLiars_11 rfl (by decide) (fun c1_ => ?_) (fun c1_ => ?_)
    · replace h := if_t h c1_
      refine j_iload_n C dX1_sureLiars_54 rfl 1 rfl ?_
      refine j_iload_n C dX1_sureLiars_55 rfl 2 rfl ?_
      refine j_iand C dX1_sureLiars_56 rfl ?_
      obtain rfl := Option.some.inj h
      exact j_iret E dX1_sureLiars_57
    · replace h := if_f h c1_
      refine j_aload_n C dX1_sureLiars_14 rfl 0 rfl ?_
      refine j_getR (c := b0 + 3) C dX1_sureLiars_15 rfl lkX1_22 (isG_0 hb0) rfl ?_
      refine j_iload_n C dX1_sureLiars_18 rfl 3 rfl ?_
      replace h := gd_e h
      obtain ⟨g2_, h⟩ := h
      refine j_iald C dX1_sureLiars_19 rfl (isG_a3 hb0) g2_ ?_
      refine j_if_ne (tgt := 37) C dX1_sureLiars_20 rfl (by decide) (fun c3_ => ?_) (fun c3_ => ?_)
      · replace h := if_f h c3_
        refine j_iload_n C dX1_sureLiars_37 rfl 2 rfl ?_
        refine j_iconst (v := (nI 1)) C dX1_sureLiars_38 rfl (by decide) ?_
        refine j_aload_n C dX1_sureLiars_39 rfl 0 rfl ?_
        refine j_getR (c := b0 + 1) C dX1_sureLiars_40 rfl lkX1_15 (isG_0 hb0) rfl ?_
        refine j_iload_n C dX1_sureLiars_43 rfl 3 rfl ?_
        refine j_iald C dX1_sureLiars_44 rfl (isG_a1 hb0) g2_ ?_
        refine j_ishl C dX1_sureLiars_45 rfl ?_
        refine j_ior C dX1_sureLiars_46 rfl ?_
        refine j_topi (fun x4_ e5_ => ?_)
        replace h := zl_u h e5_
        refine j_istore_n (lv' := [(2, .int x4_), (0, .ref b0), (1, .int x1), (3, .int x3)]) C dX1_sureLiars_47 rfl (by decide) rfl ?_
        refine j_lv [1, 2, 0, 3] rfl ?_
        exact w_X1_sureLiars_48 C hb0 E ih x1 x4_ x3 μ h
      · replace h := if_t h c3_
        refine j_iload_n C dX1_sureLiars_23 rfl 1 rfl ?_
        refine j_iconst (v := (nI 1)) C dX1_sureLiars_24 rfl (by decide) ?_
        refine j_aload_n C dX1_sureLiars_25 rfl 0 rfl ?_
        refine j_getR (c := b0 + 1) C dX1_sureLiars_26 rfl lkX1_15 (isG_0 hb0) rfl ?_
        refine j_iload_n C dX1_sureLiars_29 rfl 3 rfl ?_
        refine j_iald C dX1_sureLiars_30 rfl (isG_a1 hb0) g2_ ?_
        refine j_ishl C dX1_sureLiars_31 rfl ?_
        refine j_ior C dX1_sureLiars_32 rfl ?_
        refine j_topi (fun x6_ e7_ => ?_)
        replace h := zl_u h e7_
        refine j_istore_n (lv' := [(1, .int x6_), (0, .ref b0), (2, .int x2), (3, .int x3)]) C dX1_sureLiars_33 rfl (by decide) rfl ?_
        refine j_goto (pc' := 48) C dX1_sureLiars_34 (by decide) ?_
        refine j_lv [1, 0, 2, 3] rfl ?_
        exact w_X1_sureLiars_48 C hb0 E ih x6_ x2 x3 μ h
def f_X1_sureLiars (b0 : Nat) (μ : Mem) : Option (Int32 × Mem) := f_X1_sureLiars_6 b0 zfu (nI 0) (nI 0) (nI 0) μ
set_option maxHeartbeats 4000000 in
set_option maxRecDepth 100000 in
theorem w_X1_sureLiars {Γ : jG} (C : jC Γ 4 cX1_sureLiars RX1 rmX1_sureLiars) {b0 : Nat} (hb0 : isLogs b0) {ρ : Int32 × Mem} (E : jEI Γ cX1_sureLiars ρ.1 ρ.2) (μ : Mem) (h : f_X1_sureLiars b0 μ = some ρ) : jJ Γ 4 0 [(0, .ref b0)] [] μ := by
  unfold f_X1_sureLiars at h
  refine j_iconst (v := (nI 0)) C dX1_sureLiars_0 rfl (by decide) ?_
  refine j_istore_n (lv' := [(1, .int (nI 0)), (0, .ref b0)]) C dX1_sureLiars_1 rfl (by decide) rfl ?_
  refine j_iconst (v := (nI 0)) C dX1_sureLiars_2 rfl (by decide) ?_
  refine j_istore_n (lv' := [(2, .int (nI 0)), (1, .int (nI 0)), (0, .ref b0)]) C dX1_sureLiars_3 rfl (by decide) rfl ?_
  refine j_iconst (v := (nI 0)) C dX1_sureLiars_4 rfl (by decide) ?_
  refine j_istore_n (lv' := [(3, .int (nI 0)), (2, .int (nI 0)), (1, .int (nI 0)), (0, .ref b0)]) C dX1_sureLiars_5 rfl (by decide) rfl ?_
  refine j_lv [3, 2, 1, 0] rfl ?_
  exact w_X1_sureLiars_6 C hb0 E zfu (nI 0) (nI 0) (nI 0) μ h
set_option maxRecDepth 100000 in
theorem c_X1_sureLiars (l : Launch) (D : va_G) (ad : Nat → Nat) (cl : Nat → ClassId) {b0 : Nat} (hb0 : isLogs b0) (μ : Mem) (ρ : Int32 × Mem) (h : f_X1_sureLiars b0 μ = some ρ) : CI l D ad cl yX1_sureLiars wsX1_sureLiars rmX1_sureLiars [.ref b0] μ ρ.1 ρ.2 := c_ofI (cc := cX1_sureLiars) (nL := 4) rfl (by decide) (Nat.le_of_ble_eq_true rfl) (fun Γ C E => w_X1_sureLiars C hb0 E μ h)
/-! X1_logsOf -/
def wsX1_logsOf : List Cond := .code yX1_logsOf cX1_logsOf 4 (some .int) :: G0
def rmX1_logsOf : Room := { frames := 0, cells := 0, slots := 0, locals := 0 }
def f_X1_logsOf_25 (b0 : Nat) (a1 : Int32) (kb4 : Int32 → Int32 → Mem → Option (Int32 × Mem)) (x2 : Int32) (x3 : Int32) (μ : Mem) : Option (Int32 × Mem) := kb4 x2 (x3 + (nI 1)) μ
set_option maxHeartbeats 4000000 in
set_option maxRecDepth 100000 in
theorem w_X1_logsOf_25 {Γ : jG} (C : jC Γ 4 cX1_logsOf RX1 rmX1_logsOf) {b0 : Nat} {a1 : Int32} (hb0 : isLogs b0) {kb4 : Int32 → Int32 → Mem → Option (Int32 × Mem)} {ρ : Int32 × Mem} (E : jEI Γ cX1_logsOf ρ.1 ρ.2) (Hkb4 : ∀ (x2 : Int32) (x3 : Int32) (μ : Mem), kb4 x2 x3 μ = some ρ → jJ Γ 4 4 [(0, .ref b0), (1, .int a1), (2, .int x2), (3, .int x3)] [] μ) (x2 : Int32) (x3 : Int32) (μ : Mem) (h : f_X1_logsOf_25 b0 a1 kb4 x2 x3 μ = some ρ) : jJ Γ 4 25 [(0, .ref b0), (1, .int a1), (2, .int x2), (3, .int x3)] [] μ := by
  unfold f_X1_logsOf_25 at h
  refine j_iinc (d := (nI 1)) (v := x3 + (nI 1)) (lv' := [(3, .int (x3 + (nI 1))), (0, .ref b0), (1, .int a1), (2, .int x2)]) C dX1_logsOf_25 rfl (by decide) 3 rfl (by decide) rfl rfl ?_
  refine j_goto (pc' := 4) C dX1_logsOf_28 (by decide) ?_
  refine j_lv [1, 2, 3, 0] rfl ?_
  exact (Hkb4) x2 (x3 + (nI 1)) μ h
def f_X1_logsOf_4 (b0 : Nat) (a1 : Int32) : Nat → Int32 → Int32 → Mem → Option (Int32 × Mem)
  | 0, _, _, _ => none
  | n + 1, x2, x3, μ => (if (μ.1 b0 0) ≤ x3 then some (x2, μ) else gd (inb x3 12) <| (if (μ.1 (b0 + 1) (Int32.toNatClampNeg x3)) = a1 then f_X1_logsOf_25 b0 a1 (fun x2 x3 μ => f_X1_logsOf_4 b0 a1 n x2 x3 μ) (x2 + (nI 1)) x3 μ else f_X1_logsOf_25 b0 a1 (fun x2 x3 μ => f_X1_logsOf_4 b0 a1 n x2 x3 μ) x2 x3 μ))
set_option maxHeartbeats 4000000 in
set_option maxRecDepth 100000 in
theorem w_X1_logsOf_4 {Γ : jG} (C : jC Γ 4 cX1_logsOf RX1 rmX1_logsOf) {b0 : Nat} {a1 : Int32} (hb0 : isLogs b0) {ρ : Int32 × Mem} (E : jEI Γ cX1_logsOf ρ.1 ρ.2) : ∀ (n : Nat) (x2 : Int32) (x3 : Int32) (μ : Mem), f_X1_logsOf_4 b0 a1 n x2 x3 μ = some ρ → jJ Γ 4 4 [(0, .ref b0), (1, .int a1), (2, .int x2), (3, .int x3)] [] μ := by
  intro n
  induction n with
  | zero => intro x2 x3 μ h; rw [f_X1_logsOf_4] at h; cases h
  | succ n ih =>
    intro x2 x3 μ h
    rw [f_X1_logsOf_4] at h
    refine j_iload_n C dX1_logsOf_4 rfl 3 rfl ?_
    refine j_aload_n C dX1_logsOf_5 rfl 0 rfl ?_
    refine j_getI C dX1_logsOf_6 rfl lkX1_9 (isG_0 hb0) rfl ?_
    refine j_icmp_ge (tgt := 31) C dX1_logsOf_9 rfl (by decide) (fun c1_ => ?_) (fun c1_ => ?_)
    · replace h := if_t h c1_
      refine j_iload_n C dX1_logsOf_31 rfl 2 rfl ?_
      obtain rfl := Option.some.inj h
      exact j_iret E dX1_logsOf_32
    · replace h := if_f h c1_
      refine j_aload_n C dX1_logsOf_12 rfl 0 rfl ?_
      refine j_getR (c := b0 + 1) C dX1_logsOf_13 rfl lkX1_15 (isG_0 hb0) rfl ?_
      refine j_iload_n C dX1_logsOf_16 rfl 3 rfl ?_
      replace h := gd_e h
      obtain ⟨g2_, h⟩ := h
      refine j_iald C dX1_logsOf_17 rfl (isG_a1 hb0) g2_ ?_
      refine j_iload_n C dX1_logsOf_18 rfl 1 rfl ?_
      refine j_icmp_ne (tgt := 25) C dX1_logsOf_19 rfl (by decide) (fun c3_ => ?_) (fun c3_ => ?_)
      · replace h := if_f h c3_
        refine j_lv [0, 1, 2, 3] rfl ?_
        exact w_X1_logsOf_25 C hb0 E ih x2 x3 μ h
      · replace h := if_t h c3_
        refine j_iinc (d := (nI 1)) (v := x2 + (nI 1)) (lv' := [(2, .int (x2 + (nI 1))), (0, .ref b0), (1, .int a1), (3, .int x3)]) C dX1_logsOf_22 rfl (by decide) 2 rfl (by decide) rfl rfl ?_
        refine j_lv [1, 2, 0, 3] rfl ?_
        exact w_X1_logsOf_25 C hb0 E ih (x2 + (nI 1)) x3 μ h
def f_X1_logsOf (b0 : Nat) (a1 : Int32) (μ : Mem) : Option (Int32 × Mem) := f_X1_logsOf_4 b0 a1 zfu (nI 0) (nI 0) μ
set_option maxHeartbeats 4000000 in
set_option maxRecDepth 100000 in
theorem w_X1_logsOf {Γ : jG} (C : jC Γ 4 cX1_logsOf RX1 rmX1_logsOf) {b0 : Nat} {a1 : Int32} (hb0 : isLogs b0) {ρ : Int32 × Mem} (E : jEI Γ cX1_logsOf ρ.1 ρ.2) (μ : Mem) (h : f_X1_logsOf b0 a1 μ = some ρ) : jJ Γ 4 0 [(0, .ref b0), (1, .int a1)] [] μ := by
  unfold f_X1_logsOf at h
  refine j_iconst (v := (nI 0)) C dX1_logsOf_0 rfl (by decide) ?_
  refine j_istore_n (lv' := [(2, .int (nI 0)), (0, .ref b0), (1, .int a1)]) C dX1_logsOf_1 rfl (by decide) rfl ?_
  refine j_iconst (v := (nI 0)) C dX1_logsOf_2 rfl (by decide) ?_
  refine j_istore_n (lv' := [(3, .int (nI 0)), (2, .int (nI 0)), (0, .ref b0), (1, .int a1)]) C dX1_logsOf_3 rfl (by decide) rfl ?_
  refine j_lv [2, 3, 1, 0] rfl ?_
  exact w_X1_logsOf_4 C hb0 E zfu (nI 0) (nI 0) μ h
set_option maxRecDepth 100000 in
theorem c_X1_logsOf (l : Launch) (D : va_G) (ad : Nat → Nat) (cl : Nat → ClassId) {b0 : Nat} {a1 : Int32} (hb0 : isLogs b0) (μ : Mem) (ρ : Int32 × Mem) (h : f_X1_logsOf b0 a1 μ = some ρ) : CI l D ad cl yX1_logsOf wsX1_logsOf rmX1_logsOf [.ref b0, .int a1] μ ρ.1 ρ.2 := c_ofI (cc := cX1_logsOf) (nL := 4) rfl (by decide) (Nat.le_of_ble_eq_true rfl) (fun Γ C E => w_X1_logsOf C hb0 E μ h)
/-! X1_hasPair -/
def wsX1_hasPair : List Cond := .code yX1_hasPair cX1_hasPair 4 (some .boolean) :: G0
def rmX1_hasPair : Room := { frames := 0, cells := 0, slots := 0, locals := 0 }
def f_X1_hasPair_32 (b0 : Nat) (a1 : Int32) (a2 : Int32) (kb2 : Int32 → Mem → Option (Int32 × Mem)) (x3 : Int32) (μ : Mem) : Option (Int32 × Mem) := kb2 (x3 + (nI 1)) μ
set_option maxHeartbeats 4000000 in
set_option maxRecDepth 100000 in
theorem w_X1_hasPair_32 {Γ : jG} (C : jC Γ 4 cX1_hasPair RX1 rmX1_hasPair) {b0 : Nat} {a1 : Int32} {a2 : Int32} (hb0 : isLogs b0) {kb2 : Int32 → Mem → Option (Int32 × Mem)} {ρ : Int32 × Mem} (E : (isB ρ.1 = true → jEI Γ cX1_hasPair ρ.1 ρ.2)) (Hkb2 : ∀ (x3 : Int32) (μ : Mem), kb2 x3 μ = some ρ → jJ Γ 4 2 [(0, .ref b0), (1, .int a1), (2, .int a2), (3, .int x3)] [] μ) (x3 : Int32) (μ : Mem) (h : f_X1_hasPair_32 b0 a1 a2 kb2 x3 μ = some ρ) : jJ Γ 4 32 [(0, .ref b0), (1, .int a1), (2, .int a2), (3, .int x3)] [] μ := by
  unfold f_X1_hasPair_32 at h
  refine j_iinc (d := (nI 1)) (v := x3 + (nI 1)) (lv' := [(3, .int (x3 + (nI 1))), (0, .ref b0), (1, .int a1), (2, .int a2)]) C dX1_hasPair_32 rfl (by decide) 3 rfl (by decide) rfl rfl ?_
  refine j_goto (pc' := 2) C dX1_hasPair_35 (by decide) ?_
  refine j_lv [1, 2, 3, 0] rfl ?_
  exact (Hkb2) (x3 + (nI 1)) μ h
def f_X1_hasPair_2 (b0 : Nat) (a1 : Int32) (a2 : Int32) : Nat → Int32 → Mem → Option (Int32 × Mem)
  | 0, _, _ => none
  | n + 1, x3, μ => (if (μ.1 b0 0) ≤ x3 then some ((nI 0), μ) else gd (inb x3 12) <| (if (μ.1 (b0 + 1) (Int32.toNatClampNeg x3)) = a1 then (if (μ.1 (b0 + 2) (Int32.toNatClampNeg x3)) = a2 then some ((nI 1), μ) else f_X1_hasPair_32 b0 a1 a2 (fun x3 μ => f_X1_hasPair_2 b0 a1 a2 n x3 μ) x3 μ) else f_X1_hasPair_32 b0 a1 a2 (fun x3 μ => f_X1_hasPair_2 b0 a1 a2 n x3 μ) x3 μ))
set_option maxHeartbeats 4000000 in
set_option maxRecDepth 100000 in
theorem w_X1_hasPair_2 {Γ : jG} (C : jC Γ 4 cX1_hasPair RX1 rmX1_hasPair) {b0 : Nat} {a1 : Int32} {a2 : Int32} (hb0 : isLogs b0) {ρ : Int32 × Mem} (E : (isB ρ.1 = true → jEI Γ cX1_hasPair ρ.1 ρ.2)) : ∀ (n : Nat) (x3 : Int32) (μ : Mem), f_X1_hasPair_2 b0 a1 a2 n x3 μ = some ρ → jJ Γ 4 2 [(0, .ref b0), (1, .int a1), (2, .int a2), (3, .int x3)] [] μ := by
  intro n
  induction n with
  | zero => intro x3 μ h; rw [f_X1_hasPair_2] at h; cases h
  | succ n ih =>
    intro x3 μ h
    rw [f_X1_hasPair_2] at h
    refine j_iload_n C dX1_hasPair_2 rfl 3 rfl ?_
    refine j_aload_n C dX1_hasPair_3 rfl 0 rfl ?_
    refine j_getI C dX1_hasPair_4 rfl lkX1_9 (isG_0 hb0) rfl ?_
    refine j_icmp_ge (tgt := 38) C dX1_hasPair_7 rfl (by decide) (fun c1_ => ?_) (fun c1_ => ?_)
    · replace h := if_t h c1_
      refine j_iconst (v := (nI 0)) C dX1_hasPair_38 rfl (by decide) ?_
      obtain rfl := Option.some.inj h
      exact j_iret (E isB_0) dX1_hasPair_39
    · replace h := if_f h c1_
      refine j_aload_n C dX1_hasPair_10 rfl 0 rfl ?_
      refine j_getR (c := b0 + 1) C dX1_hasPair_11 rfl lkX1_15 (isG_0 hb0) rfl ?_
      refine j_iload_n C dX1_hasPair_14 rfl 3 rfl ?_
      replace h := gd_e h
      obtain ⟨g2_, h⟩ := h
      refine j_iald C dX1_hasPair_15 rfl (isG_a1 hb0) g2_ ?_
      refine j_iload_n C dX1_hasPair_16 rfl 1 rfl ?_
      refine j_icmp_ne (tgt := 32) C dX1_hasPair_17 rfl (by decide) (fun c3_ => ?_) (fun c3_ => ?_)
      · replace h := if_f h c3_
        refine j_lv [0, 1, 2, 3] rfl ?_
        exact w_X1_hasPair_32 C hb0 E ih x3 μ h
      · replace h := if_t h c3_
        refine j_aload_n C dX1_hasPair_20 rfl 0 rfl ?_
        refine j_getR (c := b0 + 2) C dX1_hasPair_21 rfl lkX1_19 (isG_0 hb0) rfl ?_
        refine j_iload_n C dX1_hasPair_24 rfl 3 rfl ?_
        refine j_iald C dX1_hasPair_25 rfl (isG_a2 hb0) g2_ ?_
        refine j_iload_n C dX1_hasPair_26 rfl 2 rfl ?_
        refine j_icmp_ne (tgt := 32) C dX1_hasPair_27 rfl (by decide) (fun c4_ => ?_) (fun c4_ => ?_)
        · replace h := if_f h c4_
          refine j_lv [0, 1, 2, 3] rfl ?_
          exact w_X1_hasPair_32 C hb0 E ih x3 μ h
        · replace h := if_t h c4_
          refine j_iconst (v := (nI 1)) C dX1_hasPair_30 rfl (by decide) ?_
          obtain rfl := Option.some.inj h
          exact j_iret (E isB_1) dX1_hasPair_31
def f_X1_hasPair (b0 : Nat) (a1 : Int32) (a2 : Int32) (μ : Mem) : Option (Int32 × Mem) := f_X1_hasPair_2 b0 a1 a2 zfu (nI 0) μ
set_option maxHeartbeats 4000000 in
set_option maxRecDepth 100000 in
theorem w_X1_hasPair {Γ : jG} (C : jC Γ 4 cX1_hasPair RX1 rmX1_hasPair) {b0 : Nat} {a1 : Int32} {a2 : Int32} (hb0 : isLogs b0) {ρ : Int32 × Mem} (E : (isB ρ.1 = true → jEI Γ cX1_hasPair ρ.1 ρ.2)) (μ : Mem) (h : f_X1_hasPair b0 a1 a2 μ = some ρ) : jJ Γ 4 0 [(0, .ref b0), (1, .int a1), (2, .int a2)] [] μ := by
  unfold f_X1_hasPair at h
  refine j_iconst (v := (nI 0)) C dX1_hasPair_0 rfl (by decide) ?_
  refine j_istore_n (lv' := [(3, .int (nI 0)), (0, .ref b0), (1, .int a1), (2, .int a2)]) C dX1_hasPair_1 rfl (by decide) rfl ?_
  refine j_lv [1, 2, 3, 0] rfl ?_
  exact w_X1_hasPair_2 C hb0 E zfu (nI 0) μ h
set_option maxRecDepth 100000 in
theorem c_X1_hasPair (l : Launch) (D : va_G) (ad : Nat → Nat) (cl : Nat → ClassId) {b0 : Nat} {a1 : Int32} {a2 : Int32} (hb0 : isLogs b0) (μ : Mem) (ρ : Int32 × Mem) (h : f_X1_hasPair b0 a1 a2 μ = some ρ) : CI l D ad cl yX1_hasPair wsX1_hasPair rmX1_hasPair [.ref b0, .int a1, .int a2] μ ρ.1 ρ.2 := c_ofZ (cc := cX1_hasPair) (nL := 4) rfl (by decide) (Nat.le_of_ble_eq_true rfl) (fun Γ C E => w_X1_hasPair C hb0 E μ h)
theorem gvX1_41 : jm_gv RX1 41 RX1 yX1_hasPair wsX1_hasPair 4 2 := ⟨_, _, gi_V gwt4_112 gwt4_114 gwp2_14 gwt1_5 gwt4_115, rfl, by decide +kernel⟩
/-! X1_firstWithoutLog -/
def wsX1_firstWithoutLog : List Cond := .code yX1_firstWithoutLog cX1_firstWithoutLog 4 (some .int) :: G0
def rmX1_firstWithoutLog : Room := { frames := 1, cells := 0, slots := 0, locals := 23 }
def f_X1_firstWithoutLog_23 (b0 : Nat) (a1 : Int32) (a2 : Int32) (kb2 : Int32 → Mem → Option (Int32 × Mem)) (x3 : Int32) (μ : Mem) : Option (Int32 × Mem) := kb2 (x3 + (nI 1)) μ
set_option maxHeartbeats 4000000 in
set_option maxRecDepth 100000 in
theorem w_X1_firstWithoutLog_23 {Γ : jG} (C : jC Γ 4 cX1_firstWithoutLog RX1 rmX1_firstWithoutLog) {b0 : Nat} {a1 : Int32} {a2 : Int32} (hb0 : isLogs b0) {kb2 : Int32 → Mem → Option (Int32 × Mem)} {ρ : Int32 × Mem} (E : jEI Γ cX1_firstWithoutLog ρ.1 ρ.2) (Hkb2 : ∀ (x3 : Int32) (μ : Mem), kb2 x3 μ = some ρ → jJ Γ 4 2 [(0, .ref b0), (1, .int a1), (2, .int a2), (3, .int x3)] [] μ) (x3 : Int32) (μ : Mem) (h : f_X1_firstWithoutLog_23 b0 a1 a2 kb2 x3 μ = some ρ) : jJ Γ 4 23 [(0, .ref b0), (1, .int a1), (2, .int a2), (3, .int x3)] [] μ := by
  unfold f_X1_firstWithoutLog_23 at h
  refine j_iinc (d := (nI 1)) (v := x3 + (nI 1)) (lv' := [(3, .int (x3 + (nI 1))), (0, .ref b0), (1, .int a1), (2, .int a2)]) C dX1_firstWithoutLog_23 rfl (by decide) 3 rfl (by decide) rfl rfl ?_
  refine j_goto (pc' := 2) C dX1_firstWithoutLog_26 (by decide) ?_
  refine j_lv [1, 2, 3, 0] rfl ?_
  exact (Hkb2) (x3 + (nI 1)) μ h
def f_X1_firstWithoutLog_2 (b0 : Nat) (a1 : Int32) (a2 : Int32) : Nat → Int32 → Mem → Option (Int32 × Mem)
  | 0, _, _ => none
  | n + 1, x3, μ => (if a2 ≤ x3 then some ((-1), μ) else (if x3 = a1 then f_X1_firstWithoutLog_23 b0 a1 a2 (fun x3 μ => f_X1_firstWithoutLog_2 b0 a1 a2 n x3 μ) x3 μ else Option.bind (f_X1_hasPair b0 a1 x3 μ) fun p3_ => (if p3_.1 = 0 then some (x3, p3_.2) else f_X1_firstWithoutLog_23 b0 a1 a2 (fun x3 μ => f_X1_firstWithoutLog_2 b0 a1 a2 n x3 μ) x3 p3_.2)))
set_option maxHeartbeats 4000000 in
set_option maxRecDepth 100000 in
theorem w_X1_firstWithoutLog_2 {Γ : jG} (C : jC Γ 4 cX1_firstWithoutLog RX1 rmX1_firstWithoutLog) {b0 : Nat} {a1 : Int32} {a2 : Int32} (hb0 : isLogs b0) {ρ : Int32 × Mem} (E : jEI Γ cX1_firstWithoutLog ρ.1 ρ.2) : ∀ (n : Nat) (x3 : Int32) (μ : Mem), f_X1_firstWithoutLog_2 b0 a1 a2 n x3 μ = some ρ → jJ Γ 4 2 [(0, .ref b0), (1, .int a1), (2, .int a2), (3, .int x3)] [] μ := by
  intro n
  induction n with
  | zero => intro x3 μ h; rw [f_X1_firstWithoutLog_2] at h; cases h
  | succ n ih =>
    intro x3 μ h
    rw [f_X1_firstWithoutLog_2] at h
    refine j_iload_n C dX1_firstWithoutLog_2 rfl 3 rfl ?_
    refine j_iload_n C dX1_firstWithoutLog_3 rfl 2 rfl ?_
    refine j_icmp_ge (tgt := 29) C dX1_firstWithoutLog_4 rfl (by decide) (fun c1_ => ?_) (fun c1_ => ?_)
    · replace h := if_t h c1_
      refine j_iconst (v := (-1)) C dX1_firstWithoutLog_29 rfl (by decide) ?_
      obtain rfl := Option.some.inj h
      exact j_iret E dX1_firstWithoutLog_30
    · replace h := if_f h c1_
      refine j_iload_n C dX1_firstWithoutLog_7 rfl 3 rfl ?_
      refine j_iload_n C dX1_firstWithoutLog_8 rfl 1 rfl ?_
      refine j_icmp_eq (tgt := 23) C dX1_firstWithoutLog_9 rfl (by decide) (fun c2_ => ?_) (fun c2_ => ?_)
      · replace h := if_t h c2_
        refine j_lv [0, 1, 2, 3] rfl ?_
        exact w_X1_firstWithoutLog_23 C hb0 E ih x3 μ h
      · replace h := if_f h c2_
        refine j_aload_n C dX1_firstWithoutLog_12 rfl 0 rfl ?_
        refine j_iload_n C dX1_firstWithoutLog_13 rfl 1 rfl ?_
        refine j_iload_n C dX1_firstWithoutLog_14 rfl 3 rfl ?_
        replace h := bd_e h
        obtain ⟨p3_, h4_, h⟩ := h
        refine j_cVI (av := [.int a1, .int x3]) (rest := []) C dX1_firstWithoutLog_15 rfl (c_X1_hasPair _ _ _ _ hb0 μ p3_ h4_) gvX1_41 ⟨⟨rfl, rfl⟩, Nat.le_of_ble_eq_true rfl, Nat.le_of_ble_eq_true rfl⟩ rfl (isG_0 hb0) rfl rfl (Nat.le_of_ble_eq_true rfl) ?_
        refine j_if_ne (tgt := 23) C dX1_firstWithoutLog_18 rfl (by decide) (fun c5_ => ?_) (fun c5_ => ?_)
        · replace h := if_f h c5_
          refine j_lv [0, 1, 2, 3] rfl ?_
          exact w_X1_firstWithoutLog_23 C hb0 E ih x3 p3_.2 h
        · replace h := if_t h c5_
          refine j_iload_n C dX1_firstWithoutLog_21 rfl 3 rfl ?_
          obtain rfl := Option.some.inj h
          exact j_iret E dX1_firstWithoutLog_22
def f_X1_firstWithoutLog (b0 : Nat) (a1 : Int32) (a2 : Int32) (μ : Mem) : Option (Int32 × Mem) := f_X1_firstWithoutLog_2 b0 a1 a2 zfu (nI 0) μ
set_option maxHeartbeats 4000000 in
set_option maxRecDepth 100000 in
theorem w_X1_firstWithoutLog {Γ : jG} (C : jC Γ 4 cX1_firstWithoutLog RX1 rmX1_firstWithoutLog) {b0 : Nat} {a1 : Int32} {a2 : Int32} (hb0 : isLogs b0) {ρ : Int32 × Mem} (E : jEI Γ cX1_firstWithoutLog ρ.1 ρ.2) (μ : Mem) (h : f_X1_firstWithoutLog b0 a1 a2 μ = some ρ) : jJ Γ 4 0 [(0, .ref b0), (1, .int a1), (2, .int a2)] [] μ := by
  unfold f_X1_firstWithoutLog at h
  refine j_iconst (v := (nI 0)) C dX1_firstWithoutLog_0 rfl (by decide) ?_
  refine j_istore_n (lv' := [(3, .int (nI 0)), (0, .ref b0), (1, .int a1), (2, .int a2)]) C dX1_firstWithoutLog_1 rfl (by decide) rfl ?_
  refine j_lv [1, 2, 3, 0] rfl ?_
  exact w_X1_firstWithoutLog_2 C hb0 E zfu (nI 0) μ h
set_option maxRecDepth 100000 in
theorem c_X1_firstWithoutLog (l : Launch) (D : va_G) (ad : Nat → Nat) (cl : Nat → ClassId) {b0 : Nat} {a1 : Int32} {a2 : Int32} (hb0 : isLogs b0) (μ : Mem) (ρ : Int32 × Mem) (h : f_X1_firstWithoutLog b0 a1 a2 μ = some ρ) : CI l D ad cl yX1_firstWithoutLog wsX1_firstWithoutLog rmX1_firstWithoutLog [.ref b0, .int a1, .int a2] μ ρ.1 ρ.2 := c_ofI (cc := cX1_firstWithoutLog) (nL := 4) rfl (by decide) (Nat.le_of_ble_eq_true rfl) (fun Γ C E => w_X1_firstWithoutLog C hb0 E μ h)
theorem gvX1_37 : jm_gv RX1 37 RX1 yX1_firstWithoutLog wsX1_firstWithoutLog 4 2 := ⟨_, _, gi_V gwt4_108 gwt4_110 gwp2_13 gwt1_5 gwt4_111, rfl, by decide +kernel⟩
theorem gvX1_33 : jm_gv RX1 33 RX1 yX1_logsOf wsX1_logsOf 4 1 := ⟨_, _, gi_V gwt4_104 gwt4_106 gwp2_12 gwt1_5 gwt4_107, rfl, by decide +kernel⟩
theorem gvX1_29 : jm_gv RX1 29 RX1 yX1_sureLiars wsX1_sureLiars 4 0 := ⟨_, _, gi_V gwt4_103 gwt4_84 gwt4_85 gwt1_5 gwt4_86, rfl, by decide +kernel⟩
/-! X1_pairToAsk -/
def wsX1_pairToAsk : List Cond := .code yX1_pairToAsk cX1_pairToAsk 8 (some .int) :: G0
def rmX1_pairToAsk : Room := { frames := 2, cells := 0, slots := 0, locals := 46 }
def f_X1_pairToAsk_76 (b0 : Nat) (a1 : Int32) (kb15 : Int32 → Int32 → Int32 → Int32 → Mem → Option (Int32 × Mem)) (x2 : Int32) (x3 : Int32) (x4 : Int32) (x5 : Int32) (μ : Mem) : Option (Int32 × Mem) := kb15 x2 x3 x4 (x5 + (nI 1)) μ
set_option maxHeartbeats 4000000 in
set_option maxRecDepth 100000 in
theorem w_X1_pairToAsk_76 {Γ : jG} (C : jC Γ 8 cX1_pairToAsk RX1 rmX1_pairToAsk) {b0 : Nat} {a1 : Int32} (hb0 : isLogs b0) {kb15 : Int32 → Int32 → Int32 → Int32 → Mem → Option (Int32 × Mem)} {ρ : Int32 × Mem} (E : jEI Γ cX1_pairToAsk ρ.1 ρ.2) (Hkb15 : ∀ (x2 : Int32) (x3 : Int32) (x4 : Int32) (x5 : Int32) (μ : Mem), kb15 x2 x3 x4 x5 μ = some ρ → jJ Γ 8 15 [(0, .ref b0), (1, .int a1), (2, .int x2), (3, .int x3), (4, .int x4), (5, .int x5)] [] μ) (x2 : Int32) (x3 : Int32) (x4 : Int32) (x5 : Int32) (μ : Mem) (h : f_X1_pairToAsk_76 b0 a1 kb15 x2 x3 x4 x5 μ = some ρ) : jJ Γ 8 76 [(0, .ref b0), (1, .int a1), (2, .int x2), (3, .int x3), (4, .int x4), (5, .int x5)] [] μ := by
  unfold f_X1_pairToAsk_76 at h
  refine j_iinc (d := (nI 1)) (v := x5 + (nI 1)) (lv' := [(5, .int (x5 + (nI 1))), (0, .ref b0), (1, .int a1), (2, .int x2), (3, .int x3), (4, .int x4)]) C dX1_pairToAsk_76 rfl (by decide) 5 rfl (by decide) rfl rfl ?_
  refine j_goto (pc' := 15) C dX1_pairToAsk_79 (by decide) ?_
  refine j_lv [1, 2, 3, 4, 5, 0] rfl ?_
  exact (Hkb15) x2 x3 x4 (x5 + (nI 1)) μ h
def f_X1_pairToAsk_15 (b0 : Nat) (a1 : Int32) : Nat → Int32 → Int32 → Int32 → Int32 → Mem → Option (Int32 × Mem)
  | 0, _, _, _, _, _ => none
  | n + 1, x2, x3, x4, x5, μ => (if a1 ≤ x5 then some (x4, μ) else Option.bind (f_X1_logsOf b0 x5 μ) fun p2_ => Option.bind (f_X1_firstWithoutLog b0 x5 a1 p2_.2) fun p4_ => (if p2_.1 ≤ 0 then f_X1_pairToAsk_76 b0 a1 (fun x2 x3 x4 x5 μ => f_X1_pairToAsk_15 b0 a1 n x2 x3 x4 x5 μ) x2 x3 x4 x5 p4_.2 else (if x3 ≤ p2_.1 then f_X1_pairToAsk_76 b0 a1 (fun x2 x3 x4 x5 μ => f_X1_pairToAsk_15 b0 a1 n x2 x3 x4 x5 μ) x2 x3 x4 x5 p4_.2 else (if ((x2 >>> (x5 &&& 31)) &&& (nI 1)) = 0 then (if p4_.1 < 0 then f_X1_pairToAsk_76 b0 a1 (fun x2 x3 x4 x5 μ => f_X1_pairToAsk_15 b0 a1 n x2 x3 x4 x5 μ) x2 x3 x4 x5 p4_.2 else zl (((nI 10) * x5) + p4_.1) fun x10_ => f_X1_pairToAsk_76 b0 a1 (fun x2 x3 x4 x5 μ => f_X1_pairToAsk_15 b0 a1 n x2 x3 x4 x5 μ) x2 p2_.1 x10_ x5 p4_.2) else f_X1_pairToAsk_76 b0 a1 (fun x2 x3 x4 x5 μ => f_X1_pairToAsk_15 b0 a1 n x2 x3 x4 x5 μ) x2 x3 x4 x5 p4_.2))))
set_option maxHeartbeats 4000000 in
set_option maxRecDepth 100000 in
theorem w_X1_pairToAsk_15 {Γ : jG} (C : jC Γ 8 cX1_pairToAsk RX1 rmX1_pairToAsk) {b0 : Nat} {a1 : Int32} (hb0 : isLogs b0) {ρ : Int32 × Mem} (E : jEI Γ cX1_pairToAsk ρ.1 ρ.2) : ∀ (n : Nat) (x2 : Int32) (x3 : Int32) (x4 : Int32) (x5 : Int32) (μ : Mem), f_X1_pairToAsk_15 b0 a1 n x2 x3 x4 x5 μ = some ρ → jJ Γ 8 15 [(0, .ref b0), (1, .int a1), (2, .int x2), (3, .int x3), (4, .int x4), (5, .int x5)] [] μ := by
  intro n
  induction n with
  | zero => intro x2 x3 x4 x5 μ h; rw [f_X1_pairToAsk_15] at h; cases h
  | succ n ih =>
    intro x2 x3 x4 x5 μ h
    rw [f_X1_pairToAsk_15] at h
    refine j_iload C dX1_pairToAsk_15 rfl 5 rfl ?_
    refine j_iload_n C dX1_pairToAsk_17 rfl 1 rfl ?_
    refine j_icmp_ge (tgt := 82) C dX1_pairToAsk_18 rfl (by decide) (fun c1_ => ?_) (fun c1_ => ?_)
    · replace h := if_t h c1_
      refine j_iload C dX1_pairToAsk_82 rfl 4 rfl ?_
      obtain rfl := Option.some.inj h
      exact j_iret E dX1_pairToAsk_84
    · replace h := if_f h c1_
      refine j_aload_n C dX1_pairToAsk_21 rfl 0 rfl ?_
      refine j_iload C dX1_pairToAsk_22 rfl 5 rfl ?_
      replace h := bd_e h
      obtain ⟨p2_, h3_, h⟩ := h
      refine j_cVI (av := [.int x5]) (rest := []) C dX1_pairToAsk_24 rfl (c_X1_logsOf _ _ _ _ hb0 μ p2_ h3_) gvX1_33 ⟨⟨rfl, rfl⟩, Nat.le_of_ble_eq_true rfl, Nat.le_of_ble_eq_true rfl⟩ rfl (isG_0 hb0) rfl rfl (Nat.le_of_ble_eq_true rfl) ?_
      refine j_istore (lv' := [(6, .int p2_.1), (0, .ref b0), (1, .int a1), (2, .int x2), (3, .int x3), (4, .int x4), (5, .int x5)]) C dX1_pairToAsk_27 rfl (by decide) rfl ?_
      refine j_aload_n C dX1_pairToAsk_29 rfl 1 rfl ?_
      refine j_iload C dX1_pairToAsk_30 rfl 6 rfl ?_
      refine j_iload_n C dX1_pairToAsk_32 rfl 2 rfl ?_
      replace h := bd_e h
      obtain ⟨p4_, h5_, h⟩ := h
      refine j_cVI (av := [.int x5, .int a1]) (rest := []) C dX1_pairToAsk_33 rfl (c_X1_firstWithoutLog _ _ _ _ hb0 p2_.2 p4_ h5_) gvX1_37 ⟨⟨rfl, rfl⟩, Nat.le_of_ble_eq_true rfl, Nat.le_of_ble_eq_true rfl⟩ rfl (isG_0 hb0) rfl rfl (Nat.le_of_ble_eq_true rfl) ?_
      refine j_istore (lv' := [(7, .int p4_.1), (6, .int p2_.1), (0, .ref b0), (1, .int a1), (2, .int x2), (3, .int x3), (4, .int x4), (5, .int x5)]) C dX1_pairToAsk_36 rfl (by decide) rfl ?_
      refine j_iload C dX1_pairToAsk_38 rfl 1 rfl ?_
      refine j_if_le (tgt := 76) C dX1_pairToAsk_40 rfl (by decide) (fun c6_ => ?_) (fun c6_ => ?_)
      · replace h := if_t h c6_
        refine j_lv [2, 3, 4, 5, 6, 7] rfl ?_
        exact w_X1_pairToAsk_76 C hb0 E ih x2 x3 x4 x5 p4_.2 h
      · replace h := if_f h c6_
        refine j_iload C dX1_pairToAsk_43 rfl 1 rfl ?_
        refine j_iload_n C dX1_pairToAsk_45 rfl 5 rfl ?_
        refine j_icmp_ge (tgt := 76) C dX1_pairToAsk_46 rfl (by decide) (fun c7_ => ?_) (fun c7_ => ?_)
        · replace h := if_t h c7_
          refine j_lv [2, 3, 4, 5, 6, 7] rfl ?_
          exact w_X1_pairToAsk_76 C hb0 E ih x2 x3 x4 x5 p4_.2 h
        · replace h := if_f h c7_
          refine j_iload_n C dX1_pairToAsk_49 rfl 4 rfl ?_
          refine j_iload C dX1_pairToAsk_50 rfl 7 rfl ?_
          refine j_ishr C dX1_pairToAsk_52 rfl ?_
          refine j_iconst (v := (nI 1)) C dX1_pairToAsk_53 rfl (by decide) ?_
          refine j_iand C dX1_pairToAsk_54 rfl ?_
          refine j_if_ne (tgt := 76) C dX1_pairToAsk_55 rfl (by decide) (fun c8_ => ?_) (fun c8_ => ?_)
          · replace h := if_f h c8_
            refine j_lv [2, 3, 4, 5, 6, 7] rfl ?_
            exact w_X1_pairToAsk_76 C hb0 E ih x2 x3 x4 x5 p4_.2 h
          · replace h := if_t h c8_
            refine j_iload C dX1_pairToAsk_58 rfl 0 rfl ?_
            refine j_if_lt (tgt := 76) C dX1_pairToAsk_60 rfl (by decide) (fun c9_ => ?_) (fun c9_ => ?_)
            · replace h := if_t h c9_
              refine j_lv [2, 3, 4, 5, 6, 7] rfl ?_
              exact w_X1_pairToAsk_76 C hb0 E ih x2 x3 x4 x5 p4_.2 h
            · replace h := if_f h c9_
              refine j_iload C dX1_pairToAsk_63 rfl 1 rfl ?_
              refine j_istore_n (lv' := [(3, .int p2_.1), (7, .int p4_.1), (6, .int p2_.1), (0, .ref b0), (1, .int a1), (2, .int x2), (4, .int x4), (5, .int x5)]) C dX1_pairToAsk_65 rfl (by decide) rfl ?_
              refine j_bipush (v := (nI 10)) C dX1_pairToAsk_66 rfl (by decide) ?_
              refine j_iload C dX1_pairToAsk_68 rfl 7 rfl ?_
              refine j_imul C dX1_pairToAsk_70 rfl ?_
              refine j_iload C dX1_pairToAsk_71 rfl 1 rfl ?_
              refine j_iadd C dX1_pairToAsk_73 rfl ?_
              refine j_topi (fun x10_ e11_ => ?_)
              replace h := zl_u h e11_
              refine j_istore (lv' := [(4, .int x10_), (3, .int p2_.1), (7, .int p4_.1), (6, .int p2_.1), (0, .ref b0), (1, .int a1), (2, .int x2), (5, .int x5)]) C dX1_pairToAsk_74 rfl (by decide) rfl ?_
              refine j_lv [4, 5, 6, 1, 0, 7] rfl ?_
              exact w_X1_pairToAsk_76 C hb0 E ih x2 p2_.1 x10_ x5 p4_.2 h
def f_X1_pairToAsk (b0 : Nat) (a1 : Int32) (μ : Mem) : Option (Int32 × Mem) := Option.bind (f_X1_sureLiars b0 μ) fun p1_ => f_X1_pairToAsk_15 b0 a1 zfu p1_.1 (nI 13) (-4) (nI 0) p1_.2
set_option maxHeartbeats 4000000 in
set_option maxRecDepth 100000 in
theorem w_X1_pairToAsk {Γ : jG} (C : jC Γ 8 cX1_pairToAsk RX1 rmX1_pairToAsk) {b0 : Nat} {a1 : Int32} (hb0 : isLogs b0) {ρ : Int32 × Mem} (E : jEI Γ cX1_pairToAsk ρ.1 ρ.2) (μ : Mem) (h : f_X1_pairToAsk b0 a1 μ = some ρ) : jJ Γ 8 0 [(0, .ref b0), (1, .int a1)] [] μ := by
  unfold f_X1_pairToAsk at h
  refine j_aload_n C dX1_pairToAsk_0 rfl 0 rfl ?_
  replace h := bd_e h
  obtain ⟨p1_, h2_, h⟩ := h
  refine j_cVI (av := []) (rest := []) C dX1_pairToAsk_1 rfl (c_X1_sureLiars _ _ _ _ hb0 μ p1_ h2_) gvX1_29 ⟨⟨rfl, rfl⟩, Nat.le_of_ble_eq_true rfl, Nat.le_of_ble_eq_true rfl⟩ rfl (isG_0 hb0) rfl rfl (Nat.le_of_ble_eq_true rfl) ?_
  refine j_istore_n (lv' := [(2, .int p1_.1), (0, .ref b0), (1, .int a1)]) C dX1_pairToAsk_4 rfl (by decide) rfl ?_
  refine j_bipush (v := (nI 13)) C dX1_pairToAsk_5 rfl (by decide) ?_
  refine j_istore_n (lv' := [(3, .int (nI 13)), (2, .int p1_.1), (0, .ref b0), (1, .int a1)]) C dX1_pairToAsk_7 rfl (by decide) rfl ?_
  refine j_bipush (v := (-4)) C dX1_pairToAsk_8 rfl (by decide) ?_
  refine j_istore (lv' := [(4, .int (-4)), (3, .int (nI 13)), (2, .int p1_.1), (0, .ref b0), (1, .int a1)]) C dX1_pairToAsk_10 rfl (by decide) rfl ?_
  refine j_iconst (v := (nI 0)) C dX1_pairToAsk_12 rfl (by decide) ?_
  refine j_istore (lv' := [(5, .int (nI 0)), (4, .int (-4)), (3, .int (nI 13)), (2, .int p1_.1), (0, .ref b0), (1, .int a1)]) C dX1_pairToAsk_13 rfl (by decide) rfl ?_
  refine j_lv [4, 5, 3, 2, 1, 0] rfl ?_
  exact w_X1_pairToAsk_15 C hb0 E zfu p1_.1 (nI 13) (-4) (nI 0) p1_.2 h
set_option maxRecDepth 100000 in
theorem c_X1_pairToAsk (l : Launch) (D : va_G) (ad : Nat → Nat) (cl : Nat → ClassId) {b0 : Nat} {a1 : Int32} (hb0 : isLogs b0) (μ : Mem) (ρ : Int32 × Mem) (h : f_X1_pairToAsk b0 a1 μ = some ρ) : CI l D ad cl yX1_pairToAsk wsX1_pairToAsk rmX1_pairToAsk [.ref b0, .int a1] μ ρ.1 ρ.2 := c_ofI (cc := cX1_pairToAsk) (nL := 8) rfl (by decide) (Nat.le_of_ble_eq_true rfl) (fun Γ C E => w_X1_pairToAsk C hb0 E μ h)
theorem gsX3_26 : jm_gs RX3 26 yJ7_fill_d0a16 wsJ7_fill_d0a16 5 2 := ⟨_, _, gi_S gwt4_173 gwt4_174 gwt1_17 gwt4_175, rfl, by decide +kernel⟩
/-! X3_renew -/
def wsX3_renew : List Cond := .code yX3_renew cX3_renew 3 none :: G0
def rmX3_renew : Room := { frames := 1, cells := 0, slots := 0, locals := 24 }
def f_X3_renew (b0 : Nat) (a1 : Int32) (a2 : Int32) (μ : Mem) : Option (Mem) := zl (sI μ b0 0 (nI 1)) fun μ1_ => zl (sI μ1_ b0 1 a1) fun μ3_ => zl (sI μ3_ b0 2 a2) fun μ5_ => Option.bind (f_J7_fill_d0a16 (b0 + 4) 24 0 μ5_) fun p7_ => some p7_
set_option maxHeartbeats 4000000 in
set_option maxRecDepth 100000 in
theorem w_X3_renew {Γ : jG} (C : jC Γ 3 cX3_renew RX3 rmX3_renew) {b0 : Nat} {a1 : Int32} {a2 : Int32} (hb0 : isSheet b0) {ρ : Mem} (E : jEV Γ cX3_renew ρ) (μ : Mem) (h : f_X3_renew b0 a1 a2 μ = some ρ) : jJ Γ 3 0 [(0, .ref b0), (1, .int a1), (2, .int a2)] [] μ := by
  unfold f_X3_renew at h
  refine j_aload_n C dX3_renew_0 rfl 0 rfl ?_
  refine j_iconst (v := (nI 1)) C dX3_renew_1 rfl (by decide) ?_
  refine j_putZ C dX3_renew_2 rfl lpX3_9 (isS_0 hb0) rfl (by decide) ?_
  refine j_mem (fun μ1_ e2_ => ?_)
  replace h := zl_u h e2_
  refine j_aload_n C dX3_renew_5 rfl 0 rfl ?_
  refine j_iload_n C dX3_renew_6 rfl 1 rfl ?_
  refine j_putI C dX3_renew_7 rfl lpX3_15 (isS_0 hb0) rfl ?_
  refine j_mem (fun μ3_ e4_ => ?_)
  replace h := zl_u h e4_
  refine j_aload_n C dX3_renew_10 rfl 0 rfl ?_
  refine j_iload_n C dX3_renew_11 rfl 2 rfl ?_
  refine j_putI C dX3_renew_12 rfl lpX3_19 (isS_0 hb0) rfl ?_
  refine j_mem (fun μ5_ e6_ => ?_)
  replace h := zl_u h e6_
  refine j_aload_n C dX3_renew_15 rfl 0 rfl ?_
  refine j_getR (c := b0 + 4) C dX3_renew_16 rfl lkX3_22 (isS_0 hb0) rfl ?_
  refine j_lconst (v := 0) C dX3_renew_19 rfl (by decide) ?_
  replace h := bd_e h
  obtain ⟨p7_, h8_, h⟩ := h
  refine j_cSV (av := [.ref (b0 + 4), .long 0]) (rest := []) C dX3_renew_20 rfl (c_J7_fill_d0a16 _ _ _ _ (isS_it hb0) μ5_ p7_ h8_) gsX3_26 ⟨⟨rfl, rfl⟩, Nat.le_of_ble_eq_true rfl, Nat.le_of_ble_eq_true rfl⟩ rfl rfl (Nat.le_of_ble_eq_true rfl) ?_
  obtain rfl := Option.some.inj h
  exact j_vret E dX3_renew_23
set_option maxRecDepth 100000 in
theorem c_X3_renew (l : Launch) (D : va_G) (ad : Nat → Nat) (cl : Nat → ClassId) {b0 : Nat} {a1 : Int32} {a2 : Int32} (hb0 : isSheet b0) (μ : Mem) (ρ : Mem) (h : f_X3_renew b0 a1 a2 μ = some ρ) : CV l D ad cl yX3_renew wsX3_renew rmX3_renew [.ref b0, .int a1, .int a2] μ ρ := c_ofV (cc := cX3_renew) (nL := 3) rfl (by decide) (Nat.le_of_ble_eq_true rfl) (fun Γ C E => w_X3_renew C hb0 E μ h)
/-! X3_hasRow -/
def wsX3_hasRow : List Cond := .code yX3_hasRow cX3_hasRow 3 (some .boolean) :: G0
def rmX3_hasRow : Room := { frames := 0, cells := 0, slots := 0, locals := 0 }
def f_X3_hasRow (b0 : Nat) (a1 : Int32) (a2 : Int32) (μ : Mem) : Option (Int32 × Mem) := (if a2 < 0 then some ((nI 0), μ) else (if a1 < 0 then some ((nI 0), μ) else (if ((μ.1 b0 2) - a2) < a1 then some ((nI 0), μ) else some ((nI 1), μ))))
set_option maxHeartbeats 4000000 in
set_option maxRecDepth 100000 in
theorem w_X3_hasRow {Γ : jG} (C : jC Γ 3 cX3_hasRow RX3 rmX3_hasRow) {b0 : Nat} {a1 : Int32} {a2 : Int32} (hb0 : isSheet b0) {ρ : Int32 × Mem} (E : (isB ρ.1 = true → jEI Γ cX3_hasRow ρ.1 ρ.2)) (μ : Mem) (h : f_X3_hasRow b0 a1 a2 μ = some ρ) : jJ Γ 3 0 [(0, .ref b0), (1, .int a1), (2, .int a2)] [] μ := by
  unfold f_X3_hasRow at h
  refine j_iload_n C dX3_hasRow_0 rfl 2 rfl ?_
  refine j_if_lt (tgt := 22) C dX3_hasRow_1 rfl (by decide) (fun c1_ => ?_) (fun c1_ => ?_)
  · replace h := if_t h c1_
    refine j_iconst (v := (nI 0)) C dX3_hasRow_22 rfl (by decide) ?_
    obtain rfl := Option.some.inj h
    exact j_iret (E isB_0) dX3_hasRow_23
  · replace h := if_f h c1_
    refine j_iload_n C dX3_hasRow_4 rfl 1 rfl ?_
    refine j_if_lt (tgt := 22) C dX3_hasRow_5 rfl (by decide) (fun c2_ => ?_) (fun c2_ => ?_)
    · replace h := if_t h c2_
      refine j_iconst (v := (nI 0)) C dX3_hasRow_22 rfl (by decide) ?_
      obtain rfl := Option.some.inj h
      exact j_iret (E isB_0) dX3_hasRow_23
    · replace h := if_f h c2_
      refine j_iload_n C dX3_hasRow_8 rfl 1 rfl ?_
      refine j_aload_n C dX3_hasRow_9 rfl 0 rfl ?_
      refine j_getI C dX3_hasRow_10 rfl lkX3_19 (isS_0 hb0) rfl ?_
      refine j_iload_n C dX3_hasRow_13 rfl 2 rfl ?_
      refine j_isub C dX3_hasRow_14 rfl ?_
      refine j_icmp_gt (tgt := 22) C dX3_hasRow_15 rfl (by decide) (fun c3_ => ?_) (fun c3_ => ?_)
      · replace h := if_t h c3_
        refine j_iconst (v := (nI 0)) C dX3_hasRow_22 rfl (by decide) ?_
        obtain rfl := Option.some.inj h
        exact j_iret (E isB_0) dX3_hasRow_23
      · replace h := if_f h c3_
        refine j_iconst (v := (nI 1)) C dX3_hasRow_18 rfl (by decide) ?_
        refine j_goto (pc' := 23) C dX3_hasRow_19 (by decide) ?_
        obtain rfl := Option.some.inj h
        exact j_iret (E isB_1) dX3_hasRow_23
set_option maxRecDepth 100000 in
theorem c_X3_hasRow (l : Launch) (D : va_G) (ad : Nat → Nat) (cl : Nat → ClassId) {b0 : Nat} {a1 : Int32} {a2 : Int32} (hb0 : isSheet b0) (μ : Mem) (ρ : Int32 × Mem) (h : f_X3_hasRow b0 a1 a2 μ = some ρ) : CI l D ad cl yX3_hasRow wsX3_hasRow rmX3_hasRow [.ref b0, .int a1, .int a2] μ ρ.1 ρ.2 := c_ofZ (cc := cX3_hasRow) (nL := 3) rfl (by decide) (Nat.le_of_ble_eq_true rfl) (fun Γ C E => w_X3_hasRow C hb0 E μ h)
/-! X3_put -/
def wsX3_put : List Cond := .code yX3_put cX3_put 4 none :: G0
def rmX3_put : Room := { frames := 0, cells := 0, slots := 0, locals := 0 }
def f_X3_put (b0 : Nat) (a1 : Int32) (a2 : Int64) (μ : Mem) : Option (Mem) := (if (μ.1 b0 1) = (nI 0) then gd (inb a1 24) <| zl (sL μ (b0 + 4) (Int32.toNatClampNeg a1) (Int32.toInt64 ((Int32.toInt8 (Int64.toInt32 a2)).toInt32))) fun μ3_ => some μ3_ else if (μ.1 b0 1) = (nI 1) then gd (inb a1 24) <| zl (sL μ (b0 + 4) (Int32.toNatClampNeg a1) (Int32.toInt64 ((Int32.toInt16 (Int64.toInt32 a2)).toInt32))) fun μ7_ => some μ7_ else if (μ.1 b0 1) = (nI 2) then gd (inb a1 24) <| zl (sL μ (b0 + 4) (Int32.toNatClampNeg a1) (Int32.toInt64 (Int64.toInt32 a2))) fun μ11_ => some μ11_ else gd (inb a1 24) <| zl (sL μ (b0 + 4) (Int32.toNatClampNeg a1) a2) fun μ14_ => some μ14_)
set_option maxHeartbeats 4000000 in
set_option maxRecDepth 100000 in
theorem w_X3_put {Γ : jG} (C : jC Γ 4 cX3_put RX3 rmX3_put) {b0 : Nat} {a1 : Int32} {a2 : Int64} (hb0 : isSheet b0) {ρ : Mem} (E : jEV Γ cX3_put ρ) (μ : Mem) (h : f_X3_put b0 a1 a2 μ = some ρ) : jJ Γ 4 0 [(0, .ref b0), (1, .int a1), (2, .long a2)] [] μ := by
  unfold f_X3_put at h
  refine j_aload_n C dX3_put_0 rfl 0 rfl ?_
  refine j_getI C dX3_put_1 rfl lkX3_15 (isS_0 hb0) rfl ?_
  by_cases c1_ : (μ.1 b0 1) = (nI 0)
  · refine j_tabIn (tgt := 32) C dX3_put_4 (by rw [c1_]; decide) (by rw [c1_]; decide) (by rw [c1_]; try rfl) (by decide) ?_
    replace h := if_t h c1_
    refine j_aload_n C dX3_put_32 rfl 0 rfl ?_
    refine j_getR (c := b0 + 4) C dX3_put_33 rfl lkX3_22 (isS_0 hb0) rfl ?_
    refine j_iload_n C dX3_put_36 rfl 1 rfl ?_
    refine j_lload_n C dX3_put_37 rfl 2 rfl ?_
    refine j_l2i C dX3_put_38 rfl ?_
    refine j_i2b C dX3_put_39 rfl ?_
    refine j_i2l C dX3_put_40 rfl ?_
    replace h := gd_e h
    obtain ⟨g2_, h⟩ := h
    refine j_last C dX3_put_41 rfl (isS_it hb0) g2_ ?_
    refine j_mem (fun μ3_ e4_ => ?_)
    replace h := zl_u h e4_
    refine j_goto (pc' := 77) C dX3_put_42 (by decide) ?_
    obtain rfl := Option.some.inj h
    exact j_vret E dX3_put_77
  replace h := if_f h c1_
  by_cases c5_ : (μ.1 b0 1) = (nI 1)
  · refine j_tabIn (tgt := 45) C dX3_put_4 (by rw [c5_]; decide) (by rw [c5_]; decide) (by rw [c5_]; try rfl) (by decide) ?_
    replace h := if_t h c5_
    refine j_aload_n C dX3_put_45 rfl 0 rfl ?_
    refine j_getR (c := b0 + 4) C dX3_put_46 rfl lkX3_22 (isS_0 hb0) rfl ?_
    refine j_iload_n C dX3_put_49 rfl 1 rfl ?_
    refine j_lload_n C dX3_put_50 rfl 2 rfl ?_
    refine j_l2i C dX3_put_51 rfl ?_
    refine j_i2s C dX3_put_52 rfl ?_
    refine j_i2l C dX3_put_53 rfl ?_
    replace h := gd_e h
    obtain ⟨g6_, h⟩ := h
    refine j_last C dX3_put_54 rfl (isS_it hb0) g6_ ?_
    refine j_mem (fun μ7_ e8_ => ?_)
    replace h := zl_u h e8_
    refine j_goto (pc' := 77) C dX3_put_55 (by decide) ?_
    obtain rfl := Option.some.inj h
    exact j_vret E dX3_put_77
  replace h := if_f h c5_
  by_cases c9_ : (μ.1 b0 1) = (nI 2)
  · refine j_tabIn (tgt := 58) C dX3_put_4 (by rw [c9_]; decide) (by rw [c9_]; decide) (by rw [c9_]; try rfl) (by decide) ?_
    replace h := if_t h c9_
    refine j_aload_n C dX3_put_58 rfl 0 rfl ?_
    refine j_getR (c := b0 + 4) C dX3_put_59 rfl lkX3_22 (isS_0 hb0) rfl ?_
    refine j_iload_n C dX3_put_62 rfl 1 rfl ?_
    refine j_lload_n C dX3_put_63 rfl 2 rfl ?_
    refine j_l2i C dX3_put_64 rfl ?_
    refine j_i2l C dX3_put_65 rfl ?_
    replace h := gd_e h
    obtain ⟨g10_, h⟩ := h
    refine j_last C dX3_put_66 rfl (isS_it hb0) g10_ ?_
    refine j_mem (fun μ11_ e12_ => ?_)
    replace h := zl_u h e12_
    refine j_goto (pc' := 77) C dX3_put_67 (by decide) ?_
    obtain rfl := Option.some.inj h
    exact j_vret E dX3_put_77
  replace h := if_f h c9_
  have nc1_ := i32_ne (z := 0) c1_ (by decide)
  have nc5_ := i32_ne (z := 1) c5_ (by decide)
  have nc9_ := i32_ne (z := 2) c9_ (by decide)
  refine j_tabOut (tgt := 70) C dX3_put_4 (by omega) (by decide) ?_
  refine j_aload_n C dX3_put_70 rfl 0 rfl ?_
  refine j_getR (c := b0 + 4) C dX3_put_71 rfl lkX3_22 (isS_0 hb0) rfl ?_
  refine j_iload_n C dX3_put_74 rfl 1 rfl ?_
  refine j_lload_n C dX3_put_75 rfl 2 rfl ?_
  replace h := gd_e h
  obtain ⟨g13_, h⟩ := h
  refine j_last C dX3_put_76 rfl (isS_it hb0) g13_ ?_
  refine j_mem (fun μ14_ e15_ => ?_)
  replace h := zl_u h e15_
  obtain rfl := Option.some.inj h
  exact j_vret E dX3_put_77
set_option maxRecDepth 100000 in
theorem c_X3_put (l : Launch) (D : va_G) (ad : Nat → Nat) (cl : Nat → ClassId) {b0 : Nat} {a1 : Int32} {a2 : Int64} (hb0 : isSheet b0) (μ : Mem) (ρ : Mem) (h : f_X3_put b0 a1 a2 μ = some ρ) : CV l D ad cl yX3_put wsX3_put rmX3_put [.ref b0, .int a1, .long a2] μ ρ := c_ofV (cc := cX3_put) (nL := 4) rfl (by decide) (Nat.le_of_ble_eq_true rfl) (fun Γ C E => w_X3_put C hb0 E μ h)
