theorem gsX8_90 : jm_gs RX8 90 yX8_countBy wsX8_countBy 6 3 := ⟨_, _, gi_S gwt5_83 gwt5_84 gwt1_9 gwt5_85, rfl, by decide +kernel⟩
/-! X8_counts -/
def wsX8_counts : List Cond := .code yX8_counts cX8_counts 3 (some .int) :: G0
def rmX8_counts : Room := { frames := 2, cells := 0, slots := 0, locals := 47 }
def f_X8_counts (a1 : Int32) (a2 : Int32) (μ : Mem) : Option (Int32 × Mem) := zl (sI μ 113 0 (nI 0)) fun μ1_ => Option.bind (f_X8_isRock a1 μ1_) fun p3_ => (if p3_.1 = 0 then some ((-1), p3_.2) else Option.bind (f_X8_in (Int32.toInt64 a2) 0 2 p3_.2) fun p6_ => (if p6_.1 = 0 then some ((-1), p6_.2) else Option.bind (f_X8_countBy 114 a1 a2 p6_.2) fun p9_ => some (p9_.1, p9_.2)))
set_option maxHeartbeats 4000000 in
set_option maxRecDepth 100000 in
theorem w_X8_counts {Γ : jG} (C : jC Γ 3 cX8_counts RX8 rmX8_counts) {a1 : Int32} {a2 : Int32} {ρ : Int32 × Mem} (E : jEI Γ cX8_counts ρ.1 ρ.2) (μ : Mem) (h : f_X8_counts a1 a2 μ = some ρ) : jJ Γ 3 0 [(0, .ref 113), (1, .int a1), (2, .int a2)] [] μ := by
  unfold f_X8_counts at h
  refine j_aload_n C dX8_counts_0 rfl 0 rfl ?_
  refine j_iconst (v := (nI 0)) C dX8_counts_1 rfl (by decide) ?_
  refine j_putI C dX8_counts_2 rfl lpX8_48 is_113 rfl ?_
  refine j_mem (fun μ1_ e2_ => ?_)
  replace h := zl_u h e2_
  refine j_aload_n C dX8_counts_5 rfl 0 rfl ?_
  refine j_iload_n C dX8_counts_6 rfl 1 rfl ?_
  replace h := bd_e h
  obtain ⟨p3_, h4_, h⟩ := h
  refine j_cVI (av := [.int a1]) (rest := []) C dX8_counts_7 rfl (c_X8_isRock _ _ _ _ μ1_ p3_ h4_) gvX8_65 ⟨⟨rfl, rfl⟩, Nat.le_of_ble_eq_true rfl, Nat.le_of_ble_eq_true rfl⟩ rfl is_113 rfl rfl (Nat.le_of_ble_eq_true rfl) ?_
  refine j_if_eq (tgt := 37) C dX8_counts_10 rfl (by decide) (fun c5_ => ?_) (fun c5_ => ?_)
  · replace h := if_t h c5_
    refine j_iconst (v := (-1)) C dX8_counts_37 rfl (by decide) ?_
    obtain rfl := Option.some.inj h
    exact j_iret E dX8_counts_38
  · replace h := if_f h c5_
    refine j_iload_n C dX8_counts_13 rfl 2 rfl ?_
    refine j_i2l C dX8_counts_14 rfl ?_
    refine j_lconst (v := 0) C dX8_counts_15 rfl (by decide) ?_
    refine j_ldc2 (v := 2) C dX8_counts_16 rfl gwt5_82 ?_
    replace h := bd_e h
    obtain ⟨p6_, h7_, h⟩ := h
    refine j_cSI (av := [.long (Int32.toInt64 a2), .long 0, .long 2]) (rest := []) C dX8_counts_19 rfl (c_X8_in _ _ _ _ p3_.2 p6_ h7_) gsX8_51 ⟨⟨rfl, rfl⟩, Nat.le_of_ble_eq_true rfl, Nat.le_of_ble_eq_true rfl⟩ rfl rfl (Nat.le_of_ble_eq_true rfl) ?_
    refine j_if_eq (tgt := 37) C dX8_counts_22 rfl (by decide) (fun c8_ => ?_) (fun c8_ => ?_)
    · replace h := if_t h c8_
      refine j_iconst (v := (-1)) C dX8_counts_37 rfl (by decide) ?_
      obtain rfl := Option.some.inj h
      exact j_iret E dX8_counts_38
    · replace h := if_f h c8_
      refine j_aload_n C dX8_counts_25 rfl 0 rfl ?_
      refine j_getR (c := 114) C dX8_counts_26 rfl lkX8_7 is_113 rfl ?_
      refine j_iload_n C dX8_counts_29 rfl 1 rfl ?_
      refine j_iload_n C dX8_counts_30 rfl 2 rfl ?_
      replace h := bd_e h
      obtain ⟨p9_, h10_, h⟩ := h
      refine j_cSI (av := [.ref 114, .int a1, .int a2]) (rest := []) C dX8_counts_31 rfl (c_X8_countBy _ _ _ _ isRow114 p6_.2 p9_ h10_) gsX8_90 ⟨⟨rfl, rfl⟩, Nat.le_of_ble_eq_true rfl, Nat.le_of_ble_eq_true rfl⟩ rfl rfl (Nat.le_of_ble_eq_true rfl) ?_
      refine j_goto (pc' := 38) C dX8_counts_34 (by decide) ?_
      obtain rfl := Option.some.inj h
      exact j_iret E dX8_counts_38
set_option maxRecDepth 100000 in
theorem c_X8_counts (l : Launch) (D : va_G) (ad : Nat → Nat) (cl : Nat → ClassId) {a1 : Int32} {a2 : Int32} (μ : Mem) (ρ : Int32 × Mem) (h : f_X8_counts a1 a2 μ = some ρ) : CI l D ad cl yX8_counts wsX8_counts rmX8_counts [.ref 113, .int a1, .int a2] μ ρ.1 ρ.2 := c_ofI (cc := cX8_counts) (nL := 3) rfl (by decide) (Nat.le_of_ble_eq_true rfl) (fun Γ C E => w_X8_counts C E μ h)
/-! X8_due -/
def wsX8_due : List Cond := .code yX8_due cX8_due 5 (some .int) :: G0
def rmX8_due : Room := { frames := 2, cells := 0, slots := 0, locals := 46 }
def f_X8_due (a1 : Int32) (a2 : Int32) (a3 : Int32) (μ : Mem) : Option (Int32 × Mem) := zl (sI μ 113 0 (nI 0)) fun μ1_ => Option.bind (f_X8_isRock a1 μ1_) fun p3_ => (if p3_.1 = 0 then some ((-1), p3_.2) else Option.bind (f_X8_isRock a2 p3_.2) fun p6_ => (if p6_.1 = 0 then some ((-1), p6_.2) else (if a1 = a2 then some ((-1), p6_.2) else Option.bind (f_X8_in (Int32.toInt64 a3) 0 18 p6_.2) fun p10_ => (if p10_.1 = 0 then some ((-1), p10_.2) else gd (inb (nI 1) 1829) <| gd (inb (((nI 222) + ((nI 19) * (((nI 9) * a2) + a1))) + (((p10_.2.1 114 (Int32.toNatClampNeg (nI 1))) + a3) - ((p10_.2.1 114 (Int32.toNatClampNeg (nI 1))) + a3) / (nI 19) * (nI 19))) 1829) <| zl (p10_.2.1 114 (Int32.toNatClampNeg (((nI 222) + ((nI 19) * (((nI 9) * a2) + a1))) + (((p10_.2.1 114 (Int32.toNatClampNeg (nI 1))) + a3) - ((p10_.2.1 114 (Int32.toNatClampNeg (nI 1))) + a3) / (nI 19) * (nI 19))))) fun x15_ => (if x15_ = 0 then some ((nI 2), p10_.2) else some (x15_ - (nI 1), p10_.2))))))
set_option maxHeartbeats 4000000 in
set_option maxRecDepth 100000 in
theorem w_X8_due {Γ : jG} (C : jC Γ 5 cX8_due RX8 rmX8_due) {a1 : Int32} {a2 : Int32} {a3 : Int32} {ρ : Int32 × Mem} (E : jEI Γ cX8_due ρ.1 ρ.2) (μ : Mem) (h : f_X8_due a1 a2 a3 μ = some ρ) : jJ Γ 5 0 [(0, .ref 113), (1, .int a1), (2, .int a2), (3, .int a3)] [] μ := by
  unfold f_X8_due at h
  refine j_aload_n C dX8_due_0 rfl 0 rfl ?_
  refine j_iconst (v := (nI 0)) C dX8_due_1 rfl (by decide) ?_
  refine j_putI C dX8_due_2 rfl lpX8_48 is_113 rfl ?_
  refine j_mem (fun μ1_ e2_ => ?_)
  replace h := zl_u h e2_
  refine j_aload_n C dX8_due_5 rfl 0 rfl ?_
  refine j_iload_n C dX8_due_6 rfl 1 rfl ?_
  replace h := bd_e h
  obtain ⟨p3_, h4_, h⟩ := h
  refine j_cVI (av := [.int a1]) (rest := []) C dX8_due_7 rfl (c_X8_isRock _ _ _ _ μ1_ p3_ h4_) gvX8_65 ⟨⟨rfl, rfl⟩, Nat.le_of_ble_eq_true rfl, Nat.le_of_ble_eq_true rfl⟩ rfl is_113 rfl rfl (Nat.le_of_ble_eq_true rfl) ?_
  refine j_if_eq (tgt := 38) C dX8_due_10 rfl (by decide) (fun c5_ => ?_) (fun c5_ => ?_)
  · replace h := if_t h c5_
    refine j_iconst (v := (-1)) C dX8_due_38 rfl (by decide) ?_
    obtain rfl := Option.some.inj h
    exact j_iret E dX8_due_39
  · replace h := if_f h c5_
    refine j_aload_n C dX8_due_13 rfl 0 rfl ?_
    refine j_iload_n C dX8_due_14 rfl 2 rfl ?_
    replace h := bd_e h
    obtain ⟨p6_, h7_, h⟩ := h
    refine j_cVI (av := [.int a2]) (rest := []) C dX8_due_15 rfl (c_X8_isRock _ _ _ _ p3_.2 p6_ h7_) gvX8_65 ⟨⟨rfl, rfl⟩, Nat.le_of_ble_eq_true rfl, Nat.le_of_ble_eq_true rfl⟩ rfl is_113 rfl rfl (Nat.le_of_ble_eq_true rfl) ?_
    refine j_if_eq (tgt := 38) C dX8_due_18 rfl (by decide) (fun c8_ => ?_) (fun c8_ => ?_)
    · replace h := if_t h c8_
      refine j_iconst (v := (-1)) C dX8_due_38 rfl (by decide) ?_
      obtain rfl := Option.some.inj h
      exact j_iret E dX8_due_39
    · replace h := if_f h c8_
      refine j_iload_n C dX8_due_21 rfl 1 rfl ?_
      refine j_iload_n C dX8_due_22 rfl 2 rfl ?_
      refine j_icmp_eq (tgt := 38) C dX8_due_23 rfl (by decide) (fun c9_ => ?_) (fun c9_ => ?_)
      · replace h := if_t h c9_
        refine j_iconst (v := (-1)) C dX8_due_38 rfl (by decide) ?_
        obtain rfl := Option.some.inj h
        exact j_iret E dX8_due_39
      · replace h := if_f h c9_
        refine j_iload_n C dX8_due_26 rfl 3 rfl ?_
        refine j_i2l C dX8_due_27 rfl ?_
        refine j_lconst (v := 0) C dX8_due_28 rfl (by decide) ?_
        refine j_ldc2 (v := 18) C dX8_due_29 rfl gwt5_90 ?_
        replace h := bd_e h
        obtain ⟨p10_, h11_, h⟩ := h
        refine j_cSI (av := [.long (Int32.toInt64 a3), .long 0, .long 18]) (rest := []) C dX8_due_32 rfl (c_X8_in _ _ _ _ p6_.2 p10_ h11_) gsX8_51 ⟨⟨rfl, rfl⟩, Nat.le_of_ble_eq_true rfl, Nat.le_of_ble_eq_true rfl⟩ rfl rfl (Nat.le_of_ble_eq_true rfl) ?_
        refine j_if_ne (tgt := 40) C dX8_due_35 rfl (by decide) (fun c12_ => ?_) (fun c12_ => ?_)
        · replace h := if_f h c12_
          refine j_aload_n C dX8_due_40 rfl 0 rfl ?_
          refine j_getR (c := 114) C dX8_due_41 rfl lkX8_7 is_113 rfl ?_
          refine j_sipush (v := (nI 222)) C dX8_due_44 rfl (by decide) ?_
          refine j_bipush (v := (nI 19)) C dX8_due_47 rfl (by decide) ?_
          refine j_bipush (v := (nI 9)) C dX8_due_49 rfl (by decide) ?_
          refine j_iload_n C dX8_due_51 rfl 2 rfl ?_
          refine j_imul C dX8_due_52 rfl ?_
          refine j_iload_n C dX8_due_53 rfl 1 rfl ?_
          refine j_iadd C dX8_due_54 rfl ?_
          refine j_imul C dX8_due_55 rfl ?_
          refine j_iadd C dX8_due_56 rfl ?_
          refine j_aload_n C dX8_due_57 rfl 0 rfl ?_
          refine j_getR (c := 114) C dX8_due_58 rfl lkX8_7 is_113 rfl ?_
          refine j_iconst (v := (nI 1)) C dX8_due_61 rfl (by decide) ?_
          replace h := gd_e h
          obtain ⟨g13_, h⟩ := h
          refine j_iald C dX8_due_62 rfl is_114 g13_ ?_
          refine j_iload_n C dX8_due_63 rfl 3 rfl ?_
          refine j_iadd C dX8_due_64 rfl ?_
          refine j_bipush (v := (nI 19)) C dX8_due_65 rfl (by decide) ?_
          refine j_irem C dX8_due_67 rfl (by decide) ?_
          refine j_iadd C dX8_due_68 rfl ?_
          replace h := gd_e h
          obtain ⟨g14_, h⟩ := h
          refine j_iald C dX8_due_69 rfl is_114 g14_ ?_
          refine j_topi (fun x15_ e16_ => ?_)
          replace h := zl_u h e16_
          refine j_istore (lv' := [(4, .int x15_), (0, .ref 113), (1, .int a1), (2, .int a2), (3, .int a3)]) C dX8_due_70 rfl (by decide) rfl ?_
          refine j_iload C dX8_due_72 rfl 0 rfl ?_
          refine j_if_ne (tgt := 81) C dX8_due_74 rfl (by decide) (fun c17_ => ?_) (fun c17_ => ?_)
          · replace h := if_f h c17_
            refine j_iload C dX8_due_81 rfl 0 rfl ?_
            refine j_iconst (v := (nI 1)) C dX8_due_83 rfl (by decide) ?_
            refine j_isub C dX8_due_84 rfl ?_
            obtain rfl := Option.some.inj h
            exact j_iret E dX8_due_85
          · replace h := if_t h c17_
            refine j_iconst (v := (nI 2)) C dX8_due_77 rfl (by decide) ?_
            refine j_goto (pc' := 85) C dX8_due_78 (by decide) ?_
            obtain rfl := Option.some.inj h
            exact j_iret E dX8_due_85
        · replace h := if_t h c12_
          refine j_iconst (v := (-1)) C dX8_due_38 rfl (by decide) ?_
          obtain rfl := Option.some.inj h
          exact j_iret E dX8_due_39
set_option maxRecDepth 100000 in
theorem c_X8_due (l : Launch) (D : va_G) (ad : Nat → Nat) (cl : Nat → ClassId) {a1 : Int32} {a2 : Int32} {a3 : Int32} (μ : Mem) (ρ : Int32 × Mem) (h : f_X8_due a1 a2 a3 μ = some ρ) : CI l D ad cl yX8_due wsX8_due rmX8_due [.ref 113, .int a1, .int a2, .int a3] μ ρ.1 ρ.2 := c_ofI (cc := cX8_due) (nL := 5) rfl (by decide) (Nat.le_of_ble_eq_true rfl) (fun Γ C E => w_X8_due C E μ h)
/-! X8_rule -/
def wsX8_rule : List Cond := .code yX8_rule cX8_rule 3 (some .int) :: G0
def rmX8_rule : Room := { frames := 1, cells := 0, slots := 0, locals := 25 }
def f_X8_rule (a1 : Int32) (a2 : Int32) (μ : Mem) : Option (Int32 × Mem) := zl (sI μ 113 0 (nI 0)) fun μ1_ => gd (inb (nI 3) 1829) <| Option.bind (f_X8_in (Int32.toInt64 a1) 0 (Int32.toInt64 ((μ1_.1 114 (Int32.toNatClampNeg (nI 3))) - (nI 1))) μ1_) fun p4_ => (if p4_.1 = 0 then some ((-1), p4_.2) else Option.bind (f_X8_in (Int32.toInt64 a2) 0 3 p4_.2) fun p7_ => (if p7_.1 = 0 then some ((-1), p7_.2) else gd (inb (((nI 1761) + ((nI 4) * a1)) + a2) 1829) <| some (p7_.2.1 114 (Int32.toNatClampNeg (((nI 1761) + ((nI 4) * a1)) + a2)), p7_.2)))
set_option maxHeartbeats 4000000 in
set_option maxRecDepth 100000 in
theorem w_X8_rule {Γ : jG} (C : jC Γ 3 cX8_rule RX8 rmX8_rule) {a1 : Int32} {a2 : Int32} {ρ : Int32 × Mem} (E : jEI Γ cX8_rule ρ.1 ρ.2) (μ : Mem) (h : f_X8_rule a1 a2 μ = some ρ) : jJ Γ 3 0 [(0, .ref 113), (1, .int a1), (2, .int a2)] [] μ := by
  unfold f_X8_rule at h
  refine j_aload_n C dX8_rule_0 rfl 0 rfl ?_
  refine j_iconst (v := (nI 0)) C dX8_rule_1 rfl (by decide) ?_
  refine j_putI C dX8_rule_2 rfl lpX8_48 is_113 rfl ?_
  refine j_mem (fun μ1_ e2_ => ?_)
  replace h := zl_u h e2_
  refine j_iload_n C dX8_rule_5 rfl 1 rfl ?_
  refine j_i2l C dX8_rule_6 rfl ?_
  refine j_lconst (v := 0) C dX8_rule_7 rfl (by decide) ?_
  refine j_aload_n C dX8_rule_8 rfl 0 rfl ?_
  refine j_getR (c := 114) C dX8_rule_9 rfl lkX8_7 is_113 rfl ?_
  refine j_iconst (v := (nI 3)) C dX8_rule_12 rfl (by decide) ?_
  replace h := gd_e h
  obtain ⟨g3_, h⟩ := h
  refine j_iald C dX8_rule_13 rfl is_114 g3_ ?_
  refine j_iconst (v := (nI 1)) C dX8_rule_14 rfl (by decide) ?_
  refine j_isub C dX8_rule_15 rfl ?_
  refine j_i2l C dX8_rule_16 rfl ?_
  replace h := bd_e h
  obtain ⟨p4_, h5_, h⟩ := h
  refine j_cSI (av := [.long (Int32.toInt64 a1), .long 0, .long (Int32.toInt64 ((μ1_.1 114 (Int32.toNatClampNeg (nI 3))) - (nI 1)))]) (rest := []) C dX8_rule_17 rfl (c_X8_in _ _ _ _ μ1_ p4_ h5_) gsX8_51 ⟨⟨rfl, rfl⟩, Nat.le_of_ble_eq_true rfl, Nat.le_of_ble_eq_true rfl⟩ rfl rfl (Nat.le_of_ble_eq_true rfl) ?_
  refine j_if_eq (tgt := 52) C dX8_rule_20 rfl (by decide) (fun c6_ => ?_) (fun c6_ => ?_)
  · replace h := if_t h c6_
    refine j_iconst (v := (-1)) C dX8_rule_52 rfl (by decide) ?_
    obtain rfl := Option.some.inj h
    exact j_iret E dX8_rule_53
  · replace h := if_f h c6_
    refine j_iload_n C dX8_rule_23 rfl 2 rfl ?_
    refine j_i2l C dX8_rule_24 rfl ?_
    refine j_lconst (v := 0) C dX8_rule_25 rfl (by decide) ?_
    refine j_ldc2 (v := 3) C dX8_rule_26 rfl gwt5_95 ?_
    replace h := bd_e h
    obtain ⟨p7_, h8_, h⟩ := h
    refine j_cSI (av := [.long (Int32.toInt64 a2), .long 0, .long 3]) (rest := []) C dX8_rule_29 rfl (c_X8_in _ _ _ _ p4_.2 p7_ h8_) gsX8_51 ⟨⟨rfl, rfl⟩, Nat.le_of_ble_eq_true rfl, Nat.le_of_ble_eq_true rfl⟩ rfl rfl (Nat.le_of_ble_eq_true rfl) ?_
    refine j_if_eq (tgt := 52) C dX8_rule_32 rfl (by decide) (fun c9_ => ?_) (fun c9_ => ?_)
    · replace h := if_t h c9_
      refine j_iconst (v := (-1)) C dX8_rule_52 rfl (by decide) ?_
      obtain rfl := Option.some.inj h
      exact j_iret E dX8_rule_53
    · replace h := if_f h c9_
      refine j_aload_n C dX8_rule_35 rfl 0 rfl ?_
      refine j_getR (c := 114) C dX8_rule_36 rfl lkX8_7 is_113 rfl ?_
      refine j_sipush (v := (nI 1761)) C dX8_rule_39 rfl (by decide) ?_
      refine j_iconst (v := (nI 4)) C dX8_rule_42 rfl (by decide) ?_
      refine j_iload_n C dX8_rule_43 rfl 1 rfl ?_
      refine j_imul C dX8_rule_44 rfl ?_
      refine j_iadd C dX8_rule_45 rfl ?_
      refine j_iload_n C dX8_rule_46 rfl 2 rfl ?_
      refine j_iadd C dX8_rule_47 rfl ?_
      replace h := gd_e h
      obtain ⟨g10_, h⟩ := h
      refine j_iald C dX8_rule_48 rfl is_114 g10_ ?_
      refine j_goto (pc' := 53) C dX8_rule_49 (by decide) ?_
      obtain rfl := Option.some.inj h
      exact j_iret E dX8_rule_53
set_option maxRecDepth 100000 in
theorem c_X8_rule (l : Launch) (D : va_G) (ad : Nat → Nat) (cl : Nat → ClassId) {a1 : Int32} {a2 : Int32} (μ : Mem) (ρ : Int32 × Mem) (h : f_X8_rule a1 a2 μ = some ρ) : CI l D ad cl yX8_rule wsX8_rule rmX8_rule [.ref 113, .int a1, .int a2] μ ρ.1 ρ.2 := c_ofI (cc := cX8_rule) (nL := 3) rfl (by decide) (Nat.le_of_ble_eq_true rfl) (fun Γ C E => w_X8_rule C E μ h)
/-! X8_add -/
def wsX8_add : List Cond := .code yX8_add cX8_add 6 (some .int) :: G0
def rmX8_add : Room := { frames := 1, cells := 0, slots := 0, locals := 25 }
def f_X8_add (a1 : Int32) (a2 : Int32) (a3 : Int32) (a4 : Int32) (μ : Mem) : Option (Int32 × Mem) := zl (sI μ 113 0 (nI 0)) fun μ1_ => Option.bind (f_X8_in (Int32.toInt64 a1) 0 2 μ1_) fun p3_ => (if p3_.1 = 0 then some ((-1), p3_.2) else Option.bind (f_X8_in (Int32.toInt64 a2) 0 9 p3_.2) fun p6_ => (if p6_.1 = 0 then some ((-1), p6_.2) else Option.bind (f_X8_in (Int32.toInt64 a3) 0 2 p6_.2) fun p9_ => (if p9_.1 = 0 then some ((-1), p9_.2) else Option.bind (f_X8_in (Int32.toInt64 a4) 0 2 p9_.2) fun p12_ => (if p12_.1 = 0 then some ((-1), p12_.2) else gd (inb (nI 3) 1829) <| (if (p12_.2.1 114 (Int32.toNatClampNeg (nI 3))) = (nI 8) then some ((-3), p12_.2) else zl ((nI 1761) + ((nI 4) * (p12_.2.1 114 (Int32.toNatClampNeg (nI 3))))) fun x17_ => gd (inb x17_ 1829) <| zl (sI p12_.2 114 (Int32.toNatClampNeg x17_) a1) fun μ20_ => gd (inb (x17_ + (nI 1)) 1829) <| zl (sI μ20_ 114 (Int32.toNatClampNeg (x17_ + (nI 1))) a2) fun μ23_ => gd (inb (x17_ + (nI 2)) 1829) <| zl (sI μ23_ 114 (Int32.toNatClampNeg (x17_ + (nI 2))) a3) fun μ26_ => gd (inb (x17_ + (nI 3)) 1829) <| zl (sI μ26_ 114 (Int32.toNatClampNeg (x17_ + (nI 3))) a4) fun μ29_ => zl (sI μ29_ 114 (Int32.toNatClampNeg (nI 3)) ((μ29_.1 114 (Int32.toNatClampNeg (nI 3))) + (nI 1))) fun μ31_ => some (μ31_.1 114 (Int32.toNatClampNeg (nI 3)), μ31_))))))
set_option maxHeartbeats 4000000 in
set_option maxRecDepth 100000 in
theorem w_X8_add {Γ : jG} (C : jC Γ 6 cX8_add RX8 rmX8_add) {a1 : Int32} {a2 : Int32} {a3 : Int32} {a4 : Int32} {ρ : Int32 × Mem} (E : jEI Γ cX8_add ρ.1 ρ.2) (μ : Mem) (h : f_X8_add a1 a2 a3 a4 μ = some ρ) : jJ Γ 6 0 [(0, .ref 113), (1, .int a1), (2, .int a2), (3, .int a3), (4, .int a4)] [] μ := by
  unfold f_X8_add at h
  refine j_aload_n C dX8_add_0 rfl 0 rfl ?_
  refine j_iconst (v := (nI 0)) C dX8_add_1 rfl (by decide) ?_
  refine j_putI C dX8_add_2 rfl lpX8_48 is_113 rfl ?_
  refine j_mem (fun μ1_ e2_ => ?_)
  replace h := zl_u h e2_
  refine j_iload_n C dX8_add_5 rfl 1 rfl ?_
  refine j_i2l C dX8_add_6 rfl ?_
  refine j_lconst (v := 0) C dX8_add_7 rfl (by decide) ?_
  refine j_ldc2 (v := 2) C dX8_add_8 rfl gwt5_82 ?_
  replace h := bd_e h
  obtain ⟨p3_, h4_, h⟩ := h
  refine j_cSI (av := [.long (Int32.toInt64 a1), .long 0, .long 2]) (rest := []) C dX8_add_11 rfl (c_X8_in _ _ _ _ μ1_ p3_ h4_) gsX8_51 ⟨⟨rfl, rfl⟩, Nat.le_of_ble_eq_true rfl, Nat.le_of_ble_eq_true rfl⟩ rfl rfl (Nat.le_of_ble_eq_true rfl) ?_
  refine j_if_eq (tgt := 54) C dX8_add_14 rfl (by decide) (fun c5_ => ?_) (fun c5_ => ?_)
  · replace h := if_t h c5_
    refine j_iconst (v := (-1)) C dX8_add_54 rfl (by decide) ?_
    obtain rfl := Option.some.inj h
    exact j_iret E dX8_add_55
  · replace h := if_f h c5_
    refine j_iload_n C dX8_add_17 rfl 2 rfl ?_
    refine j_i2l C dX8_add_18 rfl ?_
    refine j_lconst (v := 0) C dX8_add_19 rfl (by decide) ?_
    refine j_ldc2 (v := 9) C dX8_add_20 rfl gwt5_62 ?_
    replace h := bd_e h
    obtain ⟨p6_, h7_, h⟩ := h
    refine j_cSI (av := [.long (Int32.toInt64 a2), .long 0, .long 9]) (rest := []) C dX8_add_23 rfl (c_X8_in _ _ _ _ p3_.2 p6_ h7_) gsX8_51 ⟨⟨rfl, rfl⟩, Nat.le_of_ble_eq_true rfl, Nat.le_of_ble_eq_true rfl⟩ rfl rfl (Nat.le_of_ble_eq_true rfl) ?_
    refine j_if_eq (tgt := 54) C dX8_add_26 rfl (by decide) (fun c8_ => ?_) (fun c8_ => ?_)
    · replace h := if_t h c8_
      refine j_iconst (v := (-1)) C dX8_add_54 rfl (by decide) ?_
      obtain rfl := Option.some.inj h
      exact j_iret E dX8_add_55
    · replace h := if_f h c8_
      refine j_iload_n C dX8_add_29 rfl 3 rfl ?_
      refine j_i2l C dX8_add_30 rfl ?_
      refine j_lconst (v := 0) C dX8_add_31 rfl (by decide) ?_
      refine j_ldc2 (v := 2) C dX8_add_32 rfl gwt5_82 ?_
      replace h := bd_e h
      obtain ⟨p9_, h10_, h⟩ := h
      refine j_cSI (av := [.long (Int32.toInt64 a3), .long 0, .long 2]) (rest := []) C dX8_add_35 rfl (c_X8_in _ _ _ _ p6_.2 p9_ h10_) gsX8_51 ⟨⟨rfl, rfl⟩, Nat.le_of_ble_eq_true rfl, Nat.le_of_ble_eq_true rfl⟩ rfl rfl (Nat.le_of_ble_eq_true rfl) ?_
      refine j_if_eq (tgt := 54) C dX8_add_38 rfl (by decide) (fun c11_ => ?_) (fun c11_ => ?_)
      · replace h := if_t h c11_
        refine j_iconst (v := (-1)) C dX8_add_54 rfl (by decide) ?_
        obtain rfl := Option.some.inj h
        exact j_iret E dX8_add_55
      · replace h := if_f h c11_
        refine j_iload C dX8_add_41 rfl 4 rfl ?_
        refine j_i2l C dX8_add_43 rfl ?_
        refine j_lconst (v := 0) C dX8_add_44 rfl (by decide) ?_
        refine j_ldc2 (v := 2) C dX8_add_45 rfl gwt5_82 ?_
        replace h := bd_e h
        obtain ⟨p12_, h13_, h⟩ := h
        refine j_cSI (av := [.long (Int32.toInt64 a4), .long 0, .long 2]) (rest := []) C dX8_add_48 rfl (c_X8_in _ _ _ _ p9_.2 p12_ h13_) gsX8_51 ⟨⟨rfl, rfl⟩, Nat.le_of_ble_eq_true rfl, Nat.le_of_ble_eq_true rfl⟩ rfl rfl (Nat.le_of_ble_eq_true rfl) ?_
        refine j_if_ne (tgt := 56) C dX8_add_51 rfl (by decide) (fun c14_ => ?_) (fun c14_ => ?_)
        · replace h := if_f h c14_
          refine j_aload_n C dX8_add_56 rfl 0 rfl ?_
          refine j_getR (c := 114) C dX8_add_57 rfl lkX8_7 is_113 rfl ?_
          refine j_iconst (v := (nI 3)) C dX8_add_60 rfl (by decide) ?_
          replace h := gd_e h
          obtain ⟨g15_, h⟩ := h
          refine j_iald C dX8_add_61 rfl is_114 g15_ ?_
          refine j_bipush (v := (nI 8)) C dX8_add_62 rfl (by decide) ?_
          refine j_icmp_ne (tgt := 70) C dX8_add_64 rfl (by decide) (fun c16_ => ?_) (fun c16_ => ?_)
          · replace h := if_f h c16_
            refine j_sipush (v := (nI 1761)) C dX8_add_70 rfl (by decide) ?_
            refine j_iconst (v := (nI 4)) C dX8_add_73 rfl (by decide) ?_
            refine j_aload_n C dX8_add_74 rfl 0 rfl ?_
            refine j_getR (c := 114) C dX8_add_75 rfl lkX8_7 is_113 rfl ?_
            refine j_iconst (v := (nI 3)) C dX8_add_78 rfl (by decide) ?_
            refine j_iald C dX8_add_79 rfl is_114 g15_ ?_
            refine j_imul C dX8_add_80 rfl ?_
            refine j_iadd C dX8_add_81 rfl ?_
            refine j_topi (fun x17_ e18_ => ?_)
            replace h := zl_u h e18_
            refine j_istore (lv' := [(5, .int x17_), (0, .ref 113), (1, .int a1), (2, .int a2), (3, .int a3), (4, .int a4)]) C dX8_add_82 rfl (by decide) rfl ?_
            refine j_aload_n C dX8_add_84 rfl 1 rfl ?_
            refine j_getR (c := 114) C dX8_add_85 rfl lkX8_7 is_113 rfl ?_
            refine j_iload C dX8_add_88 rfl 0 rfl ?_
            refine j_iload_n C dX8_add_90 rfl 2 rfl ?_
            replace h := gd_e h
            obtain ⟨g19_, h⟩ := h
            refine j_iast C dX8_add_91 rfl is_114 g19_ ?_
            refine j_mem (fun μ20_ e21_ => ?_)
            replace h := zl_u h e21_
            refine j_aload_n C dX8_add_92 rfl 1 rfl ?_
            refine j_getR (c := 114) C dX8_add_93 rfl lkX8_7 is_113 rfl ?_
            refine j_iload C dX8_add_96 rfl 0 rfl ?_
            refine j_iconst (v := (nI 1)) C dX8_add_98 rfl (by decide) ?_
            refine j_iadd C dX8_add_99 rfl ?_
            refine j_iload_n C dX8_add_100 rfl 3 rfl ?_
            replace h := gd_e h
            obtain ⟨g22_, h⟩ := h
            refine j_iast C dX8_add_101 rfl is_114 g22_ ?_
            refine j_mem (fun μ23_ e24_ => ?_)
            replace h := zl_u h e24_
            refine j_aload_n C dX8_add_102 rfl 1 rfl ?_
            refine j_getR (c := 114) C dX8_add_103 rfl lkX8_7 is_113 rfl ?_
            refine j_iload C dX8_add_106 rfl 0 rfl ?_
            refine j_iconst (v := (nI 2)) C dX8_add_108 rfl (by decide) ?_
            refine j_iadd C dX8_add_109 rfl ?_
            refine j_iload_n C dX8_add_110 rfl 4 rfl ?_
            replace h := gd_e h
            obtain ⟨g25_, h⟩ := h
            refine j_iast C dX8_add_111 rfl is_114 g25_ ?_
            refine j_mem (fun μ26_ e27_ => ?_)
            replace h := zl_u h e27_
            refine j_aload_n C dX8_add_112 rfl 1 rfl ?_
            refine j_getR (c := 114) C dX8_add_113 rfl lkX8_7 is_113 rfl ?_
            refine j_iload C dX8_add_116 rfl 0 rfl ?_
            refine j_iconst (v := (nI 3)) C dX8_add_118 rfl (by decide) ?_
            refine j_iadd C dX8_add_119 rfl ?_
            refine j_iload C dX8_add_120 rfl 5 rfl ?_
            replace h := gd_e h
            obtain ⟨g28_, h⟩ := h
            refine j_iast C dX8_add_122 rfl is_114 g28_ ?_
            refine j_mem (fun μ29_ e30_ => ?_)
            replace h := zl_u h e30_
            refine j_aload_n C dX8_add_123 rfl 1 rfl ?_
            refine j_getR (c := 114) C dX8_add_124 rfl lkX8_7 is_113 rfl ?_
            refine j_iconst (v := (nI 3)) C dX8_add_127 rfl (by decide) ?_
            refine j_dup2 C dX8_add_128 rfl rfl rfl ?_
            refine j_iald C dX8_add_129 rfl is_114 g15_ ?_
            refine j_iconst (v := (nI 1)) C dX8_add_130 rfl (by decide) ?_
            refine j_iadd C dX8_add_131 rfl ?_
            refine j_iast C dX8_add_132 rfl is_114 g15_ ?_
            refine j_mem (fun μ31_ e32_ => ?_)
            replace h := zl_u h e32_
            refine j_aload_n C dX8_add_133 rfl 1 rfl ?_
            refine j_getR (c := 114) C dX8_add_134 rfl lkX8_7 is_113 rfl ?_
            refine j_iconst (v := (nI 3)) C dX8_add_137 rfl (by decide) ?_
            refine j_iald C dX8_add_138 rfl is_114 g15_ ?_
            obtain rfl := Option.some.inj h
            exact j_iret E dX8_add_139
          · replace h := if_t h c16_
            refine j_bipush (v := (-3)) C dX8_add_67 rfl (by decide) ?_
            obtain rfl := Option.some.inj h
            exact j_iret E dX8_add_69
        · replace h := if_t h c14_
          refine j_iconst (v := (-1)) C dX8_add_54 rfl (by decide) ?_
          obtain rfl := Option.some.inj h
          exact j_iret E dX8_add_55
set_option maxRecDepth 100000 in
theorem c_X8_add (l : Launch) (D : va_G) (ad : Nat → Nat) (cl : Nat → ClassId) {a1 : Int32} {a2 : Int32} {a3 : Int32} {a4 : Int32} (μ : Mem) (ρ : Int32 × Mem) (h : f_X8_add a1 a2 a3 a4 μ = some ρ) : CI l D ad cl yX8_add wsX8_add rmX8_add [.ref 113, .int a1, .int a2, .int a3, .int a4] μ ρ.1 ρ.2 := c_ofI (cc := cX8_add) (nL := 6) rfl (by decide) (Nat.le_of_ble_eq_true rfl) (fun Γ C E => w_X8_add C E μ h)
/-! X8_type -/
def wsX8_type : List Cond := .code yX8_type cX8_type 2 (some .int) :: G0
def rmX8_type : Room := { frames := 1, cells := 0, slots := 0, locals := 25 }
def f_X8_type (a1 : Int32) (μ : Mem) : Option (Int32 × Mem) := zl (sI μ 113 0 (nI 0)) fun μ1_ => Option.bind (f_X8_in (Int32.toInt64 a1) 32 126 μ1_) fun p3_ => (if p3_.1 = 0 then some ((-1), p3_.2) else (if (p3_.2.1 113 7) = (nI 160) then some ((-3), p3_.2) else gd (inb (p3_.2.1 113 7) 160) <| zl (sI p3_.2 118 (Int32.toNatClampNeg (p3_.2.1 113 7)) a1) fun μ8_ => zl (sI μ8_ 113 7 ((μ8_.1 113 7) + (nI 1))) fun μ10_ => some (μ10_.1 113 7, μ10_)))
set_option maxHeartbeats 4000000 in
set_option maxRecDepth 100000 in
theorem w_X8_type {Γ : jG} (C : jC Γ 2 cX8_type RX8 rmX8_type) {a1 : Int32} {ρ : Int32 × Mem} (E : jEI Γ cX8_type ρ.1 ρ.2) (μ : Mem) (h : f_X8_type a1 μ = some ρ) : jJ Γ 2 0 [(0, .ref 113), (1, .int a1)] [] μ := by
  unfold f_X8_type at h
  refine j_aload_n C dX8_type_0 rfl 0 rfl ?_
  refine j_iconst (v := (nI 0)) C dX8_type_1 rfl (by decide) ?_
  refine j_putI C dX8_type_2 rfl lpX8_48 is_113 rfl ?_
  refine j_mem (fun μ1_ e2_ => ?_)
  replace h := zl_u h e2_
  refine j_iload_n C dX8_type_5 rfl 1 rfl ?_
  refine j_i2l C dX8_type_6 rfl ?_
  refine j_ldc2 (v := 32) C dX8_type_7 rfl gwt5_104 ?_
  refine j_ldc2 (v := 126) C dX8_type_10 rfl gwt5_105 ?_
  replace h := bd_e h
  obtain ⟨p3_, h4_, h⟩ := h
  refine j_cSI (av := [.long (Int32.toInt64 a1), .long 32, .long 126]) (rest := []) C dX8_type_13 rfl (c_X8_in _ _ _ _ μ1_ p3_ h4_) gsX8_51 ⟨⟨rfl, rfl⟩, Nat.le_of_ble_eq_true rfl, Nat.le_of_ble_eq_true rfl⟩ rfl rfl (Nat.le_of_ble_eq_true rfl) ?_
  refine j_if_ne (tgt := 21) C dX8_type_16 rfl (by decide) (fun c5_ => ?_) (fun c5_ => ?_)
  · replace h := if_f h c5_
    refine j_aload_n C dX8_type_21 rfl 0 rfl ?_
    refine j_getI C dX8_type_22 rfl lkX8_101 is_113 rfl ?_
    refine j_sipush (v := (nI 160)) C dX8_type_25 rfl (by decide) ?_
    refine j_icmp_ne (tgt := 34) C dX8_type_28 rfl (by decide) (fun c6_ => ?_) (fun c6_ => ?_)
    · replace h := if_f h c6_
      refine j_aload_n C dX8_type_34 rfl 0 rfl ?_
      refine j_getR (c := 118) C dX8_type_35 rfl lkX8_22 is_113 rfl ?_
      refine j_aload_n C dX8_type_38 rfl 0 rfl ?_
      refine j_getI C dX8_type_39 rfl lkX8_101 is_113 rfl ?_
      refine j_iload_n C dX8_type_42 rfl 1 rfl ?_
      replace h := gd_e h
      obtain ⟨g7_, h⟩ := h
      refine j_iast C dX8_type_43 rfl is_118 g7_ ?_
      refine j_mem (fun μ8_ e9_ => ?_)
      replace h := zl_u h e9_
      refine j_aload_n C dX8_type_44 rfl 0 rfl ?_
      refine j_dup C dX8_type_45 rfl rfl ?_
      refine j_getI C dX8_type_46 rfl lkX8_101 is_113 rfl ?_
      refine j_iconst (v := (nI 1)) C dX8_type_49 rfl (by decide) ?_
      refine j_iadd C dX8_type_50 rfl ?_
      refine j_putI C dX8_type_51 rfl lpX8_101 is_113 rfl ?_
      refine j_mem (fun μ10_ e11_ => ?_)
      replace h := zl_u h e11_
      refine j_aload_n C dX8_type_54 rfl 0 rfl ?_
      refine j_getI C dX8_type_55 rfl lkX8_101 is_113 rfl ?_
      obtain rfl := Option.some.inj h
      exact j_iret E dX8_type_58
    · replace h := if_t h c6_
      refine j_bipush (v := (-3)) C dX8_type_31 rfl (by decide) ?_
      obtain rfl := Option.some.inj h
      exact j_iret E dX8_type_33
  · replace h := if_t h c5_
    refine j_iconst (v := (-1)) C dX8_type_19 rfl (by decide) ?_
    obtain rfl := Option.some.inj h
    exact j_iret E dX8_type_20
set_option maxRecDepth 100000 in
theorem c_X8_type (l : Launch) (D : va_G) (ad : Nat → Nat) (cl : Nat → ClassId) {a1 : Int32} (μ : Mem) (ρ : Int32 × Mem) (h : f_X8_type a1 μ = some ρ) : CI l D ad cl yX8_type wsX8_type rmX8_type [.ref 113, .int a1] μ ρ.1 ρ.2 := c_ofI (cc := cX8_type) (nL := 2) rfl (by decide) (Nat.le_of_ble_eq_true rfl) (fun Γ C E => w_X8_type C E μ h)
/-! X8_letter -/
def wsX8_letter : List Cond := .code yX8_letter cX8_letter 1 (some .int) :: G0
def rmX8_letter : Room := { frames := 0, cells := 0, slots := 0, locals := 0 }
def f_X8_letter_38 (μ : Mem) : Option (Int32 × Mem) := zl (sI μ 113 9 (μ.1 113 8)) fun μ1_ => (if (μ1_.1 113 7) ≤ (μ1_.1 113 8) then some ((-1), μ1_) else gd (inb (μ1_.1 113 8) 160) <| some (μ1_.1 118 (Int32.toNatClampNeg (μ1_.1 113 8)), μ1_))
set_option maxHeartbeats 4000000 in
set_option maxRecDepth 100000 in
theorem w_X8_letter_38 {Γ : jG} (C : jC Γ 1 cX8_letter RX8 rmX8_letter) {ρ : Int32 × Mem} (E : jEI Γ cX8_letter ρ.1 ρ.2) (μ : Mem) (h : f_X8_letter_38 μ = some ρ) : jJ Γ 1 38 [(0, .ref 113)] [] μ := by
  unfold f_X8_letter_38 at h
  refine j_aload_n C dX8_letter_38 rfl 0 rfl ?_
  refine j_aload_n C dX8_letter_39 rfl 0 rfl ?_
  refine j_getI C dX8_letter_40 rfl lkX8_104 is_113 rfl ?_
  refine j_putI C dX8_letter_43 rfl lpX8_107 is_113 rfl ?_
  refine j_mem (fun μ1_ e2_ => ?_)
  replace h := zl_u h e2_
  refine j_aload_n C dX8_letter_46 rfl 0 rfl ?_
  refine j_getI C dX8_letter_47 rfl lkX8_104 is_113 rfl ?_
  refine j_aload_n C dX8_letter_50 rfl 0 rfl ?_
  refine j_getI C dX8_letter_51 rfl lkX8_101 is_113 rfl ?_
  refine j_icmp_ge (tgt := 69) C dX8_letter_54 rfl (by decide) (fun c3_ => ?_) (fun c3_ => ?_)
  · replace h := if_t h c3_
    refine j_iconst (v := (-1)) C dX8_letter_69 rfl (by decide) ?_
    obtain rfl := Option.some.inj h
    exact j_iret E dX8_letter_70
  · replace h := if_f h c3_
    refine j_aload_n C dX8_letter_57 rfl 0 rfl ?_
    refine j_getR (c := 118) C dX8_letter_58 rfl lkX8_22 is_113 rfl ?_
    refine j_aload_n C dX8_letter_61 rfl 0 rfl ?_
    refine j_getI C dX8_letter_62 rfl lkX8_104 is_113 rfl ?_
    replace h := gd_e h
    obtain ⟨g4_, h⟩ := h
    refine j_iald C dX8_letter_65 rfl is_118 g4_ ?_
    refine j_goto (pc' := 70) C dX8_letter_66 (by decide) ?_
    obtain rfl := Option.some.inj h
    exact j_iret E dX8_letter_70
def f_X8_letter_0 (kx38 : Mem → Option (Int32 × Mem)) : Nat → Mem → Option (Int32 × Mem)
  | 0, _ => none
  | n + 1, μ => (if (μ.1 113 7) ≤ (μ.1 113 8) then kx38 μ else gd (inb (μ.1 113 8) 160) <| (if (μ.1 118 (Int32.toNatClampNeg (μ.1 113 8))) = (nI 32) then zl (sI μ 113 8 ((μ.1 113 8) + (nI 1))) fun μ4_ => f_X8_letter_0 kx38 n μ4_ else kx38 μ))
set_option maxHeartbeats 4000000 in
set_option maxRecDepth 100000 in
theorem w_X8_letter_0 {Γ : jG} (C : jC Γ 1 cX8_letter RX8 rmX8_letter) {kx38 : Mem → Option (Int32 × Mem)} {ρ : Int32 × Mem} (E : jEI Γ cX8_letter ρ.1 ρ.2) (Hkx38 : ∀ (μ : Mem), kx38 μ = some ρ → jJ Γ 1 38 [(0, .ref 113)] [] μ) : ∀ (n : Nat) (μ : Mem), f_X8_letter_0 kx38 n μ = some ρ → jJ Γ 1 0 [(0, .ref 113)] [] μ := by
  intro n
  induction n with
  | zero => intro  μ h; rw [f_X8_letter_0] at h; cases h
  | succ n ih =>
    intro  μ h
    rw [f_X8_letter_0] at h
    refine j_aload_n C dX8_letter_0 rfl 0 rfl ?_
    refine j_getI C dX8_letter_1 rfl lkX8_104 is_113 rfl ?_
    refine j_aload_n C dX8_letter_4 rfl 0 rfl ?_
    refine j_getI C dX8_letter_5 rfl lkX8_101 is_113 rfl ?_
    refine j_icmp_ge (tgt := 38) C dX8_letter_8 rfl (by decide) (fun c1_ => ?_) (fun c1_ => ?_)
    · replace h := if_t h c1_
      refine j_lv [0] rfl ?_
      exact (Hkx38) μ h
    · replace h := if_f h c1_
      refine j_aload_n C dX8_letter_11 rfl 0 rfl ?_
      refine j_getR (c := 118) C dX8_letter_12 rfl lkX8_22 is_113 rfl ?_
      refine j_aload_n C dX8_letter_15 rfl 0 rfl ?_
      refine j_getI C dX8_letter_16 rfl lkX8_104 is_113 rfl ?_
      replace h := gd_e h
      obtain ⟨g2_, h⟩ := h
      refine j_iald C dX8_letter_19 rfl is_118 g2_ ?_
      refine j_bipush (v := (nI 32)) C dX8_letter_20 rfl (by decide) ?_
      refine j_icmp_ne (tgt := 38) C dX8_letter_22 rfl (by decide) (fun c3_ => ?_) (fun c3_ => ?_)
      · replace h := if_f h c3_
        refine j_lv [0] rfl ?_
        exact (Hkx38) μ h
      · replace h := if_t h c3_
        refine j_aload_n C dX8_letter_25 rfl 0 rfl ?_
        refine j_dup C dX8_letter_26 rfl rfl ?_
        refine j_getI C dX8_letter_27 rfl lkX8_104 is_113 rfl ?_
        refine j_iconst (v := (nI 1)) C dX8_letter_30 rfl (by decide) ?_
        refine j_iadd C dX8_letter_31 rfl ?_
        refine j_putI C dX8_letter_32 rfl lpX8_104 is_113 rfl ?_
        refine j_mem (fun μ4_ e5_ => ?_)
        replace h := zl_u h e5_
        refine j_goto (pc' := 0) C dX8_letter_35 (by decide) ?_
        refine j_lv [0] rfl ?_
        exact (ih) μ4_ h
def f_X8_letter (μ : Mem) : Option (Int32 × Mem) := f_X8_letter_0 (fun μ => f_X8_letter_38 μ) zfu μ
set_option maxHeartbeats 4000000 in
set_option maxRecDepth 100000 in
theorem w_X8_letter {Γ : jG} (C : jC Γ 1 cX8_letter RX8 rmX8_letter) {ρ : Int32 × Mem} (E : jEI Γ cX8_letter ρ.1 ρ.2) (μ : Mem) (h : f_X8_letter μ = some ρ) : jJ Γ 1 0 [(0, .ref 113)] [] μ := by
  unfold f_X8_letter at h
  refine j_lv [0] rfl ?_
  exact w_X8_letter_0 C E (fun μ h => w_X8_letter_38 C E μ h) zfu μ h
set_option maxRecDepth 100000 in
theorem c_X8_letter (l : Launch) (D : va_G) (ad : Nat → Nat) (cl : Nat → ClassId) (μ : Mem) (ρ : Int32 × Mem) (h : f_X8_letter μ = some ρ) : CI l D ad cl yX8_letter wsX8_letter rmX8_letter [.ref 113] μ ρ.1 ρ.2 := c_ofI (cc := cX8_letter) (nL := 1) rfl (by decide) (Nat.le_of_ble_eq_true rfl) (fun Γ C E => w_X8_letter C E μ h)
/-! X8_passes -/
def wsX8_passes : List Cond := .code yX8_passes cX8_passes 2 (some .int) :: G0
def rmX8_passes : Room := { frames := 0, cells := 0, slots := 0, locals := 0 }
def f_X8_passes (a1 : Int32) (μ : Mem) : Option (Int32 × Mem) := (if (μ.1 113 10) < 0 then (if 0 ≤ a1 then zl (sI μ 113 8 ((μ.1 113 8) + (nI 1))) fun μ3_ => some (a1, μ3_) else zl (sI μ 113 10 (μ.1 113 9)) fun μ5_ => some ((nI 0), μ5_)) else some ((nI 0), μ))
set_option maxHeartbeats 4000000 in
set_option maxRecDepth 100000 in
theorem w_X8_passes {Γ : jG} (C : jC Γ 2 cX8_passes RX8 rmX8_passes) {a1 : Int32} {ρ : Int32 × Mem} (E : jEI Γ cX8_passes ρ.1 ρ.2) (μ : Mem) (h : f_X8_passes a1 μ = some ρ) : jJ Γ 2 0 [(0, .ref 113), (1, .int a1)] [] μ := by
  unfold f_X8_passes at h
  refine j_aload_n C dX8_passes_0 rfl 0 rfl ?_
  refine j_getI C dX8_passes_1 rfl lkX8_118 is_113 rfl ?_
  refine j_if_lt (tgt := 9) C dX8_passes_4 rfl (by decide) (fun c1_ => ?_) (fun c1_ => ?_)
  · replace h := if_t h c1_
    refine j_iload_n C dX8_passes_9 rfl 1 rfl ?_
    refine j_if_ge (tgt := 23) C dX8_passes_10 rfl (by decide) (fun c2_ => ?_) (fun c2_ => ?_)
    · replace h := if_t h c2_
      refine j_aload_n C dX8_passes_23 rfl 0 rfl ?_
      refine j_dup C dX8_passes_24 rfl rfl ?_
      refine j_getI C dX8_passes_25 rfl lkX8_104 is_113 rfl ?_
      refine j_iconst (v := (nI 1)) C dX8_passes_28 rfl (by decide) ?_
      refine j_iadd C dX8_passes_29 rfl ?_
      refine j_putI C dX8_passes_30 rfl lpX8_104 is_113 rfl ?_
      refine j_mem (fun μ3_ e4_ => ?_)
      replace h := zl_u h e4_
      refine j_iload_n C dX8_passes_33 rfl 1 rfl ?_
      obtain rfl := Option.some.inj h
      exact j_iret E dX8_passes_34
    · replace h := if_f h c2_
      refine j_aload_n C dX8_passes_13 rfl 0 rfl ?_
      refine j_aload_n C dX8_passes_14 rfl 0 rfl ?_
      refine j_getI C dX8_passes_15 rfl lkX8_107 is_113 rfl ?_
      refine j_putI C dX8_passes_18 rfl lpX8_118 is_113 rfl ?_
      refine j_mem (fun μ5_ e6_ => ?_)
      replace h := zl_u h e6_
      refine j_iconst (v := (nI 0)) C dX8_passes_21 rfl (by decide) ?_
      obtain rfl := Option.some.inj h
      exact j_iret E dX8_passes_22
  · replace h := if_f h c1_
    refine j_iconst (v := (nI 0)) C dX8_passes_7 rfl (by decide) ?_
    obtain rfl := Option.some.inj h
    exact j_iret E dX8_passes_8
set_option maxRecDepth 100000 in
theorem c_X8_passes (l : Launch) (D : va_G) (ad : Nat → Nat) (cl : Nat → ClassId) {a1 : Int32} (μ : Mem) (ρ : Int32 × Mem) (h : f_X8_passes a1 μ = some ρ) : CI l D ad cl yX8_passes wsX8_passes rmX8_passes [.ref 113, .int a1] μ ρ.1 ρ.2 := c_ofI (cc := cX8_passes) (nL := 2) rfl (by decide) (Nat.le_of_ble_eq_true rfl) (fun Γ C E => w_X8_passes C E μ h)
theorem gvX8_110 : jm_gv RX8 110 RX8 yX8_letter wsX8_letter 1 0 := ⟨_, _, gi_V gwt5_114 gwt5_116 gwp3_2 gwt1_9 gwt5_117, rfl, by decide +kernel⟩
theorem gvX8_114 : jm_gv RX8 114 RX8 yX8_passes wsX8_passes 2 1 := ⟨_, _, gi_V gwt5_126 gwt5_128 gwp3_5 gwt1_9 gwt5_129, rfl, by decide +kernel⟩
/-! X8_takes -/
def wsX8_takes : List Cond := .code yX8_takes cX8_takes 6 (some .int) :: G0
def rmX8_takes : Room := { frames := 1, cells := 0, slots := 0, locals := 21 }
def f_X8_takes_46 (a1 : Int32) (a2 : Int32) (a3 : Int32) (t0 : Int32) (μ : Mem) : Option (Int32 × Mem) := Option.bind (f_X8_passes t0 μ) fun p1_ => some (p1_.1, p1_.2)
set_option maxHeartbeats 4000000 in
set_option maxRecDepth 100000 in
theorem w_X8_takes_46 {Γ : jG} (C : jC Γ 6 cX8_takes RX8 rmX8_takes) {a1 : Int32} {a2 : Int32} {a3 : Int32} {ρ : Int32 × Mem} (E : jEI Γ cX8_takes ρ.1 ρ.2) (t0 : Int32) (μ : Mem) (h : f_X8_takes_46 a1 a2 a3 t0 μ = some ρ) : jJ Γ 6 46 [(0, .ref 113)] [.int t0] μ := by
  unfold f_X8_takes_46 at h
  refine j_istore (lv' := [(5, .int t0), (0, .ref 113)]) C dX8_takes_46 rfl (by decide) rfl ?_
  refine j_aload_n C dX8_takes_48 rfl 1 rfl ?_
  refine j_iload C dX8_takes_49 rfl 0 rfl ?_
  replace h := bd_e h
  obtain ⟨p1_, h2_, h⟩ := h
  refine j_cVI (av := [.int t0]) (rest := []) C dX8_takes_51 rfl (c_X8_passes _ _ _ _ μ p1_ h2_) gvX8_114 ⟨⟨rfl, rfl⟩, Nat.le_of_ble_eq_true rfl, Nat.le_of_ble_eq_true rfl⟩ rfl is_113 rfl rfl (Nat.le_of_ble_eq_true rfl) ?_
  obtain rfl := Option.some.inj h
  exact j_iret E dX8_takes_54
def f_X8_takes (a1 : Int32) (a2 : Int32) (a3 : Int32) (μ : Mem) : Option (Int32 × Mem) := Option.bind (f_X8_letter μ) fun p1_ => (if 0 ≤ p1_.1 then (if p1_.1 = a1 then f_X8_takes_46 a1 a2 a3 (nI 0) p1_.2 else (if p1_.1 = a2 then f_X8_takes_46 a1 a2 a3 (nI 1) p1_.2 else (if p1_.1 = a3 then f_X8_takes_46 a1 a2 a3 (nI 2) p1_.2 else f_X8_takes_46 a1 a2 a3 (-1) p1_.2))) else f_X8_takes_46 a1 a2 a3 (-1) p1_.2)
set_option maxHeartbeats 4000000 in
set_option maxRecDepth 100000 in
theorem w_X8_takes {Γ : jG} (C : jC Γ 6 cX8_takes RX8 rmX8_takes) {a1 : Int32} {a2 : Int32} {a3 : Int32} {ρ : Int32 × Mem} (E : jEI Γ cX8_takes ρ.1 ρ.2) (μ : Mem) (h : f_X8_takes a1 a2 a3 μ = some ρ) : jJ Γ 6 0 [(0, .ref 113), (1, .int a1), (2, .int a2), (3, .int a3)] [] μ := by
  unfold f_X8_takes at h
  refine j_aload_n C dX8_takes_0 rfl 0 rfl ?_
  replace h := bd_e h
  obtain ⟨p1_, h2_, h⟩ := h
  refine j_cVI (av := []) (rest := []) C dX8_takes_1 rfl (c_X8_letter _ _ _ _ μ p1_ h2_) gvX8_110 ⟨⟨rfl, rfl⟩, Nat.le_of_ble_eq_true rfl, Nat.le_of_ble_eq_true rfl⟩ rfl is_113 rfl rfl (Nat.le_of_ble_eq_true rfl) ?_
  refine j_istore (lv' := [(4, .int p1_.1), (0, .ref 113), (1, .int a1), (2, .int a2), (3, .int a3)]) C dX8_takes_4 rfl (by decide) rfl ?_
  refine j_iload C dX8_takes_6 rfl 0 rfl ?_
  refine j_if_ge (tgt := 15) C dX8_takes_8 rfl (by decide) (fun c3_ => ?_) (fun c3_ => ?_)
  · replace h := if_t h c3_
    refine j_iload C dX8_takes_15 rfl 0 rfl ?_
    refine j_iload_n C dX8_takes_17 rfl 2 rfl ?_
    refine j_icmp_ne (tgt := 25) C dX8_takes_18 rfl (by decide) (fun c4_ => ?_) (fun c4_ => ?_)
    · replace h := if_f h c4_
      refine j_iload C dX8_takes_25 rfl 0 rfl ?_
      refine j_iload_n C dX8_takes_27 rfl 3 rfl ?_
      refine j_icmp_ne (tgt := 35) C dX8_takes_28 rfl (by decide) (fun c5_ => ?_) (fun c5_ => ?_)
      · replace h := if_f h c5_
        refine j_iload C dX8_takes_35 rfl 0 rfl ?_
        refine j_iload_n C dX8_takes_37 rfl 4 rfl ?_
        refine j_icmp_ne (tgt := 45) C dX8_takes_38 rfl (by decide) (fun c6_ => ?_) (fun c6_ => ?_)
        · replace h := if_f h c6_
          refine j_iconst (v := (-1)) C dX8_takes_45 rfl (by decide) ?_
          refine j_lv [1] rfl ?_
          exact w_X8_takes_46 C E (-1) p1_.2 h
        · replace h := if_t h c6_
          refine j_iconst (v := (nI 2)) C dX8_takes_41 rfl (by decide) ?_
          refine j_goto (pc' := 46) C dX8_takes_42 (by decide) ?_
          refine j_lv [1] rfl ?_
          exact w_X8_takes_46 C E (nI 2) p1_.2 h
      · replace h := if_t h c5_
        refine j_iconst (v := (nI 1)) C dX8_takes_31 rfl (by decide) ?_
        refine j_goto (pc' := 46) C dX8_takes_32 (by decide) ?_
        refine j_lv [1] rfl ?_
        exact w_X8_takes_46 C E (nI 1) p1_.2 h
    · replace h := if_t h c4_
      refine j_iconst (v := (nI 0)) C dX8_takes_21 rfl (by decide) ?_
      refine j_goto (pc' := 46) C dX8_takes_22 (by decide) ?_
      refine j_lv [1] rfl ?_
      exact w_X8_takes_46 C E (nI 0) p1_.2 h
  · replace h := if_f h c3_
    refine j_iconst (v := (-1)) C dX8_takes_11 rfl (by decide) ?_
    refine j_goto (pc' := 46) C dX8_takes_12 (by decide) ?_
    refine j_lv [1] rfl ?_
    exact w_X8_takes_46 C E (-1) p1_.2 h
set_option maxRecDepth 100000 in
theorem c_X8_takes (l : Launch) (D : va_G) (ad : Nat → Nat) (cl : Nat → ClassId) {a1 : Int32} {a2 : Int32} {a3 : Int32} (μ : Mem) (ρ : Int32 × Mem) (h : f_X8_takes a1 a2 a3 μ = some ρ) : CI l D ad cl yX8_takes wsX8_takes rmX8_takes [.ref 113, .int a1, .int a2, .int a3] μ ρ.1 ρ.2 := c_ofI (cc := cX8_takes) (nL := 6) rfl (by decide) (Nat.le_of_ble_eq_true rfl) (fun Γ C E => w_X8_takes C E μ h)
theorem gvX8_124 : jm_gv RX8 124 RX8 yX8_takes wsX8_takes 6 3 := ⟨_, _, gi_V gwt5_122 gwt5_124 gwp3_4 gwt1_9 gwt5_125, rfl, by decide +kernel⟩
/-! X8_readsRule -/
def wsX8_readsRule : List Cond := .code yX8_readsRule cX8_readsRule 3 none :: G0
def rmX8_readsRule : Room := { frames := 2, cells := 0, slots := 0, locals := 46 }
def f_X8_readsRule_58 (x1 : Int32) (t1 : Int32) (t3 : Int32) (μ : Mem) : Option (Mem) := Option.bind (f_X8_passes t3 μ) fun p1_ => gd (inb t1 36) <| zl (sI p1_.2 119 (Int32.toNatClampNeg t1) p1_.1) fun μ4_ => Option.bind (f_X8_takes (nI 115) (nI 98) (nI 108) μ4_) fun p6_ => gd (inb (x1 + (nI 2)) 36) <| zl (sI p6_.2 119 (Int32.toNatClampNeg (x1 + (nI 2))) p6_.1) fun μ9_ => Option.bind (f_X8_takes (nI 114) (nI 103) (nI 111) μ9_) fun p11_ => gd (inb (x1 + (nI 3)) 36) <| zl (sI p11_.2 119 (Int32.toNatClampNeg (x1 + (nI 3))) p11_.1) fun μ14_ => some μ14_
set_option maxHeartbeats 4000000 in
set_option maxRecDepth 100000 in
theorem w_X8_readsRule_58 {Γ : jG} (C : jC Γ 3 cX8_readsRule RX8 rmX8_readsRule) {ρ : Mem} (E : jEV Γ cX8_readsRule ρ) (x1 : Int32) (t1 : Int32) (t3 : Int32) (μ : Mem) (h : f_X8_readsRule_58 x1 t1 t3 μ = some ρ) : jJ Γ 3 58 [(0, .ref 113), (1, .int x1)] [.int t3, .ref 113, .int t1, .ref 119] μ := by
  unfold f_X8_readsRule_58 at h
  replace h := bd_e h
  obtain ⟨p1_, h2_, h⟩ := h
  refine j_cVI (av := [.int t3]) (rest := [.int t1, .ref 119]) C dX8_readsRule_58 rfl (c_X8_passes _ _ _ _ μ p1_ h2_) gvX8_114 ⟨⟨rfl, rfl⟩, Nat.le_of_ble_eq_true rfl, Nat.le_of_ble_eq_true rfl⟩ rfl is_113 rfl rfl (Nat.le_of_ble_eq_true rfl) ?_
  replace h := gd_e h
  obtain ⟨g3_, h⟩ := h
  refine j_iast C dX8_readsRule_61 rfl is_119 g3_ ?_
  refine j_mem (fun μ4_ e5_ => ?_)
  replace h := zl_u h e5_
  refine j_aload_n C dX8_readsRule_62 rfl 0 rfl ?_
  refine j_getR (c := 119) C dX8_readsRule_63 rfl lkX8_25 is_113 rfl ?_
  refine j_iload_n C dX8_readsRule_66 rfl 1 rfl ?_
  refine j_iconst (v := (nI 2)) C dX8_readsRule_67 rfl (by decide) ?_
  refine j_iadd C dX8_readsRule_68 rfl ?_
  refine j_aload_n C dX8_readsRule_69 rfl 0 rfl ?_
  refine j_bipush (v := (nI 115)) C dX8_readsRule_70 rfl (by decide) ?_
  refine j_bipush (v := (nI 98)) C dX8_readsRule_72 rfl (by decide) ?_
  refine j_bipush (v := (nI 108)) C dX8_readsRule_74 rfl (by decide) ?_
  replace h := bd_e h
  obtain ⟨p6_, h7_, h⟩ := h
  refine j_cVI (av := [.int (nI 115), .int (nI 98), .int (nI 108)]) (rest := [.int (x1 + (nI 2)), .ref 119]) C dX8_readsRule_76 rfl (c_X8_takes _ _ _ _ μ4_ p6_ h7_) gvX8_124 ⟨⟨rfl, rfl⟩, Nat.le_of_ble_eq_true rfl, Nat.le_of_ble_eq_true rfl⟩ rfl is_113 rfl rfl (Nat.le_of_ble_eq_true rfl) ?_
  replace h := gd_e h
  obtain ⟨g8_, h⟩ := h
  refine j_iast C dX8_readsRule_79 rfl is_119 g8_ ?_
  refine j_mem (fun μ9_ e10_ => ?_)
  replace h := zl_u h e10_
  refine j_aload_n C dX8_readsRule_80 rfl 0 rfl ?_
  refine j_getR (c := 119) C dX8_readsRule_81 rfl lkX8_25 is_113 rfl ?_
  refine j_iload_n C dX8_readsRule_84 rfl 1 rfl ?_
  refine j_iconst (v := (nI 3)) C dX8_readsRule_85 rfl (by decide) ?_
  refine j_iadd C dX8_readsRule_86 rfl ?_
  refine j_aload_n C dX8_readsRule_87 rfl 0 rfl ?_
  refine j_bipush (v := (nI 114)) C dX8_readsRule_88 rfl (by decide) ?_
  refine j_bipush (v := (nI 103)) C dX8_readsRule_90 rfl (by decide) ?_
  refine j_bipush (v := (nI 111)) C dX8_readsRule_92 rfl (by decide) ?_
  replace h := bd_e h
  obtain ⟨p11_, h12_, h⟩ := h
  refine j_cVI (av := [.int (nI 114), .int (nI 103), .int (nI 111)]) (rest := [.int (x1 + (nI 3)), .ref 119]) C dX8_readsRule_94 rfl (c_X8_takes _ _ _ _ μ9_ p11_ h12_) gvX8_124 ⟨⟨rfl, rfl⟩, Nat.le_of_ble_eq_true rfl, Nat.le_of_ble_eq_true rfl⟩ rfl is_113 rfl rfl (Nat.le_of_ble_eq_true rfl) ?_
  replace h := gd_e h
  obtain ⟨g13_, h⟩ := h
  refine j_iast C dX8_readsRule_97 rfl is_119 g13_ ?_
  refine j_mem (fun μ14_ e15_ => ?_)
  replace h := zl_u h e15_
  obtain rfl := Option.some.inj h
  exact j_vret E dX8_readsRule_98
def f_X8_readsRule (μ : Mem) : Option (Mem) := zl ((nI 4) * (μ.1 113 12)) fun x1_ => Option.bind (f_X8_takes (nI 114) (nI 103) (nI 97) μ) fun p3_ => gd (inb x1_ 36) <| zl (sI p3_.2 119 (Int32.toNatClampNeg x1_) p3_.1) fun μ6_ => Option.bind (f_X8_letter μ6_) fun p8_ => Option.bind (f_X8_in (Int32.toInt64 p8_.1) 48 57 p8_.2) fun p10_ => (if p10_.1 = 0 then f_X8_readsRule_58 x1_ (x1_ + (nI 1)) (-1) p10_.2 else f_X8_readsRule_58 x1_ (x1_ + (nI 1)) (p8_.1 - (nI 48)) p10_.2)
set_option maxHeartbeats 4000000 in
set_option maxRecDepth 100000 in
theorem w_X8_readsRule {Γ : jG} (C : jC Γ 3 cX8_readsRule RX8 rmX8_readsRule) {ρ : Mem} (E : jEV Γ cX8_readsRule ρ) (μ : Mem) (h : f_X8_readsRule μ = some ρ) : jJ Γ 3 0 [(0, .ref 113)] [] μ := by
  unfold f_X8_readsRule at h
  refine j_iconst (v := (nI 4)) C dX8_readsRule_0 rfl (by decide) ?_
  refine j_aload_n C dX8_readsRule_1 rfl 0 rfl ?_
  refine j_getI C dX8_readsRule_2 rfl lkX8_121 is_113 rfl ?_
  refine j_imul C dX8_readsRule_5 rfl ?_
  refine j_topi (fun x1_ e2_ => ?_)
  replace h := zl_u h e2_
  refine j_istore_n (lv' := [(1, .int x1_), (0, .ref 113)]) C dX8_readsRule_6 rfl (by decide) rfl ?_
  refine j_aload_n C dX8_readsRule_7 rfl 1 rfl ?_
  refine j_getR (c := 119) C dX8_readsRule_8 rfl lkX8_25 is_113 rfl ?_
  refine j_iload_n C dX8_readsRule_11 rfl 0 rfl ?_
  refine j_aload_n C dX8_readsRule_12 rfl 1 rfl ?_
  refine j_bipush (v := (nI 114)) C dX8_readsRule_13 rfl (by decide) ?_
  refine j_bipush (v := (nI 103)) C dX8_readsRule_15 rfl (by decide) ?_
  refine j_bipush (v := (nI 97)) C dX8_readsRule_17 rfl (by decide) ?_
  replace h := bd_e h
  obtain ⟨p3_, h4_, h⟩ := h
  refine j_cVI (av := [.int (nI 114), .int (nI 103), .int (nI 97)]) (rest := [.int x1_, .ref 119]) C dX8_readsRule_19 rfl (c_X8_takes _ _ _ _ μ p3_ h4_) gvX8_124 ⟨⟨rfl, rfl⟩, Nat.le_of_ble_eq_true rfl, Nat.le_of_ble_eq_true rfl⟩ rfl is_113 rfl rfl (Nat.le_of_ble_eq_true rfl) ?_
  replace h := gd_e h
  obtain ⟨g5_, h⟩ := h
  refine j_iast C dX8_readsRule_22 rfl is_119 g5_ ?_
  refine j_mem (fun μ6_ e7_ => ?_)
  replace h := zl_u h e7_
  refine j_aload_n C dX8_readsRule_23 rfl 1 rfl ?_
  replace h := bd_e h
  obtain ⟨p8_, h9_, h⟩ := h
  refine j_cVI (av := []) (rest := []) C dX8_readsRule_24 rfl (c_X8_letter _ _ _ _ μ6_ p8_ h9_) gvX8_110 ⟨⟨rfl, rfl⟩, Nat.le_of_ble_eq_true rfl, Nat.le_of_ble_eq_true rfl⟩ rfl is_113 rfl rfl (Nat.le_of_ble_eq_true rfl) ?_
  refine j_istore_n (lv' := [(2, .int p8_.1), (1, .int x1_), (0, .ref 113)]) C dX8_readsRule_27 rfl (by decide) rfl ?_
  refine j_aload_n C dX8_readsRule_28 rfl 2 rfl ?_
  refine j_getR (c := 119) C dX8_readsRule_29 rfl lkX8_25 is_113 rfl ?_
  refine j_iload_n C dX8_readsRule_32 rfl 1 rfl ?_
  refine j_iconst (v := (nI 1)) C dX8_readsRule_33 rfl (by decide) ?_
  refine j_iadd C dX8_readsRule_34 rfl ?_
  refine j_aload_n C dX8_readsRule_35 rfl 2 rfl ?_
  refine j_iload_n C dX8_readsRule_36 rfl 0 rfl ?_
  refine j_i2l C dX8_readsRule_37 rfl ?_
  refine j_ldc2 (v := 48) C dX8_readsRule_38 rfl gwt5_130 ?_
  refine j_ldc2 (v := 57) C dX8_readsRule_41 rfl gwt5_131 ?_
  replace h := bd_e h
  obtain ⟨p10_, h11_, h⟩ := h
  refine j_cSI (av := [.long (Int32.toInt64 p8_.1), .long 48, .long 57]) (rest := [.ref 113, .int (x1_ + (nI 1)), .ref 119]) C dX8_readsRule_44 rfl (c_X8_in _ _ _ _ p8_.2 p10_ h11_) gsX8_51 ⟨⟨rfl, rfl⟩, Nat.le_of_ble_eq_true rfl, Nat.le_of_ble_eq_true rfl⟩ rfl rfl (Nat.le_of_ble_eq_true rfl) ?_
  refine j_if_eq (tgt := 57) C dX8_readsRule_47 rfl (by decide) (fun c12_ => ?_) (fun c12_ => ?_)
  · replace h := if_t h c12_
    refine j_iconst (v := (-1)) C dX8_readsRule_57 rfl (by decide) ?_
    refine j_lv [2, 1] rfl ?_
    exact w_X8_readsRule_58 C E x1_ (x1_ + (nI 1)) (-1) p10_.2 h
  · replace h := if_f h c12_
    refine j_iload_n C dX8_readsRule_50 rfl 0 rfl ?_
    refine j_bipush (v := (nI 48)) C dX8_readsRule_51 rfl (by decide) ?_
    refine j_isub C dX8_readsRule_53 rfl ?_
    refine j_goto (pc' := 58) C dX8_readsRule_54 (by decide) ?_
    refine j_lv [2, 1] rfl ?_
    exact w_X8_readsRule_58 C E x1_ (x1_ + (nI 1)) (p8_.1 - (nI 48)) p10_.2 h
set_option maxRecDepth 100000 in
theorem c_X8_readsRule (l : Launch) (D : va_G) (ad : Nat → Nat) (cl : Nat → ClassId) (μ : Mem) (ρ : Mem) (h : f_X8_readsRule μ = some ρ) : CV l D ad cl yX8_readsRule wsX8_readsRule rmX8_readsRule [.ref 113] μ ρ := c_ofV (cc := cX8_readsRule) (nL := 3) rfl (by decide) (Nat.le_of_ble_eq_true rfl) (fun Γ C E => w_X8_readsRule C E μ h)
/-! X8_number -/
def wsX8_number : List Cond := .code yX8_number cX8_number 5 (some .int) :: G0
def rmX8_number : Room := { frames := 1, cells := 0, slots := 0, locals := 25 }
def f_X8_number_125 (a1 : Int32) (x3 : Int32) (x4 : Int32) (μ : Mem) : Option (Int32 × Mem) := (if 0 ≤ (μ.1 113 10) then some (x4, μ) else (if x4 ≤ a1 then some (x4, μ) else zl (sI μ 113 10 x3) fun μ3_ => some (x4, μ3_)))
set_option maxHeartbeats 4000000 in
set_option maxRecDepth 100000 in
theorem w_X8_number_125 {Γ : jG} (C : jC Γ 5 cX8_number RX8 rmX8_number) {a1 : Int32} {ρ : Int32 × Mem} (E : jEI Γ cX8_number ρ.1 ρ.2) (x3 : Int32) (x4 : Int32) (μ : Mem) (h : f_X8_number_125 a1 x3 x4 μ = some ρ) : jJ Γ 5 125 [(0, .ref 113), (1, .int a1), (3, .int x3), (4, .int x4)] [] μ := by
  unfold f_X8_number_125 at h
  refine j_aload_n C dX8_number_125 rfl 0 rfl ?_
  refine j_getI C dX8_number_126 rfl lkX8_118 is_113 rfl ?_
  refine j_if_ge (tgt := 143) C dX8_number_129 rfl (by decide) (fun c1_ => ?_) (fun c1_ => ?_)
  · replace h := if_t h c1_
    refine j_iload C dX8_number_143 rfl 3 rfl ?_
    obtain rfl := Option.some.inj h
    exact j_iret E dX8_number_145
  · replace h := if_f h c1_
    refine j_iload C dX8_number_132 rfl 3 rfl ?_
    refine j_iload_n C dX8_number_134 rfl 1 rfl ?_
    refine j_icmp_le (tgt := 143) C dX8_number_135 rfl (by decide) (fun c2_ => ?_) (fun c2_ => ?_)
    · replace h := if_t h c2_
      refine j_iload C dX8_number_143 rfl 3 rfl ?_
      obtain rfl := Option.some.inj h
      exact j_iret E dX8_number_145
    · replace h := if_f h c2_
      refine j_aload_n C dX8_number_138 rfl 0 rfl ?_
      refine j_iload_n C dX8_number_139 rfl 2 rfl ?_
      refine j_putI C dX8_number_140 rfl lpX8_118 is_113 rfl ?_
      refine j_mem (fun μ3_ e4_ => ?_)
      replace h := zl_u h e4_
      refine j_iload C dX8_number_143 rfl 3 rfl ?_
      obtain rfl := Option.some.inj h
      exact j_iret E dX8_number_145
def f_X8_number_110 (a1 : Int32) (kb40 : Int32 → Int32 → Mem → Option (Int32 × Mem)) (kx125 : Int32 → Int32 → Mem → Option (Int32 × Mem)) (x3 : Int32) (t0 : Int32) (μ : Mem) : Option (Int32 × Mem) := zl (sI μ 113 8 ((μ.1 113 8) + (nI 1))) fun μ1_ => kb40 x3 t0 μ1_
set_option maxHeartbeats 4000000 in
set_option maxRecDepth 100000 in
theorem w_X8_number_110 {Γ : jG} (C : jC Γ 5 cX8_number RX8 rmX8_number) {a1 : Int32} {kb40 : Int32 → Int32 → Mem → Option (Int32 × Mem)} {kx125 : Int32 → Int32 → Mem → Option (Int32 × Mem)} {ρ : Int32 × Mem} (E : jEI Γ cX8_number ρ.1 ρ.2) (Hkb40 : ∀ (x3 : Int32) (x4 : Int32) (μ : Mem), kb40 x3 x4 μ = some ρ → jJ Γ 5 40 [(0, .ref 113), (1, .int a1), (3, .int x3), (4, .int x4)] [] μ) (Hkx125 : ∀ (x3 : Int32) (x4 : Int32) (μ : Mem), kx125 x3 x4 μ = some ρ → jJ Γ 5 125 [(0, .ref 113), (1, .int a1), (3, .int x3), (4, .int x4)] [] μ) (x3 : Int32) (t0 : Int32) (μ : Mem) (h : f_X8_number_110 a1 kb40 kx125 x3 t0 μ = some ρ) : jJ Γ 5 110 [(0, .ref 113), (1, .int a1), (3, .int x3)] [.int t0] μ := by
  unfold f_X8_number_110 at h
  refine j_istore (lv' := [(4, .int t0), (0, .ref 113), (1, .int a1), (3, .int x3)]) C dX8_number_110 rfl (by decide) rfl ?_
  refine j_aload_n C dX8_number_112 rfl 1 rfl ?_
  refine j_dup C dX8_number_113 rfl rfl ?_
  refine j_getI C dX8_number_114 rfl lkX8_104 is_113 rfl ?_
  refine j_iconst (v := (nI 1)) C dX8_number_117 rfl (by decide) ?_
  refine j_iadd C dX8_number_118 rfl ?_
  refine j_putI C dX8_number_119 rfl lpX8_104 is_113 rfl ?_
  refine j_mem (fun μ1_ e2_ => ?_)
  replace h := zl_u h e2_
  refine j_goto (pc' := 40) C dX8_number_122 (by decide) ?_
  refine j_lv [1, 2, 3, 0] rfl ?_
  exact (Hkb40) x3 t0 μ1_ h
def f_X8_number_40 (a1 : Int32) (kx125 : Int32 → Int32 → Mem → Option (Int32 × Mem)) : Nat → Int32 → Int32 → Mem → Option (Int32 × Mem)
  | 0, _, _, _ => none
  | n + 1, x3, x4, μ => (if 0 ≤ (μ.1 113 10) then kx125 x3 x4 μ else (if (μ.1 113 7) ≤ (μ.1 113 8) then kx125 x3 x4 μ else gd (inb (μ.1 113 8) 160) <| Option.bind (f_X8_in (Int32.toInt64 (μ.1 118 (Int32.toNatClampNeg (μ.1 113 8)))) 48 57 μ) fun p4_ => (if p4_.1 = 0 then kx125 x3 x4 p4_.2 else (if x4 ≤ (nI 100) then gd (inb (p4_.2.1 113 8) 160) <| f_X8_number_110 a1 (fun x3 x4 μ => f_X8_number_40 a1 kx125 n x3 x4 μ) kx125 x3 ((((nI 10) * x4) + (p4_.2.1 118 (Int32.toNatClampNeg (p4_.2.1 113 8)))) - (nI 48)) p4_.2 else f_X8_number_110 a1 (fun x3 x4 μ => f_X8_number_40 a1 kx125 n x3 x4 μ) kx125 x3 x4 p4_.2))))
set_option maxHeartbeats 4000000 in
set_option maxRecDepth 100000 in
theorem w_X8_number_40 {Γ : jG} (C : jC Γ 5 cX8_number RX8 rmX8_number) {a1 : Int32} {kx125 : Int32 → Int32 → Mem → Option (Int32 × Mem)} {ρ : Int32 × Mem} (E : jEI Γ cX8_number ρ.1 ρ.2) (Hkx125 : ∀ (x3 : Int32) (x4 : Int32) (μ : Mem), kx125 x3 x4 μ = some ρ → jJ Γ 5 125 [(0, .ref 113), (1, .int a1), (3, .int x3), (4, .int x4)] [] μ) : ∀ (n : Nat) (x3 : Int32) (x4 : Int32) (μ : Mem), f_X8_number_40 a1 kx125 n x3 x4 μ = some ρ → jJ Γ 5 40 [(0, .ref 113), (1, .int a1), (3, .int x3), (4, .int x4)] [] μ := by
  intro n
  induction n with
  | zero => intro x3 x4 μ h; rw [f_X8_number_40] at h; cases h
  | succ n ih =>
    intro x3 x4 μ h
    rw [f_X8_number_40] at h
    refine j_aload_n C dX8_number_40 rfl 0 rfl ?_
    refine j_getI C dX8_number_41 rfl lkX8_118 is_113 rfl ?_
    refine j_if_ge (tgt := 125) C dX8_number_44 rfl (by decide) (fun c1_ => ?_) (fun c1_ => ?_)
    · replace h := if_t h c1_
      refine j_lv [0, 1, 2, 3] rfl ?_
      exact (Hkx125) x3 x4 μ h
    · replace h := if_f h c1_
      refine j_aload_n C dX8_number_47 rfl 0 rfl ?_
      refine j_getI C dX8_number_48 rfl lkX8_104 is_113 rfl ?_
      refine j_aload_n C dX8_number_51 rfl 0 rfl ?_
      refine j_getI C dX8_number_52 rfl lkX8_101 is_113 rfl ?_
      refine j_icmp_ge (tgt := 125) C dX8_number_55 rfl (by decide) (fun c2_ => ?_) (fun c2_ => ?_)
      · replace h := if_t h c2_
        refine j_lv [0, 1, 2, 3] rfl ?_
        exact (Hkx125) x3 x4 μ h
      · replace h := if_f h c2_
        refine j_aload_n C dX8_number_58 rfl 0 rfl ?_
        refine j_getR (c := 118) C dX8_number_59 rfl lkX8_22 is_113 rfl ?_
        refine j_aload_n C dX8_number_62 rfl 0 rfl ?_
        refine j_getI C dX8_number_63 rfl lkX8_104 is_113 rfl ?_
        replace h := gd_e h
        obtain ⟨g3_, h⟩ := h
        refine j_iald C dX8_number_66 rfl is_118 g3_ ?_
        refine j_i2l C dX8_number_67 rfl ?_
        refine j_ldc2 (v := 48) C dX8_number_68 rfl gwt5_130 ?_
        refine j_ldc2 (v := 57) C dX8_number_71 rfl gwt5_131 ?_
        replace h := bd_e h
        obtain ⟨p4_, h5_, h⟩ := h
        refine j_cSI (av := [.long (Int32.toInt64 (μ.1 118 (Int32.toNatClampNeg (μ.1 113 8)))), .long 48, .long 57]) (rest := []) C dX8_number_74 rfl (c_X8_in _ _ _ _ μ p4_ h5_) gsX8_51 ⟨⟨rfl, rfl⟩, Nat.le_of_ble_eq_true rfl, Nat.le_of_ble_eq_true rfl⟩ rfl rfl (Nat.le_of_ble_eq_true rfl) ?_
        refine j_if_eq (tgt := 125) C dX8_number_77 rfl (by decide) (fun c6_ => ?_) (fun c6_ => ?_)
        · replace h := if_t h c6_
          refine j_lv [0, 1, 2, 3] rfl ?_
          exact (Hkx125) x3 x4 p4_.2 h
        · replace h := if_f h c6_
          refine j_iload C dX8_number_80 rfl 3 rfl ?_
          refine j_bipush (v := (nI 100)) C dX8_number_82 rfl (by decide) ?_
          refine j_icmp_le (tgt := 92) C dX8_number_84 rfl (by decide) (fun c7_ => ?_) (fun c7_ => ?_)
          · replace h := if_t h c7_
            refine j_bipush (v := (nI 10)) C dX8_number_92 rfl (by decide) ?_
            refine j_iload C dX8_number_94 rfl 3 rfl ?_
            refine j_imul C dX8_number_96 rfl ?_
            refine j_aload_n C dX8_number_97 rfl 0 rfl ?_
            refine j_getR (c := 118) C dX8_number_98 rfl lkX8_22 is_113 rfl ?_
            refine j_aload_n C dX8_number_101 rfl 0 rfl ?_
            refine j_getI C dX8_number_102 rfl lkX8_104 is_113 rfl ?_
            replace h := gd_e h
            obtain ⟨g8_, h⟩ := h
            refine j_iald C dX8_number_105 rfl is_118 g8_ ?_
            refine j_iadd C dX8_number_106 rfl ?_
            refine j_bipush (v := (nI 48)) C dX8_number_107 rfl (by decide) ?_
            refine j_isub C dX8_number_109 rfl ?_
            refine j_lv [0, 1, 2] rfl ?_
            exact w_X8_number_110 C E ih Hkx125 x3 ((((nI 10) * x4) + (p4_.2.1 118 (Int32.toNatClampNeg (p4_.2.1 113 8)))) - (nI 48)) p4_.2 h
          · replace h := if_f h c7_
            refine j_iload C dX8_number_87 rfl 3 rfl ?_
            refine j_goto (pc' := 110) C dX8_number_89 (by decide) ?_
            refine j_lv [0, 1, 2] rfl ?_
            exact w_X8_number_110 C E ih Hkx125 x3 x4 p4_.2 h
def f_X8_number_30 (a1 : Int32) (x2 : Int32) (x3 : Int32) (t1 : Int32) (μ : Mem) : Option (Int32 × Mem) := Option.bind (f_X8_passes t1 μ) fun p1_ => zl (x2 - (nI 48)) fun x3_ => f_X8_number_40 a1 (fun x3 x4 μ => f_X8_number_125 a1 x3 x4 μ) zfu x3 x3_ p1_.2
set_option maxHeartbeats 4000000 in
set_option maxRecDepth 100000 in
theorem w_X8_number_30 {Γ : jG} (C : jC Γ 5 cX8_number RX8 rmX8_number) {a1 : Int32} {ρ : Int32 × Mem} (E : jEI Γ cX8_number ρ.1 ρ.2) (x2 : Int32) (x3 : Int32) (t1 : Int32) (μ : Mem) (h : f_X8_number_30 a1 x2 x3 t1 μ = some ρ) : jJ Γ 5 30 [(0, .ref 113), (1, .int a1), (2, .int x2), (3, .int x3)] [.int t1, .ref 113] μ := by
  unfold f_X8_number_30 at h
  replace h := bd_e h
  obtain ⟨p1_, h2_, h⟩ := h
  refine j_cVI (av := [.int t1]) (rest := []) C dX8_number_30 rfl (c_X8_passes _ _ _ _ μ p1_ h2_) gvX8_114 ⟨⟨rfl, rfl⟩, Nat.le_of_ble_eq_true rfl, Nat.le_of_ble_eq_true rfl⟩ rfl is_113 rfl rfl (Nat.le_of_ble_eq_true rfl) ?_
  refine j_pop C dX8_number_33 rfl rfl ?_
  refine j_iload_n C dX8_number_34 rfl 2 rfl ?_
  refine j_bipush (v := (nI 48)) C dX8_number_35 rfl (by decide) ?_
  refine j_isub C dX8_number_37 rfl ?_
  refine j_topi (fun x3_ e4_ => ?_)
  replace h := zl_u h e4_
  refine j_istore (lv' := [(4, .int x3_), (0, .ref 113), (1, .int a1), (2, .int x2), (3, .int x3)]) C dX8_number_38 rfl (by decide) rfl ?_
  refine j_lv [1, 2, 4, 0] rfl ?_
  exact w_X8_number_40 C E (fun x3 x4 μ h => w_X8_number_125 C E x3 x4 μ h) zfu x3 x3_ p1_.2 h
def f_X8_number (a1 : Int32) (μ : Mem) : Option (Int32 × Mem) := Option.bind (f_X8_letter μ) fun p1_ => zl (p1_.2.1 113 9) fun x3_ => Option.bind (f_X8_in (Int32.toInt64 p1_.1) 48 57 p1_.2) fun p5_ => (if p5_.1 = 0 then f_X8_number_30 a1 p1_.1 x3_ (-1) p5_.2 else f_X8_number_30 a1 p1_.1 x3_ (nI 0) p5_.2)
set_option maxHeartbeats 4000000 in
set_option maxRecDepth 100000 in
theorem w_X8_number {Γ : jG} (C : jC Γ 5 cX8_number RX8 rmX8_number) {a1 : Int32} {ρ : Int32 × Mem} (E : jEI Γ cX8_number ρ.1 ρ.2) (μ : Mem) (h : f_X8_number a1 μ = some ρ) : jJ Γ 5 0 [(0, .ref 113), (1, .int a1)] [] μ := by
  unfold f_X8_number at h
  refine j_aload_n C dX8_number_0 rfl 0 rfl ?_
  replace h := bd_e h
  obtain ⟨p1_, h2_, h⟩ := h
  refine j_cVI (av := []) (rest := []) C dX8_number_1 rfl (c_X8_letter _ _ _ _ μ p1_ h2_) gvX8_110 ⟨⟨rfl, rfl⟩, Nat.le_of_ble_eq_true rfl, Nat.le_of_ble_eq_true rfl⟩ rfl is_113 rfl rfl (Nat.le_of_ble_eq_true rfl) ?_
  refine j_istore_n (lv' := [(2, .int p1_.1), (0, .ref 113), (1, .int a1)]) C dX8_number_4 rfl (by decide) rfl ?_
  refine j_aload_n C dX8_number_5 rfl 1 rfl ?_
  refine j_getI C dX8_number_6 rfl lkX8_107 is_113 rfl ?_
  refine j_topi (fun x3_ e4_ => ?_)
  replace h := zl_u h e4_
  refine j_istore_n (lv' := [(3, .int x3_), (2, .int p1_.1), (0, .ref 113), (1, .int a1)]) C dX8_number_9 rfl (by decide) rfl ?_
  refine j_aload_n C dX8_number_10 rfl 2 rfl ?_
  refine j_iload_n C dX8_number_11 rfl 1 rfl ?_
  refine j_i2l C dX8_number_12 rfl ?_
  refine j_ldc2 (v := 48) C dX8_number_13 rfl gwt5_130 ?_
  refine j_ldc2 (v := 57) C dX8_number_16 rfl gwt5_131 ?_
  replace h := bd_e h
  obtain ⟨p5_, h6_, h⟩ := h
  refine j_cSI (av := [.long (Int32.toInt64 p1_.1), .long 48, .long 57]) (rest := [.ref 113]) C dX8_number_19 rfl (c_X8_in _ _ _ _ p1_.2 p5_ h6_) gsX8_51 ⟨⟨rfl, rfl⟩, Nat.le_of_ble_eq_true rfl, Nat.le_of_ble_eq_true rfl⟩ rfl rfl (Nat.le_of_ble_eq_true rfl) ?_
  refine j_if_eq (tgt := 29) C dX8_number_22 rfl (by decide) (fun c7_ => ?_) (fun c7_ => ?_)
  · replace h := if_t h c7_
    refine j_iconst (v := (-1)) C dX8_number_29 rfl (by decide) ?_
    refine j_lv [2, 3, 1, 0] rfl ?_
    exact w_X8_number_30 C E p1_.1 x3_ (-1) p5_.2 h
  · replace h := if_f h c7_
    refine j_iconst (v := (nI 0)) C dX8_number_25 rfl (by decide) ?_
    refine j_goto (pc' := 30) C dX8_number_26 (by decide) ?_
    refine j_lv [2, 3, 1, 0] rfl ?_
    exact w_X8_number_30 C E p1_.1 x3_ (nI 0) p5_.2 h
set_option maxRecDepth 100000 in
theorem c_X8_number (l : Launch) (D : va_G) (ad : Nat → Nat) (cl : Nat → ClassId) {a1 : Int32} (μ : Mem) (ρ : Int32 × Mem) (h : f_X8_number a1 μ = some ρ) : CI l D ad cl yX8_number wsX8_number rmX8_number [.ref 113, .int a1] μ ρ.1 ρ.2 := c_ofI (cc := cX8_number) (nL := 5) rfl (by decide) (Nat.le_of_ble_eq_true rfl) (fun Γ C E => w_X8_number C E μ h)
/-! X8_kindOf -/
def wsX8_kindOf : List Cond := .code yX8_kindOf cX8_kindOf 2 (some .int) :: G0
def rmX8_kindOf : Room := { frames := 0, cells := 0, slots := 0, locals := 0 }
def f_X8_kindOf (a1 : Int32) (μ : Mem) : Option (Int32 × Mem) := (if a1 = (nI 112) then some ((nI 0), μ) else (if a1 = (nI 108) then some ((nI 1), μ) else (if a1 = (nI 101) then some ((nI 2), μ) else (if a1 = (nI 115) then some ((nI 3), μ) else (if a1 = (nI 116) then some ((nI 4), μ) else (if a1 = (nI 109) then some ((nI 5), μ) else some ((-1), μ)))))))
set_option maxHeartbeats 4000000 in
set_option maxRecDepth 100000 in
theorem w_X8_kindOf {Γ : jG} (C : jC Γ 2 cX8_kindOf RX8 rmX8_kindOf) {a1 : Int32} {ρ : Int32 × Mem} (E : jEI Γ cX8_kindOf ρ.1 ρ.2) (μ : Mem) (h : f_X8_kindOf a1 μ = some ρ) : jJ Γ 2 0 [(0, .ref 113), (1, .int a1)] [] μ := by
  unfold f_X8_kindOf at h
  refine j_iload_n C dX8_kindOf_0 rfl 1 rfl ?_
  refine j_bipush (v := (nI 112)) C dX8_kindOf_1 rfl (by decide) ?_
  refine j_icmp_ne (tgt := 10) C dX8_kindOf_3 rfl (by decide) (fun c1_ => ?_) (fun c1_ => ?_)
  · replace h := if_f h c1_
    refine j_iload_n C dX8_kindOf_10 rfl 1 rfl ?_
    refine j_bipush (v := (nI 108)) C dX8_kindOf_11 rfl (by decide) ?_
    refine j_icmp_ne (tgt := 20) C dX8_kindOf_13 rfl (by decide) (fun c2_ => ?_) (fun c2_ => ?_)
    · replace h := if_f h c2_
      refine j_iload_n C dX8_kindOf_20 rfl 1 rfl ?_
      refine j_bipush (v := (nI 101)) C dX8_kindOf_21 rfl (by decide) ?_
      refine j_icmp_ne (tgt := 30) C dX8_kindOf_23 rfl (by decide) (fun c3_ => ?_) (fun c3_ => ?_)
      · replace h := if_f h c3_
        refine j_iload_n C dX8_kindOf_30 rfl 1 rfl ?_
        refine j_bipush (v := (nI 115)) C dX8_kindOf_31 rfl (by decide) ?_
        refine j_icmp_ne (tgt := 40) C dX8_kindOf_33 rfl (by decide) (fun c4_ => ?_) (fun c4_ => ?_)
        · replace h := if_f h c4_
          refine j_iload_n C dX8_kindOf_40 rfl 1 rfl ?_
          refine j_bipush (v := (nI 116)) C dX8_kindOf_41 rfl (by decide) ?_
          refine j_icmp_ne (tgt := 50) C dX8_kindOf_43 rfl (by decide) (fun c5_ => ?_) (fun c5_ => ?_)
          · replace h := if_f h c5_
            refine j_iload_n C dX8_kindOf_50 rfl 1 rfl ?_
            refine j_bipush (v := (nI 109)) C dX8_kindOf_51 rfl (by decide) ?_
            refine j_icmp_ne (tgt := 60) C dX8_kindOf_53 rfl (by decide) (fun c6_ => ?_) (fun c6_ => ?_)
            · replace h := if_f h c6_
              refine j_iconst (v := (-1)) C dX8_kindOf_60 rfl (by decide) ?_
              obtain rfl := Option.some.inj h
              exact j_iret E dX8_kindOf_61
            · replace h := if_t h c6_
              refine j_iconst (v := (nI 5)) C dX8_kindOf_56 rfl (by decide) ?_
              refine j_goto (pc' := 61) C dX8_kindOf_57 (by decide) ?_
              obtain rfl := Option.some.inj h
              exact j_iret E dX8_kindOf_61
          · replace h := if_t h c5_
            refine j_iconst (v := (nI 4)) C dX8_kindOf_46 rfl (by decide) ?_
            refine j_goto (pc' := 61) C dX8_kindOf_47 (by decide) ?_
            obtain rfl := Option.some.inj h
            exact j_iret E dX8_kindOf_61
        · replace h := if_t h c4_
          refine j_iconst (v := (nI 3)) C dX8_kindOf_36 rfl (by decide) ?_
          refine j_goto (pc' := 61) C dX8_kindOf_37 (by decide) ?_
          obtain rfl := Option.some.inj h
          exact j_iret E dX8_kindOf_61
      · replace h := if_t h c3_
        refine j_iconst (v := (nI 2)) C dX8_kindOf_26 rfl (by decide) ?_
        refine j_goto (pc' := 61) C dX8_kindOf_27 (by decide) ?_
        obtain rfl := Option.some.inj h
        exact j_iret E dX8_kindOf_61
    · replace h := if_t h c2_
      refine j_iconst (v := (nI 1)) C dX8_kindOf_16 rfl (by decide) ?_
      refine j_goto (pc' := 61) C dX8_kindOf_17 (by decide) ?_
      obtain rfl := Option.some.inj h
      exact j_iret E dX8_kindOf_61
  · replace h := if_t h c1_
    refine j_iconst (v := (nI 0)) C dX8_kindOf_6 rfl (by decide) ?_
    refine j_goto (pc' := 61) C dX8_kindOf_7 (by decide) ?_
    obtain rfl := Option.some.inj h
    exact j_iret E dX8_kindOf_61
set_option maxRecDepth 100000 in
theorem c_X8_kindOf (l : Launch) (D : va_G) (ad : Nat → Nat) (cl : Nat → ClassId) {a1 : Int32} (μ : Mem) (ρ : Int32 × Mem) (h : f_X8_kindOf a1 μ = some ρ) : CI l D ad cl yX8_kindOf wsX8_kindOf rmX8_kindOf [.ref 113, .int a1] μ ρ.1 ρ.2 := c_ofI (cc := cX8_kindOf) (nL := 2) rfl (by decide) (Nat.le_of_ble_eq_true rfl) (fun Γ C E => w_X8_kindOf C E μ h)
theorem gvX8_142 : jm_gv RX8 142 RX8 yX8_kindOf wsX8_kindOf 2 1 := ⟨_, _, gi_V gwt5_136 gwt5_138 gwp3_7 gwt1_9 gwt5_139, rfl, by decide +kernel⟩
theorem gvX8_145 : jm_gv RX8 145 RX8 yX8_number wsX8_number 5 1 := ⟨_, _, gi_V gwt5_140 gwt5_142 gwp3_8 gwt1_9 gwt5_143, rfl, by decide +kernel⟩
/-! X8_readsRock -/
def wsX8_readsRock : List Cond := .code yX8_readsRock cX8_readsRock 4 none :: G0
def rmX8_readsRock : Room := { frames := 2, cells := 0, slots := 0, locals := 49 }
def f_X8_readsRock_134 (x1 : Int32) (t1 : Int32) (μ : Mem) : Option (Mem) := Option.bind (f_X8_passes t1 μ) fun p1_ => Option.bind (f_X8_number (nI 100) p1_.2) fun p3_ => gd (inb (x1 + (nI 3)) 36) <| zl (sI p3_.2 119 (Int32.toNatClampNeg (x1 + (nI 3))) p3_.1) fun μ6_ => some μ6_
set_option maxHeartbeats 4000000 in
set_option maxRecDepth 100000 in
theorem w_X8_readsRock_134 {Γ : jG} (C : jC Γ 4 cX8_readsRock RX8 rmX8_readsRock) {ρ : Mem} (E : jEV Γ cX8_readsRock ρ) (x1 : Int32) (t1 : Int32) (μ : Mem) (h : f_X8_readsRock_134 x1 t1 μ = some ρ) : jJ Γ 4 134 [(0, .ref 113), (1, .int x1)] [.int t1, .ref 113] μ := by
  unfold f_X8_readsRock_134 at h
  replace h := bd_e h
  obtain ⟨p1_, h2_, h⟩ := h
  refine j_cVI (av := [.int t1]) (rest := []) C dX8_readsRock_134 rfl (c_X8_passes _ _ _ _ μ p1_ h2_) gvX8_114 ⟨⟨rfl, rfl⟩, Nat.le_of_ble_eq_true rfl, Nat.le_of_ble_eq_true rfl⟩ rfl is_113 rfl rfl (Nat.le_of_ble_eq_true rfl) ?_
  refine j_pop C dX8_readsRock_137 rfl rfl ?_
  refine j_aload_n C dX8_readsRock_138 rfl 0 rfl ?_
  refine j_getR (c := 119) C dX8_readsRock_139 rfl lkX8_25 is_113 rfl ?_
  refine j_iload_n C dX8_readsRock_142 rfl 1 rfl ?_
  refine j_iconst (v := (nI 3)) C dX8_readsRock_143 rfl (by decide) ?_
  refine j_iadd C dX8_readsRock_144 rfl ?_
  refine j_aload_n C dX8_readsRock_145 rfl 0 rfl ?_
  refine j_bipush (v := (nI 100)) C dX8_readsRock_146 rfl (by decide) ?_
  replace h := bd_e h
  obtain ⟨p3_, h4_, h⟩ := h
  refine j_cVI (av := [.int (nI 100)]) (rest := [.int (x1 + (nI 3)), .ref 119]) C dX8_readsRock_148 rfl (c_X8_number _ _ _ _ p1_.2 p3_ h4_) gvX8_145 ⟨⟨rfl, rfl⟩, Nat.le_of_ble_eq_true rfl, Nat.le_of_ble_eq_true rfl⟩ rfl is_113 rfl rfl (Nat.le_of_ble_eq_true rfl) ?_
  replace h := gd_e h
  obtain ⟨g5_, h⟩ := h
  refine j_iast C dX8_readsRock_151 rfl is_119 g5_ ?_
  refine j_mem (fun μ6_ e7_ => ?_)
  replace h := zl_u h e7_
  obtain rfl := Option.some.inj h
  exact j_vret E dX8_readsRock_152
def f_X8_readsRock_59 (x1 : Int32) (t1 : Int32) (t3 : Int32) (μ : Mem) : Option (Mem) := Option.bind (f_X8_passes t3 μ) fun p1_ => gd (inb t1 36) <| zl (sI p1_.2 119 (Int32.toNatClampNeg t1) p1_.1) fun μ4_ => gd (inb (x1 + (nI 2)) 36) <| zl (sI μ4_ 119 (Int32.toNatClampNeg (x1 + (nI 2))) (nI 0)) fun μ7_ => gd (inb (x1 + (nI 3)) 36) <| zl (sI μ7_ 119 (Int32.toNatClampNeg (x1 + (nI 3))) (nI 0)) fun μ10_ => (if 0 ≤ (μ10_.1 113 10) then some μ10_ else Option.bind (f_X8_letter μ10_) fun p13_ => (if p13_.1 = (nI 100) then Option.bind (f_X8_passes (nI 0) p13_.2) fun p16_ => Option.bind (f_X8_number (nI 99) p16_.2) fun p18_ => zl (sI p18_.2 119 (Int32.toNatClampNeg (x1 + (nI 2))) p18_.1) fun μ20_ => Option.bind (f_X8_letter μ20_) fun p22_ => (if p22_.1 = (nI 45) then f_X8_readsRock_134 x1 (nI 0) p22_.2 else f_X8_readsRock_134 x1 (-1) p22_.2) else some p13_.2))
set_option maxHeartbeats 4000000 in
set_option maxRecDepth 100000 in
theorem w_X8_readsRock_59 {Γ : jG} (C : jC Γ 4 cX8_readsRock RX8 rmX8_readsRock) {ρ : Mem} (E : jEV Γ cX8_readsRock ρ) (x1 : Int32) (t1 : Int32) (t3 : Int32) (μ : Mem) (h : f_X8_readsRock_59 x1 t1 t3 μ = some ρ) : jJ Γ 4 59 [(0, .ref 113), (1, .int x1)] [.int t3, .ref 113, .int t1, .ref 119] μ := by
  unfold f_X8_readsRock_59 at h
  replace h := bd_e h
  obtain ⟨p1_, h2_, h⟩ := h
  refine j_cVI (av := [.int t3]) (rest := [.int t1, .ref 119]) C dX8_readsRock_59 rfl (c_X8_passes _ _ _ _ μ p1_ h2_) gvX8_114 ⟨⟨rfl, rfl⟩, Nat.le_of_ble_eq_true rfl, Nat.le_of_ble_eq_true rfl⟩ rfl is_113 rfl rfl (Nat.le_of_ble_eq_true rfl) ?_
  replace h := gd_e h
  obtain ⟨g3_, h⟩ := h
  refine j_iast C dX8_readsRock_62 rfl is_119 g3_ ?_
  refine j_mem (fun μ4_ e5_ => ?_)
  replace h := zl_u h e5_
  refine j_aload_n C dX8_readsRock_63 rfl 0 rfl ?_
  refine j_getR (c := 119) C dX8_readsRock_64 rfl lkX8_25 is_113 rfl ?_
  refine j_iload_n C dX8_readsRock_67 rfl 1 rfl ?_
  refine j_iconst (v := (nI 2)) C dX8_readsRock_68 rfl (by decide) ?_
  refine j_iadd C dX8_readsRock_69 rfl ?_
  refine j_iconst (v := (nI 0)) C dX8_readsRock_70 rfl (by decide) ?_
  replace h := gd_e h
  obtain ⟨g6_, h⟩ := h
  refine j_iast C dX8_readsRock_71 rfl is_119 g6_ ?_
  refine j_mem (fun μ7_ e8_ => ?_)
  replace h := zl_u h e8_
  refine j_aload_n C dX8_readsRock_72 rfl 0 rfl ?_
  refine j_getR (c := 119) C dX8_readsRock_73 rfl lkX8_25 is_113 rfl ?_
  refine j_iload_n C dX8_readsRock_76 rfl 1 rfl ?_
  refine j_iconst (v := (nI 3)) C dX8_readsRock_77 rfl (by decide) ?_
  refine j_iadd C dX8_readsRock_78 rfl ?_
  refine j_iconst (v := (nI 0)) C dX8_readsRock_79 rfl (by decide) ?_
  replace h := gd_e h
  obtain ⟨g9_, h⟩ := h
  refine j_iast C dX8_readsRock_80 rfl is_119 g9_ ?_
  refine j_mem (fun μ10_ e11_ => ?_)
  replace h := zl_u h e11_
  refine j_aload_n C dX8_readsRock_81 rfl 0 rfl ?_
  refine j_getI C dX8_readsRock_82 rfl lkX8_118 is_113 rfl ?_
  refine j_if_ge (tgt := 152) C dX8_readsRock_85 rfl (by decide) (fun c12_ => ?_) (fun c12_ => ?_)
  · replace h := if_t h c12_
    obtain rfl := Option.some.inj h
    exact j_vret E dX8_readsRock_152
  · replace h := if_f h c12_
    refine j_aload_n C dX8_readsRock_88 rfl 0 rfl ?_
    replace h := bd_e h
    obtain ⟨p13_, h14_, h⟩ := h
    refine j_cVI (av := []) (rest := []) C dX8_readsRock_89 rfl (c_X8_letter _ _ _ _ μ10_ p13_ h14_) gvX8_110 ⟨⟨rfl, rfl⟩, Nat.le_of_ble_eq_true rfl, Nat.le_of_ble_eq_true rfl⟩ rfl is_113 rfl rfl (Nat.le_of_ble_eq_true rfl) ?_
    refine j_bipush (v := (nI 100)) C dX8_readsRock_92 rfl (by decide) ?_
    refine j_icmp_ne (tgt := 152) C dX8_readsRock_94 rfl (by decide) (fun c15_ => ?_) (fun c15_ => ?_)
    · replace h := if_f h c15_
      obtain rfl := Option.some.inj h
      exact j_vret E dX8_readsRock_152
    · replace h := if_t h c15_
      refine j_aload_n C dX8_readsRock_97 rfl 0 rfl ?_
      refine j_iconst (v := (nI 0)) C dX8_readsRock_98 rfl (by decide) ?_
      replace h := bd_e h
      obtain ⟨p16_, h17_, h⟩ := h
      refine j_cVI (av := [.int (nI 0)]) (rest := []) C dX8_readsRock_99 rfl (c_X8_passes _ _ _ _ p13_.2 p16_ h17_) gvX8_114 ⟨⟨rfl, rfl⟩, Nat.le_of_ble_eq_true rfl, Nat.le_of_ble_eq_true rfl⟩ rfl is_113 rfl rfl (Nat.le_of_ble_eq_true rfl) ?_
      refine j_pop C dX8_readsRock_102 rfl rfl ?_
      refine j_aload_n C dX8_readsRock_103 rfl 0 rfl ?_
      refine j_getR (c := 119) C dX8_readsRock_104 rfl lkX8_25 is_113 rfl ?_
      refine j_iload_n C dX8_readsRock_107 rfl 1 rfl ?_
      refine j_iconst (v := (nI 2)) C dX8_readsRock_108 rfl (by decide) ?_
      refine j_iadd C dX8_readsRock_109 rfl ?_
      refine j_aload_n C dX8_readsRock_110 rfl 0 rfl ?_
      refine j_bipush (v := (nI 99)) C dX8_readsRock_111 rfl (by decide) ?_
      replace h := bd_e h
      obtain ⟨p18_, h19_, h⟩ := h
      refine j_cVI (av := [.int (nI 99)]) (rest := [.int (x1 + (nI 2)), .ref 119]) C dX8_readsRock_113 rfl (c_X8_number _ _ _ _ p16_.2 p18_ h19_) gvX8_145 ⟨⟨rfl, rfl⟩, Nat.le_of_ble_eq_true rfl, Nat.le_of_ble_eq_true rfl⟩ rfl is_113 rfl rfl (Nat.le_of_ble_eq_true rfl) ?_
      refine j_iast C dX8_readsRock_116 rfl is_119 g6_ ?_
      refine j_mem (fun μ20_ e21_ => ?_)
      replace h := zl_u h e21_
      refine j_aload_n C dX8_readsRock_117 rfl 0 rfl ?_
      replace h := bd_e h
      obtain ⟨p22_, h23_, h⟩ := h
      refine j_cVI (av := []) (rest := []) C dX8_readsRock_118 rfl (c_X8_letter _ _ _ _ μ20_ p22_ h23_) gvX8_110 ⟨⟨rfl, rfl⟩, Nat.le_of_ble_eq_true rfl, Nat.le_of_ble_eq_true rfl⟩ rfl is_113 rfl rfl (Nat.le_of_ble_eq_true rfl) ?_
      refine j_istore_n (lv' := [(3, .int p22_.1), (0, .ref 113), (1, .int x1)]) C dX8_readsRock_121 rfl (by decide) rfl ?_
      refine j_aload_n C dX8_readsRock_122 rfl 1 rfl ?_
      refine j_iload_n C dX8_readsRock_123 rfl 0 rfl ?_
      refine j_bipush (v := (nI 45)) C dX8_readsRock_124 rfl (by decide) ?_
      refine j_icmp_ne (tgt := 133) C dX8_readsRock_126 rfl (by decide) (fun c24_ => ?_) (fun c24_ => ?_)
      · replace h := if_f h c24_
        refine j_iconst (v := (-1)) C dX8_readsRock_133 rfl (by decide) ?_
        refine j_lv [1, 2] rfl ?_
        exact w_X8_readsRock_134 C E x1 (-1) p22_.2 h
      · replace h := if_t h c24_
        refine j_iconst (v := (nI 0)) C dX8_readsRock_129 rfl (by decide) ?_
        refine j_goto (pc' := 134) C dX8_readsRock_130 (by decide) ?_
        refine j_lv [1, 2] rfl ?_
        exact w_X8_readsRock_134 C E x1 (nI 0) p22_.2 h
def f_X8_readsRock (μ : Mem) : Option (Mem) := zl ((nI 4) * (μ.1 113 12)) fun x1_ => Option.bind (f_X8_letter μ) fun p3_ => Option.bind (f_X8_kindOf p3_.1 p3_.2) fun p5_ => Option.bind (f_X8_passes p5_.1 p5_.2) fun p7_ => gd (inb x1_ 36) <| zl (sI p7_.2 119 (Int32.toNatClampNeg x1_) p7_.1) fun μ10_ => Option.bind (f_X8_letter μ10_) fun p12_ => (if p12_.1 = (nI 114) then f_X8_readsRock_59 x1_ (x1_ + (nI 1)) (nI 0) p12_.2 else (if p12_.1 = (nI 103) then f_X8_readsRock_59 x1_ (x1_ + (nI 1)) (nI 1) p12_.2 else f_X8_readsRock_59 x1_ (x1_ + (nI 1)) (-1) p12_.2))
set_option maxHeartbeats 4000000 in
set_option maxRecDepth 100000 in
theorem w_X8_readsRock {Γ : jG} (C : jC Γ 4 cX8_readsRock RX8 rmX8_readsRock) {ρ : Mem} (E : jEV Γ cX8_readsRock ρ) (μ : Mem) (h : f_X8_readsRock μ = some ρ) : jJ Γ 4 0 [(0, .ref 113)] [] μ := by
  unfold f_X8_readsRock at h
  refine j_iconst (v := (nI 4)) C dX8_readsRock_0 rfl (by decide) ?_
  refine j_aload_n C dX8_readsRock_1 rfl 0 rfl ?_
  refine j_getI C dX8_readsRock_2 rfl lkX8_121 is_113 rfl ?_
  refine j_imul C dX8_readsRock_5 rfl ?_
  refine j_topi (fun x1_ e2_ => ?_)
  replace h := zl_u h e2_
  refine j_istore_n (lv' := [(1, .int x1_), (0, .ref 113)]) C dX8_readsRock_6 rfl (by decide) rfl ?_
  refine j_aload_n C dX8_readsRock_7 rfl 1 rfl ?_
  refine j_getR (c := 119) C dX8_readsRock_8 rfl lkX8_25 is_113 rfl ?_
  refine j_iload_n C dX8_readsRock_11 rfl 0 rfl ?_
  refine j_aload_n C dX8_readsRock_12 rfl 1 rfl ?_
  refine j_aload_n C dX8_readsRock_13 rfl 1 rfl ?_
  refine j_aload_n C dX8_readsRock_14 rfl 1 rfl ?_
  replace h := bd_e h
  obtain ⟨p3_, h4_, h⟩ := h
  refine j_cVI (av := []) (rest := [.ref 113, .ref 113, .int x1_, .ref 119]) C dX8_readsRock_15 rfl (c_X8_letter _ _ _ _ μ p3_ h4_) gvX8_110 ⟨⟨rfl, rfl⟩, Nat.le_of_ble_eq_true rfl, Nat.le_of_ble_eq_true rfl⟩ rfl is_113 rfl rfl (Nat.le_of_ble_eq_true rfl) ?_
  replace h := bd_e h
  obtain ⟨p5_, h6_, h⟩ := h
  refine j_cVI (av := [.int p3_.1]) (rest := [.ref 113, .int x1_, .ref 119]) C dX8_readsRock_18 rfl (c_X8_kindOf _ _ _ _ p3_.2 p5_ h6_) gvX8_142 ⟨⟨rfl, rfl⟩, Nat.le_of_ble_eq_true rfl, Nat.le_of_ble_eq_true rfl⟩ rfl is_113 rfl rfl (Nat.le_of_ble_eq_true rfl) ?_
  replace h := bd_e h
  obtain ⟨p7_, h8_, h⟩ := h
  refine j_cVI (av := [.int p5_.1]) (rest := [.int x1_, .ref 119]) C dX8_readsRock_21 rfl (c_X8_passes _ _ _ _ p5_.2 p7_ h8_) gvX8_114 ⟨⟨rfl, rfl⟩, Nat.le_of_ble_eq_true rfl, Nat.le_of_ble_eq_true rfl⟩ rfl is_113 rfl rfl (Nat.le_of_ble_eq_true rfl) ?_
  replace h := gd_e h
  obtain ⟨g9_, h⟩ := h
  refine j_iast C dX8_readsRock_24 rfl is_119 g9_ ?_
  refine j_mem (fun μ10_ e11_ => ?_)
  replace h := zl_u h e11_
  refine j_aload_n C dX8_readsRock_25 rfl 1 rfl ?_
  replace h := bd_e h
  obtain ⟨p12_, h13_, h⟩ := h
  refine j_cVI (av := []) (rest := []) C dX8_readsRock_26 rfl (c_X8_letter _ _ _ _ μ10_ p12_ h13_) gvX8_110 ⟨⟨rfl, rfl⟩, Nat.le_of_ble_eq_true rfl, Nat.le_of_ble_eq_true rfl⟩ rfl is_113 rfl rfl (Nat.le_of_ble_eq_true rfl) ?_
  refine j_istore_n (lv' := [(2, .int p12_.1), (1, .int x1_), (0, .ref 113)]) C dX8_readsRock_29 rfl (by decide) rfl ?_
  refine j_aload_n C dX8_readsRock_30 rfl 2 rfl ?_
  refine j_getR (c := 119) C dX8_readsRock_31 rfl lkX8_25 is_113 rfl ?_
  refine j_iload_n C dX8_readsRock_34 rfl 1 rfl ?_
  refine j_iconst (v := (nI 1)) C dX8_readsRock_35 rfl (by decide) ?_
  refine j_iadd C dX8_readsRock_36 rfl ?_
  refine j_aload_n C dX8_readsRock_37 rfl 2 rfl ?_
  refine j_iload_n C dX8_readsRock_38 rfl 0 rfl ?_
  refine j_bipush (v := (nI 114)) C dX8_readsRock_39 rfl (by decide) ?_
  refine j_icmp_ne (tgt := 48) C dX8_readsRock_41 rfl (by decide) (fun c14_ => ?_) (fun c14_ => ?_)
  · replace h := if_f h c14_
    refine j_iload_n C dX8_readsRock_48 rfl 0 rfl ?_
    refine j_bipush (v := (nI 103)) C dX8_readsRock_49 rfl (by decide) ?_
    refine j_icmp_ne (tgt := 58) C dX8_readsRock_51 rfl (by decide) (fun c15_ => ?_) (fun c15_ => ?_)
    · replace h := if_f h c15_
      refine j_iconst (v := (-1)) C dX8_readsRock_58 rfl (by decide) ?_
      refine j_lv [2, 1] rfl ?_
      exact w_X8_readsRock_59 C E x1_ (x1_ + (nI 1)) (-1) p12_.2 h
    · replace h := if_t h c15_
      refine j_iconst (v := (nI 1)) C dX8_readsRock_54 rfl (by decide) ?_
      refine j_goto (pc' := 59) C dX8_readsRock_55 (by decide) ?_
      refine j_lv [2, 1] rfl ?_
      exact w_X8_readsRock_59 C E x1_ (x1_ + (nI 1)) (nI 1) p12_.2 h
  · replace h := if_t h c14_
    refine j_iconst (v := (nI 0)) C dX8_readsRock_44 rfl (by decide) ?_
    refine j_goto (pc' := 59) C dX8_readsRock_45 (by decide) ?_
    refine j_lv [2, 1] rfl ?_
    exact w_X8_readsRock_59 C E x1_ (x1_ + (nI 1)) (nI 0) p12_.2 h
set_option maxRecDepth 100000 in
theorem c_X8_readsRock (l : Launch) (D : va_G) (ad : Nat → Nat) (cl : Nat → ClassId) (μ : Mem) (ρ : Mem) (h : f_X8_readsRock μ = some ρ) : CV l D ad cl yX8_readsRock wsX8_readsRock rmX8_readsRock [.ref 113] μ ρ := c_ofV (cc := cX8_readsRock) (nL := 4) rfl (by decide) (Nat.le_of_ble_eq_true rfl) (fun Γ C E => w_X8_readsRock C E μ h)
