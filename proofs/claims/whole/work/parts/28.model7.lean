/-! X8_copy -/
def wsX8_copy : List Cond := .code yX8_copy cX8_copy 7 (some .int) :: G0
def rmX8_copy : Room := { frames := 1, cells := 0, slots := 0, locals := 25 }
def f_X8_copy_148 (a1 : Int32) (a2 : Int32) (a3 : Int32) (a4 : Int32) (a5 : Int32) : Nat → Int32 → Mem → Option (Int32 × Mem)
  | 0, _, _ => none
  | n + 1, x6, μ => (if a5 ≤ x6 then some (a5, μ) else gd (inb x6 24) <| gd (inb ((((nI 24) * a3) + a4) + x6) 96) <| zl (sL μ 122 (Int32.toNatClampNeg ((((nI 24) * a3) + a4) + x6)) (μ.2 124 (Int32.toNatClampNeg x6))) fun μ4_ => f_X8_copy_148 a1 a2 a3 a4 a5 n (x6 + (nI 1)) μ4_)
set_option maxHeartbeats 4000000 in
set_option maxRecDepth 100000 in
theorem w_X8_copy_148 {Γ : jG} (C : jC Γ 7 cX8_copy RX8 rmX8_copy) {a1 : Int32} {a2 : Int32} {a3 : Int32} {a4 : Int32} {a5 : Int32} {ρ : Int32 × Mem} (E : jEI Γ cX8_copy ρ.1 ρ.2) : ∀ (n : Nat) (x6 : Int32) (μ : Mem), f_X8_copy_148 a1 a2 a3 a4 a5 n x6 μ = some ρ → jJ Γ 7 148 [(0, .ref 113), (3, .int a3), (4, .int a4), (5, .int a5), (6, .int x6)] [] μ := by
  intro n
  induction n with
  | zero => intro x6 μ h; rw [f_X8_copy_148] at h; cases h
  | succ n ih =>
    intro x6 μ h
    rw [f_X8_copy_148] at h
    refine j_iload C dX8_copy_148 rfl 4 rfl ?_
    refine j_iload C dX8_copy_150 rfl 3 rfl ?_
    refine j_icmp_ge (tgt := 183) C dX8_copy_152 rfl (by decide) (fun c1_ => ?_) (fun c1_ => ?_)
    · replace h := if_t h c1_
      refine j_iload C dX8_copy_183 rfl 3 rfl ?_
      obtain rfl := Option.some.inj h
      exact j_iret E dX8_copy_185
    · replace h := if_f h c1_
      refine j_aload_n C dX8_copy_155 rfl 0 rfl ?_
      refine j_getR (c := 122) C dX8_copy_156 rfl lkX8_34 is_113 rfl ?_
      refine j_bipush (v := (nI 24)) C dX8_copy_159 rfl (by decide) ?_
      refine j_iload_n C dX8_copy_161 rfl 1 rfl ?_
      refine j_imul C dX8_copy_162 rfl ?_
      refine j_iload C dX8_copy_163 rfl 2 rfl ?_
      refine j_iadd C dX8_copy_165 rfl ?_
      refine j_iload C dX8_copy_166 rfl 4 rfl ?_
      refine j_iadd C dX8_copy_168 rfl ?_
      refine j_aload_n C dX8_copy_169 rfl 0 rfl ?_
      refine j_getR (c := 124) C dX8_copy_170 rfl lkX8_45 is_113 rfl ?_
      refine j_iload C dX8_copy_173 rfl 4 rfl ?_
      replace h := gd_e h
      obtain ⟨g2_, h⟩ := h
      refine j_lald C dX8_copy_175 rfl is_124 g2_ ?_
      replace h := gd_e h
      obtain ⟨g3_, h⟩ := h
      refine j_last C dX8_copy_176 rfl is_122 g3_ ?_
      refine j_mem (fun μ4_ e5_ => ?_)
      replace h := zl_u h e5_
      refine j_iinc (d := (nI 1)) (v := x6 + (nI 1)) (lv' := [(6, .int (x6 + (nI 1))), (0, .ref 113), (3, .int a3), (4, .int a4), (5, .int a5)]) C dX8_copy_177 rfl (by decide) 4 rfl (by decide) rfl rfl ?_
      refine j_goto (pc' := 148) C dX8_copy_180 (by decide) ?_
      refine j_lv [1, 2, 3, 4, 0] rfl ?_
      exact (ih) (x6 + (nI 1)) μ4_ h
def f_X8_copy_145 (a1 : Int32) (a2 : Int32) (a3 : Int32) (a4 : Int32) (a5 : Int32) (μ : Mem) : Option (Int32 × Mem) := f_X8_copy_148 a1 a2 a3 a4 a5 zfu (nI 0) μ
set_option maxHeartbeats 4000000 in
set_option maxRecDepth 100000 in
theorem w_X8_copy_145 {Γ : jG} (C : jC Γ 7 cX8_copy RX8 rmX8_copy) {a1 : Int32} {a2 : Int32} {a3 : Int32} {a4 : Int32} {a5 : Int32} {ρ : Int32 × Mem} (E : jEI Γ cX8_copy ρ.1 ρ.2) (μ : Mem) (h : f_X8_copy_145 a1 a2 a3 a4 a5 μ = some ρ) : jJ Γ 7 145 [(0, .ref 113), (3, .int a3), (4, .int a4), (5, .int a5)] [] μ := by
  unfold f_X8_copy_145 at h
  refine j_iconst (v := (nI 0)) C dX8_copy_145 rfl (by decide) ?_
  refine j_istore (lv' := [(6, .int (nI 0)), (0, .ref 113), (3, .int a3), (4, .int a4), (5, .int a5)]) C dX8_copy_146 rfl (by decide) rfl ?_
  refine j_lv [1, 2, 3, 4, 0] rfl ?_
  exact w_X8_copy_148 C E zfu (nI 0) μ h
def f_X8_copy_111 (a1 : Int32) (a2 : Int32) (a3 : Int32) (a4 : Int32) (a5 : Int32) (kx145 : Mem → Option (Int32 × Mem)) : Nat → Int32 → Mem → Option (Int32 × Mem)
  | 0, _, _ => none
  | n + 1, x6, μ => (if a5 ≤ x6 then kx145 μ else gd (inb ((((nI 24) * a1) + a2) + x6) 96) <| gd (inb x6 24) <| zl (sL μ 124 (Int32.toNatClampNeg x6) (μ.2 122 (Int32.toNatClampNeg ((((nI 24) * a1) + a2) + x6)))) fun μ4_ => f_X8_copy_111 a1 a2 a3 a4 a5 kx145 n (x6 + (nI 1)) μ4_)
set_option maxHeartbeats 4000000 in
set_option maxRecDepth 100000 in
theorem w_X8_copy_111 {Γ : jG} (C : jC Γ 7 cX8_copy RX8 rmX8_copy) {a1 : Int32} {a2 : Int32} {a3 : Int32} {a4 : Int32} {a5 : Int32} {kx145 : Mem → Option (Int32 × Mem)} {ρ : Int32 × Mem} (E : jEI Γ cX8_copy ρ.1 ρ.2) (Hkx145 : ∀ (μ : Mem), kx145 μ = some ρ → jJ Γ 7 145 [(0, .ref 113), (3, .int a3), (4, .int a4), (5, .int a5)] [] μ) : ∀ (n : Nat) (x6 : Int32) (μ : Mem), f_X8_copy_111 a1 a2 a3 a4 a5 kx145 n x6 μ = some ρ → jJ Γ 7 111 [(0, .ref 113), (1, .int a1), (2, .int a2), (3, .int a3), (4, .int a4), (5, .int a5), (6, .int x6)] [] μ := by
  intro n
  induction n with
  | zero => intro x6 μ h; rw [f_X8_copy_111] at h; cases h
  | succ n ih =>
    intro x6 μ h
    rw [f_X8_copy_111] at h
    refine j_iload C dX8_copy_111 rfl 6 rfl ?_
    refine j_iload C dX8_copy_113 rfl 5 rfl ?_
    refine j_icmp_ge (tgt := 145) C dX8_copy_115 rfl (by decide) (fun c1_ => ?_) (fun c1_ => ?_)
    · replace h := if_t h c1_
      refine j_lv [0, 3, 4, 5] rfl ?_
      exact (Hkx145) μ h
    · replace h := if_f h c1_
      refine j_aload_n C dX8_copy_118 rfl 0 rfl ?_
      refine j_getR (c := 124) C dX8_copy_119 rfl lkX8_45 is_113 rfl ?_
      refine j_iload C dX8_copy_122 rfl 6 rfl ?_
      refine j_aload_n C dX8_copy_124 rfl 0 rfl ?_
      refine j_getR (c := 122) C dX8_copy_125 rfl lkX8_34 is_113 rfl ?_
      refine j_bipush (v := (nI 24)) C dX8_copy_128 rfl (by decide) ?_
      refine j_iload_n C dX8_copy_130 rfl 1 rfl ?_
      refine j_imul C dX8_copy_131 rfl ?_
      refine j_iload_n C dX8_copy_132 rfl 2 rfl ?_
      refine j_iadd C dX8_copy_133 rfl ?_
      refine j_iload C dX8_copy_134 rfl 6 rfl ?_
      refine j_iadd C dX8_copy_136 rfl ?_
      replace h := gd_e h
      obtain ⟨g2_, h⟩ := h
      refine j_lald C dX8_copy_137 rfl is_122 g2_ ?_
      replace h := gd_e h
      obtain ⟨g3_, h⟩ := h
      refine j_last C dX8_copy_138 rfl is_124 g3_ ?_
      refine j_mem (fun μ4_ e5_ => ?_)
      replace h := zl_u h e5_
      refine j_iinc (d := (nI 1)) (v := x6 + (nI 1)) (lv' := [(6, .int (x6 + (nI 1))), (0, .ref 113), (1, .int a1), (2, .int a2), (3, .int a3), (4, .int a4), (5, .int a5)]) C dX8_copy_139 rfl (by decide) 6 rfl (by decide) rfl rfl ?_
      refine j_goto (pc' := 111) C dX8_copy_142 (by decide) ?_
      refine j_lv [1, 2, 3, 4, 5, 6, 0] rfl ?_
      exact (ih) (x6 + (nI 1)) μ4_ h
def f_X8_copy (a1 : Int32) (a2 : Int32) (a3 : Int32) (a4 : Int32) (a5 : Int32) (μ : Mem) : Option (Int32 × Mem) := zl (sI μ 113 0 (nI 0)) fun μ1_ => Option.bind (f_X8_in (Int32.toInt64 a1) 0 3 μ1_) fun p3_ => (if p3_.1 = 0 then some ((-1), p3_.2) else Option.bind (f_X8_in (Int32.toInt64 a3) 0 3 p3_.2) fun p6_ => (if p6_.1 = 0 then some ((-1), p6_.2) else gd (inb a1 4) <| (if (p6_.2.1 120 (Int32.toNatClampNeg a1)) < 0 then some ((-11), p6_.2) else gd (inb a3 4) <| (if 0 ≤ (p6_.2.1 120 (Int32.toNatClampNeg a3)) then (if (p6_.2.1 120 (Int32.toNatClampNeg a1)) = (p6_.2.1 120 (Int32.toNatClampNeg a3)) then Option.bind (f_X8_wrongOf a1 (p6_.2.1 120 (Int32.toNatClampNeg a1)) a2 a5 p6_.2) fun p14_ => (if p14_.1 = 0 then Option.bind (f_X8_wrongOf a3 (p14_.2.1 120 (Int32.toNatClampNeg a3)) a4 a5 p14_.2) fun p17_ => (if p17_.1 = 0 then f_X8_copy_111 a1 a2 a3 a4 a5 (fun μ => f_X8_copy_145 a1 a2 a3 a4 a5 μ) zfu (nI 0) p17_.2 else some ((-13), p17_.2)) else some ((-13), p14_.2)) else some ((-12), p6_.2)) else some ((-11), p6_.2)))))
set_option maxHeartbeats 4000000 in
set_option maxRecDepth 100000 in
theorem w_X8_copy {Γ : jG} (C : jC Γ 7 cX8_copy RX8 rmX8_copy) {a1 : Int32} {a2 : Int32} {a3 : Int32} {a4 : Int32} {a5 : Int32} {ρ : Int32 × Mem} (E : jEI Γ cX8_copy ρ.1 ρ.2) (μ : Mem) (h : f_X8_copy a1 a2 a3 a4 a5 μ = some ρ) : jJ Γ 7 0 [(0, .ref 113), (1, .int a1), (2, .int a2), (3, .int a3), (4, .int a4), (5, .int a5)] [] μ := by
  unfold f_X8_copy at h
  refine j_aload_n C dX8_copy_0 rfl 0 rfl ?_
  refine j_iconst (v := (nI 0)) C dX8_copy_1 rfl (by decide) ?_
  refine j_putI C dX8_copy_2 rfl lpX8_48 is_113 rfl ?_
  refine j_mem (fun μ1_ e2_ => ?_)
  replace h := zl_u h e2_
  refine j_iload_n C dX8_copy_5 rfl 1 rfl ?_
  refine j_i2l C dX8_copy_6 rfl ?_
  refine j_lconst (v := 0) C dX8_copy_7 rfl (by decide) ?_
  refine j_ldc2 (v := 3) C dX8_copy_8 rfl gwt5_95 ?_
  replace h := bd_e h
  obtain ⟨p3_, h4_, h⟩ := h
  refine j_cSI (av := [.long (Int32.toInt64 a1), .long 0, .long 3]) (rest := []) C dX8_copy_11 rfl (c_X8_in _ _ _ _ μ1_ p3_ h4_) gsX8_51 ⟨⟨rfl, rfl⟩, Nat.le_of_ble_eq_true rfl, Nat.le_of_ble_eq_true rfl⟩ rfl rfl (Nat.le_of_ble_eq_true rfl) ?_
  refine j_if_eq (tgt := 29) C dX8_copy_14 rfl (by decide) (fun c5_ => ?_) (fun c5_ => ?_)
  · replace h := if_t h c5_
    refine j_iconst (v := (-1)) C dX8_copy_29 rfl (by decide) ?_
    obtain rfl := Option.some.inj h
    exact j_iret E dX8_copy_30
  · replace h := if_f h c5_
    refine j_iload_n C dX8_copy_17 rfl 3 rfl ?_
    refine j_i2l C dX8_copy_18 rfl ?_
    refine j_lconst (v := 0) C dX8_copy_19 rfl (by decide) ?_
    refine j_ldc2 (v := 3) C dX8_copy_20 rfl gwt5_95 ?_
    replace h := bd_e h
    obtain ⟨p6_, h7_, h⟩ := h
    refine j_cSI (av := [.long (Int32.toInt64 a3), .long 0, .long 3]) (rest := []) C dX8_copy_23 rfl (c_X8_in _ _ _ _ p3_.2 p6_ h7_) gsX8_51 ⟨⟨rfl, rfl⟩, Nat.le_of_ble_eq_true rfl, Nat.le_of_ble_eq_true rfl⟩ rfl rfl (Nat.le_of_ble_eq_true rfl) ?_
    refine j_if_ne (tgt := 31) C dX8_copy_26 rfl (by decide) (fun c8_ => ?_) (fun c8_ => ?_)
    · replace h := if_f h c8_
      refine j_aload_n C dX8_copy_31 rfl 0 rfl ?_
      refine j_getR (c := 120) C dX8_copy_32 rfl lkX8_28 is_113 rfl ?_
      refine j_iload_n C dX8_copy_35 rfl 1 rfl ?_
      replace h := gd_e h
      obtain ⟨g9_, h⟩ := h
      refine j_iald C dX8_copy_36 rfl is_120 g9_ ?_
      refine j_if_lt (tgt := 49) C dX8_copy_37 rfl (by decide) (fun c10_ => ?_) (fun c10_ => ?_)
      · replace h := if_t h c10_
        refine j_bipush (v := (-11)) C dX8_copy_49 rfl (by decide) ?_
        obtain rfl := Option.some.inj h
        exact j_iret E dX8_copy_51
      · replace h := if_f h c10_
        refine j_aload_n C dX8_copy_40 rfl 0 rfl ?_
        refine j_getR (c := 120) C dX8_copy_41 rfl lkX8_28 is_113 rfl ?_
        refine j_iload_n C dX8_copy_44 rfl 3 rfl ?_
        replace h := gd_e h
        obtain ⟨g11_, h⟩ := h
        refine j_iald C dX8_copy_45 rfl is_120 g11_ ?_
        refine j_if_ge (tgt := 52) C dX8_copy_46 rfl (by decide) (fun c12_ => ?_) (fun c12_ => ?_)
        · replace h := if_t h c12_
          refine j_aload_n C dX8_copy_52 rfl 0 rfl ?_
          refine j_getR (c := 120) C dX8_copy_53 rfl lkX8_28 is_113 rfl ?_
          refine j_iload_n C dX8_copy_56 rfl 1 rfl ?_
          refine j_iald C dX8_copy_57 rfl is_120 g9_ ?_
          refine j_aload_n C dX8_copy_58 rfl 0 rfl ?_
          refine j_getR (c := 120) C dX8_copy_59 rfl lkX8_28 is_113 rfl ?_
          refine j_iload_n C dX8_copy_62 rfl 3 rfl ?_
          refine j_iald C dX8_copy_63 rfl is_120 g11_ ?_
          refine j_icmp_eq (tgt := 70) C dX8_copy_64 rfl (by decide) (fun c13_ => ?_) (fun c13_ => ?_)
          · replace h := if_t h c13_
            refine j_aload_n C dX8_copy_70 rfl 0 rfl ?_
            refine j_iload_n C dX8_copy_71 rfl 1 rfl ?_
            refine j_aload_n C dX8_copy_72 rfl 0 rfl ?_
            refine j_getR (c := 120) C dX8_copy_73 rfl lkX8_28 is_113 rfl ?_
            refine j_iload_n C dX8_copy_76 rfl 1 rfl ?_
            refine j_iald C dX8_copy_77 rfl is_120 g9_ ?_
            refine j_iload_n C dX8_copy_78 rfl 2 rfl ?_
            refine j_iload C dX8_copy_79 rfl 5 rfl ?_
            replace h := bd_e h
            obtain ⟨p14_, h15_, h⟩ := h
            refine j_cVI (av := [.int a1, .int (p6_.2.1 120 (Int32.toNatClampNeg a1)), .int a2, .int a5]) (rest := []) C dX8_copy_81 rfl (c_X8_wrongOf _ _ _ _ p6_.2 p14_ h15_) gvX8_236 ⟨⟨rfl, rfl⟩, Nat.le_of_ble_eq_true rfl, Nat.le_of_ble_eq_true rfl⟩ rfl is_113 rfl rfl (Nat.le_of_ble_eq_true rfl) ?_
            refine j_if_ne (tgt := 105) C dX8_copy_84 rfl (by decide) (fun c16_ => ?_) (fun c16_ => ?_)
            · replace h := if_f h c16_
              refine j_bipush (v := (-13)) C dX8_copy_105 rfl (by decide) ?_
              obtain rfl := Option.some.inj h
              exact j_iret E dX8_copy_107
            · replace h := if_t h c16_
              refine j_aload_n C dX8_copy_87 rfl 0 rfl ?_
              refine j_iload_n C dX8_copy_88 rfl 3 rfl ?_
              refine j_aload_n C dX8_copy_89 rfl 0 rfl ?_
              refine j_getR (c := 120) C dX8_copy_90 rfl lkX8_28 is_113 rfl ?_
              refine j_iload_n C dX8_copy_93 rfl 3 rfl ?_
              refine j_iald C dX8_copy_94 rfl is_120 g11_ ?_
              refine j_iload C dX8_copy_95 rfl 4 rfl ?_
              refine j_iload C dX8_copy_97 rfl 5 rfl ?_
              replace h := bd_e h
              obtain ⟨p17_, h18_, h⟩ := h
              refine j_cVI (av := [.int a3, .int (p14_.2.1 120 (Int32.toNatClampNeg a3)), .int a4, .int a5]) (rest := []) C dX8_copy_99 rfl (c_X8_wrongOf _ _ _ _ p14_.2 p17_ h18_) gvX8_236 ⟨⟨rfl, rfl⟩, Nat.le_of_ble_eq_true rfl, Nat.le_of_ble_eq_true rfl⟩ rfl is_113 rfl rfl (Nat.le_of_ble_eq_true rfl) ?_
              refine j_if_eq (tgt := 108) C dX8_copy_102 rfl (by decide) (fun c19_ => ?_) (fun c19_ => ?_)
              · replace h := if_t h c19_
                refine j_iconst (v := (nI 0)) C dX8_copy_108 rfl (by decide) ?_
                refine j_istore (lv' := [(6, .int (nI 0)), (0, .ref 113), (1, .int a1), (2, .int a2), (3, .int a3), (4, .int a4), (5, .int a5)]) C dX8_copy_109 rfl (by decide) rfl ?_
                refine j_lv [1, 2, 3, 4, 5, 6, 0] rfl ?_
                exact w_X8_copy_111 C E (fun μ h => w_X8_copy_145 C E μ h) zfu (nI 0) p17_.2 h
              · replace h := if_f h c19_
                refine j_bipush (v := (-13)) C dX8_copy_105 rfl (by decide) ?_
                obtain rfl := Option.some.inj h
                exact j_iret E dX8_copy_107
          · replace h := if_f h c13_
            refine j_bipush (v := (-12)) C dX8_copy_67 rfl (by decide) ?_
            obtain rfl := Option.some.inj h
            exact j_iret E dX8_copy_69
        · replace h := if_f h c12_
          refine j_bipush (v := (-11)) C dX8_copy_49 rfl (by decide) ?_
          obtain rfl := Option.some.inj h
          exact j_iret E dX8_copy_51
    · replace h := if_t h c8_
      refine j_iconst (v := (-1)) C dX8_copy_29 rfl (by decide) ?_
      obtain rfl := Option.some.inj h
      exact j_iret E dX8_copy_30
set_option maxRecDepth 100000 in
theorem c_X8_copy (l : Launch) (D : va_G) (ad : Nat → Nat) (cl : Nat → ClassId) {a1 : Int32} {a2 : Int32} {a3 : Int32} {a4 : Int32} {a5 : Int32} (μ : Mem) (ρ : Int32 × Mem) (h : f_X8_copy a1 a2 a3 a4 a5 μ = some ρ) : CI l D ad cl yX8_copy wsX8_copy rmX8_copy [.ref 113, .int a1, .int a2, .int a3, .int a4, .int a5] μ ρ.1 ρ.2 := c_ofI (cc := cX8_copy) (nL := 7) rfl (by decide) (Nat.le_of_ble_eq_true rfl) (fun Γ C E => w_X8_copy C E μ h)
