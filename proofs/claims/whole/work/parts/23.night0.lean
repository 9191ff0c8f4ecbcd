/-! X2_ringPlace -/
def wsX2_ringPlace : List Cond := .code yX2_ringPlace cX2_ringPlace 2 (some .int) :: G0
def rmX2_ringPlace : Room := { frames := 0, cells := 0, slots := 0, locals := 0 }
def f_X2_ringPlace (a0 : Int32) (a1 : Int32) (μ : Mem) : Option (Int32 × Mem) := some ((a0 * (nI 9)) + a1, μ)
set_option maxHeartbeats 4000000 in
set_option maxRecDepth 100000 in
theorem w_X2_ringPlace {Γ : jG} (C : jC Γ 2 cX2_ringPlace RX2 rmX2_ringPlace) {a0 : Int32} {a1 : Int32} {ρ : Int32 × Mem} (E : jEI Γ cX2_ringPlace ρ.1 ρ.2) (μ : Mem) (h : f_X2_ringPlace a0 a1 μ = some ρ) : jJ Γ 2 0 [(0, .int a0), (1, .int a1)] [] μ := by
  unfold f_X2_ringPlace at h
  refine j_iload_n C dX2_ringPlace_0 rfl 0 rfl ?_
  refine j_bipush (v := (nI 9)) C dX2_ringPlace_1 rfl (by decide) ?_
  refine j_imul C dX2_ringPlace_3 rfl ?_
  refine j_iload_n C dX2_ringPlace_4 rfl 1 rfl ?_
  refine j_iadd C dX2_ringPlace_5 rfl ?_
  obtain rfl := Option.some.inj h
  exact j_iret E dX2_ringPlace_6
set_option maxRecDepth 100000 in
theorem c_X2_ringPlace (l : Launch) (D : va_G) (ad : Nat → Nat) (cl : Nat → ClassId) {a0 : Int32} {a1 : Int32} (μ : Mem) (ρ : Int32 × Mem) (h : f_X2_ringPlace a0 a1 μ = some ρ) : CI l D ad cl yX2_ringPlace wsX2_ringPlace rmX2_ringPlace [.int a0, .int a1] μ ρ.1 ρ.2 := c_ofI (cc := cX2_ringPlace) (nL := 2) rfl (by decide) (Nat.le_of_ble_eq_true rfl) (fun Γ C E => w_X2_ringPlace C E μ h)
/-! X2_become -/
def wsX2_become : List Cond := .code yX2_become cX2_become 3 none :: G0
def rmX2_become : Room := { frames := 1, cells := 0, slots := 0, locals := 40 }
def f_X2_become_166 (b0 : Nat) (k1 : Nat) : Nat → Int32 → Mem → Option (Mem)
  | 0, _, _ => none
  | n + 1, x2, μ => (if (nI 1) < x2 then some μ else gd (inb x2 2) <| gd (cpB (nI 0) (nI 0) (nI 9) 9 9) <| zl (sA μ (b0 + 17 + (Int32.toNatClampNeg x2)) (va_cpy (μ.1 (k1 + 17 + (Int32.toNatClampNeg x2))) (μ.1 (b0 + 17 + (Int32.toNatClampNeg x2))) (Int32.toNatClampNeg (nI 0)) (Int32.toNatClampNeg (nI 0)) (Int32.toNatClampNeg (nI 9)))) fun μ4_ => gd (cpB (nI 0) (nI 0) (nI 171) 171 171) <| zl (sA μ4_ (b0 + 20 + (Int32.toNatClampNeg x2)) (va_cpy (μ4_.1 (k1 + 20 + (Int32.toNatClampNeg x2))) (μ4_.1 (b0 + 20 + (Int32.toNatClampNeg x2))) (Int32.toNatClampNeg (nI 0)) (Int32.toNatClampNeg (nI 0)) (Int32.toNatClampNeg (nI 171)))) fun μ7_ => f_X2_become_166 b0 k1 n (x2 + (nI 1)) μ7_)
set_option maxHeartbeats 4000000 in
set_option maxRecDepth 100000 in
theorem w_X2_become_166 {Γ : jG} (C : jC Γ 3 cX2_become RX2 rmX2_become) {b0 : Nat} {k1 : Nat} (hb0 : isNight b0) (hk1 : isNight k1) {ρ : Mem} (E : jEV Γ cX2_become ρ) : ∀ (n : Nat) (x2 : Int32) (μ : Mem), f_X2_become_166 b0 k1 n x2 μ = some ρ → jJ Γ 3 166 [(0, .ref b0), (1, .ref k1), (2, .int x2)] [] μ := by
  intro n
  induction n with
  | zero => intro x2 μ h; rw [f_X2_become_166] at h; cases h
  | succ n ih =>
    intro x2 μ h
    rw [f_X2_become_166] at h
    refine j_iload_n C dX2_become_166 rfl 2 rfl ?_
    refine j_iconst (v := (nI 1)) C dX2_become_167 rfl (by decide) ?_
    refine j_icmp_gt (tgt := 216) C dX2_become_168 rfl (by decide) (fun c1_ => ?_) (fun c1_ => ?_)
    · replace h := if_t h c1_
      obtain rfl := Option.some.inj h
      exact j_vret E dX2_become_216
    · replace h := if_f h c1_
      refine j_aload_n C dX2_become_171 rfl 1 rfl ?_
      refine j_getR (c := k1 + 16) C dX2_become_172 rfl lkX2_55 (isN_0 hk1) rfl ?_
      refine j_iload_n C dX2_become_175 rfl 2 rfl ?_
      replace h := gd_e h
      obtain ⟨g2_, h⟩ := h
      refine j_aald C dX2_become_176 rfl (Or.inl rfl) (isN_a16 hk1) g2_ ?_
      refine j_iconst (v := (nI 0)) C dX2_become_177 rfl (by decide) ?_
      refine j_aload_n C dX2_become_178 rfl 0 rfl ?_
      refine j_getR (c := b0 + 16) C dX2_become_179 rfl lkX2_55 (isN_0 hb0) rfl ?_
      refine j_iload_n C dX2_become_182 rfl 2 rfl ?_
      refine j_aald C dX2_become_183 rfl (Or.inl rfl) (isN_a16 hb0) g2_ ?_
      refine j_iconst (v := (nI 0)) C dX2_become_184 rfl (by decide) ?_
      refine j_bipush (v := (nI 9)) C dX2_become_185 rfl (by decide) ?_
      replace h := gd_e h
      obtain ⟨g3_, h⟩ := h
      refine j_copyi C dX2_become_187 rfl qcX2_61 (isN_hs hk1 g2_) (isN_hs hb0 g2_) g3_ ⟨Nat.le_of_ble_eq_true rfl, Nat.le_of_ble_eq_true rfl⟩ ?_
      refine j_mem (fun μ4_ e5_ => ?_)
      replace h := zl_u h e5_
      refine j_aload_n C dX2_become_190 rfl 1 rfl ?_
      refine j_getR (c := k1 + 19) C dX2_become_191 rfl lkX2_58 (isN_0 hk1) rfl ?_
      refine j_iload_n C dX2_become_194 rfl 2 rfl ?_
      refine j_aald C dX2_become_195 rfl (Or.inl rfl) (isN_a19 hk1) g2_ ?_
      refine j_iconst (v := (nI 0)) C dX2_become_196 rfl (by decide) ?_
      refine j_aload_n C dX2_become_197 rfl 0 rfl ?_
      refine j_getR (c := b0 + 19) C dX2_become_198 rfl lkX2_58 (isN_0 hb0) rfl ?_
      refine j_iload_n C dX2_become_201 rfl 2 rfl ?_
      refine j_aald C dX2_become_202 rfl (Or.inl rfl) (isN_a19 hb0) g2_ ?_
      refine j_iconst (v := (nI 0)) C dX2_become_203 rfl (by decide) ?_
      refine j_sipush (v := (nI 171)) C dX2_become_204 rfl (by decide) ?_
      replace h := gd_e h
      obtain ⟨g6_, h⟩ := h
      refine j_copyi C dX2_become_207 rfl qcX2_61 (isN_rg hk1 g2_) (isN_rg hb0 g2_) g6_ ⟨Nat.le_of_ble_eq_true rfl, Nat.le_of_ble_eq_true rfl⟩ ?_
      refine j_mem (fun μ7_ e8_ => ?_)
      replace h := zl_u h e8_
      refine j_iinc (d := (nI 1)) (v := x2 + (nI 1)) (lv' := [(2, .int (x2 + (nI 1))), (0, .ref b0), (1, .ref k1)]) C dX2_become_210 rfl (by decide) 2 rfl (by decide) rfl rfl ?_
      refine j_goto (pc' := 166) C dX2_become_213 (by decide) ?_
      refine j_lv [1, 2, 0] rfl ?_
      exact (ih) (x2 + (nI 1)) μ7_ h
def f_X2_become_164 (b0 : Nat) (k1 : Nat) (μ : Mem) : Option (Mem) := f_X2_become_166 b0 k1 zfu (nI 0) μ
set_option maxHeartbeats 4000000 in
set_option maxRecDepth 100000 in
theorem w_X2_become_164 {Γ : jG} (C : jC Γ 3 cX2_become RX2 rmX2_become) {b0 : Nat} {k1 : Nat} (hb0 : isNight b0) (hk1 : isNight k1) {ρ : Mem} (E : jEV Γ cX2_become ρ) (μ : Mem) (h : f_X2_become_164 b0 k1 μ = some ρ) : jJ Γ 3 164 [(0, .ref b0), (1, .ref k1)] [] μ := by
  unfold f_X2_become_164 at h
  refine j_iconst (v := (nI 0)) C dX2_become_164 rfl (by decide) ?_
  refine j_istore_n (lv' := [(2, .int (nI 0)), (0, .ref b0), (1, .ref k1)]) C dX2_become_165 rfl (by decide) rfl ?_
  refine j_lv [1, 2, 0] rfl ?_
  exact w_X2_become_166 C hb0 hk1 E zfu (nI 0) μ h
def f_X2_become_133 (b0 : Nat) (k1 : Nat) (kx164 : Mem → Option (Mem)) : Nat → Int32 → Mem → Option (Mem)
  | 0, _, _ => none
  | n + 1, x2, μ => (if (nI 9) ≤ x2 then kx164 μ else gd (inb x2 9) <| gd (cpB (nI 0) (nI 0) (nI 9) 9 9) <| zl (sA μ (b0 + 7 + (Int32.toNatClampNeg x2)) (va_cpy (μ.1 (k1 + 7 + (Int32.toNatClampNeg x2))) (μ.1 (b0 + 7 + (Int32.toNatClampNeg x2))) (Int32.toNatClampNeg (nI 0)) (Int32.toNatClampNeg (nI 0)) (Int32.toNatClampNeg (nI 9)))) fun μ4_ => f_X2_become_133 b0 k1 kx164 n (x2 + (nI 1)) μ4_)
set_option maxHeartbeats 4000000 in
set_option maxRecDepth 100000 in
theorem w_X2_become_133 {Γ : jG} (C : jC Γ 3 cX2_become RX2 rmX2_become) {b0 : Nat} {k1 : Nat} (hb0 : isNight b0) (hk1 : isNight k1) {kx164 : Mem → Option (Mem)} {ρ : Mem} (E : jEV Γ cX2_become ρ) (Hkx164 : ∀ (μ : Mem), kx164 μ = some ρ → jJ Γ 3 164 [(0, .ref b0), (1, .ref k1)] [] μ) : ∀ (n : Nat) (x2 : Int32) (μ : Mem), f_X2_become_133 b0 k1 kx164 n x2 μ = some ρ → jJ Γ 3 133 [(0, .ref b0), (1, .ref k1), (2, .int x2)] [] μ := by
  intro n
  induction n with
  | zero => intro x2 μ h; rw [f_X2_become_133] at h; cases h
  | succ n ih =>
    intro x2 μ h
    rw [f_X2_become_133] at h
    refine j_iload_n C dX2_become_133 rfl 2 rfl ?_
    refine j_bipush (v := (nI 9)) C dX2_become_134 rfl (by decide) ?_
    refine j_icmp_ge (tgt := 164) C dX2_become_136 rfl (by decide) (fun c1_ => ?_) (fun c1_ => ?_)
    · replace h := if_t h c1_
      refine j_lv [0, 1] rfl ?_
      exact (Hkx164) μ h
    · replace h := if_f h c1_
      refine j_aload_n C dX2_become_139 rfl 1 rfl ?_
      refine j_getR (c := k1 + 6) C dX2_become_140 rfl lkX2_52 (isN_0 hk1) rfl ?_
      refine j_iload_n C dX2_become_143 rfl 2 rfl ?_
      replace h := gd_e h
      obtain ⟨g2_, h⟩ := h
      refine j_aald C dX2_become_144 rfl (Or.inl rfl) (isN_a6 hk1) g2_ ?_
      refine j_iconst (v := (nI 0)) C dX2_become_145 rfl (by decide) ?_
      refine j_aload_n C dX2_become_146 rfl 0 rfl ?_
      refine j_getR (c := b0 + 6) C dX2_become_147 rfl lkX2_52 (isN_0 hb0) rfl ?_
      refine j_iload_n C dX2_become_150 rfl 2 rfl ?_
      refine j_aald C dX2_become_151 rfl (Or.inl rfl) (isN_a6 hb0) g2_ ?_
      refine j_iconst (v := (nI 0)) C dX2_become_152 rfl (by decide) ?_
      refine j_bipush (v := (nI 9)) C dX2_become_153 rfl (by decide) ?_
      replace h := gd_e h
      obtain ⟨g3_, h⟩ := h
      refine j_copyi C dX2_become_155 rfl qcX2_61 (isN_dl hk1 g2_) (isN_dl hb0 g2_) g3_ ⟨Nat.le_of_ble_eq_true rfl, Nat.le_of_ble_eq_true rfl⟩ ?_
      refine j_mem (fun μ4_ e5_ => ?_)
      replace h := zl_u h e5_
      refine j_iinc (d := (nI 1)) (v := x2 + (nI 1)) (lv' := [(2, .int (x2 + (nI 1))), (0, .ref b0), (1, .ref k1)]) C dX2_become_158 rfl (by decide) 2 rfl (by decide) rfl rfl ?_
      refine j_goto (pc' := 133) C dX2_become_161 (by decide) ?_
      refine j_lv [1, 2, 0] rfl ?_
      exact (ih) (x2 + (nI 1)) μ4_ h
def f_X2_become (b0 : Nat) (k1 : Nat) (μ : Mem) : Option (Mem) := zl (sI μ b0 0 (μ.1 k1 0)) fun μ1_ => zl (sI μ1_ b0 1 (μ1_.1 k1 1)) fun μ3_ => zl (sI μ3_ b0 2 (μ3_.1 k1 2)) fun μ5_ => zl (sI μ5_ b0 3 (μ5_.1 k1 3)) fun μ7_ => zl (sI μ7_ b0 4 (μ7_.1 k1 4)) fun μ9_ => zl (sI μ9_ b0 5 (μ9_.1 k1 5)) fun μ11_ => gd (isB (μ11_.1 k1 6)) <| zl (sI μ11_ b0 6 (μ11_.1 k1 6)) fun μ14_ => gd (cpB (nI 0) (nI 0) (nI 9) 9 9) <| zl (sA μ14_ (b0 + 1) (va_cpy (μ14_.1 (k1 + 1)) (μ14_.1 (b0 + 1)) (Int32.toNatClampNeg (nI 0)) (Int32.toNatClampNeg (nI 0)) (Int32.toNatClampNeg (nI 9)))) fun μ17_ => zl (sA μ17_ (b0 + 2) (va_cpy (μ17_.1 (k1 + 2)) (μ17_.1 (b0 + 2)) (Int32.toNatClampNeg (nI 0)) (Int32.toNatClampNeg (nI 0)) (Int32.toNatClampNeg (nI 9)))) fun μ19_ => zl (sA μ19_ (b0 + 3) (va_cpy (μ19_.1 (k1 + 3)) (μ19_.1 (b0 + 3)) (Int32.toNatClampNeg (nI 0)) (Int32.toNatClampNeg (nI 0)) (Int32.toNatClampNeg (nI 9)))) fun μ21_ => zl (sA μ21_ (b0 + 4) (va_cpy (μ21_.1 (k1 + 4)) (μ21_.1 (b0 + 4)) (Int32.toNatClampNeg (nI 0)) (Int32.toNatClampNeg (nI 0)) (Int32.toNatClampNeg (nI 9)))) fun μ23_ => zl (sA μ23_ (b0 + 5) (va_cpy (μ23_.1 (k1 + 5)) (μ23_.1 (b0 + 5)) (Int32.toNatClampNeg (nI 0)) (Int32.toNatClampNeg (nI 0)) (Int32.toNatClampNeg (nI 9)))) fun μ25_ => f_X2_become_133 b0 k1 (fun μ => f_X2_become_164 b0 k1 μ) zfu (nI 0) μ25_
set_option maxHeartbeats 4000000 in
set_option maxRecDepth 100000 in
theorem w_X2_become {Γ : jG} (C : jC Γ 3 cX2_become RX2 rmX2_become) {b0 : Nat} {k1 : Nat} (hb0 : isNight b0) (hk1 : isNight k1) {ρ : Mem} (E : jEV Γ cX2_become ρ) (μ : Mem) (h : f_X2_become b0 k1 μ = some ρ) : jJ Γ 3 0 [(0, .ref b0), (1, .ref k1)] [] μ := by
  unfold f_X2_become at h
  refine j_aload_n C dX2_become_0 rfl 0 rfl ?_
  refine j_aload_n C dX2_become_1 rfl 1 rfl ?_
  refine j_getI C dX2_become_2 rfl lkX2_9 (isN_0 hk1) rfl ?_
  refine j_putI C dX2_become_5 rfl lpX2_9 (isN_0 hb0) rfl ?_
  refine j_mem (fun μ1_ e2_ => ?_)
  replace h := zl_u h e2_
  refine j_aload_n C dX2_become_8 rfl 0 rfl ?_
  refine j_aload_n C dX2_become_9 rfl 1 rfl ?_
  refine j_getI C dX2_become_10 rfl lkX2_15 (isN_0 hk1) rfl ?_
  refine j_putI C dX2_become_13 rfl lpX2_15 (isN_0 hb0) rfl ?_
  refine j_mem (fun μ3_ e4_ => ?_)
  replace h := zl_u h e4_
  refine j_aload_n C dX2_become_16 rfl 0 rfl ?_
  refine j_aload_n C dX2_become_17 rfl 1 rfl ?_
  refine j_getI C dX2_become_18 rfl lkX2_18 (isN_0 hk1) rfl ?_
  refine j_putI C dX2_become_21 rfl lpX2_18 (isN_0 hb0) rfl ?_
  refine j_mem (fun μ5_ e6_ => ?_)
  replace h := zl_u h e6_
  refine j_aload_n C dX2_become_24 rfl 0 rfl ?_
  refine j_aload_n C dX2_become_25 rfl 1 rfl ?_
  refine j_getI C dX2_become_26 rfl lkX2_21 (isN_0 hk1) rfl ?_
  refine j_putI C dX2_become_29 rfl lpX2_21 (isN_0 hb0) rfl ?_
  refine j_mem (fun μ7_ e8_ => ?_)
  replace h := zl_u h e8_
  refine j_aload_n C dX2_become_32 rfl 0 rfl ?_
  refine j_aload_n C dX2_become_33 rfl 1 rfl ?_
  refine j_getI C dX2_become_34 rfl lkX2_24 (isN_0 hk1) rfl ?_
  refine j_putI C dX2_become_37 rfl lpX2_24 (isN_0 hb0) rfl ?_
  refine j_mem (fun μ9_ e10_ => ?_)
  replace h := zl_u h e10_
  refine j_aload_n C dX2_become_40 rfl 0 rfl ?_
  refine j_aload_n C dX2_become_41 rfl 1 rfl ?_
  refine j_getI C dX2_become_42 rfl lkX2_27 (isN_0 hk1) rfl ?_
  refine j_putI C dX2_become_45 rfl lpX2_27 (isN_0 hb0) rfl ?_
  refine j_mem (fun μ11_ e12_ => ?_)
  replace h := zl_u h e12_
  refine j_aload_n C dX2_become_48 rfl 0 rfl ?_
  refine j_aload_n C dX2_become_49 rfl 1 rfl ?_
  refine j_getI C dX2_become_50 rfl lkX2_30 (isN_0 hk1) rfl ?_
  replace h := gd_e h
  obtain ⟨g13_, h⟩ := h
  refine j_putZ C dX2_become_53 rfl lpX2_30 (isN_0 hb0) rfl g13_ ?_
  refine j_mem (fun μ14_ e15_ => ?_)
  replace h := zl_u h e15_
  refine j_aload_n C dX2_become_56 rfl 1 rfl ?_
  refine j_getR (c := k1 + 1) C dX2_become_57 rfl lkX2_34 (isN_0 hk1) rfl ?_
  refine j_iconst (v := (nI 0)) C dX2_become_60 rfl (by decide) ?_
  refine j_aload_n C dX2_become_61 rfl 0 rfl ?_
  refine j_getR (c := b0 + 1) C dX2_become_62 rfl lkX2_34 (isN_0 hb0) rfl ?_
  refine j_iconst (v := (nI 0)) C dX2_become_65 rfl (by decide) ?_
  refine j_bipush (v := (nI 9)) C dX2_become_66 rfl (by decide) ?_
  replace h := gd_e h
  obtain ⟨g16_, h⟩ := h
  refine j_copyi C dX2_become_68 rfl qcX2_61 (isN_a1 hk1) (isN_a1 hb0) g16_ ⟨Nat.le_of_ble_eq_true rfl, Nat.le_of_ble_eq_true rfl⟩ ?_
  refine j_mem (fun μ17_ e18_ => ?_)
  replace h := zl_u h e18_
  refine j_aload_n C dX2_become_71 rfl 1 rfl ?_
  refine j_getR (c := k1 + 2) C dX2_become_72 rfl lkX2_38 (isN_0 hk1) rfl ?_
  refine j_iconst (v := (nI 0)) C dX2_become_75 rfl (by decide) ?_
  refine j_aload_n C dX2_become_76 rfl 0 rfl ?_
  refine j_getR (c := b0 + 2) C dX2_become_77 rfl lkX2_38 (isN_0 hb0) rfl ?_
  refine j_iconst (v := (nI 0)) C dX2_become_80 rfl (by decide) ?_
  refine j_bipush (v := (nI 9)) C dX2_become_81 rfl (by decide) ?_
  refine j_copyi C dX2_become_83 rfl qcX2_61 (isN_a2 hk1) (isN_a2 hb0) g16_ ⟨Nat.le_of_ble_eq_true rfl, Nat.le_of_ble_eq_true rfl⟩ ?_
  refine j_mem (fun μ19_ e20_ => ?_)
  replace h := zl_u h e20_
  refine j_aload_n C dX2_become_86 rfl 1 rfl ?_
  refine j_getR (c := k1 + 3) C dX2_become_87 rfl lkX2_41 (isN_0 hk1) rfl ?_
  refine j_iconst (v := (nI 0)) C dX2_become_90 rfl (by decide) ?_
  refine j_aload_n C dX2_become_91 rfl 0 rfl ?_
  refine j_getR (c := b0 + 3) C dX2_become_92 rfl lkX2_41 (isN_0 hb0) rfl ?_
  refine j_iconst (v := (nI 0)) C dX2_become_95 rfl (by decide) ?_
  refine j_bipush (v := (nI 9)) C dX2_become_96 rfl (by decide) ?_
  refine j_copyi C dX2_become_98 rfl qcX2_61 (isN_a3 hk1) (isN_a3 hb0) g16_ ⟨Nat.le_of_ble_eq_true rfl, Nat.le_of_ble_eq_true rfl⟩ ?_
  refine j_mem (fun μ21_ e22_ => ?_)
  replace h := zl_u h e22_
  refine j_aload_n C dX2_become_101 rfl 1 rfl ?_
  refine j_getR (c := k1 + 4) C dX2_become_102 rfl lkX2_44 (isN_0 hk1) rfl ?_
  refine j_iconst (v := (nI 0)) C dX2_become_105 rfl (by decide) ?_
  refine j_aload_n C dX2_become_106 rfl 0 rfl ?_
  refine j_getR (c := b0 + 4) C dX2_become_107 rfl lkX2_44 (isN_0 hb0) rfl ?_
  refine j_iconst (v := (nI 0)) C dX2_become_110 rfl (by decide) ?_
  refine j_bipush (v := (nI 9)) C dX2_become_111 rfl (by decide) ?_
  refine j_copyi C dX2_become_113 rfl qcX2_61 (isN_a4 hk1) (isN_a4 hb0) g16_ ⟨Nat.le_of_ble_eq_true rfl, Nat.le_of_ble_eq_true rfl⟩ ?_
  refine j_mem (fun μ23_ e24_ => ?_)
  replace h := zl_u h e24_
  refine j_aload_n C dX2_become_116 rfl 1 rfl ?_
  refine j_getR (c := k1 + 5) C dX2_become_117 rfl lkX2_47 (isN_0 hk1) rfl ?_
  refine j_iconst (v := (nI 0)) C dX2_become_120 rfl (by decide) ?_
  refine j_aload_n C dX2_become_121 rfl 0 rfl ?_
  refine j_getR (c := b0 + 5) C dX2_become_122 rfl lkX2_47 (isN_0 hb0) rfl ?_
  refine j_iconst (v := (nI 0)) C dX2_become_125 rfl (by decide) ?_
  refine j_bipush (v := (nI 9)) C dX2_become_126 rfl (by decide) ?_
  refine j_copyi C dX2_become_128 rfl qcX2_61 (isN_a5 hk1) (isN_a5 hb0) g16_ ⟨Nat.le_of_ble_eq_true rfl, Nat.le_of_ble_eq_true rfl⟩ ?_
  refine j_mem (fun μ25_ e26_ => ?_)
  replace h := zl_u h e26_
  refine j_iconst (v := (nI 0)) C dX2_become_131 rfl (by decide) ?_
  refine j_istore_n (lv' := [(2, .int (nI 0)), (0, .ref b0), (1, .ref k1)]) C dX2_become_132 rfl (by decide) rfl ?_
  refine j_lv [1, 2, 0] rfl ?_
  exact w_X2_become_133 C hb0 hk1 E (fun μ h => w_X2_become_164 C hb0 hk1 E μ h) zfu (nI 0) μ25_ h
set_option maxRecDepth 100000 in
theorem c_X2_become (l : Launch) (D : va_G) (ad : Nat → Nat) (cl : Nat → ClassId) {b0 : Nat} {k1 : Nat} (hb0 : isNight b0) (hk1 : isNight k1) (μ : Mem) (ρ : Mem) (h : f_X2_become b0 k1 μ = some ρ) : CV l D ad cl yX2_become wsX2_become rmX2_become [.ref b0, .ref k1] μ ρ := c_ofV (cc := cX2_become) (nL := 3) rfl (by decide) (Nat.le_of_ble_eq_true rfl) (fun Γ C E => w_X2_become C hb0 hk1 E μ h)
theorem gsX2_67 : jm_gs RX2 67 yJ7_fill_53178 wsJ7_fill_53178 4 2 := ⟨_, _, gi_S gwt3_98 gwt3_99 gwt1_17 gwt3_100, rfl, by decide +kernel⟩
/-! X2_beginAnew -/
def wsX2_beginAnew : List Cond := .code yX2_beginAnew cX2_beginAnew 1 none :: G0
def rmX2_beginAnew : Room := { frames := 1, cells := 0, slots := 0, locals := 23 }
def f_X2_beginAnew (b0 : Nat) (μ : Mem) : Option (Mem) := zl (sI μ b0 0 (nI 0)) fun μ1_ => zl (sI μ1_ b0 1 (nI 0)) fun μ3_ => zl (sI μ3_ b0 2 (nI 0)) fun μ5_ => gd (inb (nI 0) 2) <| Option.bind (f_J7_fill_53178 (b0 + 20 + (Int32.toNatClampNeg (nI 0))) 171 (nI 0) μ5_) fun p8_ => gd (inb (nI 1) 2) <| Option.bind (f_J7_fill_53178 (b0 + 20 + (Int32.toNatClampNeg (nI 1))) 171 (nI 0) p8_) fun p11_ => some p11_
set_option maxHeartbeats 4000000 in
set_option maxRecDepth 100000 in
theorem w_X2_beginAnew {Γ : jG} (C : jC Γ 1 cX2_beginAnew RX2 rmX2_beginAnew) {b0 : Nat} (hb0 : isNight b0) {ρ : Mem} (E : jEV Γ cX2_beginAnew ρ) (μ : Mem) (h : f_X2_beginAnew b0 μ = some ρ) : jJ Γ 1 0 [(0, .ref b0)] [] μ := by
  unfold f_X2_beginAnew at h
  refine j_aload_n C dX2_beginAnew_0 rfl 0 rfl ?_
  refine j_iconst (v := (nI 0)) C dX2_beginAnew_1 rfl (by decide) ?_
  refine j_putI C dX2_beginAnew_2 rfl lpX2_9 (isN_0 hb0) rfl ?_
  refine j_mem (fun μ1_ e2_ => ?_)
  replace h := zl_u h e2_
  refine j_aload_n C dX2_beginAnew_5 rfl 0 rfl ?_
  refine j_iconst (v := (nI 0)) C dX2_beginAnew_6 rfl (by decide) ?_
  refine j_putI C dX2_beginAnew_7 rfl lpX2_15 (isN_0 hb0) rfl ?_
  refine j_mem (fun μ3_ e4_ => ?_)
  replace h := zl_u h e4_
  refine j_aload_n C dX2_beginAnew_10 rfl 0 rfl ?_
  refine j_iconst (v := (nI 0)) C dX2_beginAnew_11 rfl (by decide) ?_
  refine j_putI C dX2_beginAnew_12 rfl lpX2_18 (isN_0 hb0) rfl ?_
  refine j_mem (fun μ5_ e6_ => ?_)
  replace h := zl_u h e6_
  refine j_aload_n C dX2_beginAnew_15 rfl 0 rfl ?_
  refine j_getR (c := b0 + 19) C dX2_beginAnew_16 rfl lkX2_58 (isN_0 hb0) rfl ?_
  refine j_iconst (v := (nI 0)) C dX2_beginAnew_19 rfl (by decide) ?_
  replace h := gd_e h
  obtain ⟨g7_, h⟩ := h
  refine j_aald C dX2_beginAnew_20 rfl (Or.inl rfl) (isN_a19 hb0) g7_ ?_
  refine j_iconst (v := (nI 0)) C dX2_beginAnew_21 rfl (by decide) ?_
  replace h := bd_e h
  obtain ⟨p8_, h9_, h⟩ := h
  refine j_cSV (av := [.ref (b0 + 20 + (Int32.toNatClampNeg (nI 0))), .int (nI 0)]) (rest := []) C dX2_beginAnew_22 rfl (c_J7_fill_53178 _ _ _ _ (isN_rg hb0 g7_) μ5_ p8_ h9_) gsX2_67 ⟨⟨rfl, rfl⟩, Nat.le_of_ble_eq_true rfl, Nat.le_of_ble_eq_true rfl⟩ rfl rfl (Nat.le_of_ble_eq_true rfl) ?_
  refine j_aload_n C dX2_beginAnew_25 rfl 0 rfl ?_
  refine j_getR (c := b0 + 19) C dX2_beginAnew_26 rfl lkX2_58 (isN_0 hb0) rfl ?_
  refine j_iconst (v := (nI 1)) C dX2_beginAnew_29 rfl (by decide) ?_
  replace h := gd_e h
  obtain ⟨g10_, h⟩ := h
  refine j_aald C dX2_beginAnew_30 rfl (Or.inl rfl) (isN_a19 hb0) g10_ ?_
  refine j_iconst (v := (nI 0)) C dX2_beginAnew_31 rfl (by decide) ?_
  replace h := bd_e h
  obtain ⟨p11_, h12_, h⟩ := h
  refine j_cSV (av := [.ref (b0 + 20 + (Int32.toNatClampNeg (nI 1))), .int (nI 0)]) (rest := []) C dX2_beginAnew_32 rfl (c_J7_fill_53178 _ _ _ _ (isN_rg hb0 g10_) p8_ p11_ h12_) gsX2_67 ⟨⟨rfl, rfl⟩, Nat.le_of_ble_eq_true rfl, Nat.le_of_ble_eq_true rfl⟩ rfl rfl (Nat.le_of_ble_eq_true rfl) ?_
  obtain rfl := Option.some.inj h
  exact j_vret E dX2_beginAnew_35
set_option maxRecDepth 100000 in
theorem c_X2_beginAnew (l : Launch) (D : va_G) (ad : Nat → Nat) (cl : Nat → ClassId) {b0 : Nat} (hb0 : isNight b0) (μ : Mem) (ρ : Mem) (h : f_X2_beginAnew b0 μ = some ρ) : CV l D ad cl yX2_beginAnew wsX2_beginAnew rmX2_beginAnew [.ref b0] μ ρ := c_ofV (cc := cX2_beginAnew) (nL := 1) rfl (by decide) (Nat.le_of_ble_eq_true rfl) (fun Γ C E => w_X2_beginAnew C hb0 E μ h)
/-! X2_letIn -/
def wsX2_letIn : List Cond := .code yX2_letIn cX2_letIn 5 (some .int) :: G0
def rmX2_letIn : Room := { frames := 0, cells := 0, slots := 0, locals := 0 }
def f_X2_letIn_97 (b0 : Nat) (a1 : Int32) (a2 : Int32) (x3 : Int32) (μ : Mem) : Option (Int32 × Mem) := zl (sI μ b0 0 ((μ.1 b0 0) + (nI 1))) fun μ1_ => some (x3, μ1_)
set_option maxHeartbeats 4000000 in
set_option maxRecDepth 100000 in
theorem w_X2_letIn_97 {Γ : jG} (C : jC Γ 5 cX2_letIn RX2 rmX2_letIn) {b0 : Nat} {a1 : Int32} {a2 : Int32} (hb0 : isNight b0) {ρ : Int32 × Mem} (E : jEI Γ cX2_letIn ρ.1 ρ.2) (x3 : Int32) (μ : Mem) (h : f_X2_letIn_97 b0 a1 a2 x3 μ = some ρ) : jJ Γ 5 97 [(0, .ref b0), (3, .int x3)] [] μ := by
  unfold f_X2_letIn_97 at h
  refine j_aload_n C dX2_letIn_97 rfl 0 rfl ?_
  refine j_dup C dX2_letIn_98 rfl rfl ?_
  refine j_getI C dX2_letIn_99 rfl lkX2_9 (isN_0 hb0) rfl ?_
  refine j_iconst (v := (nI 1)) C dX2_letIn_102 rfl (by decide) ?_
  refine j_iadd C dX2_letIn_103 rfl ?_
  refine j_putI C dX2_letIn_104 rfl lpX2_9 (isN_0 hb0) rfl ?_
  refine j_mem (fun μ1_ e2_ => ?_)
  replace h := zl_u h e2_
  refine j_iload_n C dX2_letIn_107 rfl 1 rfl ?_
  obtain rfl := Option.some.inj h
  exact j_iret E dX2_letIn_108
def f_X2_letIn_65 (b0 : Nat) (a1 : Int32) (a2 : Int32) (kx97 : Int32 → Mem → Option (Int32 × Mem)) : Nat → Int32 → Int32 → Mem → Option (Int32 × Mem)
  | 0, _, _, _ => none
  | n + 1, x3, x4, μ => (if x3 ≤ x4 then kx97 x3 μ else gd (inb x3 9) <| gd (inb x4 9) <| zl (sI μ (b0 + 7 + (Int32.toNatClampNeg x3)) (Int32.toNatClampNeg x4) (nI 1)) fun μ4_ => zl (sI μ4_ (b0 + 7 + (Int32.toNatClampNeg x4)) (Int32.toNatClampNeg x3) (nI 1)) fun μ6_ => f_X2_letIn_65 b0 a1 a2 kx97 n x3 (x4 + (nI 1)) μ6_)
set_option maxHeartbeats 4000000 in
set_option maxRecDepth 100000 in
theorem w_X2_letIn_65 {Γ : jG} (C : jC Γ 5 cX2_letIn RX2 rmX2_letIn) {b0 : Nat} {a1 : Int32} {a2 : Int32} (hb0 : isNight b0) {kx97 : Int32 → Mem → Option (Int32 × Mem)} {ρ : Int32 × Mem} (E : jEI Γ cX2_letIn ρ.1 ρ.2) (Hkx97 : ∀ (x3 : Int32) (μ : Mem), kx97 x3 μ = some ρ → jJ Γ 5 97 [(0, .ref b0), (3, .int x3)] [] μ) : ∀ (n : Nat) (x3 : Int32) (x4 : Int32) (μ : Mem), f_X2_letIn_65 b0 a1 a2 kx97 n x3 x4 μ = some ρ → jJ Γ 5 65 [(0, .ref b0), (3, .int x3), (4, .int x4)] [] μ := by
  intro n
  induction n with
  | zero => intro x3 x4 μ h; rw [f_X2_letIn_65] at h; cases h
  | succ n ih =>
    intro x3 x4 μ h
    rw [f_X2_letIn_65] at h
    refine j_iload C dX2_letIn_65 rfl 2 rfl ?_
    refine j_iload_n C dX2_letIn_67 rfl 1 rfl ?_
    refine j_icmp_ge (tgt := 97) C dX2_letIn_68 rfl (by decide) (fun c1_ => ?_) (fun c1_ => ?_)
    · replace h := if_t h c1_
      refine j_lv [0, 1] rfl ?_
      exact (Hkx97) x3 μ h
    · replace h := if_f h c1_
      refine j_aload_n C dX2_letIn_71 rfl 0 rfl ?_
      refine j_getR (c := b0 + 6) C dX2_letIn_72 rfl lkX2_52 (isN_0 hb0) rfl ?_
      refine j_iload_n C dX2_letIn_75 rfl 1 rfl ?_
      replace h := gd_e h
      obtain ⟨g2_, h⟩ := h
      refine j_aald C dX2_letIn_76 rfl (Or.inl rfl) (isN_a6 hb0) g2_ ?_
      refine j_iload C dX2_letIn_77 rfl 2 rfl ?_
      refine j_iconst (v := (nI 1)) C dX2_letIn_79 rfl (by decide) ?_
      replace h := gd_e h
      obtain ⟨g3_, h⟩ := h
      refine j_iast C dX2_letIn_80 rfl (isN_dl hb0 g2_) g3_ ?_
      refine j_mem (fun μ4_ e5_ => ?_)
      replace h := zl_u h e5_
      refine j_aload_n C dX2_letIn_81 rfl 0 rfl ?_
      refine j_getR (c := b0 + 6) C dX2_letIn_82 rfl lkX2_52 (isN_0 hb0) rfl ?_
      refine j_iload C dX2_letIn_85 rfl 2 rfl ?_
      refine j_aald C dX2_letIn_87 rfl (Or.inl rfl) (isN_a6 hb0) g3_ ?_
      refine j_iload_n C dX2_letIn_88 rfl 1 rfl ?_
      refine j_iconst (v := (nI 1)) C dX2_letIn_89 rfl (by decide) ?_
      refine j_iast C dX2_letIn_90 rfl (isN_dl hb0 g3_) g2_ ?_
      refine j_mem (fun μ6_ e7_ => ?_)
      replace h := zl_u h e7_
      refine j_iinc (d := (nI 1)) (v := x4 + (nI 1)) (lv' := [(4, .int (x4 + (nI 1))), (0, .ref b0), (3, .int x3)]) C dX2_letIn_91 rfl (by decide) 2 rfl (by decide) rfl rfl ?_
      refine j_goto (pc' := 65) C dX2_letIn_94 (by decide) ?_
      refine j_lv [1, 2, 0] rfl ?_
      exact (ih) x3 (x4 + (nI 1)) μ6_ h
def f_X2_letIn (b0 : Nat) (a1 : Int32) (a2 : Int32) (μ : Mem) : Option (Int32 × Mem) := zl (μ.1 b0 0) fun x1_ => gd (inb x1_ 9) <| zl (sI μ (b0 + 1) (Int32.toNatClampNeg x1_) a1) fun μ4_ => zl (sI μ4_ (b0 + 2) (Int32.toNatClampNeg x1_) (nI 2)) fun μ6_ => zl (sI μ6_ (b0 + 3) (Int32.toNatClampNeg x1_) (nI 2)) fun μ8_ => zl (sI μ8_ (b0 + 4) (Int32.toNatClampNeg x1_) (nI 0)) fun μ10_ => zl (sI μ10_ (b0 + 5) (Int32.toNatClampNeg x1_) (nI 0)) fun μ12_ => gd (inb a2 2) <| zl (sI μ12_ (b0 + 17 + (Int32.toNatClampNeg a2)) (Int32.toNatClampNeg x1_) ((nI 1) <<< (x1_ &&& 31))) fun μ15_ => gd (inb ((nI 1) - a2) 2) <| zl (sI μ15_ (b0 + 17 + (Int32.toNatClampNeg ((nI 1) - a2))) (Int32.toNatClampNeg x1_) (nI 0)) fun μ18_ => f_X2_letIn_65 b0 a1 a2 (fun x3 μ => f_X2_letIn_97 b0 a1 a2 x3 μ) zfu x1_ (nI 0) μ18_
set_option maxHeartbeats 4000000 in
set_option maxRecDepth 100000 in
theorem w_X2_letIn {Γ : jG} (C : jC Γ 5 cX2_letIn RX2 rmX2_letIn) {b0 : Nat} {a1 : Int32} {a2 : Int32} (hb0 : isNight b0) {ρ : Int32 × Mem} (E : jEI Γ cX2_letIn ρ.1 ρ.2) (μ : Mem) (h : f_X2_letIn b0 a1 a2 μ = some ρ) : jJ Γ 5 0 [(0, .ref b0), (1, .int a1), (2, .int a2)] [] μ := by
  unfold f_X2_letIn at h
  refine j_aload_n C dX2_letIn_0 rfl 0 rfl ?_
  refine j_getI C dX2_letIn_1 rfl lkX2_9 (isN_0 hb0) rfl ?_
  refine j_topi (fun x1_ e2_ => ?_)
  replace h := zl_u h e2_
  refine j_istore_n (lv' := [(3, .int x1_), (0, .ref b0), (1, .int a1), (2, .int a2)]) C dX2_letIn_4 rfl (by decide) rfl ?_
  refine j_aload_n C dX2_letIn_5 rfl 1 rfl ?_
  refine j_getR (c := b0 + 1) C dX2_letIn_6 rfl lkX2_34 (isN_0 hb0) rfl ?_
  refine j_iload_n C dX2_letIn_9 rfl 0 rfl ?_
  refine j_iload_n C dX2_letIn_10 rfl 2 rfl ?_
  replace h := gd_e h
  obtain ⟨g3_, h⟩ := h
  refine j_iast C dX2_letIn_11 rfl (isN_a1 hb0) g3_ ?_
  refine j_mem (fun μ4_ e5_ => ?_)
  replace h := zl_u h e5_
  refine j_aload_n C dX2_letIn_12 rfl 1 rfl ?_
  refine j_getR (c := b0 + 2) C dX2_letIn_13 rfl lkX2_38 (isN_0 hb0) rfl ?_
  refine j_iload_n C dX2_letIn_16 rfl 0 rfl ?_
  refine j_iconst (v := (nI 2)) C dX2_letIn_17 rfl (by decide) ?_
  refine j_iast C dX2_letIn_18 rfl (isN_a2 hb0) g3_ ?_
  refine j_mem (fun μ6_ e7_ => ?_)
  replace h := zl_u h e7_
  refine j_aload_n C dX2_letIn_19 rfl 1 rfl ?_
  refine j_getR (c := b0 + 3) C dX2_letIn_20 rfl lkX2_41 (isN_0 hb0) rfl ?_
  refine j_iload_n C dX2_letIn_23 rfl 0 rfl ?_
  refine j_iconst (v := (nI 2)) C dX2_letIn_24 rfl (by decide) ?_
  refine j_iast C dX2_letIn_25 rfl (isN_a3 hb0) g3_ ?_
  refine j_mem (fun μ8_ e9_ => ?_)
  replace h := zl_u h e9_
  refine j_aload_n C dX2_letIn_26 rfl 1 rfl ?_
  refine j_getR (c := b0 + 4) C dX2_letIn_27 rfl lkX2_44 (isN_0 hb0) rfl ?_
  refine j_iload_n C dX2_letIn_30 rfl 0 rfl ?_
  refine j_iconst (v := (nI 0)) C dX2_letIn_31 rfl (by decide) ?_
  refine j_iast C dX2_letIn_32 rfl (isN_a4 hb0) g3_ ?_
  refine j_mem (fun μ10_ e11_ => ?_)
  replace h := zl_u h e11_
  refine j_aload_n C dX2_letIn_33 rfl 1 rfl ?_
  refine j_getR (c := b0 + 5) C dX2_letIn_34 rfl lkX2_47 (isN_0 hb0) rfl ?_
  refine j_iload_n C dX2_letIn_37 rfl 0 rfl ?_
  refine j_iconst (v := (nI 0)) C dX2_letIn_38 rfl (by decide) ?_
  refine j_iast C dX2_letIn_39 rfl (isN_a5 hb0) g3_ ?_
  refine j_mem (fun μ12_ e13_ => ?_)
  replace h := zl_u h e13_
  refine j_aload_n C dX2_letIn_40 rfl 1 rfl ?_
  refine j_getR (c := b0 + 16) C dX2_letIn_41 rfl lkX2_55 (isN_0 hb0) rfl ?_
  refine j_iload_n C dX2_letIn_44 rfl 3 rfl ?_
  replace h := gd_e h
  obtain ⟨g14_, h⟩ := h
  refine j_aald C dX2_letIn_45 rfl (Or.inl rfl) (isN_a16 hb0) g14_ ?_
  refine j_iload_n C dX2_letIn_46 rfl 0 rfl ?_
  refine j_iconst (v := (nI 1)) C dX2_letIn_47 rfl (by decide) ?_
  refine j_iload_n C dX2_letIn_48 rfl 0 rfl ?_
  refine j_ishl C dX2_letIn_49 rfl ?_
  refine j_iast C dX2_letIn_50 rfl (isN_hs hb0 g14_) g3_ ?_
  refine j_mem (fun μ15_ e16_ => ?_)
  replace h := zl_u h e16_
  refine j_aload_n C dX2_letIn_51 rfl 1 rfl ?_
  refine j_getR (c := b0 + 16) C dX2_letIn_52 rfl lkX2_55 (isN_0 hb0) rfl ?_
  refine j_iconst (v := (nI 1)) C dX2_letIn_55 rfl (by decide) ?_
  refine j_iload_n C dX2_letIn_56 rfl 3 rfl ?_
  refine j_isub C dX2_letIn_57 rfl ?_
  replace h := gd_e h
  obtain ⟨g17_, h⟩ := h
  refine j_aald C dX2_letIn_58 rfl (Or.inl rfl) (isN_a16 hb0) g17_ ?_
  refine j_iload_n C dX2_letIn_59 rfl 0 rfl ?_
  refine j_iconst (v := (nI 0)) C dX2_letIn_60 rfl (by decide) ?_
  refine j_iast C dX2_letIn_61 rfl (isN_hs hb0 g17_) g3_ ?_
  refine j_mem (fun μ18_ e19_ => ?_)
  replace h := zl_u h e19_
  refine j_iconst (v := (nI 0)) C dX2_letIn_62 rfl (by decide) ?_
  refine j_istore (lv' := [(4, .int (nI 0)), (3, .int x1_), (0, .ref b0), (1, .int a1), (2, .int a2)]) C dX2_letIn_63 rfl (by decide) rfl ?_
  refine j_lv [2, 1, 0] rfl ?_
  exact w_X2_letIn_65 C hb0 E (fun x3 μ h => w_X2_letIn_97 C hb0 E x3 μ h) zfu x1_ (nI 0) μ18_ h
set_option maxRecDepth 100000 in
theorem c_X2_letIn (l : Launch) (D : va_G) (ad : Nat → Nat) (cl : Nat → ClassId) {b0 : Nat} {a1 : Int32} {a2 : Int32} (hb0 : isNight b0) (μ : Mem) (ρ : Int32 × Mem) (h : f_X2_letIn b0 a1 a2 μ = some ρ) : CI l D ad cl yX2_letIn wsX2_letIn rmX2_letIn [.ref b0, .int a1, .int a2] μ ρ.1 ρ.2 := c_ofI (cc := cX2_letIn) (nL := 5) rfl (by decide) (Nat.le_of_ble_eq_true rfl) (fun Γ C E => w_X2_letIn C hb0 E μ h)
theorem gsX2_73 : jm_gs RX2 73 yX2_ringPlace wsX2_ringPlace 2 2 := ⟨_, _, gi_S gwt2_72 gwt2_73 gwt1_3 gwt2_74, rfl, by decide +kernel⟩
/-! X2_takeOut -/
def wsX2_takeOut : List Cond := .code yX2_takeOut cX2_takeOut 4 (some .int) :: G0
def rmX2_takeOut : Room := { frames := 1, cells := 0, slots := 0, locals := 21 }
def f_X2_takeOut_115 (b0 : Nat) (μ : Mem) : Option (Int32 × Mem) := some (μ.1 b0 0, μ)
set_option maxHeartbeats 4000000 in
set_option maxRecDepth 100000 in
theorem w_X2_takeOut_115 {Γ : jG} (C : jC Γ 4 cX2_takeOut RX2 rmX2_takeOut) {b0 : Nat} (hb0 : isNight b0) {ρ : Int32 × Mem} (E : jEI Γ cX2_takeOut ρ.1 ρ.2) (μ : Mem) (h : f_X2_takeOut_115 b0 μ = some ρ) : jJ Γ 4 115 [(0, .ref b0)] [] μ := by
  unfold f_X2_takeOut_115 at h
  refine j_aload_n C dX2_takeOut_115 rfl 0 rfl ?_
  refine j_getI C dX2_takeOut_116 rfl lkX2_9 (isN_0 hb0) rfl ?_
  obtain rfl := Option.some.inj h
  exact j_iret E dX2_takeOut_119
def f_X2_takeOut_109 (b0 : Nat) (kb21 : Int32 → Int32 → Mem → Option (Int32 × Mem)) (kx115 : Mem → Option (Int32 × Mem)) (x1 : Int32) (x2 : Int32) (μ : Mem) : Option (Int32 × Mem) := kb21 x1 (x2 + (nI 1)) μ
set_option maxHeartbeats 4000000 in
set_option maxRecDepth 100000 in
theorem w_X2_takeOut_109 {Γ : jG} (C : jC Γ 4 cX2_takeOut RX2 rmX2_takeOut) {b0 : Nat} (hb0 : isNight b0) {kb21 : Int32 → Int32 → Mem → Option (Int32 × Mem)} {kx115 : Mem → Option (Int32 × Mem)} {ρ : Int32 × Mem} (E : jEI Γ cX2_takeOut ρ.1 ρ.2) (Hkb21 : ∀ (x1 : Int32) (x2 : Int32) (μ : Mem), kb21 x1 x2 μ = some ρ → jJ Γ 4 21 [(0, .ref b0), (1, .int x1), (2, .int x2)] [] μ) (Hkx115 : ∀ (μ : Mem), kx115 μ = some ρ → jJ Γ 4 115 [(0, .ref b0)] [] μ) (x1 : Int32) (x2 : Int32) (μ : Mem) (h : f_X2_takeOut_109 b0 kb21 kx115 x1 x2 μ = some ρ) : jJ Γ 4 109 [(0, .ref b0), (1, .int x1), (2, .int x2)] [] μ := by
  unfold f_X2_takeOut_109 at h
  refine j_iinc (d := (nI 1)) (v := x2 + (nI 1)) (lv' := [(2, .int (x2 + (nI 1))), (0, .ref b0), (1, .int x1)]) C dX2_takeOut_109 rfl (by decide) 2 rfl (by decide) rfl rfl ?_
  refine j_goto (pc' := 21) C dX2_takeOut_112 (by decide) ?_
  refine j_lv [1, 2, 0] rfl ?_
  exact (Hkb21) x1 (x2 + (nI 1)) μ h
def f_X2_takeOut_81 (b0 : Nat) (kx109 : Int32 → Int32 → Mem → Option (Int32 × Mem)) : Nat → Int32 → Int32 → Int32 → Mem → Option (Int32 × Mem)
  | 0, _, _, _, _ => none
  | n + 1, x1, x2, x3, μ => (if (nI 19) ≤ x3 then kx109 x1 x2 μ else gd (inb x2 2) <| Option.bind (f_X2_ringPlace x3 (μ.1 b0 0) μ) fun p3_ => gd (inb p3_.1 171) <| zl (sI p3_.2 (b0 + 20 + (Int32.toNatClampNeg x2)) (Int32.toNatClampNeg p3_.1) (nI 0)) fun μ6_ => f_X2_takeOut_81 b0 kx109 n x1 x2 (x3 + (nI 1)) μ6_)
set_option maxHeartbeats 4000000 in
set_option maxRecDepth 100000 in
theorem w_X2_takeOut_81 {Γ : jG} (C : jC Γ 4 cX2_takeOut RX2 rmX2_takeOut) {b0 : Nat} (hb0 : isNight b0) {kx109 : Int32 → Int32 → Mem → Option (Int32 × Mem)} {ρ : Int32 × Mem} (E : jEI Γ cX2_takeOut ρ.1 ρ.2) (Hkx109 : ∀ (x1 : Int32) (x2 : Int32) (μ : Mem), kx109 x1 x2 μ = some ρ → jJ Γ 4 109 [(0, .ref b0), (1, .int x1), (2, .int x2)] [] μ) : ∀ (n : Nat) (x1 : Int32) (x2 : Int32) (x3 : Int32) (μ : Mem), f_X2_takeOut_81 b0 kx109 n x1 x2 x3 μ = some ρ → jJ Γ 4 81 [(0, .ref b0), (1, .int x1), (2, .int x2), (3, .int x3)] [] μ := by
  intro n
  induction n with
  | zero => intro x1 x2 x3 μ h; rw [f_X2_takeOut_81] at h; cases h
  | succ n ih =>
    intro x1 x2 x3 μ h
    rw [f_X2_takeOut_81] at h
    refine j_iload_n C dX2_takeOut_81 rfl 3 rfl ?_
    refine j_bipush (v := (nI 19)) C dX2_takeOut_82 rfl (by decide) ?_
    refine j_icmp_ge (tgt := 109) C dX2_takeOut_84 rfl (by decide) (fun c1_ => ?_) (fun c1_ => ?_)
    · replace h := if_t h c1_
      refine j_lv [0, 1, 2] rfl ?_
      exact (Hkx109) x1 x2 μ h
    · replace h := if_f h c1_
      refine j_aload_n C dX2_takeOut_87 rfl 0 rfl ?_
      refine j_getR (c := b0 + 19) C dX2_takeOut_88 rfl lkX2_58 (isN_0 hb0) rfl ?_
      refine j_iload_n C dX2_takeOut_91 rfl 2 rfl ?_
      replace h := gd_e h
      obtain ⟨g2_, h⟩ := h
      refine j_aald C dX2_takeOut_92 rfl (Or.inl rfl) (isN_a19 hb0) g2_ ?_
      refine j_iload_n C dX2_takeOut_93 rfl 3 rfl ?_
      refine j_aload_n C dX2_takeOut_94 rfl 0 rfl ?_
      refine j_getI C dX2_takeOut_95 rfl lkX2_9 (isN_0 hb0) rfl ?_
      replace h := bd_e h
      obtain ⟨p3_, h4_, h⟩ := h
      refine j_cSI (av := [.int x3, .int (μ.1 b0 0)]) (rest := [.ref (b0 + 20 + (Int32.toNatClampNeg x2))]) C dX2_takeOut_98 rfl (c_X2_ringPlace _ _ _ _ μ p3_ h4_) gsX2_73 ⟨⟨rfl, rfl⟩, Nat.le_of_ble_eq_true rfl, Nat.le_of_ble_eq_true rfl⟩ rfl rfl (Nat.le_of_ble_eq_true rfl) ?_
      refine j_iconst (v := (nI 0)) C dX2_takeOut_101 rfl (by decide) ?_
      replace h := gd_e h
      obtain ⟨g5_, h⟩ := h
      refine j_iast C dX2_takeOut_102 rfl (isN_rg hb0 g2_) g5_ ?_
      refine j_mem (fun μ6_ e7_ => ?_)
      replace h := zl_u h e7_
      refine j_iinc (d := (nI 1)) (v := x3 + (nI 1)) (lv' := [(3, .int (x3 + (nI 1))), (0, .ref b0), (1, .int x1), (2, .int x2)]) C dX2_takeOut_103 rfl (by decide) 3 rfl (by decide) rfl rfl ?_
      refine j_goto (pc' := 81) C dX2_takeOut_106 (by decide) ?_
      refine j_lv [1, 2, 3, 0] rfl ?_
      exact (ih) x1 x2 (x3 + (nI 1)) μ6_ h
def f_X2_takeOut_79 (b0 : Nat) (kb21 : Int32 → Int32 → Mem → Option (Int32 × Mem)) (kx115 : Mem → Option (Int32 × Mem)) (x1 : Int32) (x2 : Int32) (μ : Mem) : Option (Int32 × Mem) := f_X2_takeOut_81 b0 (fun x1 x2 μ => f_X2_takeOut_109 b0 kb21 kx115 x1 x2 μ) zfu x1 x2 (nI 0) μ
set_option maxHeartbeats 4000000 in
set_option maxRecDepth 100000 in
theorem w_X2_takeOut_79 {Γ : jG} (C : jC Γ 4 cX2_takeOut RX2 rmX2_takeOut) {b0 : Nat} (hb0 : isNight b0) {kb21 : Int32 → Int32 → Mem → Option (Int32 × Mem)} {kx115 : Mem → Option (Int32 × Mem)} {ρ : Int32 × Mem} (E : jEI Γ cX2_takeOut ρ.1 ρ.2) (Hkb21 : ∀ (x1 : Int32) (x2 : Int32) (μ : Mem), kb21 x1 x2 μ = some ρ → jJ Γ 4 21 [(0, .ref b0), (1, .int x1), (2, .int x2)] [] μ) (Hkx115 : ∀ (μ : Mem), kx115 μ = some ρ → jJ Γ 4 115 [(0, .ref b0)] [] μ) (x1 : Int32) (x2 : Int32) (μ : Mem) (h : f_X2_takeOut_79 b0 kb21 kx115 x1 x2 μ = some ρ) : jJ Γ 4 79 [(0, .ref b0), (1, .int x1), (2, .int x2)] [] μ := by
  unfold f_X2_takeOut_79 at h
  refine j_iconst (v := (nI 0)) C dX2_takeOut_79 rfl (by decide) ?_
  refine j_istore_n (lv' := [(3, .int (nI 0)), (0, .ref b0), (1, .int x1), (2, .int x2)]) C dX2_takeOut_80 rfl (by decide) rfl ?_
  refine j_lv [1, 2, 3, 0] rfl ?_
  exact w_X2_takeOut_81 C hb0 E (fun x1 x2 μ h => w_X2_takeOut_109 C hb0 E Hkb21 Hkx115 x1 x2 μ h) zfu x1 x2 (nI 0) μ h
def f_X2_takeOut_54 (b0 : Nat) (kx79 : Int32 → Int32 → Mem → Option (Int32 × Mem)) : Nat → Int32 → Int32 → Int32 → Mem → Option (Int32 × Mem)
  | 0, _, _, _, _ => none
  | n + 1, x1, x2, x3, μ => (if (nI 171) ≤ x3 then kx79 x1 x2 μ else gd (inb x2 2) <| gd (inb x3 171) <| zl (sI μ (b0 + 20 + (Int32.toNatClampNeg x2)) (Int32.toNatClampNeg x3) ((μ.1 (b0 + 20 + (Int32.toNatClampNeg x2)) (Int32.toNatClampNeg x3)) &&& x1)) fun μ4_ => f_X2_takeOut_54 b0 kx79 n x1 x2 (x3 + (nI 1)) μ4_)
set_option maxHeartbeats 4000000 in
set_option maxRecDepth 100000 in
theorem w_X2_takeOut_54 {Γ : jG} (C : jC Γ 4 cX2_takeOut RX2 rmX2_takeOut) {b0 : Nat} (hb0 : isNight b0) {kx79 : Int32 → Int32 → Mem → Option (Int32 × Mem)} {ρ : Int32 × Mem} (E : jEI Γ cX2_takeOut ρ.1 ρ.2) (Hkx79 : ∀ (x1 : Int32) (x2 : Int32) (μ : Mem), kx79 x1 x2 μ = some ρ → jJ Γ 4 79 [(0, .ref b0), (1, .int x1), (2, .int x2)] [] μ) : ∀ (n : Nat) (x1 : Int32) (x2 : Int32) (x3 : Int32) (μ : Mem), f_X2_takeOut_54 b0 kx79 n x1 x2 x3 μ = some ρ → jJ Γ 4 54 [(0, .ref b0), (1, .int x1), (2, .int x2), (3, .int x3)] [] μ := by
  intro n
  induction n with
  | zero => intro x1 x2 x3 μ h; rw [f_X2_takeOut_54] at h; cases h
  | succ n ih =>
    intro x1 x2 x3 μ h
    rw [f_X2_takeOut_54] at h
    refine j_iload_n C dX2_takeOut_54 rfl 3 rfl ?_
    refine j_sipush (v := (nI 171)) C dX2_takeOut_55 rfl (by decide) ?_
    refine j_icmp_ge (tgt := 79) C dX2_takeOut_58 rfl (by decide) (fun c1_ => ?_) (fun c1_ => ?_)
    · replace h := if_t h c1_
      refine j_lv [0, 1, 2] rfl ?_
      exact (Hkx79) x1 x2 μ h
    · replace h := if_f h c1_
      refine j_aload_n C dX2_takeOut_61 rfl 0 rfl ?_
      refine j_getR (c := b0 + 19) C dX2_takeOut_62 rfl lkX2_58 (isN_0 hb0) rfl ?_
      refine j_iload_n C dX2_takeOut_65 rfl 2 rfl ?_
      replace h := gd_e h
      obtain ⟨g2_, h⟩ := h
      refine j_aald C dX2_takeOut_66 rfl (Or.inl rfl) (isN_a19 hb0) g2_ ?_
      refine j_iload_n C dX2_takeOut_67 rfl 3 rfl ?_
      refine j_dup2 C dX2_takeOut_68 rfl rfl rfl ?_
      replace h := gd_e h
      obtain ⟨g3_, h⟩ := h
      refine j_iald C dX2_takeOut_69 rfl (isN_rg hb0 g2_) g3_ ?_
      refine j_iload_n C dX2_takeOut_70 rfl 1 rfl ?_
      refine j_iand C dX2_takeOut_71 rfl ?_
      refine j_iast C dX2_takeOut_72 rfl (isN_rg hb0 g2_) g3_ ?_
      refine j_mem (fun μ4_ e5_ => ?_)
      replace h := zl_u h e5_
      refine j_iinc (d := (nI 1)) (v := x3 + (nI 1)) (lv' := [(3, .int (x3 + (nI 1))), (0, .ref b0), (1, .int x1), (2, .int x2)]) C dX2_takeOut_73 rfl (by decide) 3 rfl (by decide) rfl rfl ?_
      refine j_goto (pc' := 54) C dX2_takeOut_76 (by decide) ?_
      refine j_lv [1, 2, 3, 0] rfl ?_
      exact (ih) x1 x2 (x3 + (nI 1)) μ4_ h
def f_X2_takeOut_52 (b0 : Nat) (kb21 : Int32 → Int32 → Mem → Option (Int32 × Mem)) (kx115 : Mem → Option (Int32 × Mem)) (x1 : Int32) (x2 : Int32) (μ : Mem) : Option (Int32 × Mem) := f_X2_takeOut_54 b0 (fun x1 x2 μ => f_X2_takeOut_79 b0 kb21 kx115 x1 x2 μ) zfu x1 x2 (nI 0) μ
set_option maxHeartbeats 4000000 in
set_option maxRecDepth 100000 in
theorem w_X2_takeOut_52 {Γ : jG} (C : jC Γ 4 cX2_takeOut RX2 rmX2_takeOut) {b0 : Nat} (hb0 : isNight b0) {kb21 : Int32 → Int32 → Mem → Option (Int32 × Mem)} {kx115 : Mem → Option (Int32 × Mem)} {ρ : Int32 × Mem} (E : jEI Γ cX2_takeOut ρ.1 ρ.2) (Hkb21 : ∀ (x1 : Int32) (x2 : Int32) (μ : Mem), kb21 x1 x2 μ = some ρ → jJ Γ 4 21 [(0, .ref b0), (1, .int x1), (2, .int x2)] [] μ) (Hkx115 : ∀ (μ : Mem), kx115 μ = some ρ → jJ Γ 4 115 [(0, .ref b0)] [] μ) (x1 : Int32) (x2 : Int32) (μ : Mem) (h : f_X2_takeOut_52 b0 kb21 kx115 x1 x2 μ = some ρ) : jJ Γ 4 52 [(0, .ref b0), (1, .int x1), (2, .int x2)] [] μ := by
  unfold f_X2_takeOut_52 at h
  refine j_iconst (v := (nI 0)) C dX2_takeOut_52 rfl (by decide) ?_
  refine j_istore_n (lv' := [(3, .int (nI 0)), (0, .ref b0), (1, .int x1), (2, .int x2)]) C dX2_takeOut_53 rfl (by decide) rfl ?_
  refine j_lv [1, 2, 3, 0] rfl ?_
  exact w_X2_takeOut_54 C hb0 E (fun x1 x2 μ h => w_X2_takeOut_79 C hb0 E Hkb21 Hkx115 x1 x2 μ h) zfu x1 x2 (nI 0) μ h
def f_X2_takeOut_28 (b0 : Nat) (kx52 : Int32 → Int32 → Mem → Option (Int32 × Mem)) : Nat → Int32 → Int32 → Int32 → Mem → Option (Int32 × Mem)
  | 0, _, _, _, _ => none
  | n + 1, x1, x2, x3, μ => (if (nI 9) ≤ x3 then kx52 x1 x2 μ else gd (inb x2 2) <| gd (inb x3 9) <| zl (sI μ (b0 + 17 + (Int32.toNatClampNeg x2)) (Int32.toNatClampNeg x3) ((μ.1 (b0 + 17 + (Int32.toNatClampNeg x2)) (Int32.toNatClampNeg x3)) &&& x1)) fun μ4_ => f_X2_takeOut_28 b0 kx52 n x1 x2 (x3 + (nI 1)) μ4_)
set_option maxHeartbeats 4000000 in
set_option maxRecDepth 100000 in
theorem w_X2_takeOut_28 {Γ : jG} (C : jC Γ 4 cX2_takeOut RX2 rmX2_takeOut) {b0 : Nat} (hb0 : isNight b0) {kx52 : Int32 → Int32 → Mem → Option (Int32 × Mem)} {ρ : Int32 × Mem} (E : jEI Γ cX2_takeOut ρ.1 ρ.2) (Hkx52 : ∀ (x1 : Int32) (x2 : Int32) (μ : Mem), kx52 x1 x2 μ = some ρ → jJ Γ 4 52 [(0, .ref b0), (1, .int x1), (2, .int x2)] [] μ) : ∀ (n : Nat) (x1 : Int32) (x2 : Int32) (x3 : Int32) (μ : Mem), f_X2_takeOut_28 b0 kx52 n x1 x2 x3 μ = some ρ → jJ Γ 4 28 [(0, .ref b0), (1, .int x1), (2, .int x2), (3, .int x3)] [] μ := by
  intro n
  induction n with
  | zero => intro x1 x2 x3 μ h; rw [f_X2_takeOut_28] at h; cases h
  | succ n ih =>
    intro x1 x2 x3 μ h
    rw [f_X2_takeOut_28] at h
    refine j_iload_n C dX2_takeOut_28 rfl 3 rfl ?_
    refine j_bipush (v := (nI 9)) C dX2_takeOut_29 rfl (by decide) ?_
    refine j_icmp_ge (tgt := 52) C dX2_takeOut_31 rfl (by decide) (fun c1_ => ?_) (fun c1_ => ?_)
    · replace h := if_t h c1_
      refine j_lv [0, 1, 2] rfl ?_
      exact (Hkx52) x1 x2 μ h
    · replace h := if_f h c1_
      refine j_aload_n C dX2_takeOut_34 rfl 0 rfl ?_
      refine j_getR (c := b0 + 16) C dX2_takeOut_35 rfl lkX2_55 (isN_0 hb0) rfl ?_
      refine j_iload_n C dX2_takeOut_38 rfl 2 rfl ?_
      replace h := gd_e h
      obtain ⟨g2_, h⟩ := h
      refine j_aald C dX2_takeOut_39 rfl (Or.inl rfl) (isN_a16 hb0) g2_ ?_
      refine j_iload_n C dX2_takeOut_40 rfl 3 rfl ?_
      refine j_dup2 C dX2_takeOut_41 rfl rfl rfl ?_
      replace h := gd_e h
      obtain ⟨g3_, h⟩ := h
      refine j_iald C dX2_takeOut_42 rfl (isN_hs hb0 g2_) g3_ ?_
      refine j_iload_n C dX2_takeOut_43 rfl 1 rfl ?_
      refine j_iand C dX2_takeOut_44 rfl ?_
      refine j_iast C dX2_takeOut_45 rfl (isN_hs hb0 g2_) g3_ ?_
      refine j_mem (fun μ4_ e5_ => ?_)
      replace h := zl_u h e5_
      refine j_iinc (d := (nI 1)) (v := x3 + (nI 1)) (lv' := [(3, .int (x3 + (nI 1))), (0, .ref b0), (1, .int x1), (2, .int x2)]) C dX2_takeOut_46 rfl (by decide) 3 rfl (by decide) rfl rfl ?_
      refine j_goto (pc' := 28) C dX2_takeOut_49 (by decide) ?_
      refine j_lv [1, 2, 3, 0] rfl ?_
      exact (ih) x1 x2 (x3 + (nI 1)) μ4_ h
def f_X2_takeOut_21 (b0 : Nat) (kx115 : Mem → Option (Int32 × Mem)) : Nat → Int32 → Int32 → Mem → Option (Int32 × Mem)
  | 0, _, _, _ => none
  | n + 1, x1, x2, μ => (if (nI 1) < x2 then kx115 μ else f_X2_takeOut_28 b0 (fun x1 x2 μ => f_X2_takeOut_52 b0 (fun x1 x2 μ => f_X2_takeOut_21 b0 kx115 n x1 x2 μ) kx115 x1 x2 μ) zfu x1 x2 (nI 0) μ)
set_option maxHeartbeats 4000000 in
set_option maxRecDepth 100000 in
theorem w_X2_takeOut_21 {Γ : jG} (C : jC Γ 4 cX2_takeOut RX2 rmX2_takeOut) {b0 : Nat} (hb0 : isNight b0) {kx115 : Mem → Option (Int32 × Mem)} {ρ : Int32 × Mem} (E : jEI Γ cX2_takeOut ρ.1 ρ.2) (Hkx115 : ∀ (μ : Mem), kx115 μ = some ρ → jJ Γ 4 115 [(0, .ref b0)] [] μ) : ∀ (n : Nat) (x1 : Int32) (x2 : Int32) (μ : Mem), f_X2_takeOut_21 b0 kx115 n x1 x2 μ = some ρ → jJ Γ 4 21 [(0, .ref b0), (1, .int x1), (2, .int x2)] [] μ := by
  intro n
  induction n with
  | zero => intro x1 x2 μ h; rw [f_X2_takeOut_21] at h; cases h
  | succ n ih =>
    intro x1 x2 μ h
    rw [f_X2_takeOut_21] at h
    refine j_iload_n C dX2_takeOut_21 rfl 2 rfl ?_
    refine j_iconst (v := (nI 1)) C dX2_takeOut_22 rfl (by decide) ?_
    refine j_icmp_gt (tgt := 115) C dX2_takeOut_23 rfl (by decide) (fun c1_ => ?_) (fun c1_ => ?_)
    · replace h := if_t h c1_
      refine j_lv [0] rfl ?_
      exact (Hkx115) μ h
    · replace h := if_f h c1_
      refine j_iconst (v := (nI 0)) C dX2_takeOut_26 rfl (by decide) ?_
      refine j_istore_n (lv' := [(3, .int (nI 0)), (0, .ref b0), (1, .int x1), (2, .int x2)]) C dX2_takeOut_27 rfl (by decide) rfl ?_
      refine j_lv [1, 2, 3, 0] rfl ?_
      exact w_X2_takeOut_28 C hb0 E (fun x1 x2 μ h => w_X2_takeOut_52 C hb0 E ih Hkx115 x1 x2 μ h) zfu x1 x2 (nI 0) μ h
def f_X2_takeOut (b0 : Nat) (μ : Mem) : Option (Int32 × Mem) := zl (sI μ b0 0 ((μ.1 b0 0) - (nI 1))) fun μ1_ => zl (((nI 1) <<< ((μ1_.1 b0 0) &&& 31)) ^^^ (-1)) fun x3_ => f_X2_takeOut_21 b0 (fun μ => f_X2_takeOut_115 b0 μ) zfu x3_ (nI 0) μ1_
set_option maxHeartbeats 4000000 in
set_option maxRecDepth 100000 in
theorem w_X2_takeOut {Γ : jG} (C : jC Γ 4 cX2_takeOut RX2 rmX2_takeOut) {b0 : Nat} (hb0 : isNight b0) {ρ : Int32 × Mem} (E : jEI Γ cX2_takeOut ρ.1 ρ.2) (μ : Mem) (h : f_X2_takeOut b0 μ = some ρ) : jJ Γ 4 0 [(0, .ref b0)] [] μ := by
  unfold f_X2_takeOut at h
  refine j_aload_n C dX2_takeOut_0 rfl 0 rfl ?_
  refine j_dup C dX2_takeOut_1 rfl rfl ?_
  refine j_getI C dX2_takeOut_2 rfl lkX2_9 (isN_0 hb0) rfl ?_
  refine j_iconst (v := (nI 1)) C dX2_takeOut_5 rfl (by decide) ?_
  refine j_isub C dX2_takeOut_6 rfl ?_
  refine j_putI C dX2_takeOut_7 rfl lpX2_9 (isN_0 hb0) rfl ?_
  refine j_mem (fun μ1_ e2_ => ?_)
  replace h := zl_u h e2_
  refine j_iconst (v := (nI 1)) C dX2_takeOut_10 rfl (by decide) ?_
  refine j_aload_n C dX2_takeOut_11 rfl 0 rfl ?_
  refine j_getI C dX2_takeOut_12 rfl lkX2_9 (isN_0 hb0) rfl ?_
  refine j_ishl C dX2_takeOut_15 rfl ?_
  refine j_iconst (v := (-1)) C dX2_takeOut_16 rfl (by decide) ?_
  refine j_ixor C dX2_takeOut_17 rfl ?_
  refine j_topi (fun x3_ e4_ => ?_)
  replace h := zl_u h e4_
  refine j_istore_n (lv' := [(1, .int x3_), (0, .ref b0)]) C dX2_takeOut_18 rfl (by decide) rfl ?_
  refine j_iconst (v := (nI 0)) C dX2_takeOut_19 rfl (by decide) ?_
  refine j_istore_n (lv' := [(2, .int (nI 0)), (1, .int x3_), (0, .ref b0)]) C dX2_takeOut_20 rfl (by decide) rfl ?_
  refine j_lv [2, 1, 0] rfl ?_
  exact w_X2_takeOut_21 C hb0 E (fun μ h => w_X2_takeOut_115 C hb0 E μ h) zfu x3_ (nI 0) μ1_ h
set_option maxRecDepth 100000 in
theorem c_X2_takeOut (l : Launch) (D : va_G) (ad : Nat → Nat) (cl : Nat → ClassId) {b0 : Nat} (hb0 : isNight b0) (μ : Mem) (ρ : Int32 × Mem) (h : f_X2_takeOut b0 μ = some ρ) : CI l D ad cl yX2_takeOut wsX2_takeOut rmX2_takeOut [.ref b0] μ ρ.1 ρ.2 := c_ofI (cc := cX2_takeOut) (nL := 4) rfl (by decide) (Nat.le_of_ble_eq_true rfl) (fun Γ C E => w_X2_takeOut C hb0 E μ h)
/-! X2_isDark -/
def wsX2_isDark : List Cond := .code yX2_isDark cX2_isDark 2 (some .boolean) :: G0
def rmX2_isDark : Room := { frames := 0, cells := 0, slots := 0, locals := 0 }
def f_X2_isDark_37 (b0 : Nat) (a1 : Int32) (μ : Mem) : Option (Int32 × Mem) := some ((nI 1), μ)
set_option maxHeartbeats 4000000 in
set_option maxRecDepth 100000 in
theorem w_X2_isDark_37 {Γ : jG} (C : jC Γ 2 cX2_isDark RX2 rmX2_isDark) {b0 : Nat} {a1 : Int32} (hb0 : isNight b0) {ρ : Int32 × Mem} (E : (isB ρ.1 = true → jEI Γ cX2_isDark ρ.1 ρ.2)) (μ : Mem) (h : f_X2_isDark_37 b0 a1 μ = some ρ) : jJ Γ 2 37 [] [] μ := by
  unfold f_X2_isDark_37 at h
  refine j_iconst (v := (nI 1)) C dX2_isDark_37 rfl (by decide) ?_
  refine j_goto (pc' := 42) C dX2_isDark_38 (by decide) ?_
  obtain rfl := Option.some.inj h
  exact j_iret (E isB_1) dX2_isDark_42
def f_X2_isDark (b0 : Nat) (a1 : Int32) (μ : Mem) : Option (Int32 × Mem) := (if (((μ.1 b0 5) >>> (a1 &&& 31)) &&& (nI 1)) = 0 then gd (inb a1 9) <| (if (μ.1 b0 1) < (μ.1 (b0 + 4) (Int32.toNatClampNeg a1)) then some ((nI 0), μ) else (if (μ.1 (b0 + 5) (Int32.toNatClampNeg a1)) ≤ (μ.1 b0 1) then some ((nI 0), μ) else f_X2_isDark_37 b0 a1 μ)) else f_X2_isDark_37 b0 a1 μ)
set_option maxHeartbeats 4000000 in
set_option maxRecDepth 100000 in
theorem w_X2_isDark {Γ : jG} (C : jC Γ 2 cX2_isDark RX2 rmX2_isDark) {b0 : Nat} {a1 : Int32} (hb0 : isNight b0) {ρ : Int32 × Mem} (E : (isB ρ.1 = true → jEI Γ cX2_isDark ρ.1 ρ.2)) (μ : Mem) (h : f_X2_isDark b0 a1 μ = some ρ) : jJ Γ 2 0 [(0, .ref b0), (1, .int a1)] [] μ := by
  unfold f_X2_isDark at h
  refine j_aload_n C dX2_isDark_0 rfl 0 rfl ?_
  refine j_getI C dX2_isDark_1 rfl lkX2_27 (isN_0 hb0) rfl ?_
  refine j_iload_n C dX2_isDark_4 rfl 1 rfl ?_
  refine j_ishr C dX2_isDark_5 rfl ?_
  refine j_iconst (v := (nI 1)) C dX2_isDark_6 rfl (by decide) ?_
  refine j_iand C dX2_isDark_7 rfl ?_
  refine j_if_ne (tgt := 37) C dX2_isDark_8 rfl (by decide) (fun c1_ => ?_) (fun c1_ => ?_)
  · replace h := if_f h c1_
    refine j_lv [] rfl ?_
    exact w_X2_isDark_37 C hb0 E μ h
  · replace h := if_t h c1_
    refine j_aload_n C dX2_isDark_11 rfl 0 rfl ?_
    refine j_getR (c := b0 + 4) C dX2_isDark_12 rfl lkX2_44 (isN_0 hb0) rfl ?_
    refine j_iload_n C dX2_isDark_15 rfl 1 rfl ?_
    replace h := gd_e h
    obtain ⟨g2_, h⟩ := h
    refine j_iald C dX2_isDark_16 rfl (isN_a4 hb0) g2_ ?_
    refine j_aload_n C dX2_isDark_17 rfl 0 rfl ?_
    refine j_getI C dX2_isDark_18 rfl lkX2_15 (isN_0 hb0) rfl ?_
    refine j_icmp_gt (tgt := 41) C dX2_isDark_21 rfl (by decide) (fun c3_ => ?_) (fun c3_ => ?_)
    · replace h := if_t h c3_
      refine j_iconst (v := (nI 0)) C dX2_isDark_41 rfl (by decide) ?_
      obtain rfl := Option.some.inj h
      exact j_iret (E isB_0) dX2_isDark_42
    · replace h := if_f h c3_
      refine j_aload_n C dX2_isDark_24 rfl 0 rfl ?_
      refine j_getI C dX2_isDark_25 rfl lkX2_15 (isN_0 hb0) rfl ?_
      refine j_aload_n C dX2_isDark_28 rfl 0 rfl ?_
      refine j_getR (c := b0 + 5) C dX2_isDark_29 rfl lkX2_47 (isN_0 hb0) rfl ?_
      refine j_iload_n C dX2_isDark_32 rfl 1 rfl ?_
      refine j_iald C dX2_isDark_33 rfl (isN_a5 hb0) g2_ ?_
      refine j_icmp_ge (tgt := 41) C dX2_isDark_34 rfl (by decide) (fun c4_ => ?_) (fun c4_ => ?_)
      · replace h := if_t h c4_
        refine j_iconst (v := (nI 0)) C dX2_isDark_41 rfl (by decide) ?_
        obtain rfl := Option.some.inj h
        exact j_iret (E isB_0) dX2_isDark_42
      · replace h := if_f h c4_
        refine j_lv [] rfl ?_
        exact w_X2_isDark_37 C hb0 E μ h
set_option maxRecDepth 100000 in
theorem c_X2_isDark (l : Launch) (D : va_G) (ad : Nat → Nat) (cl : Nat → ClassId) {b0 : Nat} {a1 : Int32} (hb0 : isNight b0) (μ : Mem) (ρ : Int32 × Mem) (h : f_X2_isDark b0 a1 μ = some ρ) : CI l D ad cl yX2_isDark wsX2_isDark rmX2_isDark [.ref b0, .int a1] μ ρ.1 ρ.2 := c_ofZ (cc := cX2_isDark) (nL := 2) rfl (by decide) (Nat.le_of_ble_eq_true rfl) (fun Γ C E => w_X2_isDark C hb0 E μ h)
/-! X2_isTrue -/
def wsX2_isTrue : List Cond := .code yX2_isTrue cX2_isTrue 2 (some .boolean) :: G0
def rmX2_isTrue : Room := { frames := 0, cells := 0, slots := 0, locals := 0 }
def f_X2_isTrue_19 (b0 : Nat) (a1 : Int32) (μ : Mem) : Option (Int32 × Mem) := some ((nI 1), μ)
set_option maxHeartbeats 4000000 in
set_option maxRecDepth 100000 in
theorem w_X2_isTrue_19 {Γ : jG} (C : jC Γ 2 cX2_isTrue RX2 rmX2_isTrue) {b0 : Nat} {a1 : Int32} (hb0 : isNight b0) {ρ : Int32 × Mem} (E : (isB ρ.1 = true → jEI Γ cX2_isTrue ρ.1 ρ.2)) (μ : Mem) (h : f_X2_isTrue_19 b0 a1 μ = some ρ) : jJ Γ 2 19 [] [] μ := by
  unfold f_X2_isTrue_19 at h
  refine j_iconst (v := (nI 1)) C dX2_isTrue_19 rfl (by decide) ?_
  refine j_goto (pc' := 24) C dX2_isTrue_20 (by decide) ?_
  obtain rfl := Option.some.inj h
  exact j_iret (E isB_1) dX2_isTrue_24
def f_X2_isTrue (b0 : Nat) (a1 : Int32) (μ : Mem) : Option (Int32 × Mem) := gd (inb a1 9) <| (if (μ.1 (b0 + 1) (Int32.toNatClampNeg a1)) = 0 then f_X2_isTrue_19 b0 a1 μ else (if (μ.1 (b0 + 1) (Int32.toNatClampNeg a1)) = (nI 3) then f_X2_isTrue_19 b0 a1 μ else some ((nI 0), μ)))
set_option maxHeartbeats 4000000 in
set_option maxRecDepth 100000 in
theorem w_X2_isTrue {Γ : jG} (C : jC Γ 2 cX2_isTrue RX2 rmX2_isTrue) {b0 : Nat} {a1 : Int32} (hb0 : isNight b0) {ρ : Int32 × Mem} (E : (isB ρ.1 = true → jEI Γ cX2_isTrue ρ.1 ρ.2)) (μ : Mem) (h : f_X2_isTrue b0 a1 μ = some ρ) : jJ Γ 2 0 [(0, .ref b0), (1, .int a1)] [] μ := by
  unfold f_X2_isTrue at h
  refine j_aload_n C dX2_isTrue_0 rfl 0 rfl ?_
  refine j_getR (c := b0 + 1) C dX2_isTrue_1 rfl lkX2_34 (isN_0 hb0) rfl ?_
  refine j_iload_n C dX2_isTrue_4 rfl 1 rfl ?_
  replace h := gd_e h
  obtain ⟨g1_, h⟩ := h
  refine j_iald C dX2_isTrue_5 rfl (isN_a1 hb0) g1_ ?_
  refine j_if_eq (tgt := 19) C dX2_isTrue_6 rfl (by decide) (fun c2_ => ?_) (fun c2_ => ?_)
  · replace h := if_t h c2_
    refine j_lv [] rfl ?_
    exact w_X2_isTrue_19 C hb0 E μ h
  · replace h := if_f h c2_
    refine j_aload_n C dX2_isTrue_9 rfl 0 rfl ?_
    refine j_getR (c := b0 + 1) C dX2_isTrue_10 rfl lkX2_34 (isN_0 hb0) rfl ?_
    refine j_iload_n C dX2_isTrue_13 rfl 1 rfl ?_
    refine j_iald C dX2_isTrue_14 rfl (isN_a1 hb0) g1_ ?_
    refine j_iconst (v := (nI 3)) C dX2_isTrue_15 rfl (by decide) ?_
    refine j_icmp_ne (tgt := 23) C dX2_isTrue_16 rfl (by decide) (fun c3_ => ?_) (fun c3_ => ?_)
    · replace h := if_f h c3_
      refine j_iconst (v := (nI 0)) C dX2_isTrue_23 rfl (by decide) ?_
      obtain rfl := Option.some.inj h
      exact j_iret (E isB_0) dX2_isTrue_24
    · replace h := if_t h c3_
      refine j_lv [] rfl ?_
      exact w_X2_isTrue_19 C hb0 E μ h
set_option maxRecDepth 100000 in
theorem c_X2_isTrue (l : Launch) (D : va_G) (ad : Nat → Nat) (cl : Nat → ClassId) {b0 : Nat} {a1 : Int32} (hb0 : isNight b0) (μ : Mem) (ρ : Int32 × Mem) (h : f_X2_isTrue b0 a1 μ = some ρ) : CI l D ad cl yX2_isTrue wsX2_isTrue rmX2_isTrue [.ref b0, .int a1] μ ρ.1 ρ.2 := c_ofZ (cc := cX2_isTrue) (nL := 2) rfl (by decide) (Nat.le_of_ble_eq_true rfl) (fun Γ C E => w_X2_isTrue C hb0 E μ h)
/-! X2_believed -/
def wsX2_believed : List Cond := .code yX2_believed cX2_believed 2 (some .int) :: G0
def rmX2_believed : Room := { frames := 0, cells := 0, slots := 0, locals := 0 }
def f_X2_believed (b0 : Nat) (a1 : Int32) (μ : Mem) : Option (Int32 × Mem) := gd (inb (nI 1) 2) <| gd (inb a1 9) <| some (((μ.1 (b0 + 17 + (Int32.toNatClampNeg (nI 1))) (Int32.toNatClampNeg a1)) >>> (a1 &&& 31)) &&& (nI 1), μ)
set_option maxHeartbeats 4000000 in
set_option maxRecDepth 100000 in
theorem w_X2_believed {Γ : jG} (C : jC Γ 2 cX2_believed RX2 rmX2_believed) {b0 : Nat} {a1 : Int32} (hb0 : isNight b0) {ρ : Int32 × Mem} (E : jEI Γ cX2_believed ρ.1 ρ.2) (μ : Mem) (h : f_X2_believed b0 a1 μ = some ρ) : jJ Γ 2 0 [(0, .ref b0), (1, .int a1)] [] μ := by
  unfold f_X2_believed at h
  refine j_aload_n C dX2_believed_0 rfl 0 rfl ?_
  refine j_getR (c := b0 + 16) C dX2_believed_1 rfl lkX2_55 (isN_0 hb0) rfl ?_
  refine j_iconst (v := (nI 1)) C dX2_believed_4 rfl (by decide) ?_
  replace h := gd_e h
  obtain ⟨g1_, h⟩ := h
  refine j_aald C dX2_believed_5 rfl (Or.inl rfl) (isN_a16 hb0) g1_ ?_
  refine j_iload_n C dX2_believed_6 rfl 1 rfl ?_
  replace h := gd_e h
  obtain ⟨g2_, h⟩ := h
  refine j_iald C dX2_believed_7 rfl (isN_hs hb0 g1_) g2_ ?_
  refine j_iload_n C dX2_believed_8 rfl 1 rfl ?_
  refine j_ishr C dX2_believed_9 rfl ?_
  refine j_iconst (v := (nI 1)) C dX2_believed_10 rfl (by decide) ?_
  refine j_iand C dX2_believed_11 rfl ?_
  obtain rfl := Option.some.inj h
  exact j_iret E dX2_believed_12
set_option maxRecDepth 100000 in
theorem c_X2_believed (l : Launch) (D : va_G) (ad : Nat → Nat) (cl : Nat → ClassId) {b0 : Nat} {a1 : Int32} (hb0 : isNight b0) (μ : Mem) (ρ : Int32 × Mem) (h : f_X2_believed b0 a1 μ = some ρ) : CI l D ad cl yX2_believed wsX2_believed rmX2_believed [.ref b0, .int a1] μ ρ.1 ρ.2 := c_ofI (cc := cX2_believed) (nL := 2) rfl (by decide) (Nat.le_of_ble_eq_true rfl) (fun Γ C E => w_X2_believed C hb0 E μ h)
/-! X2_bitColour -/
def wsX2_bitColour : List Cond := .code yX2_bitColour cX2_bitColour 3 (some .int) :: G0
def rmX2_bitColour : Room := { frames := 0, cells := 0, slots := 0, locals := 0 }
def f_X2_bitColour (a0 : Int32) (a1 : Int32) (a2 : Int32) (μ : Mem) : Option (Int32 × Mem) := (if ((a0 >>> (a2 &&& 31)) &&& (nI 1)) = 0 then (if ((a1 >>> (a2 &&& 31)) &&& (nI 1)) = 0 then some ((nI 2), μ) else some ((nI 1), μ)) else some ((nI 0), μ))
set_option maxHeartbeats 4000000 in
set_option maxRecDepth 100000 in
theorem w_X2_bitColour {Γ : jG} (C : jC Γ 3 cX2_bitColour RX2 rmX2_bitColour) {a0 : Int32} {a1 : Int32} {a2 : Int32} {ρ : Int32 × Mem} (E : jEI Γ cX2_bitColour ρ.1 ρ.2) (μ : Mem) (h : f_X2_bitColour a0 a1 a2 μ = some ρ) : jJ Γ 3 0 [(0, .int a0), (1, .int a1), (2, .int a2)] [] μ := by
  unfold f_X2_bitColour at h
  refine j_iload_n C dX2_bitColour_0 rfl 0 rfl ?_
  refine j_iload_n C dX2_bitColour_1 rfl 2 rfl ?_
  refine j_ishr C dX2_bitColour_2 rfl ?_
  refine j_iconst (v := (nI 1)) C dX2_bitColour_3 rfl (by decide) ?_
  refine j_iand C dX2_bitColour_4 rfl ?_
  refine j_if_eq (tgt := 10) C dX2_bitColour_5 rfl (by decide) (fun c1_ => ?_) (fun c1_ => ?_)
  · replace h := if_t h c1_
    refine j_iload_n C dX2_bitColour_10 rfl 1 rfl ?_
    refine j_iload_n C dX2_bitColour_11 rfl 2 rfl ?_
    refine j_ishr C dX2_bitColour_12 rfl ?_
    refine j_iconst (v := (nI 1)) C dX2_bitColour_13 rfl (by decide) ?_
    refine j_iand C dX2_bitColour_14 rfl ?_
    refine j_if_eq (tgt := 22) C dX2_bitColour_15 rfl (by decide) (fun c2_ => ?_) (fun c2_ => ?_)
    · replace h := if_t h c2_
      refine j_iconst (v := (nI 2)) C dX2_bitColour_22 rfl (by decide) ?_
      obtain rfl := Option.some.inj h
      exact j_iret E dX2_bitColour_23
    · replace h := if_f h c2_
      refine j_iconst (v := (nI 1)) C dX2_bitColour_18 rfl (by decide) ?_
      refine j_goto (pc' := 23) C dX2_bitColour_19 (by decide) ?_
      obtain rfl := Option.some.inj h
      exact j_iret E dX2_bitColour_23
  · replace h := if_f h c1_
    refine j_iconst (v := (nI 0)) C dX2_bitColour_8 rfl (by decide) ?_
    obtain rfl := Option.some.inj h
    exact j_iret E dX2_bitColour_9
set_option maxRecDepth 100000 in
theorem c_X2_bitColour (l : Launch) (D : va_G) (ad : Nat → Nat) (cl : Nat → ClassId) {a0 : Int32} {a1 : Int32} {a2 : Int32} (μ : Mem) (ρ : Int32 × Mem) (h : f_X2_bitColour a0 a1 a2 μ = some ρ) : CI l D ad cl yX2_bitColour wsX2_bitColour rmX2_bitColour [.int a0, .int a1, .int a2] μ ρ.1 ρ.2 := c_ofI (cc := cX2_bitColour) (nL := 3) rfl (by decide) (Nat.le_of_ble_eq_true rfl) (fun Γ C E => w_X2_bitColour C E μ h)
theorem gsX2_77 : jm_gs RX2 77 yX2_bitColour wsX2_bitColour 3 3 := ⟨_, _, gi_S gwt2_122 gwt2_123 gwt1_3 gwt2_124, rfl, by decide +kernel⟩
/-! X2_colourOf -/
def wsX2_colourOf : List Cond := .code yX2_colourOf cX2_colourOf 3 (some .int) :: G0
def rmX2_colourOf : Room := { frames := 1, cells := 0, slots := 0, locals := 22 }
def f_X2_colourOf (b0 : Nat) (a1 : Int32) (a2 : Int32) (μ : Mem) : Option (Int32 × Mem) := gd (inb (nI 0) 2) <| gd (inb a1 9) <| gd (inb (nI 1) 2) <| Option.bind (f_X2_bitColour (μ.1 (b0 + 17 + (Int32.toNatClampNeg (nI 0))) (Int32.toNatClampNeg a1)) (μ.1 (b0 + 17 + (Int32.toNatClampNeg (nI 1))) (Int32.toNatClampNeg a1)) a2 μ) fun p4_ => some (p4_.1, p4_.2)
set_option maxHeartbeats 4000000 in
set_option maxRecDepth 100000 in
theorem w_X2_colourOf {Γ : jG} (C : jC Γ 3 cX2_colourOf RX2 rmX2_colourOf) {b0 : Nat} {a1 : Int32} {a2 : Int32} (hb0 : isNight b0) {ρ : Int32 × Mem} (E : jEI Γ cX2_colourOf ρ.1 ρ.2) (μ : Mem) (h : f_X2_colourOf b0 a1 a2 μ = some ρ) : jJ Γ 3 0 [(0, .ref b0), (1, .int a1), (2, .int a2)] [] μ := by
  unfold f_X2_colourOf at h
  refine j_aload_n C dX2_colourOf_0 rfl 0 rfl ?_
  refine j_getR (c := b0 + 16) C dX2_colourOf_1 rfl lkX2_55 (isN_0 hb0) rfl ?_
  refine j_iconst (v := (nI 0)) C dX2_colourOf_4 rfl (by decide) ?_
  replace h := gd_e h
  obtain ⟨g1_, h⟩ := h
  refine j_aald C dX2_colourOf_5 rfl (Or.inl rfl) (isN_a16 hb0) g1_ ?_
  refine j_iload_n C dX2_colourOf_6 rfl 1 rfl ?_
  replace h := gd_e h
  obtain ⟨g2_, h⟩ := h
  refine j_iald C dX2_colourOf_7 rfl (isN_hs hb0 g1_) g2_ ?_
  refine j_aload_n C dX2_colourOf_8 rfl 0 rfl ?_
  refine j_getR (c := b0 + 16) C dX2_colourOf_9 rfl lkX2_55 (isN_0 hb0) rfl ?_
  refine j_iconst (v := (nI 1)) C dX2_colourOf_12 rfl (by decide) ?_
  replace h := gd_e h
  obtain ⟨g3_, h⟩ := h
  refine j_aald C dX2_colourOf_13 rfl (Or.inl rfl) (isN_a16 hb0) g3_ ?_
  refine j_iload_n C dX2_colourOf_14 rfl 1 rfl ?_
  refine j_iald C dX2_colourOf_15 rfl (isN_hs hb0 g3_) g2_ ?_
  refine j_iload_n C dX2_colourOf_16 rfl 2 rfl ?_
  replace h := bd_e h
  obtain ⟨p4_, h5_, h⟩ := h
  refine j_cSI (av := [.int (μ.1 (b0 + 17 + (Int32.toNatClampNeg (nI 0))) (Int32.toNatClampNeg a1)), .int (μ.1 (b0 + 17 + (Int32.toNatClampNeg (nI 1))) (Int32.toNatClampNeg a1)), .int a2]) (rest := []) C dX2_colourOf_17 rfl (c_X2_bitColour _ _ _ _ μ p4_ h5_) gsX2_77 ⟨⟨rfl, rfl⟩, Nat.le_of_ble_eq_true rfl, Nat.le_of_ble_eq_true rfl⟩ rfl rfl (Nat.le_of_ble_eq_true rfl) ?_
  obtain rfl := Option.some.inj h
  exact j_iret E dX2_colourOf_20
set_option maxRecDepth 100000 in
theorem c_X2_colourOf (l : Launch) (D : va_G) (ad : Nat → Nat) (cl : Nat → ClassId) {b0 : Nat} {a1 : Int32} {a2 : Int32} (hb0 : isNight b0) (μ : Mem) (ρ : Int32 × Mem) (h : f_X2_colourOf b0 a1 a2 μ = some ρ) : CI l D ad cl yX2_colourOf wsX2_colourOf rmX2_colourOf [.ref b0, .int a1, .int a2] μ ρ.1 ρ.2 := c_ofI (cc := cX2_colourOf) (nL := 3) rfl (by decide) (Nat.le_of_ble_eq_true rfl) (fun Γ C E => w_X2_colourOf C hb0 E μ h)
/-! X2_waiting -/
def wsX2_waiting : List Cond := .code yX2_waiting cX2_waiting 5 (some .int) :: G0
def rmX2_waiting : Room := { frames := 1, cells := 0, slots := 0, locals := 22 }
def f_X2_waiting (b0 : Nat) (a1 : Int32) (a2 : Int32) (a3 : Int32) (μ : Mem) : Option (Int32 × Mem) := Option.bind (f_X2_ringPlace (((μ.1 b0 4) + a3) - ((μ.1 b0 4) + a3) / (nI 19) * (nI 19)) a1 μ) fun p1_ => gd (inb (nI 0) 2) <| gd (inb p1_.1 171) <| gd (inb (nI 1) 2) <| Option.bind (f_X2_bitColour (p1_.2.1 (b0 + 20 + (Int32.toNatClampNeg (nI 0))) (Int32.toNatClampNeg p1_.1)) (p1_.2.1 (b0 + 20 + (Int32.toNatClampNeg (nI 1))) (Int32.toNatClampNeg p1_.1)) a2 p1_.2) fun p6_ => some (p6_.1, p6_.2)
set_option maxHeartbeats 4000000 in
set_option maxRecDepth 100000 in
theorem w_X2_waiting {Γ : jG} (C : jC Γ 5 cX2_waiting RX2 rmX2_waiting) {b0 : Nat} {a1 : Int32} {a2 : Int32} {a3 : Int32} (hb0 : isNight b0) {ρ : Int32 × Mem} (E : jEI Γ cX2_waiting ρ.1 ρ.2) (μ : Mem) (h : f_X2_waiting b0 a1 a2 a3 μ = some ρ) : jJ Γ 5 0 [(0, .ref b0), (1, .int a1), (2, .int a2), (3, .int a3)] [] μ := by
  unfold f_X2_waiting at h
  refine j_aload_n C dX2_waiting_0 rfl 0 rfl ?_
  refine j_getI C dX2_waiting_1 rfl lkX2_24 (isN_0 hb0) rfl ?_
  refine j_iload_n C dX2_waiting_4 rfl 3 rfl ?_
  refine j_iadd C dX2_waiting_5 rfl ?_
  refine j_bipush (v := (nI 19)) C dX2_waiting_6 rfl (by decide) ?_
  refine j_irem C dX2_waiting_8 rfl (by decide) ?_
  refine j_iload_n C dX2_waiting_9 rfl 1 rfl ?_
  replace h := bd_e h
  obtain ⟨p1_, h2_, h⟩ := h
  refine j_cSI (av := [.int (((μ.1 b0 4) + a3) - ((μ.1 b0 4) + a3) / (nI 19) * (nI 19)), .int a1]) (rest := []) C dX2_waiting_10 rfl (c_X2_ringPlace _ _ _ _ μ p1_ h2_) gsX2_73 ⟨⟨rfl, rfl⟩, Nat.le_of_ble_eq_true rfl, Nat.le_of_ble_eq_true rfl⟩ rfl rfl (Nat.le_of_ble_eq_true rfl) ?_
  refine j_istore (lv' := [(4, .int p1_.1), (0, .ref b0), (1, .int a1), (2, .int a2), (3, .int a3)]) C dX2_waiting_13 rfl (by decide) rfl ?_
  refine j_aload_n C dX2_waiting_15 rfl 1 rfl ?_
  refine j_getR (c := b0 + 19) C dX2_waiting_16 rfl lkX2_58 (isN_0 hb0) rfl ?_
  refine j_iconst (v := (nI 0)) C dX2_waiting_19 rfl (by decide) ?_
  replace h := gd_e h
  obtain ⟨g3_, h⟩ := h
  refine j_aald C dX2_waiting_20 rfl (Or.inl rfl) (isN_a19 hb0) g3_ ?_
  refine j_iload C dX2_waiting_21 rfl 0 rfl ?_
  replace h := gd_e h
  obtain ⟨g4_, h⟩ := h
  refine j_iald C dX2_waiting_23 rfl (isN_rg hb0 g3_) g4_ ?_
  refine j_aload_n C dX2_waiting_24 rfl 1 rfl ?_
  refine j_getR (c := b0 + 19) C dX2_waiting_25 rfl lkX2_58 (isN_0 hb0) rfl ?_
  refine j_iconst (v := (nI 1)) C dX2_waiting_28 rfl (by decide) ?_
  replace h := gd_e h
  obtain ⟨g5_, h⟩ := h
  refine j_aald C dX2_waiting_29 rfl (Or.inl rfl) (isN_a19 hb0) g5_ ?_
  refine j_iload C dX2_waiting_30 rfl 0 rfl ?_
  refine j_iald C dX2_waiting_32 rfl (isN_rg hb0 g5_) g4_ ?_
  refine j_iload_n C dX2_waiting_33 rfl 3 rfl ?_
  replace h := bd_e h
  obtain ⟨p6_, h7_, h⟩ := h
  refine j_cSI (av := [.int (p1_.2.1 (b0 + 20 + (Int32.toNatClampNeg (nI 0))) (Int32.toNatClampNeg p1_.1)), .int (p1_.2.1 (b0 + 20 + (Int32.toNatClampNeg (nI 1))) (Int32.toNatClampNeg p1_.1)), .int a2]) (rest := []) C dX2_waiting_34 rfl (c_X2_bitColour _ _ _ _ p1_.2 p6_ h7_) gsX2_77 ⟨⟨rfl, rfl⟩, Nat.le_of_ble_eq_true rfl, Nat.le_of_ble_eq_true rfl⟩ rfl rfl (Nat.le_of_ble_eq_true rfl) ?_
  obtain rfl := Option.some.inj h
  exact j_iret E dX2_waiting_37
set_option maxRecDepth 100000 in
theorem c_X2_waiting (l : Launch) (D : va_G) (ad : Nat → Nat) (cl : Nat → ClassId) {b0 : Nat} {a1 : Int32} {a2 : Int32} {a3 : Int32} (hb0 : isNight b0) (μ : Mem) (ρ : Int32 × Mem) (h : f_X2_waiting b0 a1 a2 a3 μ = some ρ) : CI l D ad cl yX2_waiting wsX2_waiting rmX2_waiting [.ref b0, .int a1, .int a2, .int a3] μ ρ.1 ρ.2 := c_ofI (cc := cX2_waiting) (nL := 5) rfl (by decide) (Nat.le_of_ble_eq_true rfl) (fun Γ C E => w_X2_waiting C hb0 E μ h)
theorem gsX2_81 : jm_gs RX2 81 yJ6_bitCount_0f7a4 wsJ6_bitCount_0f7a4 1 1 := ⟨_, _, gi_S gwt2_133 gwt2_134 gwt1_10 gwt2_135, rfl, by decide +kernel⟩
/-! X2_counted -/
def wsX2_counted : List Cond := .code yX2_counted cX2_counted 3 (some .int) :: G0
def rmX2_counted : Room := { frames := 1, cells := 0, slots := 0, locals := 20 }
def f_X2_counted_33 (b0 : Nat) (a1 : Int32) (a2 : Int32) (t0 : Int32) (μ : Mem) : Option (Int32 × Mem) := Option.bind (f_J6_bitCount_0f7a4 t0 μ) fun p1_ => some (p1_.1, p1_.2)
set_option maxHeartbeats 4000000 in
set_option maxRecDepth 100000 in
theorem w_X2_counted_33 {Γ : jG} (C : jC Γ 3 cX2_counted RX2 rmX2_counted) {b0 : Nat} {a1 : Int32} {a2 : Int32} (hb0 : isNight b0) {ρ : Int32 × Mem} (E : jEI Γ cX2_counted ρ.1 ρ.2) (t0 : Int32) (μ : Mem) (h : f_X2_counted_33 b0 a1 a2 t0 μ = some ρ) : jJ Γ 3 33 [] [.int t0] μ := by
  unfold f_X2_counted_33 at h
  replace h := bd_e h
  obtain ⟨p1_, h2_, h⟩ := h
  refine j_cSI (av := [.int t0]) (rest := []) C dX2_counted_33 rfl (c_J6_bitCount_0f7a4 _ _ _ _ μ p1_ h2_) gsX2_81 ⟨⟨rfl, rfl⟩, Nat.le_of_ble_eq_true rfl, Nat.le_of_ble_eq_true rfl⟩ rfl rfl (Nat.le_of_ble_eq_true rfl) ?_
  obtain rfl := Option.some.inj h
  exact j_iret E dX2_counted_36
def f_X2_counted (b0 : Nat) (a1 : Int32) (a2 : Int32) (μ : Mem) : Option (Int32 × Mem) := (if a2 = (nI 2) then gd (inb (nI 0) 2) <| gd (inb a1 9) <| gd (inb (nI 1) 2) <| f_X2_counted_33 b0 a1 a2 ((μ.1 (b0 + 17 + (Int32.toNatClampNeg (nI 0))) (Int32.toNatClampNeg a1)) ||| (μ.1 (b0 + 17 + (Int32.toNatClampNeg (nI 1))) (Int32.toNatClampNeg a1))) μ else gd (inb a2 2) <| gd (inb a1 9) <| f_X2_counted_33 b0 a1 a2 (μ.1 (b0 + 17 + (Int32.toNatClampNeg a2)) (Int32.toNatClampNeg a1)) μ)
set_option maxHeartbeats 4000000 in
set_option maxRecDepth 100000 in
theorem w_X2_counted {Γ : jG} (C : jC Γ 3 cX2_counted RX2 rmX2_counted) {b0 : Nat} {a1 : Int32} {a2 : Int32} (hb0 : isNight b0) {ρ : Int32 × Mem} (E : jEI Γ cX2_counted ρ.1 ρ.2) (μ : Mem) (h : f_X2_counted b0 a1 a2 μ = some ρ) : jJ Γ 3 0 [(0, .ref b0), (1, .int a1), (2, .int a2)] [] μ := by
  unfold f_X2_counted at h
  refine j_iload_n C dX2_counted_0 rfl 2 rfl ?_
  refine j_iconst (v := (nI 2)) C dX2_counted_1 rfl (by decide) ?_
  refine j_icmp_ne (tgt := 25) C dX2_counted_2 rfl (by decide) (fun c1_ => ?_) (fun c1_ => ?_)
  · replace h := if_f h c1_
    refine j_aload_n C dX2_counted_25 rfl 0 rfl ?_
    refine j_getR (c := b0 + 16) C dX2_counted_26 rfl lkX2_55 (isN_0 hb0) rfl ?_
    refine j_iload_n C dX2_counted_29 rfl 2 rfl ?_
    replace h := gd_e h
    obtain ⟨g2_, h⟩ := h
    refine j_aald C dX2_counted_30 rfl (Or.inl rfl) (isN_a16 hb0) g2_ ?_
    refine j_iload_n C dX2_counted_31 rfl 1 rfl ?_
    replace h := gd_e h
    obtain ⟨g3_, h⟩ := h
    refine j_iald C dX2_counted_32 rfl (isN_hs hb0 g2_) g3_ ?_
    refine j_lv [] rfl ?_
    exact w_X2_counted_33 C hb0 E (μ.1 (b0 + 17 + (Int32.toNatClampNeg a2)) (Int32.toNatClampNeg a1)) μ h
  · replace h := if_t h c1_
    refine j_aload_n C dX2_counted_5 rfl 0 rfl ?_
    refine j_getR (c := b0 + 16) C dX2_counted_6 rfl lkX2_55 (isN_0 hb0) rfl ?_
    refine j_iconst (v := (nI 0)) C dX2_counted_9 rfl (by decide) ?_
    replace h := gd_e h
    obtain ⟨g4_, h⟩ := h
    refine j_aald C dX2_counted_10 rfl (Or.inl rfl) (isN_a16 hb0) g4_ ?_
    refine j_iload_n C dX2_counted_11 rfl 1 rfl ?_
    replace h := gd_e h
    obtain ⟨g5_, h⟩ := h
    refine j_iald C dX2_counted_12 rfl (isN_hs hb0 g4_) g5_ ?_
    refine j_aload_n C dX2_counted_13 rfl 0 rfl ?_
    refine j_getR (c := b0 + 16) C dX2_counted_14 rfl lkX2_55 (isN_0 hb0) rfl ?_
    refine j_iconst (v := (nI 1)) C dX2_counted_17 rfl (by decide) ?_
    replace h := gd_e h
    obtain ⟨g6_, h⟩ := h
    refine j_aald C dX2_counted_18 rfl (Or.inl rfl) (isN_a16 hb0) g6_ ?_
    refine j_iload_n C dX2_counted_19 rfl 1 rfl ?_
    refine j_iald C dX2_counted_20 rfl (isN_hs hb0 g6_) g5_ ?_
    refine j_ior C dX2_counted_21 rfl ?_
    refine j_goto (pc' := 33) C dX2_counted_22 (by decide) ?_
    refine j_lv [] rfl ?_
    exact w_X2_counted_33 C hb0 E ((μ.1 (b0 + 17 + (Int32.toNatClampNeg (nI 0))) (Int32.toNatClampNeg a1)) ||| (μ.1 (b0 + 17 + (Int32.toNatClampNeg (nI 1))) (Int32.toNatClampNeg a1))) μ h
set_option maxRecDepth 100000 in
theorem c_X2_counted (l : Launch) (D : va_G) (ad : Nat → Nat) (cl : Nat → ClassId) {b0 : Nat} {a1 : Int32} {a2 : Int32} (hb0 : isNight b0) (μ : Mem) (ρ : Int32 × Mem) (h : f_X2_counted b0 a1 a2 μ = some ρ) : CI l D ad cl yX2_counted wsX2_counted rmX2_counted [.ref b0, .int a1, .int a2] μ ρ.1 ρ.2 := c_ofI (cc := cX2_counted) (nL := 3) rfl (by decide) (Nat.le_of_ble_eq_true rfl) (fun Γ C E => w_X2_counted C hb0 E μ h)
/-! X2_allWaiting -/
def wsX2_allWaiting : List Cond := .code yX2_allWaiting cX2_allWaiting 3 (some .int) :: G0
def rmX2_allWaiting : Room := { frames := 1, cells := 0, slots := 0, locals := 20 }
def f_X2_allWaiting_4 (b0 : Nat) : Nat → Int32 → Int32 → Mem → Option (Int32 × Mem)
  | 0, _, _, _ => none
  | n + 1, x1, x2, μ => (if (nI 171) ≤ x2 then some (x1, μ) else gd (inb (nI 0) 2) <| gd (inb x2 171) <| Option.bind (f_J6_bitCount_0f7a4 (μ.1 (b0 + 20 + (Int32.toNatClampNeg (nI 0))) (Int32.toNatClampNeg x2)) μ) fun p4_ => gd (inb (nI 1) 2) <| Option.bind (f_J6_bitCount_0f7a4 (p4_.2.1 (b0 + 20 + (Int32.toNatClampNeg (nI 1))) (Int32.toNatClampNeg x2)) p4_.2) fun p7_ => zl (x1 + (p4_.1 + p7_.1)) fun x9_ => f_X2_allWaiting_4 b0 n x9_ (x2 + (nI 1)) p7_.2)
set_option maxHeartbeats 4000000 in
set_option maxRecDepth 100000 in
theorem w_X2_allWaiting_4 {Γ : jG} (C : jC Γ 3 cX2_allWaiting RX2 rmX2_allWaiting) {b0 : Nat} (hb0 : isNight b0) {ρ : Int32 × Mem} (E : jEI Γ cX2_allWaiting ρ.1 ρ.2) : ∀ (n : Nat) (x1 : Int32) (x2 : Int32) (μ : Mem), f_X2_allWaiting_4 b0 n x1 x2 μ = some ρ → jJ Γ 3 4 [(0, .ref b0), (1, .int x1), (2, .int x2)] [] μ := by
  intro n
  induction n with
  | zero => intro x1 x2 μ h; rw [f_X2_allWaiting_4] at h; cases h
  | succ n ih =>
    intro x1 x2 μ h
    rw [f_X2_allWaiting_4] at h
    refine j_iload_n C dX2_allWaiting_4 rfl 2 rfl ?_
    refine j_sipush (v := (nI 171)) C dX2_allWaiting_5 rfl (by decide) ?_
    refine j_icmp_ge (tgt := 43) C dX2_allWaiting_8 rfl (by decide) (fun c1_ => ?_) (fun c1_ => ?_)
    · replace h := if_t h c1_
      refine j_iload_n C dX2_allWaiting_43 rfl 1 rfl ?_
      obtain rfl := Option.some.inj h
      exact j_iret E dX2_allWaiting_44
    · replace h := if_f h c1_
      refine j_iload_n C dX2_allWaiting_11 rfl 1 rfl ?_
      refine j_aload_n C dX2_allWaiting_12 rfl 0 rfl ?_
      refine j_getR (c := b0 + 19) C dX2_allWaiting_13 rfl lkX2_58 (isN_0 hb0) rfl ?_
      refine j_iconst (v := (nI 0)) C dX2_allWaiting_16 rfl (by decide) ?_
      replace h := gd_e h
      obtain ⟨g2_, h⟩ := h
      refine j_aald C dX2_allWaiting_17 rfl (Or.inl rfl) (isN_a19 hb0) g2_ ?_
      refine j_iload_n C dX2_allWaiting_18 rfl 2 rfl ?_
      replace h := gd_e h
      obtain ⟨g3_, h⟩ := h
      refine j_iald C dX2_allWaiting_19 rfl (isN_rg hb0 g2_) g3_ ?_
      replace h := bd_e h
      obtain ⟨p4_, h5_, h⟩ := h
      refine j_cSI (av := [.int (μ.1 (b0 + 20 + (Int32.toNatClampNeg (nI 0))) (Int32.toNatClampNeg x2))]) (rest := [.int x1]) C dX2_allWaiting_20 rfl (c_J6_bitCount_0f7a4 _ _ _ _ μ p4_ h5_) gsX2_81 ⟨⟨rfl, rfl⟩, Nat.le_of_ble_eq_true rfl, Nat.le_of_ble_eq_true rfl⟩ rfl rfl (Nat.le_of_ble_eq_true rfl) ?_
      refine j_aload_n C dX2_allWaiting_23 rfl 0 rfl ?_
      refine j_getR (c := b0 + 19) C dX2_allWaiting_24 rfl lkX2_58 (isN_0 hb0) rfl ?_
      refine j_iconst (v := (nI 1)) C dX2_allWaiting_27 rfl (by decide) ?_
      replace h := gd_e h
      obtain ⟨g6_, h⟩ := h
      refine j_aald C dX2_allWaiting_28 rfl (Or.inl rfl) (isN_a19 hb0) g6_ ?_
      refine j_iload_n C dX2_allWaiting_29 rfl 2 rfl ?_
      refine j_iald C dX2_allWaiting_30 rfl (isN_rg hb0 g6_) g3_ ?_
      replace h := bd_e h
      obtain ⟨p7_, h8_, h⟩ := h
      refine j_cSI (av := [.int (p4_.2.1 (b0 + 20 + (Int32.toNatClampNeg (nI 1))) (Int32.toNatClampNeg x2))]) (rest := [.int p4_.1, .int x1]) C dX2_allWaiting_31 rfl (c_J6_bitCount_0f7a4 _ _ _ _ p4_.2 p7_ h8_) gsX2_81 ⟨⟨rfl, rfl⟩, Nat.le_of_ble_eq_true rfl, Nat.le_of_ble_eq_true rfl⟩ rfl rfl (Nat.le_of_ble_eq_true rfl) ?_
      refine j_iadd C dX2_allWaiting_34 rfl ?_
      refine j_iadd C dX2_allWaiting_35 rfl ?_
      refine j_topi (fun x9_ e10_ => ?_)
      replace h := zl_u h e10_
      refine j_istore_n (lv' := [(1, .int x9_), (0, .ref b0), (2, .int x2)]) C dX2_allWaiting_36 rfl (by decide) rfl ?_
      refine j_iinc (d := (nI 1)) (v := x2 + (nI 1)) (lv' := [(2, .int (x2 + (nI 1))), (1, .int x9_), (0, .ref b0)]) C dX2_allWaiting_37 rfl (by decide) 2 rfl (by decide) rfl rfl ?_
      refine j_goto (pc' := 4) C dX2_allWaiting_40 (by decide) ?_
      refine j_lv [2, 1, 0] rfl ?_
      exact (ih) x9_ (x2 + (nI 1)) p7_.2 h
def f_X2_allWaiting (b0 : Nat) (μ : Mem) : Option (Int32 × Mem) := f_X2_allWaiting_4 b0 zfu (nI 0) (nI 0) μ
set_option maxHeartbeats 4000000 in
set_option maxRecDepth 100000 in
theorem w_X2_allWaiting {Γ : jG} (C : jC Γ 3 cX2_allWaiting RX2 rmX2_allWaiting) {b0 : Nat} (hb0 : isNight b0) {ρ : Int32 × Mem} (E : jEI Γ cX2_allWaiting ρ.1 ρ.2) (μ : Mem) (h : f_X2_allWaiting b0 μ = some ρ) : jJ Γ 3 0 [(0, .ref b0)] [] μ := by
  unfold f_X2_allWaiting at h
  refine j_iconst (v := (nI 0)) C dX2_allWaiting_0 rfl (by decide) ?_
  refine j_istore_n (lv' := [(1, .int (nI 0)), (0, .ref b0)]) C dX2_allWaiting_1 rfl (by decide) rfl ?_
  refine j_iconst (v := (nI 0)) C dX2_allWaiting_2 rfl (by decide) ?_
  refine j_istore_n (lv' := [(2, .int (nI 0)), (1, .int (nI 0)), (0, .ref b0)]) C dX2_allWaiting_3 rfl (by decide) rfl ?_
  refine j_lv [2, 1, 0] rfl ?_
  exact w_X2_allWaiting_4 C hb0 E zfu (nI 0) (nI 0) μ h
set_option maxRecDepth 100000 in
theorem c_X2_allWaiting (l : Launch) (D : va_G) (ad : Nat → Nat) (cl : Nat → ClassId) {b0 : Nat} (hb0 : isNight b0) (μ : Mem) (ρ : Int32 × Mem) (h : f_X2_allWaiting b0 μ = some ρ) : CI l D ad cl yX2_allWaiting wsX2_allWaiting rmX2_allWaiting [.ref b0] μ ρ.1 ρ.2 := c_ofI (cc := cX2_allWaiting) (nL := 3) rfl (by decide) (Nat.le_of_ble_eq_true rfl) (fun Γ C E => w_X2_allWaiting C hb0 E μ h)
/-! X2_howManyShow -/
def wsX2_howManyShow : List Cond := .code yX2_howManyShow cX2_howManyShow 5 (some .int) :: G0
def rmX2_howManyShow : Room := { frames := 0, cells := 0, slots := 0, locals := 0 }
def f_X2_howManyShow_37 (b0 : Nat) (a1 : Int32) (a2 : Int32) (kb5 : Int32 → Int32 → Mem → Option (Int32 × Mem)) (x3 : Int32) (x4 : Int32) (μ : Mem) : Option (Int32 × Mem) := kb5 x3 (x4 + (nI 1)) μ
set_option maxHeartbeats 4000000 in
set_option maxRecDepth 100000 in
theorem w_X2_howManyShow_37 {Γ : jG} (C : jC Γ 5 cX2_howManyShow RX2 rmX2_howManyShow) {b0 : Nat} {a1 : Int32} {a2 : Int32} (hb0 : isNight b0) {kb5 : Int32 → Int32 → Mem → Option (Int32 × Mem)} {ρ : Int32 × Mem} (E : jEI Γ cX2_howManyShow ρ.1 ρ.2) (Hkb5 : ∀ (x3 : Int32) (x4 : Int32) (μ : Mem), kb5 x3 x4 μ = some ρ → jJ Γ 5 5 [(0, .ref b0), (1, .int a1), (2, .int a2), (3, .int x3), (4, .int x4)] [] μ) (x3 : Int32) (x4 : Int32) (μ : Mem) (h : f_X2_howManyShow_37 b0 a1 a2 kb5 x3 x4 μ = some ρ) : jJ Γ 5 37 [(0, .ref b0), (1, .int a1), (2, .int a2), (3, .int x3), (4, .int x4)] [] μ := by
  unfold f_X2_howManyShow_37 at h
  refine j_iinc (d := (nI 1)) (v := x4 + (nI 1)) (lv' := [(4, .int (x4 + (nI 1))), (0, .ref b0), (1, .int a1), (2, .int a2), (3, .int x3)]) C dX2_howManyShow_37 rfl (by decide) 4 rfl (by decide) rfl rfl ?_
  refine j_goto (pc' := 5) C dX2_howManyShow_40 (by decide) ?_
  refine j_lv [1, 2, 3, 4, 0] rfl ?_
  exact (Hkb5) x3 (x4 + (nI 1)) μ h
def f_X2_howManyShow_5 (b0 : Nat) (a1 : Int32) (a2 : Int32) : Nat → Int32 → Int32 → Mem → Option (Int32 × Mem)
  | 0, _, _, _ => none
  | n + 1, x3, x4, μ => (if (μ.1 b0 0) ≤ x4 then some (x3, μ) else (if ((a1 >>> (x4 &&& 31)) &&& (nI 1)) = 0 then f_X2_howManyShow_37 b0 a1 a2 (fun x3 x4 μ => f_X2_howManyShow_5 b0 a1 a2 n x3 x4 μ) x3 x4 μ else gd (inb x4 9) <| (if (μ.1 (b0 + 2) (Int32.toNatClampNeg x4)) = a2 then f_X2_howManyShow_37 b0 a1 a2 (fun x3 x4 μ => f_X2_howManyShow_5 b0 a1 a2 n x3 x4 μ) (x3 + (nI 1)) x4 μ else f_X2_howManyShow_37 b0 a1 a2 (fun x3 x4 μ => f_X2_howManyShow_5 b0 a1 a2 n x3 x4 μ) x3 x4 μ)))
set_option maxHeartbeats 4000000 in
set_option maxRecDepth 100000 in
theorem w_X2_howManyShow_5 {Γ : jG} (C : jC Γ 5 cX2_howManyShow RX2 rmX2_howManyShow) {b0 : Nat} {a1 : Int32} {a2 : Int32} (hb0 : isNight b0) {ρ : Int32 × Mem} (E : jEI Γ cX2_howManyShow ρ.1 ρ.2) : ∀ (n : Nat) (x3 : Int32) (x4 : Int32) (μ : Mem), f_X2_howManyShow_5 b0 a1 a2 n x3 x4 μ = some ρ → jJ Γ 5 5 [(0, .ref b0), (1, .int a1), (2, .int a2), (3, .int x3), (4, .int x4)] [] μ := by
  intro n
  induction n with
  | zero => intro x3 x4 μ h; rw [f_X2_howManyShow_5] at h; cases h
  | succ n ih =>
    intro x3 x4 μ h
    rw [f_X2_howManyShow_5] at h
    refine j_iload C dX2_howManyShow_5 rfl 4 rfl ?_
    refine j_aload_n C dX2_howManyShow_7 rfl 0 rfl ?_
    refine j_getI C dX2_howManyShow_8 rfl lkX2_9 (isN_0 hb0) rfl ?_
    refine j_icmp_ge (tgt := 43) C dX2_howManyShow_11 rfl (by decide) (fun c1_ => ?_) (fun c1_ => ?_)
    · replace h := if_t h c1_
      refine j_iload_n C dX2_howManyShow_43 rfl 3 rfl ?_
      obtain rfl := Option.some.inj h
      exact j_iret E dX2_howManyShow_44
    · replace h := if_f h c1_
      refine j_iload_n C dX2_howManyShow_14 rfl 1 rfl ?_
      refine j_iload C dX2_howManyShow_15 rfl 4 rfl ?_
      refine j_ishr C dX2_howManyShow_17 rfl ?_
      refine j_iconst (v := (nI 1)) C dX2_howManyShow_18 rfl (by decide) ?_
      refine j_iand C dX2_howManyShow_19 rfl ?_
      refine j_if_eq (tgt := 37) C dX2_howManyShow_20 rfl (by decide) (fun c2_ => ?_) (fun c2_ => ?_)
      · replace h := if_t h c2_
        refine j_lv [0, 1, 2, 3, 4] rfl ?_
        exact w_X2_howManyShow_37 C hb0 E ih x3 x4 μ h
      · replace h := if_f h c2_
        refine j_aload_n C dX2_howManyShow_23 rfl 0 rfl ?_
        refine j_getR (c := b0 + 2) C dX2_howManyShow_24 rfl lkX2_38 (isN_0 hb0) rfl ?_
        refine j_iload C dX2_howManyShow_27 rfl 4 rfl ?_
        replace h := gd_e h
        obtain ⟨g3_, h⟩ := h
        refine j_iald C dX2_howManyShow_29 rfl (isN_a2 hb0) g3_ ?_
        refine j_iload_n C dX2_howManyShow_30 rfl 2 rfl ?_
        refine j_icmp_ne (tgt := 37) C dX2_howManyShow_31 rfl (by decide) (fun c4_ => ?_) (fun c4_ => ?_)
        · replace h := if_f h c4_
          refine j_lv [0, 1, 2, 3, 4] rfl ?_
          exact w_X2_howManyShow_37 C hb0 E ih x3 x4 μ h
        · replace h := if_t h c4_
          refine j_iinc (d := (nI 1)) (v := x3 + (nI 1)) (lv' := [(3, .int (x3 + (nI 1))), (0, .ref b0), (1, .int a1), (2, .int a2), (4, .int x4)]) C dX2_howManyShow_34 rfl (by decide) 3 rfl (by decide) rfl rfl ?_
          refine j_lv [1, 2, 3, 0, 4] rfl ?_
          exact w_X2_howManyShow_37 C hb0 E ih (x3 + (nI 1)) x4 μ h
def f_X2_howManyShow (b0 : Nat) (a1 : Int32) (a2 : Int32) (μ : Mem) : Option (Int32 × Mem) := f_X2_howManyShow_5 b0 a1 a2 zfu (nI 0) (nI 0) μ
set_option maxHeartbeats 4000000 in
set_option maxRecDepth 100000 in
theorem w_X2_howManyShow {Γ : jG} (C : jC Γ 5 cX2_howManyShow RX2 rmX2_howManyShow) {b0 : Nat} {a1 : Int32} {a2 : Int32} (hb0 : isNight b0) {ρ : Int32 × Mem} (E : jEI Γ cX2_howManyShow ρ.1 ρ.2) (μ : Mem) (h : f_X2_howManyShow b0 a1 a2 μ = some ρ) : jJ Γ 5 0 [(0, .ref b0), (1, .int a1), (2, .int a2)] [] μ := by
  unfold f_X2_howManyShow at h
  refine j_iconst (v := (nI 0)) C dX2_howManyShow_0 rfl (by decide) ?_
  refine j_istore_n (lv' := [(3, .int (nI 0)), (0, .ref b0), (1, .int a1), (2, .int a2)]) C dX2_howManyShow_1 rfl (by decide) rfl ?_
  refine j_iconst (v := (nI 0)) C dX2_howManyShow_2 rfl (by decide) ?_
  refine j_istore (lv' := [(4, .int (nI 0)), (3, .int (nI 0)), (0, .ref b0), (1, .int a1), (2, .int a2)]) C dX2_howManyShow_3 rfl (by decide) rfl ?_
  refine j_lv [2, 3, 4, 1, 0] rfl ?_
  exact w_X2_howManyShow_5 C hb0 E zfu (nI 0) (nI 0) μ h
set_option maxRecDepth 100000 in
theorem c_X2_howManyShow (l : Launch) (D : va_G) (ad : Nat → Nat) (cl : Nat → ClassId) {b0 : Nat} {a1 : Int32} {a2 : Int32} (hb0 : isNight b0) (μ : Mem) (ρ : Int32 × Mem) (h : f_X2_howManyShow b0 a1 a2 μ = some ρ) : CI l D ad cl yX2_howManyShow wsX2_howManyShow rmX2_howManyShow [.ref b0, .int a1, .int a2] μ ρ.1 ρ.2 := c_ofI (cc := cX2_howManyShow) (nL := 5) rfl (by decide) (Nat.le_of_ble_eq_true rfl) (fun Γ C E => w_X2_howManyShow C hb0 E μ h)
theorem gvX2_87 : jm_gv RX2 87 RX2 yX2_isTrue wsX2_isTrue 2 1 := ⟨_, _, gi_V gwt3_113 gwt2_111 gwt2_112 gwt1_3 gwt2_113, rfl, by decide +kernel⟩
/-! X2_trueOnes -/
def wsX2_trueOnes : List Cond := .code yX2_trueOnes cX2_trueOnes 3 (some .int) :: G0
def rmX2_trueOnes : Room := { frames := 1, cells := 0, slots := 0, locals := 21 }
def f_X2_trueOnes_26 (b0 : Nat) (kb4 : Int32 → Int32 → Mem → Option (Int32 × Mem)) (x1 : Int32) (x2 : Int32) (μ : Mem) : Option (Int32 × Mem) := kb4 x1 (x2 + (nI 1)) μ
set_option maxHeartbeats 4000000 in
set_option maxRecDepth 100000 in
theorem w_X2_trueOnes_26 {Γ : jG} (C : jC Γ 3 cX2_trueOnes RX2 rmX2_trueOnes) {b0 : Nat} (hb0 : isNight b0) {kb4 : Int32 → Int32 → Mem → Option (Int32 × Mem)} {ρ : Int32 × Mem} (E : jEI Γ cX2_trueOnes ρ.1 ρ.2) (Hkb4 : ∀ (x1 : Int32) (x2 : Int32) (μ : Mem), kb4 x1 x2 μ = some ρ → jJ Γ 3 4 [(0, .ref b0), (1, .int x1), (2, .int x2)] [] μ) (x1 : Int32) (x2 : Int32) (μ : Mem) (h : f_X2_trueOnes_26 b0 kb4 x1 x2 μ = some ρ) : jJ Γ 3 26 [(0, .ref b0), (1, .int x1), (2, .int x2)] [] μ := by
  unfold f_X2_trueOnes_26 at h
  refine j_iinc (d := (nI 1)) (v := x2 + (nI 1)) (lv' := [(2, .int (x2 + (nI 1))), (0, .ref b0), (1, .int x1)]) C dX2_trueOnes_26 rfl (by decide) 2 rfl (by decide) rfl rfl ?_
  refine j_goto (pc' := 4) C dX2_trueOnes_29 (by decide) ?_
  refine j_lv [1, 2, 0] rfl ?_
  exact (Hkb4) x1 (x2 + (nI 1)) μ h
def f_X2_trueOnes_4 (b0 : Nat) : Nat → Int32 → Int32 → Mem → Option (Int32 × Mem)
  | 0, _, _, _ => none
  | n + 1, x1, x2, μ => (if (μ.1 b0 0) ≤ x2 then some (x1, μ) else Option.bind (f_X2_isTrue b0 x2 μ) fun p2_ => (if p2_.1 = 0 then f_X2_trueOnes_26 b0 (fun x1 x2 μ => f_X2_trueOnes_4 b0 n x1 x2 μ) x1 x2 p2_.2 else zl (x1 ||| ((nI 1) <<< (x2 &&& 31))) fun x5_ => f_X2_trueOnes_26 b0 (fun x1 x2 μ => f_X2_trueOnes_4 b0 n x1 x2 μ) x5_ x2 p2_.2))
set_option maxHeartbeats 4000000 in
set_option maxRecDepth 100000 in
theorem w_X2_trueOnes_4 {Γ : jG} (C : jC Γ 3 cX2_trueOnes RX2 rmX2_trueOnes) {b0 : Nat} (hb0 : isNight b0) {ρ : Int32 × Mem} (E : jEI Γ cX2_trueOnes ρ.1 ρ.2) : ∀ (n : Nat) (x1 : Int32) (x2 : Int32) (μ : Mem), f_X2_trueOnes_4 b0 n x1 x2 μ = some ρ → jJ Γ 3 4 [(0, .ref b0), (1, .int x1), (2, .int x2)] [] μ := by
  intro n
  induction n with
  | zero => intro x1 x2 μ h; rw [f_X2_trueOnes_4] at h; cases h
  | succ n ih =>
    intro x1 x2 μ h
    rw [f_X2_trueOnes_4] at h
    refine j_iload_n C dX2_trueOnes_4 rfl 2 rfl ?_
    refine j_aload_n C dX2_trueOnes_5 rfl 0 rfl ?_
    refine j_getI C dX2_trueOnes_6 rfl lkX2_9 (isN_0 hb0) rfl ?_
    refine j_icmp_ge (tgt := 32) C dX2_trueOnes_9 rfl (by decide) (fun c1_ => ?_) (fun c1_ => ?_)
    · replace h := if_t h c1_
      refine j_iload_n C dX2_trueOnes_32 rfl 1 rfl ?_
      obtain rfl := Option.some.inj h
      exact j_iret E dX2_trueOnes_33
    · replace h := if_f h c1_
      refine j_aload_n C dX2_trueOnes_12 rfl 0 rfl ?_
      refine j_iload_n C dX2_trueOnes_13 rfl 2 rfl ?_
      replace h := bd_e h
      obtain ⟨p2_, h3_, h⟩ := h
      refine j_cVI (av := [.int x2]) (rest := []) C dX2_trueOnes_14 rfl (c_X2_isTrue _ _ _ _ hb0 μ p2_ h3_) gvX2_87 ⟨⟨rfl, rfl⟩, Nat.le_of_ble_eq_true rfl, Nat.le_of_ble_eq_true rfl⟩ rfl (isN_0 hb0) rfl rfl (Nat.le_of_ble_eq_true rfl) ?_
      refine j_if_eq (tgt := 26) C dX2_trueOnes_17 rfl (by decide) (fun c4_ => ?_) (fun c4_ => ?_)
      · replace h := if_t h c4_
        refine j_lv [0, 1, 2] rfl ?_
        exact w_X2_trueOnes_26 C hb0 E ih x1 x2 p2_.2 h
      · replace h := if_f h c4_
        refine j_iload_n C dX2_trueOnes_20 rfl 1 rfl ?_
        refine j_iconst (v := (nI 1)) C dX2_trueOnes_21 rfl (by decide) ?_
        refine j_iload_n C dX2_trueOnes_22 rfl 2 rfl ?_
        refine j_ishl C dX2_trueOnes_23 rfl ?_
        refine j_ior C dX2_trueOnes_24 rfl ?_
        refine j_topi (fun x5_ e6_ => ?_)
        replace h := zl_u h e6_
        refine j_istore_n (lv' := [(1, .int x5_), (0, .ref b0), (2, .int x2)]) C dX2_trueOnes_25 rfl (by decide) rfl ?_
        refine j_lv [1, 0, 2] rfl ?_
        exact w_X2_trueOnes_26 C hb0 E ih x5_ x2 p2_.2 h
def f_X2_trueOnes (b0 : Nat) (μ : Mem) : Option (Int32 × Mem) := f_X2_trueOnes_4 b0 zfu (nI 0) (nI 0) μ
set_option maxHeartbeats 4000000 in
set_option maxRecDepth 100000 in
theorem w_X2_trueOnes {Γ : jG} (C : jC Γ 3 cX2_trueOnes RX2 rmX2_trueOnes) {b0 : Nat} (hb0 : isNight b0) {ρ : Int32 × Mem} (E : jEI Γ cX2_trueOnes ρ.1 ρ.2) (μ : Mem) (h : f_X2_trueOnes b0 μ = some ρ) : jJ Γ 3 0 [(0, .ref b0)] [] μ := by
  unfold f_X2_trueOnes at h
  refine j_iconst (v := (nI 0)) C dX2_trueOnes_0 rfl (by decide) ?_
  refine j_istore_n (lv' := [(1, .int (nI 0)), (0, .ref b0)]) C dX2_trueOnes_1 rfl (by decide) rfl ?_
  refine j_iconst (v := (nI 0)) C dX2_trueOnes_2 rfl (by decide) ?_
  refine j_istore_n (lv' := [(2, .int (nI 0)), (1, .int (nI 0)), (0, .ref b0)]) C dX2_trueOnes_3 rfl (by decide) rfl ?_
  refine j_lv [2, 1, 0] rfl ?_
  exact w_X2_trueOnes_4 C hb0 E zfu (nI 0) (nI 0) μ h
set_option maxRecDepth 100000 in
theorem c_X2_trueOnes (l : Launch) (D : va_G) (ad : Nat → Nat) (cl : Nat → ClassId) {b0 : Nat} (hb0 : isNight b0) (μ : Mem) (ρ : Int32 × Mem) (h : f_X2_trueOnes b0 μ = some ρ) : CI l D ad cl yX2_trueOnes wsX2_trueOnes rmX2_trueOnes [.ref b0] μ ρ.1 ρ.2 := c_ofI (cc := cX2_trueOnes) (nL := 3) rfl (by decide) (Nat.le_of_ble_eq_true rfl) (fun Γ C E => w_X2_trueOnes C hb0 E μ h)
theorem gvX2_95 : jm_gv RX2 95 RX2 yX2_howManyShow wsX2_howManyShow 5 2 := ⟨_, _, gi_V gwt3_114 gwt3_115 gwt3_116 gwt1_3 gwt3_117, rfl, by decide +kernel⟩
theorem gvX2_91 : jm_gv RX2 91 RX2 yX2_trueOnes wsX2_trueOnes 3 0 := ⟨_, _, gi_V gwt3_109 gwt3_111 gwp1_13 gwt1_3 gwt3_112, rfl, by decide +kernel⟩
/-! X2_isDone -/
def wsX2_isDone : List Cond := .code yX2_isDone cX2_isDone 2 (some .boolean) :: G0
def rmX2_isDone : Room := { frames := 2, cells := 0, slots := 0, locals := 43 }
def f_X2_isDone (b0 : Nat) (a1 : Int32) (μ : Mem) : Option (Int32 × Mem) := Option.bind (f_X2_trueOnes b0 μ) fun p1_ => Option.bind (f_X2_howManyShow b0 (p1_.1 &&& (a1 ^^^ (-1))) (nI 2) p1_.2) fun p3_ => (if p3_.1 = 0 then some ((nI 1), p3_.2) else some ((nI 0), p3_.2))
set_option maxHeartbeats 4000000 in
set_option maxRecDepth 100000 in
theorem w_X2_isDone {Γ : jG} (C : jC Γ 2 cX2_isDone RX2 rmX2_isDone) {b0 : Nat} {a1 : Int32} (hb0 : isNight b0) {ρ : Int32 × Mem} (E : (isB ρ.1 = true → jEI Γ cX2_isDone ρ.1 ρ.2)) (μ : Mem) (h : f_X2_isDone b0 a1 μ = some ρ) : jJ Γ 2 0 [(0, .ref b0), (1, .int a1)] [] μ := by
  unfold f_X2_isDone at h
  refine j_aload_n C dX2_isDone_0 rfl 0 rfl ?_
  refine j_aload_n C dX2_isDone_1 rfl 0 rfl ?_
  replace h := bd_e h
  obtain ⟨p1_, h2_, h⟩ := h
  refine j_cVI (av := []) (rest := [.ref b0]) C dX2_isDone_2 rfl (c_X2_trueOnes _ _ _ _ hb0 μ p1_ h2_) gvX2_91 ⟨⟨rfl, rfl⟩, Nat.le_of_ble_eq_true rfl, Nat.le_of_ble_eq_true rfl⟩ rfl (isN_0 hb0) rfl rfl (Nat.le_of_ble_eq_true rfl) ?_
  refine j_iload_n C dX2_isDone_5 rfl 1 rfl ?_
  refine j_iconst (v := (-1)) C dX2_isDone_6 rfl (by decide) ?_
  refine j_ixor C dX2_isDone_7 rfl ?_
  refine j_iand C dX2_isDone_8 rfl ?_
  refine j_iconst (v := (nI 2)) C dX2_isDone_9 rfl (by decide) ?_
  replace h := bd_e h
  obtain ⟨p3_, h4_, h⟩ := h
  refine j_cVI (av := [.int (p1_.1 &&& (a1 ^^^ (-1))), .int (nI 2)]) (rest := []) C dX2_isDone_10 rfl (c_X2_howManyShow _ _ _ _ hb0 p1_.2 p3_ h4_) gvX2_95 ⟨⟨rfl, rfl⟩, Nat.le_of_ble_eq_true rfl, Nat.le_of_ble_eq_true rfl⟩ rfl (isN_0 hb0) rfl rfl (Nat.le_of_ble_eq_true rfl) ?_
  refine j_if_ne (tgt := 20) C dX2_isDone_13 rfl (by decide) (fun c5_ => ?_) (fun c5_ => ?_)
  · replace h := if_f h c5_
    refine j_iconst (v := (nI 0)) C dX2_isDone_20 rfl (by decide) ?_
    obtain rfl := Option.some.inj h
    exact j_iret (E isB_0) dX2_isDone_21
  · replace h := if_t h c5_
    refine j_iconst (v := (nI 1)) C dX2_isDone_16 rfl (by decide) ?_
    refine j_goto (pc' := 21) C dX2_isDone_17 (by decide) ?_
    obtain rfl := Option.some.inj h
    exact j_iret (E isB_1) dX2_isDone_21
set_option maxRecDepth 100000 in
theorem c_X2_isDone (l : Launch) (D : va_G) (ad : Nat → Nat) (cl : Nat → ClassId) {b0 : Nat} {a1 : Int32} (hb0 : isNight b0) (μ : Mem) (ρ : Int32 × Mem) (h : f_X2_isDone b0 a1 μ = some ρ) : CI l D ad cl yX2_isDone wsX2_isDone rmX2_isDone [.ref b0, .int a1] μ ρ.1 ρ.2 := c_ofZ (cc := cX2_isDone) (nL := 2) rfl (by decide) (Nat.le_of_ble_eq_true rfl) (fun Γ C E => w_X2_isDone C hb0 E μ h)
