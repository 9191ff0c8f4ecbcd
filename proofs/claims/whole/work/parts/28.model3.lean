theorem gvX8_169 : jm_gv RX8 169 RX8 yX8_drawn wsX8_drawn 2 1 := ⟨_, _, gi_V gwt5_185 gwt5_187 gwp3_14 gwt1_9 gwt5_188, rfl, by decide +kernel⟩
theorem gsX8_161 : jm_gs RX8 161 yX8_sentBy wsX8_sentBy 6 5 := ⟨_, _, gi_S gwt5_182 gwt5_183 gwt1_9 gwt5_184, rfl, by decide +kernel⟩
/-! X8_says -/
def wsX8_says : List Cond := .code yX8_says cX8_says 9 none :: G0
def rmX8_says : Room := { frames := 1, cells := 0, slots := 0, locals := 25 }
def f_X8_says_160 (k1 : Nat) (a2 : Int32) (a3 : Int32) (kb34 : Int32 → Int32 → Int32 → Mem → Option (Mem)) (x4 : Int32) (x5 : Int32) (x6 : Int32) (μ : Mem) : Option (Mem) := kb34 x4 x5 (x6 + (nI 1)) μ
set_option maxHeartbeats 4000000 in
set_option maxRecDepth 100000 in
theorem w_X8_says_160 {Γ : jG} (C : jC Γ 9 cX8_says RX8 rmX8_says) {k1 : Nat} {a2 : Int32} {a3 : Int32} (hk1 : isRow k1) {kb34 : Int32 → Int32 → Int32 → Mem → Option (Mem)} {ρ : Mem} (E : jEV Γ cX8_says ρ) (Hkb34 : ∀ (x4 : Int32) (x5 : Int32) (x6 : Int32) (μ : Mem), kb34 x4 x5 x6 μ = some ρ → jJ Γ 9 34 [(0, .ref 113), (1, .ref k1), (2, .int a2), (3, .int a3), (4, .int x4), (5, .int x5), (6, .int x6)] [] μ) (x4 : Int32) (x5 : Int32) (x6 : Int32) (μ : Mem) (h : f_X8_says_160 k1 a2 a3 kb34 x4 x5 x6 μ = some ρ) : jJ Γ 9 160 [(0, .ref 113), (1, .ref k1), (2, .int a2), (3, .int a3), (4, .int x4), (5, .int x5), (6, .int x6)] [] μ := by
  unfold f_X8_says_160 at h
  refine j_iinc (d := (nI 1)) (v := x6 + (nI 1)) (lv' := [(6, .int (x6 + (nI 1))), (0, .ref 113), (1, .ref k1), (2, .int a2), (3, .int a3), (4, .int x4), (5, .int x5)]) C dX8_says_160 rfl (by decide) 6 rfl (by decide) rfl rfl ?_
  refine j_goto (pc' := 34) C dX8_says_163 (by decide) ?_
  refine j_lv [1, 2, 3, 4, 5, 6, 0] rfl ?_
  exact (Hkb34) x4 x5 (x6 + (nI 1)) μ h
def f_X8_says_118 (k1 : Nat) (a2 : Int32) (a3 : Int32) (kb34 : Int32 → Int32 → Int32 → Mem → Option (Mem)) (x4 : Int32) (x5 : Int32) (x6 : Int32) (x7 : Int32) (t0 : Int32) (μ : Mem) : Option (Mem) := gd (inb (nI 1) 1829) <| gd (inb (((nI 222) + ((nI 19) * (((nI 9) * a2) + x6))) + (((μ.1 k1 (Int32.toNatClampNeg (nI 1))) + t0) - ((μ.1 k1 (Int32.toNatClampNeg (nI 1))) + t0) / (nI 19) * (nI 19))) 1829) <| zl (sI μ k1 (Int32.toNatClampNeg (((nI 222) + ((nI 19) * (((nI 9) * a2) + x6))) + (((μ.1 k1 (Int32.toNatClampNeg (nI 1))) + t0) - ((μ.1 k1 (Int32.toNatClampNeg (nI 1))) + t0) / (nI 19) * (nI 19)))) (x7 + (nI 1))) fun μ3_ => zl (sI μ3_ 113 18 ((μ3_.1 113 18) + (nI 1))) fun μ5_ => f_X8_says_160 k1 a2 a3 kb34 x4 x5 x6 μ5_
set_option maxHeartbeats 4000000 in
set_option maxRecDepth 100000 in
theorem w_X8_says_118 {Γ : jG} (C : jC Γ 9 cX8_says RX8 rmX8_says) {k1 : Nat} {a2 : Int32} {a3 : Int32} (hk1 : isRow k1) {kb34 : Int32 → Int32 → Int32 → Mem → Option (Mem)} {ρ : Mem} (E : jEV Γ cX8_says ρ) (Hkb34 : ∀ (x4 : Int32) (x5 : Int32) (x6 : Int32) (μ : Mem), kb34 x4 x5 x6 μ = some ρ → jJ Γ 9 34 [(0, .ref 113), (1, .ref k1), (2, .int a2), (3, .int a3), (4, .int x4), (5, .int x5), (6, .int x6)] [] μ) (x4 : Int32) (x5 : Int32) (x6 : Int32) (x7 : Int32) (t0 : Int32) (μ : Mem) (h : f_X8_says_118 k1 a2 a3 kb34 x4 x5 x6 x7 t0 μ = some ρ) : jJ Γ 9 118 [(0, .ref 113), (1, .ref k1), (2, .int a2), (3, .int a3), (4, .int x4), (5, .int x5), (6, .int x6), (7, .int x7)] [.int t0] μ := by
  unfold f_X8_says_118 at h
  refine j_istore (lv' := [(8, .int t0), (0, .ref 113), (1, .ref k1), (2, .int a2), (3, .int a3), (4, .int x4), (5, .int x5), (6, .int x6), (7, .int x7)]) C dX8_says_118 rfl (by decide) rfl ?_
  refine j_aload_n C dX8_says_120 rfl 2 rfl ?_
  refine j_sipush (v := (nI 222)) C dX8_says_121 rfl (by decide) ?_
  refine j_bipush (v := (nI 19)) C dX8_says_124 rfl (by decide) ?_
  refine j_bipush (v := (nI 9)) C dX8_says_126 rfl (by decide) ?_
  refine j_iload_n C dX8_says_128 rfl 3 rfl ?_
  refine j_imul C dX8_says_129 rfl ?_
  refine j_iload C dX8_says_130 rfl 7 rfl ?_
  refine j_iadd C dX8_says_132 rfl ?_
  refine j_imul C dX8_says_133 rfl ?_
  refine j_iadd C dX8_says_134 rfl ?_
  refine j_aload_n C dX8_says_135 rfl 2 rfl ?_
  refine j_iconst (v := (nI 1)) C dX8_says_136 rfl (by decide) ?_
  replace h := gd_e h
  obtain ⟨g1_, h⟩ := h
  refine j_iald C dX8_says_137 rfl (isRow_is hk1) g1_ ?_
  refine j_iload C dX8_says_138 rfl 0 rfl ?_
  refine j_iadd C dX8_says_140 rfl ?_
  refine j_bipush (v := (nI 19)) C dX8_says_141 rfl (by decide) ?_
  refine j_irem C dX8_says_143 rfl (by decide) ?_
  refine j_iadd C dX8_says_144 rfl ?_
  refine j_iload C dX8_says_145 rfl 8 rfl ?_
  refine j_iconst (v := (nI 1)) C dX8_says_147 rfl (by decide) ?_
  refine j_iadd C dX8_says_148 rfl ?_
  replace h := gd_e h
  obtain ⟨g2_, h⟩ := h
  refine j_iast C dX8_says_149 rfl (isRow_is hk1) g2_ ?_
  refine j_mem (fun μ3_ e4_ => ?_)
  replace h := zl_u h e4_
  refine j_aload_n C dX8_says_150 rfl 1 rfl ?_
  refine j_dup C dX8_says_151 rfl rfl ?_
  refine j_getI C dX8_says_152 rfl lkX8_173 is_113 rfl ?_
  refine j_iconst (v := (nI 1)) C dX8_says_155 rfl (by decide) ?_
  refine j_iadd C dX8_says_156 rfl ?_
  refine j_putI C dX8_says_157 rfl lpX8_173 is_113 rfl ?_
  refine j_mem (fun μ5_ e6_ => ?_)
  replace h := zl_u h e6_
  refine j_lv [1, 2, 3, 4, 5, 6, 7] rfl ?_
  exact w_X8_says_160 C hk1 E Hkb34 x4 x5 x6 μ5_ h
def f_X8_says_99 (k1 : Nat) (a2 : Int32) (a3 : Int32) (kb34 : Int32 → Int32 → Int32 → Mem → Option (Mem)) (x4 : Int32) (x5 : Int32) (x6 : Int32) (x7 : Int32) (t0 : Int32) (μ : Mem) : Option (Mem) := gd (inb x4 1829) <| (if (μ.1 k1 (Int32.toNatClampNeg x4)) = (nI 3) then f_X8_says_118 k1 a2 a3 kb34 x4 x5 x6 x7 ((nI 2) * t0) μ else f_X8_says_118 k1 a2 a3 kb34 x4 x5 x6 x7 t0 μ)
set_option maxHeartbeats 4000000 in
set_option maxRecDepth 100000 in
theorem w_X8_says_99 {Γ : jG} (C : jC Γ 9 cX8_says RX8 rmX8_says) {k1 : Nat} {a2 : Int32} {a3 : Int32} (hk1 : isRow k1) {kb34 : Int32 → Int32 → Int32 → Mem → Option (Mem)} {ρ : Mem} (E : jEV Γ cX8_says ρ) (Hkb34 : ∀ (x4 : Int32) (x5 : Int32) (x6 : Int32) (μ : Mem), kb34 x4 x5 x6 μ = some ρ → jJ Γ 9 34 [(0, .ref 113), (1, .ref k1), (2, .int a2), (3, .int a3), (4, .int x4), (5, .int x5), (6, .int x6)] [] μ) (x4 : Int32) (x5 : Int32) (x6 : Int32) (x7 : Int32) (t0 : Int32) (μ : Mem) (h : f_X8_says_99 k1 a2 a3 kb34 x4 x5 x6 x7 t0 μ = some ρ) : jJ Γ 9 99 [(0, .ref 113), (1, .ref k1), (2, .int a2), (3, .int a3), (4, .int x4), (5, .int x5), (6, .int x6), (7, .int x7)] [.int t0] μ := by
  unfold f_X8_says_99 at h
  refine j_istore (lv' := [(8, .int t0), (0, .ref 113), (1, .ref k1), (2, .int a2), (3, .int a3), (4, .int x4), (5, .int x5), (6, .int x6), (7, .int x7)]) C dX8_says_99 rfl (by decide) rfl ?_
  refine j_aload_n C dX8_says_101 rfl 2 rfl ?_
  refine j_iload C dX8_says_102 rfl 5 rfl ?_
  replace h := gd_e h
  obtain ⟨g1_, h⟩ := h
  refine j_iald C dX8_says_104 rfl (isRow_is hk1) g1_ ?_
  refine j_iconst (v := (nI 3)) C dX8_says_105 rfl (by decide) ?_
  refine j_icmp_ne (tgt := 116) C dX8_says_106 rfl (by decide) (fun c2_ => ?_) (fun c2_ => ?_)
  · replace h := if_f h c2_
    refine j_iload C dX8_says_116 rfl 0 rfl ?_
    refine j_lv [1, 2, 3, 4, 5, 6, 7, 8] rfl ?_
    exact w_X8_says_118 C hk1 E Hkb34 x4 x5 x6 x7 t0 μ h
  · replace h := if_t h c2_
    refine j_iconst (v := (nI 2)) C dX8_says_109 rfl (by decide) ?_
    refine j_iload C dX8_says_110 rfl 0 rfl ?_
    refine j_imul C dX8_says_112 rfl ?_
    refine j_goto (pc' := 118) C dX8_says_113 (by decide) ?_
    refine j_lv [1, 2, 3, 4, 5, 6, 7, 8] rfl ?_
    exact w_X8_says_118 C hk1 E Hkb34 x4 x5 x6 x7 ((nI 2) * t0) μ h
def f_X8_says_65 (k1 : Nat) (a2 : Int32) (a3 : Int32) (kb34 : Int32 → Int32 → Int32 → Mem → Option (Mem)) (x4 : Int32) (x5 : Int32) (x6 : Int32) (t0 : Int32) (μ : Mem) : Option (Mem) := (if t0 < 0 then f_X8_says_160 k1 a2 a3 kb34 x4 x5 x6 μ else (if (μ.1 113 16) = 0 then gd (inb (((nI 60) + ((nI 9) * a2)) + x6) 1829) <| f_X8_says_99 k1 a2 a3 kb34 x4 x5 x6 t0 (μ.1 k1 (Int32.toNatClampNeg (((nI 60) + ((nI 9) * a2)) + x6))) μ else Option.bind (f_X8_drawn k1 μ) fun p4_ => f_X8_says_99 k1 a2 a3 kb34 x4 x5 x6 t0 p4_.1 p4_.2))
set_option maxHeartbeats 4000000 in
set_option maxRecDepth 100000 in
theorem w_X8_says_65 {Γ : jG} (C : jC Γ 9 cX8_says RX8 rmX8_says) {k1 : Nat} {a2 : Int32} {a3 : Int32} (hk1 : isRow k1) {kb34 : Int32 → Int32 → Int32 → Mem → Option (Mem)} {ρ : Mem} (E : jEV Γ cX8_says ρ) (Hkb34 : ∀ (x4 : Int32) (x5 : Int32) (x6 : Int32) (μ : Mem), kb34 x4 x5 x6 μ = some ρ → jJ Γ 9 34 [(0, .ref 113), (1, .ref k1), (2, .int a2), (3, .int a3), (4, .int x4), (5, .int x5), (6, .int x6)] [] μ) (x4 : Int32) (x5 : Int32) (x6 : Int32) (t0 : Int32) (μ : Mem) (h : f_X8_says_65 k1 a2 a3 kb34 x4 x5 x6 t0 μ = some ρ) : jJ Γ 9 65 [(0, .ref 113), (1, .ref k1), (2, .int a2), (3, .int a3), (4, .int x4), (5, .int x5), (6, .int x6)] [.int t0] μ := by
  unfold f_X8_says_65 at h
  refine j_istore (lv' := [(7, .int t0), (0, .ref 113), (1, .ref k1), (2, .int a2), (3, .int a3), (4, .int x4), (5, .int x5), (6, .int x6)]) C dX8_says_65 rfl (by decide) rfl ?_
  refine j_iload C dX8_says_67 rfl 0 rfl ?_
  refine j_if_lt (tgt := 160) C dX8_says_69 rfl (by decide) (fun c1_ => ?_) (fun c1_ => ?_)
  · replace h := if_t h c1_
    refine j_lv [1, 2, 3, 4, 5, 6, 7] rfl ?_
    exact w_X8_says_160 C hk1 E Hkb34 x4 x5 x6 μ h
  · replace h := if_f h c1_
    refine j_aload_n C dX8_says_72 rfl 1 rfl ?_
    refine j_getI C dX8_says_73 rfl lkX8_165 is_113 rfl ?_
    refine j_if_eq (tgt := 87) C dX8_says_76 rfl (by decide) (fun c2_ => ?_) (fun c2_ => ?_)
    · replace h := if_t h c2_
      refine j_aload_n C dX8_says_87 rfl 2 rfl ?_
      refine j_bipush (v := (nI 60)) C dX8_says_88 rfl (by decide) ?_
      refine j_bipush (v := (nI 9)) C dX8_says_90 rfl (by decide) ?_
      refine j_iload_n C dX8_says_92 rfl 3 rfl ?_
      refine j_imul C dX8_says_93 rfl ?_
      refine j_iadd C dX8_says_94 rfl ?_
      refine j_iload C dX8_says_95 rfl 7 rfl ?_
      refine j_iadd C dX8_says_97 rfl ?_
      replace h := gd_e h
      obtain ⟨g3_, h⟩ := h
      refine j_iald C dX8_says_98 rfl (isRow_is hk1) g3_ ?_
      refine j_lv [1, 2, 3, 4, 5, 6, 7, 0] rfl ?_
      exact w_X8_says_99 C hk1 E Hkb34 x4 x5 x6 t0 (μ.1 k1 (Int32.toNatClampNeg (((nI 60) + ((nI 9) * a2)) + x6))) μ h
    · replace h := if_f h c2_
      refine j_aload_n C dX8_says_79 rfl 1 rfl ?_
      refine j_aload_n C dX8_says_80 rfl 2 rfl ?_
      replace h := bd_e h
      obtain ⟨p4_, h5_, h⟩ := h
      refine j_cVI (av := [.ref k1]) (rest := []) C dX8_says_81 rfl (c_X8_drawn _ _ _ _ hk1 μ p4_ h5_) gvX8_169 ⟨⟨rfl, rfl⟩, Nat.le_of_ble_eq_true rfl, Nat.le_of_ble_eq_true rfl⟩ rfl is_113 rfl rfl (Nat.le_of_ble_eq_true rfl) ?_
      refine j_goto (pc' := 99) C dX8_says_84 (by decide) ?_
      refine j_lv [1, 2, 3, 4, 5, 6, 7, 0] rfl ?_
      exact w_X8_says_99 C hk1 E Hkb34 x4 x5 x6 t0 p4_.1 p4_.2 h
def f_X8_says_34 (k1 : Nat) (a2 : Int32) (a3 : Int32) : Nat → Int32 → Int32 → Int32 → Mem → Option (Mem)
  | 0, _, _, _, _ => none
  | n + 1, x4, x5, x6, μ => gd (inb (nI 0) 1829) <| (if (μ.1 k1 (Int32.toNatClampNeg (nI 0))) ≤ x6 then some μ else (if x6 = a2 then f_X8_says_65 k1 a2 a3 (fun x4 x5 x6 μ => f_X8_says_34 k1 a2 a3 n x4 x5 x6 μ) x4 x5 x6 (-1) μ else gd (inb x4 1829) <| Option.bind (f_X8_sentBy (μ.1 k1 (Int32.toNatClampNeg x4)) a2 x6 a3 x5 μ) fun p5_ => f_X8_says_65 k1 a2 a3 (fun x4 x5 x6 μ => f_X8_says_34 k1 a2 a3 n x4 x5 x6 μ) x4 x5 x6 p5_.1 p5_.2))
set_option maxHeartbeats 4000000 in
set_option maxRecDepth 100000 in
theorem w_X8_says_34 {Γ : jG} (C : jC Γ 9 cX8_says RX8 rmX8_says) {k1 : Nat} {a2 : Int32} {a3 : Int32} (hk1 : isRow k1) {ρ : Mem} (E : jEV Γ cX8_says ρ) : ∀ (n : Nat) (x4 : Int32) (x5 : Int32) (x6 : Int32) (μ : Mem), f_X8_says_34 k1 a2 a3 n x4 x5 x6 μ = some ρ → jJ Γ 9 34 [(0, .ref 113), (1, .ref k1), (2, .int a2), (3, .int a3), (4, .int x4), (5, .int x5), (6, .int x6)] [] μ := by
  intro n
  induction n with
  | zero => intro x4 x5 x6 μ h; rw [f_X8_says_34] at h; cases h
  | succ n ih =>
    intro x4 x5 x6 μ h
    rw [f_X8_says_34] at h
    refine j_iload C dX8_says_34 rfl 6 rfl ?_
    refine j_aload_n C dX8_says_36 rfl 1 rfl ?_
    refine j_iconst (v := (nI 0)) C dX8_says_37 rfl (by decide) ?_
    replace h := gd_e h
    obtain ⟨g1_, h⟩ := h
    refine j_iald C dX8_says_38 rfl (isRow_is hk1) g1_ ?_
    refine j_icmp_ge (tgt := 166) C dX8_says_39 rfl (by decide) (fun c2_ => ?_) (fun c2_ => ?_)
    · replace h := if_t h c2_
      obtain rfl := Option.some.inj h
      exact j_vret E dX8_says_166
    · replace h := if_f h c2_
      refine j_iload C dX8_says_42 rfl 6 rfl ?_
      refine j_iload_n C dX8_says_44 rfl 2 rfl ?_
      refine j_icmp_ne (tgt := 52) C dX8_says_45 rfl (by decide) (fun c3_ => ?_) (fun c3_ => ?_)
      · replace h := if_f h c3_
        refine j_aload_n C dX8_says_52 rfl 1 rfl ?_
        refine j_iload C dX8_says_53 rfl 4 rfl ?_
        replace h := gd_e h
        obtain ⟨g4_, h⟩ := h
        refine j_iald C dX8_says_55 rfl (isRow_is hk1) g4_ ?_
        refine j_iload_n C dX8_says_56 rfl 2 rfl ?_
        refine j_iload C dX8_says_57 rfl 6 rfl ?_
        refine j_iload_n C dX8_says_59 rfl 3 rfl ?_
        refine j_iload C dX8_says_60 rfl 5 rfl ?_
        replace h := bd_e h
        obtain ⟨p5_, h6_, h⟩ := h
        refine j_cSI (av := [.int (μ.1 k1 (Int32.toNatClampNeg x4)), .int a2, .int x6, .int a3, .int x5]) (rest := []) C dX8_says_62 rfl (c_X8_sentBy _ _ _ _ μ p5_ h6_) gsX8_161 ⟨⟨rfl, rfl⟩, Nat.le_of_ble_eq_true rfl, Nat.le_of_ble_eq_true rfl⟩ rfl rfl (Nat.le_of_ble_eq_true rfl) ?_
        refine j_lv [0, 1, 2, 3, 4, 5, 6] rfl ?_
        exact w_X8_says_65 C hk1 E ih x4 x5 x6 p5_.1 p5_.2 h
      · replace h := if_t h c3_
        refine j_iconst (v := (-1)) C dX8_says_48 rfl (by decide) ?_
        refine j_goto (pc' := 65) C dX8_says_49 (by decide) ?_
        refine j_lv [0, 1, 2, 3, 4, 5, 6] rfl ?_
        exact w_X8_says_65 C hk1 E ih x4 x5 x6 (-1) μ h
def f_X8_says (k1 : Nat) (a2 : Int32) (a3 : Int32) (μ : Mem) : Option (Mem) := zl ((nI 6) + ((nI 6) * a2)) fun x1_ => gd (inb (x1_ + (nI 3)) 1829) <| zl (μ.1 k1 (Int32.toNatClampNeg (x1_ + (nI 3)))) fun x4_ => (if x4_ = a3 then some μ else zl (sI μ k1 (Int32.toNatClampNeg (x1_ + (nI 3))) a3) fun μ7_ => f_X8_says_34 k1 a2 a3 zfu x1_ x4_ (nI 0) μ7_)
set_option maxHeartbeats 4000000 in
set_option maxRecDepth 100000 in
theorem w_X8_says {Γ : jG} (C : jC Γ 9 cX8_says RX8 rmX8_says) {k1 : Nat} {a2 : Int32} {a3 : Int32} (hk1 : isRow k1) {ρ : Mem} (E : jEV Γ cX8_says ρ) (μ : Mem) (h : f_X8_says k1 a2 a3 μ = some ρ) : jJ Γ 9 0 [(0, .ref 113), (1, .ref k1), (2, .int a2), (3, .int a3)] [] μ := by
  unfold f_X8_says at h
  refine j_bipush (v := (nI 6)) C dX8_says_0 rfl (by decide) ?_
  refine j_bipush (v := (nI 6)) C dX8_says_2 rfl (by decide) ?_
  refine j_iload_n C dX8_says_4 rfl 2 rfl ?_
  refine j_imul C dX8_says_5 rfl ?_
  refine j_iadd C dX8_says_6 rfl ?_
  refine j_topi (fun x1_ e2_ => ?_)
  replace h := zl_u h e2_
  refine j_istore (lv' := [(4, .int x1_), (0, .ref 113), (1, .ref k1), (2, .int a2), (3, .int a3)]) C dX8_says_7 rfl (by decide) rfl ?_
  refine j_aload_n C dX8_says_9 rfl 2 rfl ?_
  refine j_iload C dX8_says_10 rfl 0 rfl ?_
  refine j_iconst (v := (nI 3)) C dX8_says_12 rfl (by decide) ?_
  refine j_iadd C dX8_says_13 rfl ?_
  replace h := gd_e h
  obtain ⟨g3_, h⟩ := h
  refine j_iald C dX8_says_14 rfl (isRow_is hk1) g3_ ?_
  refine j_topi (fun x4_ e5_ => ?_)
  replace h := zl_u h e5_
  refine j_istore (lv' := [(5, .int x4_), (4, .int x1_), (0, .ref 113), (1, .ref k1), (2, .int a2), (3, .int a3)]) C dX8_says_15 rfl (by decide) rfl ?_
  refine j_iload C dX8_says_17 rfl 0 rfl ?_
  refine j_iload_n C dX8_says_19 rfl 5 rfl ?_
  refine j_icmp_ne (tgt := 24) C dX8_says_20 rfl (by decide) (fun c6_ => ?_) (fun c6_ => ?_)
  · replace h := if_f h c6_
    refine j_aload_n C dX8_says_24 rfl 3 rfl ?_
    refine j_iload C dX8_says_25 rfl 1 rfl ?_
    refine j_iconst (v := (nI 3)) C dX8_says_27 rfl (by decide) ?_
    refine j_iadd C dX8_says_28 rfl ?_
    refine j_iload_n C dX8_says_29 rfl 5 rfl ?_
    refine j_iast C dX8_says_30 rfl (isRow_is hk1) g3_ ?_
    refine j_mem (fun μ7_ e8_ => ?_)
    replace h := zl_u h e8_
    refine j_iconst (v := (nI 0)) C dX8_says_31 rfl (by decide) ?_
    refine j_istore (lv' := [(6, .int (nI 0)), (5, .int x4_), (4, .int x1_), (0, .ref 113), (1, .ref k1), (2, .int a2), (3, .int a3)]) C dX8_says_32 rfl (by decide) rfl ?_
    refine j_lv [3, 4, 5, 6, 2, 1, 0] rfl ?_
    exact w_X8_says_34 C hk1 E zfu x1_ x4_ (nI 0) μ7_ h
  · replace h := if_t h c6_
    obtain rfl := Option.some.inj h
    exact j_vret E dX8_says_23
set_option maxRecDepth 100000 in
theorem c_X8_says (l : Launch) (D : va_G) (ad : Nat → Nat) (cl : Nat → ClassId) {k1 : Nat} {a2 : Int32} {a3 : Int32} (hk1 : isRow k1) (μ : Mem) (ρ : Mem) (h : f_X8_says k1 a2 a3 μ = some ρ) : CV l D ad cl yX8_says wsX8_says rmX8_says [.ref 113, .ref k1, .int a2, .int a3] μ ρ := c_ofV (cc := cX8_says) (nL := 9) rfl (by decide) (Nat.le_of_ble_eq_true rfl) (fun Γ C E => w_X8_says C hk1 E μ h)
theorem gvX8_176 : jm_gv RX8 176 RX8 yX8_says wsX8_says 9 3 := ⟨_, _, gi_V gwt5_178 gwt5_180 gwp3_13 gwt1_9 gwt5_181, rfl, by decide +kernel⟩
/-! X8_acts -/
def wsX8_acts : List Cond := .code yX8_acts cX8_acts 7 none :: G0
def rmX8_acts : Room := { frames := 2, cells := 0, slots := 0, locals := 53 }
def f_X8_acts_129 (k1 : Nat) (a2 : Int32) (kb11 : Int32 → Int32 → Mem → Option (Mem)) (x3 : Int32) (x4 : Int32) (μ : Mem) : Option (Mem) := kb11 x3 (x4 + (nI 1)) μ
set_option maxHeartbeats 4000000 in
set_option maxRecDepth 100000 in
theorem w_X8_acts_129 {Γ : jG} (C : jC Γ 7 cX8_acts RX8 rmX8_acts) {k1 : Nat} {a2 : Int32} (hk1 : isRow k1) {kb11 : Int32 → Int32 → Mem → Option (Mem)} {ρ : Mem} (E : jEV Γ cX8_acts ρ) (Hkb11 : ∀ (x3 : Int32) (x4 : Int32) (μ : Mem), kb11 x3 x4 μ = some ρ → jJ Γ 7 11 [(0, .ref 113), (1, .ref k1), (2, .int a2), (3, .int x3), (4, .int x4)] [] μ) (x3 : Int32) (x4 : Int32) (μ : Mem) (h : f_X8_acts_129 k1 a2 kb11 x3 x4 μ = some ρ) : jJ Γ 7 129 [(0, .ref 113), (1, .ref k1), (2, .int a2), (3, .int x3), (4, .int x4)] [] μ := by
  unfold f_X8_acts_129 at h
  refine j_iinc (d := (nI 1)) (v := x4 + (nI 1)) (lv' := [(4, .int (x4 + (nI 1))), (0, .ref 113), (1, .ref k1), (2, .int a2), (3, .int x3)]) C dX8_acts_129 rfl (by decide) 4 rfl (by decide) rfl rfl ?_
  refine j_goto (pc' := 11) C dX8_acts_132 (by decide) ?_
  refine j_lv [1, 2, 3, 4, 0] rfl ?_
  exact (Hkb11) x3 (x4 + (nI 1)) μ h
def f_X8_acts_71 (k1 : Nat) (a2 : Int32) (kb11 : Int32 → Int32 → Mem → Option (Mem)) (x3 : Int32) (x4 : Int32) (x5 : Int32) (t0 : Int32) (μ : Mem) : Option (Mem) := gd (inb (x5 + (nI 2)) 1829) <| (if (μ.1 k1 (Int32.toNatClampNeg (x5 + (nI 2)))) = 0 then Option.bind (f_X8_says k1 a2 t0 μ) fun p11_ => f_X8_acts_129 k1 a2 kb11 x3 x4 p11_ else (if (μ.1 k1 (Int32.toNatClampNeg (x5 + (nI 2)))) = (nI 1) then gd (inb (x3 + (nI 1)) 1829) <| zl (sI μ k1 (Int32.toNatClampNeg (x3 + (nI 1))) t0) fun μ9_ => f_X8_acts_129 k1 a2 kb11 x3 x4 μ9_ else gd (inb (x3 + (nI 2)) 1829) <| (if (μ.1 k1 (Int32.toNatClampNeg (x3 + (nI 2)))) = (nI 2) then zl (sI μ k1 (Int32.toNatClampNeg (x3 + (nI 2))) t0) fun μ6_ => f_X8_acts_129 k1 a2 kb11 x3 x4 μ6_ else f_X8_acts_129 k1 a2 kb11 x3 x4 μ)))
set_option maxHeartbeats 4000000 in
set_option maxRecDepth 100000 in
theorem w_X8_acts_71 {Γ : jG} (C : jC Γ 7 cX8_acts RX8 rmX8_acts) {k1 : Nat} {a2 : Int32} (hk1 : isRow k1) {kb11 : Int32 → Int32 → Mem → Option (Mem)} {ρ : Mem} (E : jEV Γ cX8_acts ρ) (Hkb11 : ∀ (x3 : Int32) (x4 : Int32) (μ : Mem), kb11 x3 x4 μ = some ρ → jJ Γ 7 11 [(0, .ref 113), (1, .ref k1), (2, .int a2), (3, .int x3), (4, .int x4)] [] μ) (x3 : Int32) (x4 : Int32) (x5 : Int32) (t0 : Int32) (μ : Mem) (h : f_X8_acts_71 k1 a2 kb11 x3 x4 x5 t0 μ = some ρ) : jJ Γ 7 71 [(0, .ref 113), (1, .ref k1), (2, .int a2), (3, .int x3), (4, .int x4), (5, .int x5)] [.int t0] μ := by
  unfold f_X8_acts_71 at h
  refine j_istore (lv' := [(6, .int t0), (0, .ref 113), (1, .ref k1), (2, .int a2), (3, .int x3), (4, .int x4), (5, .int x5)]) C dX8_acts_71 rfl (by decide) rfl ?_
  refine j_aload_n C dX8_acts_73 rfl 2 rfl ?_
  refine j_iload C dX8_acts_74 rfl 6 rfl ?_
  refine j_iconst (v := (nI 2)) C dX8_acts_76 rfl (by decide) ?_
  refine j_iadd C dX8_acts_77 rfl ?_
  replace h := gd_e h
  obtain ⟨g1_, h⟩ := h
  refine j_iald C dX8_acts_78 rfl (isRow_is hk1) g1_ ?_
  refine j_if_ne (tgt := 93) C dX8_acts_79 rfl (by decide) (fun c2_ => ?_) (fun c2_ => ?_)
  · replace h := if_f h c2_
    refine j_aload_n C dX8_acts_93 rfl 2 rfl ?_
    refine j_iload C dX8_acts_94 rfl 6 rfl ?_
    refine j_iconst (v := (nI 2)) C dX8_acts_96 rfl (by decide) ?_
    refine j_iadd C dX8_acts_97 rfl ?_
    refine j_iald C dX8_acts_98 rfl (isRow_is hk1) g1_ ?_
    refine j_iconst (v := (nI 1)) C dX8_acts_99 rfl (by decide) ?_
    refine j_icmp_ne (tgt := 113) C dX8_acts_100 rfl (by decide) (fun c3_ => ?_) (fun c3_ => ?_)
    · replace h := if_f h c3_
      refine j_aload_n C dX8_acts_113 rfl 2 rfl ?_
      refine j_iload_n C dX8_acts_114 rfl 4 rfl ?_
      refine j_iconst (v := (nI 2)) C dX8_acts_115 rfl (by decide) ?_
      refine j_iadd C dX8_acts_116 rfl ?_
      replace h := gd_e h
      obtain ⟨g4_, h⟩ := h
      refine j_iald C dX8_acts_117 rfl (isRow_is hk1) g4_ ?_
      refine j_iconst (v := (nI 2)) C dX8_acts_118 rfl (by decide) ?_
      refine j_icmp_ne (tgt := 129) C dX8_acts_119 rfl (by decide) (fun c5_ => ?_) (fun c5_ => ?_)
      · replace h := if_f h c5_
        refine j_lv [1, 2, 3, 4, 5] rfl ?_
        exact w_X8_acts_129 C hk1 E Hkb11 x3 x4 μ h
      · replace h := if_t h c5_
        refine j_aload_n C dX8_acts_122 rfl 2 rfl ?_
        refine j_iload_n C dX8_acts_123 rfl 4 rfl ?_
        refine j_iconst (v := (nI 2)) C dX8_acts_124 rfl (by decide) ?_
        refine j_iadd C dX8_acts_125 rfl ?_
        refine j_iload C dX8_acts_126 rfl 0 rfl ?_
        refine j_iast C dX8_acts_128 rfl (isRow_is hk1) g4_ ?_
        refine j_mem (fun μ6_ e7_ => ?_)
        replace h := zl_u h e7_
        refine j_lv [1, 2, 3, 4, 5] rfl ?_
        exact w_X8_acts_129 C hk1 E Hkb11 x3 x4 μ6_ h
    · replace h := if_t h c3_
      refine j_aload_n C dX8_acts_103 rfl 2 rfl ?_
      refine j_iload_n C dX8_acts_104 rfl 4 rfl ?_
      refine j_iconst (v := (nI 1)) C dX8_acts_105 rfl (by decide) ?_
      refine j_iadd C dX8_acts_106 rfl ?_
      refine j_iload C dX8_acts_107 rfl 0 rfl ?_
      replace h := gd_e h
      obtain ⟨g8_, h⟩ := h
      refine j_iast C dX8_acts_109 rfl (isRow_is hk1) g8_ ?_
      refine j_mem (fun μ9_ e10_ => ?_)
      replace h := zl_u h e10_
      refine j_goto (pc' := 129) C dX8_acts_110 (by decide) ?_
      refine j_lv [1, 2, 3, 4, 5] rfl ?_
      exact w_X8_acts_129 C hk1 E Hkb11 x3 x4 μ9_ h
  · replace h := if_t h c2_
    refine j_aload_n C dX8_acts_82 rfl 1 rfl ?_
    refine j_aload_n C dX8_acts_83 rfl 2 rfl ?_
    refine j_iload_n C dX8_acts_84 rfl 3 rfl ?_
    refine j_iload C dX8_acts_85 rfl 0 rfl ?_
    replace h := bd_e h
    obtain ⟨p11_, h12_, h⟩ := h
    refine j_cVV (av := [.ref k1, .int a2, .int t0]) (rest := []) C dX8_acts_87 rfl (c_X8_says _ _ _ _ hk1 μ p11_ h12_) gvX8_176 ⟨⟨rfl, rfl⟩, Nat.le_of_ble_eq_true rfl, Nat.le_of_ble_eq_true rfl⟩ rfl is_113 rfl rfl (Nat.le_of_ble_eq_true rfl) ?_
    refine j_goto (pc' := 129) C dX8_acts_90 (by decide) ?_
    refine j_lv [1, 2, 3, 4, 5] rfl ?_
    exact w_X8_acts_129 C hk1 E Hkb11 x3 x4 p11_ h
def f_X8_acts_11 (k1 : Nat) (a2 : Int32) : Nat → Int32 → Int32 → Mem → Option (Mem)
  | 0, _, _, _ => none
  | n + 1, x3, x4, μ => gd (inb (nI 3) 1829) <| (if (μ.1 k1 (Int32.toNatClampNeg (nI 3))) ≤ x4 then some μ else zl ((nI 1761) + ((nI 4) * x4)) fun x3_ => gd (inb x3_ 1829) <| Option.bind (f_X8_countBy k1 a2 (μ.1 k1 (Int32.toNatClampNeg x3_)) μ) fun p6_ => gd (inb (x3_ + (nI 1)) 1829) <| (if p6_.1 < (p6_.2.1 k1 (Int32.toNatClampNeg (x3_ + (nI 1)))) then f_X8_acts_129 k1 a2 (fun x3 x4 μ => f_X8_acts_11 k1 a2 n x3 x4 μ) x3 x4 p6_.2 else gd (inb (x3_ + (nI 3)) 1829) <| (if (p6_.2.1 k1 (Int32.toNatClampNeg (x3_ + (nI 3)))) = (nI 2) then gd (inb (x3 + (nI 1)) 1829) <| f_X8_acts_71 k1 a2 (fun x3 x4 μ => f_X8_acts_11 k1 a2 n x3 x4 μ) x3 x4 x3_ (p6_.2.1 k1 (Int32.toNatClampNeg (x3 + (nI 1)))) p6_.2 else f_X8_acts_71 k1 a2 (fun x3 x4 μ => f_X8_acts_11 k1 a2 n x3 x4 μ) x3 x4 x3_ (p6_.2.1 k1 (Int32.toNatClampNeg (x3_ + (nI 3)))) p6_.2)))
set_option maxHeartbeats 4000000 in
set_option maxRecDepth 100000 in
theorem w_X8_acts_11 {Γ : jG} (C : jC Γ 7 cX8_acts RX8 rmX8_acts) {k1 : Nat} {a2 : Int32} (hk1 : isRow k1) {ρ : Mem} (E : jEV Γ cX8_acts ρ) : ∀ (n : Nat) (x3 : Int32) (x4 : Int32) (μ : Mem), f_X8_acts_11 k1 a2 n x3 x4 μ = some ρ → jJ Γ 7 11 [(0, .ref 113), (1, .ref k1), (2, .int a2), (3, .int x3), (4, .int x4)] [] μ := by
  intro n
  induction n with
  | zero => intro x3 x4 μ h; rw [f_X8_acts_11] at h; cases h
  | succ n ih =>
    intro x3 x4 μ h
    rw [f_X8_acts_11] at h
    refine j_iload C dX8_acts_11 rfl 4 rfl ?_
    refine j_aload_n C dX8_acts_13 rfl 1 rfl ?_
    refine j_iconst (v := (nI 3)) C dX8_acts_14 rfl (by decide) ?_
    replace h := gd_e h
    obtain ⟨g1_, h⟩ := h
    refine j_iald C dX8_acts_15 rfl (isRow_is hk1) g1_ ?_
    refine j_icmp_ge (tgt := 135) C dX8_acts_16 rfl (by decide) (fun c2_ => ?_) (fun c2_ => ?_)
    · replace h := if_t h c2_
      obtain rfl := Option.some.inj h
      exact j_vret E dX8_acts_135
    · replace h := if_f h c2_
      refine j_sipush (v := (nI 1761)) C dX8_acts_19 rfl (by decide) ?_
      refine j_iconst (v := (nI 4)) C dX8_acts_22 rfl (by decide) ?_
      refine j_iload C dX8_acts_23 rfl 4 rfl ?_
      refine j_imul C dX8_acts_25 rfl ?_
      refine j_iadd C dX8_acts_26 rfl ?_
      refine j_topi (fun x3_ e4_ => ?_)
      replace h := zl_u h e4_
      refine j_istore (lv' := [(5, .int x3_), (0, .ref 113), (1, .ref k1), (2, .int a2), (3, .int x3), (4, .int x4)]) C dX8_acts_27 rfl (by decide) rfl ?_
      refine j_aload_n C dX8_acts_29 rfl 2 rfl ?_
      refine j_iload_n C dX8_acts_30 rfl 3 rfl ?_
      refine j_aload_n C dX8_acts_31 rfl 2 rfl ?_
      refine j_iload C dX8_acts_32 rfl 0 rfl ?_
      replace h := gd_e h
      obtain ⟨g5_, h⟩ := h
      refine j_iald C dX8_acts_34 rfl (isRow_is hk1) g5_ ?_
      replace h := bd_e h
      obtain ⟨p6_, h7_, h⟩ := h
      refine j_cSI (av := [.ref k1, .int a2, .int (μ.1 k1 (Int32.toNatClampNeg x3_))]) (rest := []) C dX8_acts_35 rfl (c_X8_countBy _ _ _ _ hk1 μ p6_ h7_) gsX8_90 ⟨⟨rfl, rfl⟩, Nat.le_of_ble_eq_true rfl, Nat.le_of_ble_eq_true rfl⟩ rfl rfl (Nat.le_of_ble_eq_true rfl) ?_
      refine j_aload_n C dX8_acts_38 rfl 2 rfl ?_
      refine j_iload C dX8_acts_39 rfl 0 rfl ?_
      refine j_iconst (v := (nI 1)) C dX8_acts_41 rfl (by decide) ?_
      refine j_iadd C dX8_acts_42 rfl ?_
      replace h := gd_e h
      obtain ⟨g8_, h⟩ := h
      refine j_iald C dX8_acts_43 rfl (isRow_is hk1) g8_ ?_
      refine j_icmp_lt (tgt := 129) C dX8_acts_44 rfl (by decide) (fun c9_ => ?_) (fun c9_ => ?_)
      · replace h := if_t h c9_
        refine j_lv [1, 2, 3, 4, 5] rfl ?_
        exact w_X8_acts_129 C hk1 E ih x3 x4 p6_.2 h
      · replace h := if_f h c9_
        refine j_aload_n C dX8_acts_47 rfl 2 rfl ?_
        refine j_iload C dX8_acts_48 rfl 0 rfl ?_
        refine j_iconst (v := (nI 3)) C dX8_acts_50 rfl (by decide) ?_
        refine j_iadd C dX8_acts_51 rfl ?_
        replace h := gd_e h
        obtain ⟨g10_, h⟩ := h
        refine j_iald C dX8_acts_52 rfl (isRow_is hk1) g10_ ?_
        refine j_iconst (v := (nI 2)) C dX8_acts_53 rfl (by decide) ?_
        refine j_icmp_ne (tgt := 65) C dX8_acts_54 rfl (by decide) (fun c11_ => ?_) (fun c11_ => ?_)
        · replace h := if_f h c11_
          refine j_aload_n C dX8_acts_65 rfl 2 rfl ?_
          refine j_iload C dX8_acts_66 rfl 0 rfl ?_
          refine j_iconst (v := (nI 3)) C dX8_acts_68 rfl (by decide) ?_
          refine j_iadd C dX8_acts_69 rfl ?_
          refine j_iald C dX8_acts_70 rfl (isRow_is hk1) g10_ ?_
          refine j_lv [1, 2, 3, 4, 5, 0] rfl ?_
          exact w_X8_acts_71 C hk1 E ih x3 x4 x3_ (p6_.2.1 k1 (Int32.toNatClampNeg (x3_ + (nI 3)))) p6_.2 h
        · replace h := if_t h c11_
          refine j_aload_n C dX8_acts_57 rfl 2 rfl ?_
          refine j_iload_n C dX8_acts_58 rfl 4 rfl ?_
          refine j_iconst (v := (nI 1)) C dX8_acts_59 rfl (by decide) ?_
          refine j_iadd C dX8_acts_60 rfl ?_
          replace h := gd_e h
          obtain ⟨g12_, h⟩ := h
          refine j_iald C dX8_acts_61 rfl (isRow_is hk1) g12_ ?_
          refine j_goto (pc' := 71) C dX8_acts_62 (by decide) ?_
          refine j_lv [1, 2, 3, 4, 5, 0] rfl ?_
          exact w_X8_acts_71 C hk1 E ih x3 x4 x3_ (p6_.2.1 k1 (Int32.toNatClampNeg (x3 + (nI 1)))) p6_.2 h
def f_X8_acts (k1 : Nat) (a2 : Int32) (μ : Mem) : Option (Mem) := zl ((nI 6) + ((nI 6) * a2)) fun x1_ => f_X8_acts_11 k1 a2 zfu x1_ (nI 0) μ
set_option maxHeartbeats 4000000 in
set_option maxRecDepth 100000 in
theorem w_X8_acts {Γ : jG} (C : jC Γ 7 cX8_acts RX8 rmX8_acts) {k1 : Nat} {a2 : Int32} (hk1 : isRow k1) {ρ : Mem} (E : jEV Γ cX8_acts ρ) (μ : Mem) (h : f_X8_acts k1 a2 μ = some ρ) : jJ Γ 7 0 [(0, .ref 113), (1, .ref k1), (2, .int a2)] [] μ := by
  unfold f_X8_acts at h
  refine j_bipush (v := (nI 6)) C dX8_acts_0 rfl (by decide) ?_
  refine j_bipush (v := (nI 6)) C dX8_acts_2 rfl (by decide) ?_
  refine j_iload_n C dX8_acts_4 rfl 2 rfl ?_
  refine j_imul C dX8_acts_5 rfl ?_
  refine j_iadd C dX8_acts_6 rfl ?_
  refine j_topi (fun x1_ e2_ => ?_)
  replace h := zl_u h e2_
  refine j_istore_n (lv' := [(3, .int x1_), (0, .ref 113), (1, .ref k1), (2, .int a2)]) C dX8_acts_7 rfl (by decide) rfl ?_
  refine j_iconst (v := (nI 0)) C dX8_acts_8 rfl (by decide) ?_
  refine j_istore (lv' := [(4, .int (nI 0)), (3, .int x1_), (0, .ref 113), (1, .ref k1), (2, .int a2)]) C dX8_acts_9 rfl (by decide) rfl ?_
  refine j_lv [2, 3, 4, 1, 0] rfl ?_
  exact w_X8_acts_11 C hk1 E zfu x1_ (nI 0) μ h
set_option maxRecDepth 100000 in
theorem c_X8_acts (l : Launch) (D : va_G) (ad : Nat → Nat) (cl : Nat → ClassId) {k1 : Nat} {a2 : Int32} (hk1 : isRow k1) (μ : Mem) (ρ : Mem) (h : f_X8_acts k1 a2 μ = some ρ) : CV l D ad cl yX8_acts wsX8_acts rmX8_acts [.ref 113, .ref k1, .int a2] μ ρ := c_ofV (cc := cX8_acts) (nL := 7) rfl (by decide) (Nat.le_of_ble_eq_true rfl) (fun Γ C E => w_X8_acts C hk1 E μ h)
/-! X8_isOut -/
def wsX8_isOut : List Cond := .code yX8_isOut cX8_isOut 3 (some .boolean) :: G0
def rmX8_isOut : Room := { frames := 1, cells := 0, slots := 0, locals := 22 }
def f_X8_isOut_16 (k1 : Nat) (a2 : Int32) (μ : Mem) : Option (Int32 × Mem) := some ((nI 1), μ)
set_option maxHeartbeats 4000000 in
set_option maxRecDepth 100000 in
theorem w_X8_isOut_16 {Γ : jG} (C : jC Γ 3 cX8_isOut RX8 rmX8_isOut) {k1 : Nat} {a2 : Int32} (hk1 : isRow k1) {ρ : Int32 × Mem} (E : (isB ρ.1 = true → jEI Γ cX8_isOut ρ.1 ρ.2)) (μ : Mem) (h : f_X8_isOut_16 k1 a2 μ = some ρ) : jJ Γ 3 16 [] [] μ := by
  unfold f_X8_isOut_16 at h
  refine j_iconst (v := (nI 1)) C dX8_isOut_16 rfl (by decide) ?_
  refine j_goto (pc' := 21) C dX8_isOut_17 (by decide) ?_
  obtain rfl := Option.some.inj h
  exact j_iret (E isB_1) dX8_isOut_21
def f_X8_isOut (k1 : Nat) (a2 : Int32) (μ : Mem) : Option (Int32 × Mem) := (if a2 = (μ.1 113 17) then f_X8_isOut_16 k1 a2 μ else Option.bind (f_X8_isDark k1 a2 μ) fun p2_ => (if p2_.1 = 0 then some ((nI 0), p2_.2) else f_X8_isOut_16 k1 a2 p2_.2))
set_option maxHeartbeats 4000000 in
set_option maxRecDepth 100000 in
theorem w_X8_isOut {Γ : jG} (C : jC Γ 3 cX8_isOut RX8 rmX8_isOut) {k1 : Nat} {a2 : Int32} (hk1 : isRow k1) {ρ : Int32 × Mem} (E : (isB ρ.1 = true → jEI Γ cX8_isOut ρ.1 ρ.2)) (μ : Mem) (h : f_X8_isOut k1 a2 μ = some ρ) : jJ Γ 3 0 [(0, .ref 113), (1, .ref k1), (2, .int a2)] [] μ := by
  unfold f_X8_isOut at h
  refine j_iload_n C dX8_isOut_0 rfl 2 rfl ?_
  refine j_aload_n C dX8_isOut_1 rfl 0 rfl ?_
  refine j_getI C dX8_isOut_2 rfl lkX8_38 is_113 rfl ?_
  refine j_icmp_eq (tgt := 16) C dX8_isOut_5 rfl (by decide) (fun c1_ => ?_) (fun c1_ => ?_)
  · replace h := if_t h c1_
    refine j_lv [] rfl ?_
    exact w_X8_isOut_16 C hk1 E μ h
  · replace h := if_f h c1_
    refine j_aload_n C dX8_isOut_8 rfl 1 rfl ?_
    refine j_iload_n C dX8_isOut_9 rfl 2 rfl ?_
    replace h := bd_e h
    obtain ⟨p2_, h3_, h⟩ := h
    refine j_cSI (av := [.ref k1, .int a2]) (rest := []) C dX8_isOut_10 rfl (c_X8_isDark _ _ _ _ hk1 μ p2_ h3_) gsX8_73 ⟨⟨rfl, rfl⟩, Nat.le_of_ble_eq_true rfl, Nat.le_of_ble_eq_true rfl⟩ rfl rfl (Nat.le_of_ble_eq_true rfl) ?_
    refine j_if_eq (tgt := 20) C dX8_isOut_13 rfl (by decide) (fun c4_ => ?_) (fun c4_ => ?_)
    · replace h := if_t h c4_
      refine j_iconst (v := (nI 0)) C dX8_isOut_20 rfl (by decide) ?_
      obtain rfl := Option.some.inj h
      exact j_iret (E isB_0) dX8_isOut_21
    · replace h := if_f h c4_
      refine j_lv [] rfl ?_
      exact w_X8_isOut_16 C hk1 E p2_.2 h
set_option maxRecDepth 100000 in
theorem c_X8_isOut (l : Launch) (D : va_G) (ad : Nat → Nat) (cl : Nat → ClassId) {k1 : Nat} {a2 : Int32} (hk1 : isRow k1) (μ : Mem) (ρ : Int32 × Mem) (h : f_X8_isOut k1 a2 μ = some ρ) : CI l D ad cl yX8_isOut wsX8_isOut rmX8_isOut [.ref 113, .ref k1, .int a2] μ ρ.1 ρ.2 := c_ofZ (cc := cX8_isOut) (nL := 3) rfl (by decide) (Nat.le_of_ble_eq_true rfl) (fun Γ C E => w_X8_isOut C hk1 E μ h)
theorem gvX8_183 : jm_gv RX8 183 RX8 yX8_acts wsX8_acts 7 2 := ⟨_, _, gi_V gwt5_174 gwt5_176 gwp3_12 gwt1_9 gwt5_177, rfl, by decide +kernel⟩
theorem gvX8_180 : jm_gv RX8 180 RX8 yX8_isOut wsX8_isOut 3 2 := ⟨_, _, gi_V gwt5_170 gwt5_172 gwp3_11 gwt1_9 gwt5_173, rfl, by decide +kernel⟩
/-! X8_goes -/
def wsX8_goes : List Cond := .code yX8_goes cX8_goes 6 none :: G0
def rmX8_goes : Room := { frames := 3, cells := 0, slots := 0, locals := 79 }
def f_X8_goes_161 (k1 : Nat) (t1 : Int32) (t2 : Int32) (μ : Mem) : Option (Mem) := gd (inb t1 1829) <| zl (sI μ k1 (Int32.toNatClampNeg t1) t2) fun μ2_ => gd (inb (nI 1) 1829) <| zl (sI μ2_ k1 (Int32.toNatClampNeg (nI 1)) ((μ2_.1 k1 (Int32.toNatClampNeg (nI 1))) + (nI 1))) fun μ5_ => some μ5_
set_option maxHeartbeats 4000000 in
set_option maxRecDepth 100000 in
theorem w_X8_goes_161 {Γ : jG} (C : jC Γ 6 cX8_goes RX8 rmX8_goes) {k1 : Nat} (hk1 : isRow k1) {ρ : Mem} (E : jEV Γ cX8_goes ρ) (t1 : Int32) (t2 : Int32) (μ : Mem) (h : f_X8_goes_161 k1 t1 t2 μ = some ρ) : jJ Γ 6 161 [(1, .ref k1)] [.int t2, .int t1, .ref k1] μ := by
  unfold f_X8_goes_161 at h
  replace h := gd_e h
  obtain ⟨g1_, h⟩ := h
  refine j_iast C dX8_goes_161 rfl (isRow_is hk1) g1_ ?_
  refine j_mem (fun μ2_ e3_ => ?_)
  replace h := zl_u h e3_
  refine j_aload_n C dX8_goes_162 rfl 0 rfl ?_
  refine j_iconst (v := (nI 1)) C dX8_goes_163 rfl (by decide) ?_
  refine j_dup2 C dX8_goes_164 rfl rfl rfl ?_
  replace h := gd_e h
  obtain ⟨g4_, h⟩ := h
  refine j_iald C dX8_goes_165 rfl (isRow_is hk1) g4_ ?_
  refine j_iconst (v := (nI 1)) C dX8_goes_166 rfl (by decide) ?_
  refine j_iadd C dX8_goes_167 rfl ?_
  refine j_iast C dX8_goes_168 rfl (isRow_is hk1) g4_ ?_
  refine j_mem (fun μ5_ e6_ => ?_)
  replace h := zl_u h e6_
  obtain rfl := Option.some.inj h
  exact j_vret E dX8_goes_169
def f_X8_goes_133 (k1 : Nat) (μ : Mem) : Option (Mem) := gd (inb (nI 2) 1829) <| (if ((μ.1 k1 (Int32.toNatClampNeg (nI 2))) + (μ.1 113 18)) ≤ (nI 999999) then f_X8_goes_161 k1 (nI 2) ((μ.1 k1 (Int32.toNatClampNeg (nI 2))) + (μ.1 113 18)) μ else f_X8_goes_161 k1 (nI 2) (nI 999999) μ)
set_option maxHeartbeats 4000000 in
set_option maxRecDepth 100000 in
theorem w_X8_goes_133 {Γ : jG} (C : jC Γ 6 cX8_goes RX8 rmX8_goes) {k1 : Nat} (hk1 : isRow k1) {ρ : Mem} (E : jEV Γ cX8_goes ρ) (μ : Mem) (h : f_X8_goes_133 k1 μ = some ρ) : jJ Γ 6 133 [(0, .ref 113), (1, .ref k1)] [] μ := by
  unfold f_X8_goes_133 at h
  refine j_aload_n C dX8_goes_133 rfl 1 rfl ?_
  refine j_iconst (v := (nI 2)) C dX8_goes_134 rfl (by decide) ?_
  refine j_aload_n C dX8_goes_135 rfl 1 rfl ?_
  refine j_iconst (v := (nI 2)) C dX8_goes_136 rfl (by decide) ?_
  replace h := gd_e h
  obtain ⟨g1_, h⟩ := h
  refine j_iald C dX8_goes_137 rfl (isRow_is hk1) g1_ ?_
  refine j_aload_n C dX8_goes_138 rfl 0 rfl ?_
  refine j_getI C dX8_goes_139 rfl lkX8_173 is_113 rfl ?_
  refine j_iadd C dX8_goes_142 rfl ?_
  refine j_ldc (v := (nI 999999)) C dX8_goes_143 rfl gwt5_192 ?_
  refine j_icmp_le (tgt := 153) C dX8_goes_145 rfl (by decide) (fun c2_ => ?_) (fun c2_ => ?_)
  · replace h := if_t h c2_
    refine j_aload_n C dX8_goes_153 rfl 1 rfl ?_
    refine j_iconst (v := (nI 2)) C dX8_goes_154 rfl (by decide) ?_
    refine j_iald C dX8_goes_155 rfl (isRow_is hk1) g1_ ?_
    refine j_aload_n C dX8_goes_156 rfl 0 rfl ?_
    refine j_getI C dX8_goes_157 rfl lkX8_173 is_113 rfl ?_
    refine j_iadd C dX8_goes_160 rfl ?_
    refine j_lv [1] rfl ?_
    exact w_X8_goes_161 C hk1 E (nI 2) ((μ.1 k1 (Int32.toNatClampNeg (nI 2))) + (μ.1 113 18)) μ h
  · replace h := if_f h c2_
    refine j_ldc (v := (nI 999999)) C dX8_goes_148 rfl gwt5_192 ?_
    refine j_goto (pc' := 161) C dX8_goes_150 (by decide) ?_
    refine j_lv [1] rfl ?_
    exact w_X8_goes_161 C hk1 E (nI 2) (nI 999999) μ h
def f_X8_goes_127 (k1 : Nat) (kb105 : Int32 → Mem → Option (Mem)) (kx133 : Mem → Option (Mem)) (x3 : Int32) (μ : Mem) : Option (Mem) := kb105 (x3 + (nI 1)) μ
set_option maxHeartbeats 4000000 in
set_option maxRecDepth 100000 in
theorem w_X8_goes_127 {Γ : jG} (C : jC Γ 6 cX8_goes RX8 rmX8_goes) {k1 : Nat} (hk1 : isRow k1) {kb105 : Int32 → Mem → Option (Mem)} {kx133 : Mem → Option (Mem)} {ρ : Mem} (E : jEV Γ cX8_goes ρ) (Hkb105 : ∀ (x3 : Int32) (μ : Mem), kb105 x3 μ = some ρ → jJ Γ 6 105 [(0, .ref 113), (1, .ref k1), (3, .int x3)] [] μ) (Hkx133 : ∀ (μ : Mem), kx133 μ = some ρ → jJ Γ 6 133 [(0, .ref 113), (1, .ref k1)] [] μ) (x3 : Int32) (μ : Mem) (h : f_X8_goes_127 k1 kb105 kx133 x3 μ = some ρ) : jJ Γ 6 127 [(0, .ref 113), (1, .ref k1), (3, .int x3)] [] μ := by
  unfold f_X8_goes_127 at h
  refine j_iinc (d := (nI 1)) (v := x3 + (nI 1)) (lv' := [(3, .int (x3 + (nI 1))), (0, .ref 113), (1, .ref k1)]) C dX8_goes_127 rfl (by decide) 2 rfl (by decide) rfl rfl ?_
  refine j_goto (pc' := 105) C dX8_goes_130 (by decide) ?_
  refine j_lv [1, 2, 0] rfl ?_
  exact (Hkb105) (x3 + (nI 1)) μ h
def f_X8_goes_105 (k1 : Nat) (kx133 : Mem → Option (Mem)) : Nat → Int32 → Mem → Option (Mem)
  | 0, _, _ => none
  | n + 1, x3, μ => gd (inb (nI 0) 1829) <| (if (μ.1 k1 (Int32.toNatClampNeg (nI 0))) ≤ x3 then kx133 μ else Option.bind (f_X8_isOut k1 x3 μ) fun p3_ => (if p3_.1 = 0 then Option.bind (f_X8_acts k1 x3 p3_.2) fun p6_ => f_X8_goes_127 k1 (fun x3 μ => f_X8_goes_105 k1 kx133 n x3 μ) kx133 x3 p6_ else f_X8_goes_127 k1 (fun x3 μ => f_X8_goes_105 k1 kx133 n x3 μ) kx133 x3 p3_.2))
set_option maxHeartbeats 4000000 in
set_option maxRecDepth 100000 in
theorem w_X8_goes_105 {Γ : jG} (C : jC Γ 6 cX8_goes RX8 rmX8_goes) {k1 : Nat} (hk1 : isRow k1) {kx133 : Mem → Option (Mem)} {ρ : Mem} (E : jEV Γ cX8_goes ρ) (Hkx133 : ∀ (μ : Mem), kx133 μ = some ρ → jJ Γ 6 133 [(0, .ref 113), (1, .ref k1)] [] μ) : ∀ (n : Nat) (x3 : Int32) (μ : Mem), f_X8_goes_105 k1 kx133 n x3 μ = some ρ → jJ Γ 6 105 [(0, .ref 113), (1, .ref k1), (3, .int x3)] [] μ := by
  intro n
  induction n with
  | zero => intro x3 μ h; rw [f_X8_goes_105] at h; cases h
  | succ n ih =>
    intro x3 μ h
    rw [f_X8_goes_105] at h
    refine j_iload_n C dX8_goes_105 rfl 2 rfl ?_
    refine j_aload_n C dX8_goes_106 rfl 1 rfl ?_
    refine j_iconst (v := (nI 0)) C dX8_goes_107 rfl (by decide) ?_
    replace h := gd_e h
    obtain ⟨g1_, h⟩ := h
    refine j_iald C dX8_goes_108 rfl (isRow_is hk1) g1_ ?_
    refine j_icmp_ge (tgt := 133) C dX8_goes_109 rfl (by decide) (fun c2_ => ?_) (fun c2_ => ?_)
    · replace h := if_t h c2_
      refine j_lv [0, 1] rfl ?_
      exact (Hkx133) μ h
    · replace h := if_f h c2_
      refine j_aload_n C dX8_goes_112 rfl 0 rfl ?_
      refine j_aload_n C dX8_goes_113 rfl 1 rfl ?_
      refine j_iload_n C dX8_goes_114 rfl 2 rfl ?_
      replace h := bd_e h
      obtain ⟨p3_, h4_, h⟩ := h
      refine j_cVI (av := [.ref k1, .int x3]) (rest := []) C dX8_goes_115 rfl (c_X8_isOut _ _ _ _ hk1 μ p3_ h4_) gvX8_180 ⟨⟨rfl, rfl⟩, Nat.le_of_ble_eq_true rfl, Nat.le_of_ble_eq_true rfl⟩ rfl is_113 rfl rfl (Nat.le_of_ble_eq_true rfl) ?_
      refine j_if_ne (tgt := 127) C dX8_goes_118 rfl (by decide) (fun c5_ => ?_) (fun c5_ => ?_)
      · replace h := if_f h c5_
        refine j_lv [0, 1, 2] rfl ?_
        exact w_X8_goes_127 C hk1 E ih Hkx133 x3 p3_.2 h
      · replace h := if_t h c5_
        refine j_aload_n C dX8_goes_121 rfl 0 rfl ?_
        refine j_aload_n C dX8_goes_122 rfl 1 rfl ?_
        refine j_iload_n C dX8_goes_123 rfl 2 rfl ?_
        replace h := bd_e h
        obtain ⟨p6_, h7_, h⟩ := h
        refine j_cVV (av := [.ref k1, .int x3]) (rest := []) C dX8_goes_124 rfl (c_X8_acts _ _ _ _ hk1 p3_.2 p6_ h7_) gvX8_183 ⟨⟨rfl, rfl⟩, Nat.le_of_ble_eq_true rfl, Nat.le_of_ble_eq_true rfl⟩ rfl is_113 rfl rfl (Nat.le_of_ble_eq_true rfl) ?_
        refine j_lv [0, 1, 2] rfl ?_
        exact w_X8_goes_127 C hk1 E ih Hkx133 x3 p6_ h
def f_X8_goes_98 (k1 : Nat) (μ : Mem) : Option (Mem) := zl (sI μ 113 18 (nI 0)) fun μ1_ => f_X8_goes_105 k1 (fun μ => f_X8_goes_133 k1 μ) zfu (nI 0) μ1_
set_option maxHeartbeats 4000000 in
set_option maxRecDepth 100000 in
theorem w_X8_goes_98 {Γ : jG} (C : jC Γ 6 cX8_goes RX8 rmX8_goes) {k1 : Nat} (hk1 : isRow k1) {ρ : Mem} (E : jEV Γ cX8_goes ρ) (μ : Mem) (h : f_X8_goes_98 k1 μ = some ρ) : jJ Γ 6 98 [(0, .ref 113), (1, .ref k1)] [] μ := by
  unfold f_X8_goes_98 at h
  refine j_aload_n C dX8_goes_98 rfl 0 rfl ?_
  refine j_iconst (v := (nI 0)) C dX8_goes_99 rfl (by decide) ?_
  refine j_putI C dX8_goes_100 rfl lpX8_173 is_113 rfl ?_
  refine j_mem (fun μ1_ e2_ => ?_)
  replace h := zl_u h e2_
  refine j_iconst (v := (nI 0)) C dX8_goes_103 rfl (by decide) ?_
  refine j_istore_n (lv' := [(3, .int (nI 0)), (0, .ref 113), (1, .ref k1)]) C dX8_goes_104 rfl (by decide) rfl ?_
  refine j_lv [1, 2, 0] rfl ?_
  exact w_X8_goes_105 C hk1 E (fun μ h => w_X8_goes_133 C hk1 E μ h) zfu (nI 0) μ1_ h
def f_X8_goes_92 (k1 : Nat) (kb9 : Int32 → Int32 → Mem → Option (Mem)) (kx98 : Mem → Option (Mem)) (x2 : Int32) (x3 : Int32) (μ : Mem) : Option (Mem) := kb9 x2 (x3 + (nI 1)) μ
set_option maxHeartbeats 4000000 in
set_option maxRecDepth 100000 in
theorem w_X8_goes_92 {Γ : jG} (C : jC Γ 6 cX8_goes RX8 rmX8_goes) {k1 : Nat} (hk1 : isRow k1) {kb9 : Int32 → Int32 → Mem → Option (Mem)} {kx98 : Mem → Option (Mem)} {ρ : Mem} (E : jEV Γ cX8_goes ρ) (Hkb9 : ∀ (x2 : Int32) (x3 : Int32) (μ : Mem), kb9 x2 x3 μ = some ρ → jJ Γ 6 9 [(0, .ref 113), (1, .ref k1), (2, .int x2), (3, .int x3)] [] μ) (Hkx98 : ∀ (μ : Mem), kx98 μ = some ρ → jJ Γ 6 98 [(0, .ref 113), (1, .ref k1)] [] μ) (x2 : Int32) (x3 : Int32) (μ : Mem) (h : f_X8_goes_92 k1 kb9 kx98 x2 x3 μ = some ρ) : jJ Γ 6 92 [(0, .ref 113), (1, .ref k1), (2, .int x2), (3, .int x3)] [] μ := by
  unfold f_X8_goes_92 at h
  refine j_iinc (d := (nI 1)) (v := x3 + (nI 1)) (lv' := [(3, .int (x3 + (nI 1))), (0, .ref 113), (1, .ref k1), (2, .int x2)]) C dX8_goes_92 rfl (by decide) 3 rfl (by decide) rfl rfl ?_
  refine j_goto (pc' := 9) C dX8_goes_95 (by decide) ?_
  refine j_lv [1, 2, 3, 0] rfl ?_
  exact (Hkb9) x2 (x3 + (nI 1)) μ h
def f_X8_goes_81 (k1 : Nat) (kb19 : Int32 → Int32 → Int32 → Mem → Option (Mem)) (kx92 : Int32 → Int32 → Mem → Option (Mem)) (x2 : Int32) (x3 : Int32) (x4 : Int32) (x5 : Int32) (μ : Mem) : Option (Mem) := gd (inb x5 1829) <| zl (sI μ k1 (Int32.toNatClampNeg x5) (nI 0)) fun μ2_ => kb19 x2 x3 (x4 + (nI 1)) μ2_
set_option maxHeartbeats 4000000 in
set_option maxRecDepth 100000 in
theorem w_X8_goes_81 {Γ : jG} (C : jC Γ 6 cX8_goes RX8 rmX8_goes) {k1 : Nat} (hk1 : isRow k1) {kb19 : Int32 → Int32 → Int32 → Mem → Option (Mem)} {kx92 : Int32 → Int32 → Mem → Option (Mem)} {ρ : Mem} (E : jEV Γ cX8_goes ρ) (Hkb19 : ∀ (x2 : Int32) (x3 : Int32) (x4 : Int32) (μ : Mem), kb19 x2 x3 x4 μ = some ρ → jJ Γ 6 19 [(0, .ref 113), (1, .ref k1), (2, .int x2), (3, .int x3), (4, .int x4)] [] μ) (Hkx92 : ∀ (x2 : Int32) (x3 : Int32) (μ : Mem), kx92 x2 x3 μ = some ρ → jJ Γ 6 92 [(0, .ref 113), (1, .ref k1), (2, .int x2), (3, .int x3)] [] μ) (x2 : Int32) (x3 : Int32) (x4 : Int32) (x5 : Int32) (μ : Mem) (h : f_X8_goes_81 k1 kb19 kx92 x2 x3 x4 x5 μ = some ρ) : jJ Γ 6 81 [(0, .ref 113), (1, .ref k1), (2, .int x2), (3, .int x3), (4, .int x4), (5, .int x5)] [] μ := by
  unfold f_X8_goes_81 at h
  refine j_aload_n C dX8_goes_81 rfl 1 rfl ?_
  refine j_iload C dX8_goes_82 rfl 5 rfl ?_
  refine j_iconst (v := (nI 0)) C dX8_goes_84 rfl (by decide) ?_
  replace h := gd_e h
  obtain ⟨g1_, h⟩ := h
  refine j_iast C dX8_goes_85 rfl (isRow_is hk1) g1_ ?_
  refine j_mem (fun μ2_ e3_ => ?_)
  replace h := zl_u h e3_
  refine j_iinc (d := (nI 1)) (v := x4 + (nI 1)) (lv' := [(4, .int (x4 + (nI 1))), (0, .ref 113), (1, .ref k1), (2, .int x2), (3, .int x3), (5, .int x5)]) C dX8_goes_86 rfl (by decide) 4 rfl (by decide) rfl rfl ?_
  refine j_goto (pc' := 19) C dX8_goes_89 (by decide) ?_
  refine j_lv [1, 2, 3, 4, 0] rfl ?_
  exact (Hkb19) x2 x3 (x4 + (nI 1)) μ2_ h
def f_X8_goes_19 (k1 : Nat) (kx92 : Int32 → Int32 → Mem → Option (Mem)) : Nat → Int32 → Int32 → Int32 → Mem → Option (Mem)
  | 0, _, _, _, _ => none
  | n + 1, x2, x3, x4, μ => gd (inb (nI 0) 1829) <| (if (μ.1 k1 (Int32.toNatClampNeg (nI 0))) ≤ x4 then kx92 x2 x3 μ else zl (((nI 222) + ((nI 19) * (((nI 9) * x3) + x4))) + x2) fun x3_ => gd (inb x3_ 1829) <| (if (μ.1 k1 (Int32.toNatClampNeg x3_)) ≤ 0 then f_X8_goes_81 k1 (fun x2 x3 x4 μ => f_X8_goes_19 k1 kx92 n x2 x3 x4 μ) kx92 x2 x3 x4 x3_ μ else Option.bind (f_X8_isOut k1 x4 μ) fun p7_ => (if p7_.1 = 0 then gd (inb (((nI 141) + ((nI 9) * x4)) + x3) 1829) <| zl (sI p7_.2 k1 (Int32.toNatClampNeg (((nI 141) + ((nI 9) * x4)) + x3)) ((p7_.2.1 k1 (Int32.toNatClampNeg x3_)) - (nI 1))) fun μ11_ => f_X8_goes_81 k1 (fun x2 x3 x4 μ => f_X8_goes_19 k1 kx92 n x2 x3 x4 μ) kx92 x2 x3 x4 x3_ μ11_ else f_X8_goes_81 k1 (fun x2 x3 x4 μ => f_X8_goes_19 k1 kx92 n x2 x3 x4 μ) kx92 x2 x3 x4 x3_ p7_.2)))
set_option maxHeartbeats 4000000 in
set_option maxRecDepth 100000 in
theorem w_X8_goes_19 {Γ : jG} (C : jC Γ 6 cX8_goes RX8 rmX8_goes) {k1 : Nat} (hk1 : isRow k1) {kx92 : Int32 → Int32 → Mem → Option (Mem)} {ρ : Mem} (E : jEV Γ cX8_goes ρ) (Hkx92 : ∀ (x2 : Int32) (x3 : Int32) (μ : Mem), kx92 x2 x3 μ = some ρ → jJ Γ 6 92 [(0, .ref 113), (1, .ref k1), (2, .int x2), (3, .int x3)] [] μ) : ∀ (n : Nat) (x2 : Int32) (x3 : Int32) (x4 : Int32) (μ : Mem), f_X8_goes_19 k1 kx92 n x2 x3 x4 μ = some ρ → jJ Γ 6 19 [(0, .ref 113), (1, .ref k1), (2, .int x2), (3, .int x3), (4, .int x4)] [] μ := by
  intro n
  induction n with
  | zero => intro x2 x3 x4 μ h; rw [f_X8_goes_19] at h; cases h
  | succ n ih =>
    intro x2 x3 x4 μ h
    rw [f_X8_goes_19] at h
    refine j_iload C dX8_goes_19 rfl 4 rfl ?_
    refine j_aload_n C dX8_goes_21 rfl 1 rfl ?_
    refine j_iconst (v := (nI 0)) C dX8_goes_22 rfl (by decide) ?_
    replace h := gd_e h
    obtain ⟨g1_, h⟩ := h
    refine j_iald C dX8_goes_23 rfl (isRow_is hk1) g1_ ?_
    refine j_icmp_ge (tgt := 92) C dX8_goes_24 rfl (by decide) (fun c2_ => ?_) (fun c2_ => ?_)
    · replace h := if_t h c2_
      refine j_lv [0, 1, 2, 3] rfl ?_
      exact (Hkx92) x2 x3 μ h
    · replace h := if_f h c2_
      refine j_sipush (v := (nI 222)) C dX8_goes_27 rfl (by decide) ?_
      refine j_bipush (v := (nI 19)) C dX8_goes_30 rfl (by decide) ?_
      refine j_bipush (v := (nI 9)) C dX8_goes_32 rfl (by decide) ?_
      refine j_iload_n C dX8_goes_34 rfl 3 rfl ?_
      refine j_imul C dX8_goes_35 rfl ?_
      refine j_iload C dX8_goes_36 rfl 4 rfl ?_
      refine j_iadd C dX8_goes_38 rfl ?_
      refine j_imul C dX8_goes_39 rfl ?_
      refine j_iadd C dX8_goes_40 rfl ?_
      refine j_iload_n C dX8_goes_41 rfl 2 rfl ?_
      refine j_iadd C dX8_goes_42 rfl ?_
      refine j_topi (fun x3_ e4_ => ?_)
      replace h := zl_u h e4_
      refine j_istore (lv' := [(5, .int x3_), (0, .ref 113), (1, .ref k1), (2, .int x2), (3, .int x3), (4, .int x4)]) C dX8_goes_43 rfl (by decide) rfl ?_
      refine j_aload_n C dX8_goes_45 rfl 2 rfl ?_
      refine j_iload C dX8_goes_46 rfl 0 rfl ?_
      replace h := gd_e h
      obtain ⟨g5_, h⟩ := h
      refine j_iald C dX8_goes_48 rfl (isRow_is hk1) g5_ ?_
      refine j_if_le (tgt := 81) C dX8_goes_49 rfl (by decide) (fun c6_ => ?_) (fun c6_ => ?_)
      · replace h := if_t h c6_
        refine j_lv [1, 2, 3, 4, 5, 0] rfl ?_
        exact w_X8_goes_81 C hk1 E ih Hkx92 x2 x3 x4 x3_ μ h
      · replace h := if_f h c6_
        refine j_aload_n C dX8_goes_52 rfl 1 rfl ?_
        refine j_aload_n C dX8_goes_53 rfl 2 rfl ?_
        refine j_iload C dX8_goes_54 rfl 5 rfl ?_
        replace h := bd_e h
        obtain ⟨p7_, h8_, h⟩ := h
        refine j_cVI (av := [.ref k1, .int x4]) (rest := []) C dX8_goes_56 rfl (c_X8_isOut _ _ _ _ hk1 μ p7_ h8_) gvX8_180 ⟨⟨rfl, rfl⟩, Nat.le_of_ble_eq_true rfl, Nat.le_of_ble_eq_true rfl⟩ rfl is_113 rfl rfl (Nat.le_of_ble_eq_true rfl) ?_
        refine j_if_ne (tgt := 81) C dX8_goes_59 rfl (by decide) (fun c9_ => ?_) (fun c9_ => ?_)
        · replace h := if_f h c9_
          refine j_lv [1, 2, 3, 4, 5, 0] rfl ?_
          exact w_X8_goes_81 C hk1 E ih Hkx92 x2 x3 x4 x3_ p7_.2 h
        · replace h := if_t h c9_
          refine j_aload_n C dX8_goes_62 rfl 2 rfl ?_
          refine j_sipush (v := (nI 141)) C dX8_goes_63 rfl (by decide) ?_
          refine j_bipush (v := (nI 9)) C dX8_goes_66 rfl (by decide) ?_
          refine j_iload C dX8_goes_68 rfl 5 rfl ?_
          refine j_imul C dX8_goes_70 rfl ?_
          refine j_iadd C dX8_goes_71 rfl ?_
          refine j_iload_n C dX8_goes_72 rfl 4 rfl ?_
          refine j_iadd C dX8_goes_73 rfl ?_
          refine j_aload_n C dX8_goes_74 rfl 2 rfl ?_
          refine j_iload C dX8_goes_75 rfl 0 rfl ?_
          refine j_iald C dX8_goes_77 rfl (isRow_is hk1) g5_ ?_
          refine j_iconst (v := (nI 1)) C dX8_goes_78 rfl (by decide) ?_
          refine j_isub C dX8_goes_79 rfl ?_
          replace h := gd_e h
          obtain ⟨g10_, h⟩ := h
          refine j_iast C dX8_goes_80 rfl (isRow_is hk1) g10_ ?_
          refine j_mem (fun μ11_ e12_ => ?_)
          replace h := zl_u h e12_
          refine j_lv [1, 2, 3, 4, 5, 0] rfl ?_
          exact w_X8_goes_81 C hk1 E ih Hkx92 x2 x3 x4 x3_ μ11_ h
def f_X8_goes_9 (k1 : Nat) (kx98 : Mem → Option (Mem)) : Nat → Int32 → Int32 → Mem → Option (Mem)
  | 0, _, _, _ => none
  | n + 1, x2, x3, μ => gd (inb (nI 0) 1829) <| (if (μ.1 k1 (Int32.toNatClampNeg (nI 0))) ≤ x3 then kx98 μ else f_X8_goes_19 k1 (fun x2 x3 μ => f_X8_goes_92 k1 (fun x2 x3 μ => f_X8_goes_9 k1 kx98 n x2 x3 μ) kx98 x2 x3 μ) zfu x2 x3 (nI 0) μ)
set_option maxHeartbeats 4000000 in
set_option maxRecDepth 100000 in
theorem w_X8_goes_9 {Γ : jG} (C : jC Γ 6 cX8_goes RX8 rmX8_goes) {k1 : Nat} (hk1 : isRow k1) {kx98 : Mem → Option (Mem)} {ρ : Mem} (E : jEV Γ cX8_goes ρ) (Hkx98 : ∀ (μ : Mem), kx98 μ = some ρ → jJ Γ 6 98 [(0, .ref 113), (1, .ref k1)] [] μ) : ∀ (n : Nat) (x2 : Int32) (x3 : Int32) (μ : Mem), f_X8_goes_9 k1 kx98 n x2 x3 μ = some ρ → jJ Γ 6 9 [(0, .ref 113), (1, .ref k1), (2, .int x2), (3, .int x3)] [] μ := by
  intro n
  induction n with
  | zero => intro x2 x3 μ h; rw [f_X8_goes_9] at h; cases h
  | succ n ih =>
    intro x2 x3 μ h
    rw [f_X8_goes_9] at h
    refine j_iload_n C dX8_goes_9 rfl 3 rfl ?_
    refine j_aload_n C dX8_goes_10 rfl 1 rfl ?_
    refine j_iconst (v := (nI 0)) C dX8_goes_11 rfl (by decide) ?_
    replace h := gd_e h
    obtain ⟨g1_, h⟩ := h
    refine j_iald C dX8_goes_12 rfl (isRow_is hk1) g1_ ?_
    refine j_icmp_ge (tgt := 98) C dX8_goes_13 rfl (by decide) (fun c2_ => ?_) (fun c2_ => ?_)
    · replace h := if_t h c2_
      refine j_lv [0, 1] rfl ?_
      exact (Hkx98) μ h
    · replace h := if_f h c2_
      refine j_iconst (v := (nI 0)) C dX8_goes_16 rfl (by decide) ?_
      refine j_istore (lv' := [(4, .int (nI 0)), (0, .ref 113), (1, .ref k1), (2, .int x2), (3, .int x3)]) C dX8_goes_17 rfl (by decide) rfl ?_
      refine j_lv [1, 2, 3, 4, 0] rfl ?_
      exact w_X8_goes_19 C hk1 E (fun x2 x3 μ h => w_X8_goes_92 C hk1 E ih Hkx98 x2 x3 μ h) zfu x2 x3 (nI 0) μ h
def f_X8_goes (k1 : Nat) (μ : Mem) : Option (Mem) := gd (inb (nI 1) 1829) <| zl ((μ.1 k1 (Int32.toNatClampNeg (nI 1))) - (μ.1 k1 (Int32.toNatClampNeg (nI 1))) / (nI 19) * (nI 19)) fun x2_ => f_X8_goes_9 k1 (fun μ => f_X8_goes_98 k1 μ) zfu x2_ (nI 0) μ
set_option maxHeartbeats 4000000 in
set_option maxRecDepth 100000 in
theorem w_X8_goes {Γ : jG} (C : jC Γ 6 cX8_goes RX8 rmX8_goes) {k1 : Nat} (hk1 : isRow k1) {ρ : Mem} (E : jEV Γ cX8_goes ρ) (μ : Mem) (h : f_X8_goes k1 μ = some ρ) : jJ Γ 6 0 [(0, .ref 113), (1, .ref k1)] [] μ := by
  unfold f_X8_goes at h
  refine j_aload_n C dX8_goes_0 rfl 1 rfl ?_
  refine j_iconst (v := (nI 1)) C dX8_goes_1 rfl (by decide) ?_
  replace h := gd_e h
  obtain ⟨g1_, h⟩ := h
  refine j_iald C dX8_goes_2 rfl (isRow_is hk1) g1_ ?_
  refine j_bipush (v := (nI 19)) C dX8_goes_3 rfl (by decide) ?_
  refine j_irem C dX8_goes_5 rfl (by decide) ?_
  refine j_topi (fun x2_ e3_ => ?_)
  replace h := zl_u h e3_
  refine j_istore_n (lv' := [(2, .int x2_), (0, .ref 113), (1, .ref k1)]) C dX8_goes_6 rfl (by decide) rfl ?_
  refine j_iconst (v := (nI 0)) C dX8_goes_7 rfl (by decide) ?_
  refine j_istore_n (lv' := [(3, .int (nI 0)), (2, .int x2_), (0, .ref 113), (1, .ref k1)]) C dX8_goes_8 rfl (by decide) rfl ?_
  refine j_lv [2, 3, 1, 0] rfl ?_
  exact w_X8_goes_9 C hk1 E (fun μ h => w_X8_goes_98 C hk1 E μ h) zfu x2_ (nI 0) μ h
set_option maxRecDepth 100000 in
theorem c_X8_goes (l : Launch) (D : va_G) (ad : Nat → Nat) (cl : Nat → ClassId) {k1 : Nat} (hk1 : isRow k1) (μ : Mem) (ρ : Mem) (h : f_X8_goes k1 μ = some ρ) : CV l D ad cl yX8_goes wsX8_goes rmX8_goes [.ref 113, .ref k1] μ ρ := c_ofV (cc := cX8_goes) (nL := 6) rfl (by decide) (Nat.le_of_ble_eq_true rfl) (fun Γ C E => w_X8_goes C hk1 E μ h)
theorem gvX8_187 : jm_gv RX8 187 RX8 yX8_goes wsX8_goes 6 1 := ⟨_, _, gi_V gwt5_166 gwt5_168 gwp3_10 gwt1_9 gwt5_169, rfl, by decide +kernel⟩
/-! X8_minute -/
def wsX8_minute : List Cond := .code yX8_minute cX8_minute 1 (some .int) :: G0
def rmX8_minute : Room := { frames := 4, cells := 0, slots := 0, locals := 104 }
def f_X8_minute (μ : Mem) : Option (Int32 × Mem) := zl (sI μ 113 0 (nI 0)) fun μ1_ => gd (inb (nI 1) 1829) <| (if (μ1_.1 114 (Int32.toNatClampNeg (nI 1))) = (nI 999) then some ((-3), μ1_) else Option.bind (f_X8_goes 114 μ1_) fun p5_ => some (p5_.1 113 18, p5_))
set_option maxHeartbeats 4000000 in
set_option maxRecDepth 100000 in
theorem w_X8_minute {Γ : jG} (C : jC Γ 1 cX8_minute RX8 rmX8_minute) {ρ : Int32 × Mem} (E : jEI Γ cX8_minute ρ.1 ρ.2) (μ : Mem) (h : f_X8_minute μ = some ρ) : jJ Γ 1 0 [(0, .ref 113)] [] μ := by
  unfold f_X8_minute at h
  refine j_aload_n C dX8_minute_0 rfl 0 rfl ?_
  refine j_iconst (v := (nI 0)) C dX8_minute_1 rfl (by decide) ?_
  refine j_putI C dX8_minute_2 rfl lpX8_48 is_113 rfl ?_
  refine j_mem (fun μ1_ e2_ => ?_)
  replace h := zl_u h e2_
  refine j_aload_n C dX8_minute_5 rfl 0 rfl ?_
  refine j_getR (c := 114) C dX8_minute_6 rfl lkX8_7 is_113 rfl ?_
  refine j_iconst (v := (nI 1)) C dX8_minute_9 rfl (by decide) ?_
  replace h := gd_e h
  obtain ⟨g3_, h⟩ := h
  refine j_iald C dX8_minute_10 rfl is_114 g3_ ?_
  refine j_sipush (v := (nI 999)) C dX8_minute_11 rfl (by decide) ?_
  refine j_icmp_ne (tgt := 20) C dX8_minute_14 rfl (by decide) (fun c4_ => ?_) (fun c4_ => ?_)
  · replace h := if_f h c4_
    refine j_aload_n C dX8_minute_20 rfl 0 rfl ?_
    refine j_aload_n C dX8_minute_21 rfl 0 rfl ?_
    refine j_getR (c := 114) C dX8_minute_22 rfl lkX8_7 is_113 rfl ?_
    replace h := bd_e h
    obtain ⟨p5_, h6_, h⟩ := h
    refine j_cVV (av := [.ref 114]) (rest := []) C dX8_minute_25 rfl (c_X8_goes _ _ _ _ isRow114 μ1_ p5_ h6_) gvX8_187 ⟨⟨rfl, rfl⟩, Nat.le_of_ble_eq_true rfl, Nat.le_of_ble_eq_true rfl⟩ rfl is_113 rfl rfl (Nat.le_of_ble_eq_true rfl) ?_
    refine j_aload_n C dX8_minute_28 rfl 0 rfl ?_
    refine j_getI C dX8_minute_29 rfl lkX8_173 is_113 rfl ?_
    obtain rfl := Option.some.inj h
    exact j_iret E dX8_minute_32
  · replace h := if_t h c4_
    refine j_bipush (v := (-3)) C dX8_minute_17 rfl (by decide) ?_
    obtain rfl := Option.some.inj h
    exact j_iret E dX8_minute_19
set_option maxRecDepth 100000 in
theorem c_X8_minute (l : Launch) (D : va_G) (ad : Nat → Nat) (cl : Nat → ClassId) (μ : Mem) (ρ : Int32 × Mem) (h : f_X8_minute μ = some ρ) : CI l D ad cl yX8_minute wsX8_minute rmX8_minute [.ref 113] μ ρ.1 ρ.2 := c_ofI (cc := cX8_minute) (nL := 1) rfl (by decide) (Nat.le_of_ble_eq_true rfl) (fun Γ C E => w_X8_minute C E μ h)
/-! X8_gone -/
def wsX8_gone : List Cond := .code yX8_gone cX8_gone 4 (some .int) :: G0
def rmX8_gone : Room := { frames := 4, cells := 0, slots := 0, locals := 104 }
def f_X8_gone_4 (a1 : Int32) : Nat → Int32 → Int32 → Mem → Option (Int32 × Mem)
  | 0, _, _, _ => none
  | n + 1, x2, x3, μ => (if a1 ≤ x3 then some (x2, μ) else Option.bind (f_X8_goes 114 μ) fun p2_ => zl (x2 + (p2_.1 113 18)) fun x4_ => f_X8_gone_4 a1 n x4_ (x3 + (nI 1)) p2_)
set_option maxHeartbeats 4000000 in
set_option maxRecDepth 100000 in
theorem w_X8_gone_4 {Γ : jG} (C : jC Γ 4 cX8_gone RX8 rmX8_gone) {a1 : Int32} {ρ : Int32 × Mem} (E : jEI Γ cX8_gone ρ.1 ρ.2) : ∀ (n : Nat) (x2 : Int32) (x3 : Int32) (μ : Mem), f_X8_gone_4 a1 n x2 x3 μ = some ρ → jJ Γ 4 4 [(0, .ref 113), (1, .int a1), (2, .int x2), (3, .int x3)] [] μ := by
  intro n
  induction n with
  | zero => intro x2 x3 μ h; rw [f_X8_gone_4] at h; cases h
  | succ n ih =>
    intro x2 x3 μ h
    rw [f_X8_gone_4] at h
    refine j_iload_n C dX8_gone_4 rfl 3 rfl ?_
    refine j_iload_n C dX8_gone_5 rfl 1 rfl ?_
    refine j_icmp_ge (tgt := 30) C dX8_gone_6 rfl (by decide) (fun c1_ => ?_) (fun c1_ => ?_)
    · replace h := if_t h c1_
      refine j_iload_n C dX8_gone_30 rfl 2 rfl ?_
      obtain rfl := Option.some.inj h
      exact j_iret E dX8_gone_31
    · replace h := if_f h c1_
      refine j_aload_n C dX8_gone_9 rfl 0 rfl ?_
      refine j_aload_n C dX8_gone_10 rfl 0 rfl ?_
      refine j_getR (c := 114) C dX8_gone_11 rfl lkX8_7 is_113 rfl ?_
      replace h := bd_e h
      obtain ⟨p2_, h3_, h⟩ := h
      refine j_cVV (av := [.ref 114]) (rest := []) C dX8_gone_14 rfl (c_X8_goes _ _ _ _ isRow114 μ p2_ h3_) gvX8_187 ⟨⟨rfl, rfl⟩, Nat.le_of_ble_eq_true rfl, Nat.le_of_ble_eq_true rfl⟩ rfl is_113 rfl rfl (Nat.le_of_ble_eq_true rfl) ?_
      refine j_iload_n C dX8_gone_17 rfl 2 rfl ?_
      refine j_aload_n C dX8_gone_18 rfl 0 rfl ?_
      refine j_getI C dX8_gone_19 rfl lkX8_173 is_113 rfl ?_
      refine j_iadd C dX8_gone_22 rfl ?_
      refine j_topi (fun x4_ e5_ => ?_)
      replace h := zl_u h e5_
      refine j_istore_n (lv' := [(2, .int x4_), (0, .ref 113), (1, .int a1), (3, .int x3)]) C dX8_gone_23 rfl (by decide) rfl ?_
      refine j_iinc (d := (nI 1)) (v := x3 + (nI 1)) (lv' := [(3, .int (x3 + (nI 1))), (2, .int x4_), (0, .ref 113), (1, .int a1)]) C dX8_gone_24 rfl (by decide) 3 rfl (by decide) rfl rfl ?_
      refine j_goto (pc' := 4) C dX8_gone_27 (by decide) ?_
      refine j_lv [2, 3, 1, 0] rfl ?_
      exact (ih) x4_ (x3 + (nI 1)) p2_ h
def f_X8_gone (a1 : Int32) (μ : Mem) : Option (Int32 × Mem) := f_X8_gone_4 a1 zfu (nI 0) (nI 0) μ
set_option maxHeartbeats 4000000 in
set_option maxRecDepth 100000 in
theorem w_X8_gone {Γ : jG} (C : jC Γ 4 cX8_gone RX8 rmX8_gone) {a1 : Int32} {ρ : Int32 × Mem} (E : jEI Γ cX8_gone ρ.1 ρ.2) (μ : Mem) (h : f_X8_gone a1 μ = some ρ) : jJ Γ 4 0 [(0, .ref 113), (1, .int a1)] [] μ := by
  unfold f_X8_gone at h
  refine j_iconst (v := (nI 0)) C dX8_gone_0 rfl (by decide) ?_
  refine j_istore_n (lv' := [(2, .int (nI 0)), (0, .ref 113), (1, .int a1)]) C dX8_gone_1 rfl (by decide) rfl ?_
  refine j_iconst (v := (nI 0)) C dX8_gone_2 rfl (by decide) ?_
  refine j_istore_n (lv' := [(3, .int (nI 0)), (2, .int (nI 0)), (0, .ref 113), (1, .int a1)]) C dX8_gone_3 rfl (by decide) rfl ?_
  refine j_lv [2, 3, 1, 0] rfl ?_
  exact w_X8_gone_4 C E zfu (nI 0) (nI 0) μ h
set_option maxRecDepth 100000 in
theorem c_X8_gone (l : Launch) (D : va_G) (ad : Nat → Nat) (cl : Nat → ClassId) {a1 : Int32} (μ : Mem) (ρ : Int32 × Mem) (h : f_X8_gone a1 μ = some ρ) : CI l D ad cl yX8_gone wsX8_gone rmX8_gone [.ref 113, .int a1] μ ρ.1 ρ.2 := c_ofI (cc := cX8_gone) (nL := 4) rfl (by decide) (Nat.le_of_ble_eq_true rfl) (fun Γ C E => w_X8_gone C E μ h)
theorem gvX8_193 : jm_gv RX8 193 RX8 yX8_gone wsX8_gone 4 1 := ⟨_, _, gi_V gwt5_198 gwt5_200 gwp3_15 gwt1_9 gwt5_201, rfl, by decide +kernel⟩
/-! X8_night -/
def wsX8_night : List Cond := .code yX8_night cX8_night 2 (some .int) :: G0
def rmX8_night : Room := { frames := 5, cells := 0, slots := 0, locals := 127 }
def f_X8_night (a1 : Int32) (μ : Mem) : Option (Int32 × Mem) := zl (sI μ 113 0 (nI 0)) fun μ1_ => Option.bind (f_X8_in (Int32.toInt64 a1) 1 60 μ1_) fun p3_ => (if p3_.1 = 0 then some ((-1), p3_.2) else gd (inb (nI 1) 1829) <| (if ((p3_.2.1 114 (Int32.toNatClampNeg (nI 1))) + a1) ≤ (nI 999) then Option.bind (f_X8_gone a1 p3_.2) fun p8_ => some (p8_.1, p8_.2) else some ((-3), p3_.2)))
set_option maxHeartbeats 4000000 in
set_option maxRecDepth 100000 in
theorem w_X8_night {Γ : jG} (C : jC Γ 2 cX8_night RX8 rmX8_night) {a1 : Int32} {ρ : Int32 × Mem} (E : jEI Γ cX8_night ρ.1 ρ.2) (μ : Mem) (h : f_X8_night a1 μ = some ρ) : jJ Γ 2 0 [(0, .ref 113), (1, .int a1)] [] μ := by
  unfold f_X8_night at h
  refine j_aload_n C dX8_night_0 rfl 0 rfl ?_
  refine j_iconst (v := (nI 0)) C dX8_night_1 rfl (by decide) ?_
  refine j_putI C dX8_night_2 rfl lpX8_48 is_113 rfl ?_
  refine j_mem (fun μ1_ e2_ => ?_)
  replace h := zl_u h e2_
  refine j_iload_n C dX8_night_5 rfl 1 rfl ?_
  refine j_i2l C dX8_night_6 rfl ?_
  refine j_lconst (v := 1) C dX8_night_7 rfl (by decide) ?_
  refine j_ldc2 (v := 60) C dX8_night_8 rfl gwt5_197 ?_
  replace h := bd_e h
  obtain ⟨p3_, h4_, h⟩ := h
  refine j_cSI (av := [.long (Int32.toInt64 a1), .long 1, .long 60]) (rest := []) C dX8_night_11 rfl (c_X8_in _ _ _ _ μ1_ p3_ h4_) gsX8_51 ⟨⟨rfl, rfl⟩, Nat.le_of_ble_eq_true rfl, Nat.le_of_ble_eq_true rfl⟩ rfl rfl (Nat.le_of_ble_eq_true rfl) ?_
  refine j_if_ne (tgt := 19) C dX8_night_14 rfl (by decide) (fun c5_ => ?_) (fun c5_ => ?_)
  · replace h := if_f h c5_
    refine j_aload_n C dX8_night_19 rfl 0 rfl ?_
    refine j_getR (c := 114) C dX8_night_20 rfl lkX8_7 is_113 rfl ?_
    refine j_iconst (v := (nI 1)) C dX8_night_23 rfl (by decide) ?_
    replace h := gd_e h
    obtain ⟨g6_, h⟩ := h
    refine j_iald C dX8_night_24 rfl is_114 g6_ ?_
    refine j_iload_n C dX8_night_25 rfl 1 rfl ?_
    refine j_iadd C dX8_night_26 rfl ?_
    refine j_sipush (v := (nI 999)) C dX8_night_27 rfl (by decide) ?_
    refine j_icmp_le (tgt := 38) C dX8_night_30 rfl (by decide) (fun c7_ => ?_) (fun c7_ => ?_)
    · replace h := if_t h c7_
      refine j_aload_n C dX8_night_38 rfl 0 rfl ?_
      refine j_iload_n C dX8_night_39 rfl 1 rfl ?_
      replace h := bd_e h
      obtain ⟨p8_, h9_, h⟩ := h
      refine j_cVI (av := [.int a1]) (rest := []) C dX8_night_40 rfl (c_X8_gone _ _ _ _ p3_.2 p8_ h9_) gvX8_193 ⟨⟨rfl, rfl⟩, Nat.le_of_ble_eq_true rfl, Nat.le_of_ble_eq_true rfl⟩ rfl is_113 rfl rfl (Nat.le_of_ble_eq_true rfl) ?_
      obtain rfl := Option.some.inj h
      exact j_iret E dX8_night_43
    · replace h := if_f h c7_
      refine j_bipush (v := (-3)) C dX8_night_33 rfl (by decide) ?_
      refine j_goto (pc' := 43) C dX8_night_35 (by decide) ?_
      obtain rfl := Option.some.inj h
      exact j_iret E dX8_night_43
  · replace h := if_t h c5_
    refine j_iconst (v := (-1)) C dX8_night_17 rfl (by decide) ?_
    obtain rfl := Option.some.inj h
    exact j_iret E dX8_night_18
set_option maxRecDepth 100000 in
theorem c_X8_night (l : Launch) (D : va_G) (ad : Nat → Nat) (cl : Nat → ClassId) {a1 : Int32} (μ : Mem) (ρ : Int32 × Mem) (h : f_X8_night a1 μ = some ρ) : CI l D ad cl yX8_night wsX8_night rmX8_night [.ref 113, .int a1] μ ρ.1 ρ.2 := c_ofI (cc := cX8_night) (nL := 2) rfl (by decide) (Nat.le_of_ble_eq_true rfl) (fun Γ C E => w_X8_night C E μ h)
/-! X8_lots -/
def wsX8_lots : List Cond := .code yX8_lots cX8_lots 3 (some .int) :: G0
def rmX8_lots : Room := { frames := 5, cells := 0, slots := 0, locals := 127 }
def f_X8_lots (a1 : Int32) (μ : Mem) : Option (Int32 × Mem) := zl (sI μ 113 0 (nI 0)) fun μ1_ => Option.bind (f_X8_in (Int32.toInt64 a1) 1 60 μ1_) fun p3_ => (if p3_.1 = 0 then some ((-1), p3_.2) else gd (inb (nI 1) 1829) <| (if ((p3_.2.1 114 (Int32.toNatClampNeg (nI 1))) + a1) ≤ (nI 999) then zl (sI p3_.2 113 16 (nI 1)) fun μ8_ => Option.bind (f_X8_gone a1 μ8_) fun p10_ => zl (sI p10_.2 113 16 (nI 0)) fun μ12_ => some (p10_.1, μ12_) else some ((-3), p3_.2)))
set_option maxHeartbeats 4000000 in
set_option maxRecDepth 100000 in
theorem w_X8_lots {Γ : jG} (C : jC Γ 3 cX8_lots RX8 rmX8_lots) {a1 : Int32} {ρ : Int32 × Mem} (E : jEI Γ cX8_lots ρ.1 ρ.2) (μ : Mem) (h : f_X8_lots a1 μ = some ρ) : jJ Γ 3 0 [(0, .ref 113), (1, .int a1)] [] μ := by
  unfold f_X8_lots at h
  refine j_aload_n C dX8_lots_0 rfl 0 rfl ?_
  refine j_iconst (v := (nI 0)) C dX8_lots_1 rfl (by decide) ?_
  refine j_putI C dX8_lots_2 rfl lpX8_48 is_113 rfl ?_
  refine j_mem (fun μ1_ e2_ => ?_)
  replace h := zl_u h e2_
  refine j_iload_n C dX8_lots_5 rfl 1 rfl ?_
  refine j_i2l C dX8_lots_6 rfl ?_
  refine j_lconst (v := 1) C dX8_lots_7 rfl (by decide) ?_
  refine j_ldc2 (v := 60) C dX8_lots_8 rfl gwt5_197 ?_
  replace h := bd_e h
  obtain ⟨p3_, h4_, h⟩ := h
  refine j_cSI (av := [.long (Int32.toInt64 a1), .long 1, .long 60]) (rest := []) C dX8_lots_11 rfl (c_X8_in _ _ _ _ μ1_ p3_ h4_) gsX8_51 ⟨⟨rfl, rfl⟩, Nat.le_of_ble_eq_true rfl, Nat.le_of_ble_eq_true rfl⟩ rfl rfl (Nat.le_of_ble_eq_true rfl) ?_
  refine j_if_ne (tgt := 19) C dX8_lots_14 rfl (by decide) (fun c5_ => ?_) (fun c5_ => ?_)
  · replace h := if_f h c5_
    refine j_aload_n C dX8_lots_19 rfl 0 rfl ?_
    refine j_getR (c := 114) C dX8_lots_20 rfl lkX8_7 is_113 rfl ?_
    refine j_iconst (v := (nI 1)) C dX8_lots_23 rfl (by decide) ?_
    replace h := gd_e h
    obtain ⟨g6_, h⟩ := h
    refine j_iald C dX8_lots_24 rfl is_114 g6_ ?_
    refine j_iload_n C dX8_lots_25 rfl 1 rfl ?_
    refine j_iadd C dX8_lots_26 rfl ?_
    refine j_sipush (v := (nI 999)) C dX8_lots_27 rfl (by decide) ?_
    refine j_icmp_le (tgt := 36) C dX8_lots_30 rfl (by decide) (fun c7_ => ?_) (fun c7_ => ?_)
    · replace h := if_t h c7_
      refine j_aload_n C dX8_lots_36 rfl 0 rfl ?_
      refine j_iconst (v := (nI 1)) C dX8_lots_37 rfl (by decide) ?_
      refine j_putZ C dX8_lots_38 rfl lpX8_165 is_113 rfl (by decide) ?_
      refine j_mem (fun μ8_ e9_ => ?_)
      replace h := zl_u h e9_
      refine j_aload_n C dX8_lots_41 rfl 0 rfl ?_
      refine j_iload_n C dX8_lots_42 rfl 1 rfl ?_
      replace h := bd_e h
      obtain ⟨p10_, h11_, h⟩ := h
      refine j_cVI (av := [.int a1]) (rest := []) C dX8_lots_43 rfl (c_X8_gone _ _ _ _ μ8_ p10_ h11_) gvX8_193 ⟨⟨rfl, rfl⟩, Nat.le_of_ble_eq_true rfl, Nat.le_of_ble_eq_true rfl⟩ rfl is_113 rfl rfl (Nat.le_of_ble_eq_true rfl) ?_
      refine j_istore_n (lv' := [(2, .int p10_.1), (0, .ref 113), (1, .int a1)]) C dX8_lots_46 rfl (by decide) rfl ?_
      refine j_aload_n C dX8_lots_47 rfl 1 rfl ?_
      refine j_iconst (v := (nI 0)) C dX8_lots_48 rfl (by decide) ?_
      refine j_putZ C dX8_lots_49 rfl lpX8_165 is_113 rfl (by decide) ?_
      refine j_mem (fun μ12_ e13_ => ?_)
      replace h := zl_u h e13_
      refine j_iload_n C dX8_lots_52 rfl 0 rfl ?_
      obtain rfl := Option.some.inj h
      exact j_iret E dX8_lots_53
    · replace h := if_f h c7_
      refine j_bipush (v := (-3)) C dX8_lots_33 rfl (by decide) ?_
      obtain rfl := Option.some.inj h
      exact j_iret E dX8_lots_35
  · replace h := if_t h c5_
    refine j_iconst (v := (-1)) C dX8_lots_17 rfl (by decide) ?_
    obtain rfl := Option.some.inj h
    exact j_iret E dX8_lots_18
set_option maxRecDepth 100000 in
theorem c_X8_lots (l : Launch) (D : va_G) (ad : Nat → Nat) (cl : Nat → ClassId) {a1 : Int32} (μ : Mem) (ρ : Int32 × Mem) (h : f_X8_lots a1 μ = some ρ) : CI l D ad cl yX8_lots wsX8_lots rmX8_lots [.ref 113, .int a1] μ ρ.1 ρ.2 := c_ofI (cc := cX8_lots) (nL := 3) rfl (by decide) (Nat.le_of_ble_eq_true rfl) (fun Γ C E => w_X8_lots C E μ h)
/-! X8_seed -/
def wsX8_seed : List Cond := .code yX8_seed cX8_seed 3 (some .int) :: G0
def rmX8_seed : Room := { frames := 0, cells := 0, slots := 0, locals := 0 }
def f_X8_seed (a1 : Int32) (μ : Mem) : Option (Int32 × Mem) := zl (sI μ 113 0 (nI 0)) fun μ1_ => (if 0 ≤ a1 then gd (inb (nI 5) 1829) <| zl (μ1_.1 114 (Int32.toNatClampNeg (nI 5))) fun x5_ => zl (sI μ1_ 114 (Int32.toNatClampNeg (nI 5)) a1) fun μ7_ => some (x5_, μ7_) else some ((-1), μ1_))
set_option maxHeartbeats 4000000 in
set_option maxRecDepth 100000 in
theorem w_X8_seed {Γ : jG} (C : jC Γ 3 cX8_seed RX8 rmX8_seed) {a1 : Int32} {ρ : Int32 × Mem} (E : jEI Γ cX8_seed ρ.1 ρ.2) (μ : Mem) (h : f_X8_seed a1 μ = some ρ) : jJ Γ 3 0 [(0, .ref 113), (1, .int a1)] [] μ := by
  unfold f_X8_seed at h
  refine j_aload_n C dX8_seed_0 rfl 0 rfl ?_
  refine j_iconst (v := (nI 0)) C dX8_seed_1 rfl (by decide) ?_
  refine j_putI C dX8_seed_2 rfl lpX8_48 is_113 rfl ?_
  refine j_mem (fun μ1_ e2_ => ?_)
  replace h := zl_u h e2_
  refine j_iload_n C dX8_seed_5 rfl 1 rfl ?_
  refine j_if_ge (tgt := 11) C dX8_seed_6 rfl (by decide) (fun c3_ => ?_) (fun c3_ => ?_)
  · replace h := if_t h c3_
    refine j_aload_n C dX8_seed_11 rfl 0 rfl ?_
    refine j_getR (c := 114) C dX8_seed_12 rfl lkX8_7 is_113 rfl ?_
    refine j_iconst (v := (nI 5)) C dX8_seed_15 rfl (by decide) ?_
    replace h := gd_e h
    obtain ⟨g4_, h⟩ := h
    refine j_iald C dX8_seed_16 rfl is_114 g4_ ?_
    refine j_topi (fun x5_ e6_ => ?_)
    replace h := zl_u h e6_
    refine j_istore_n (lv' := [(2, .int x5_), (0, .ref 113), (1, .int a1)]) C dX8_seed_17 rfl (by decide) rfl ?_
    refine j_aload_n C dX8_seed_18 rfl 1 rfl ?_
    refine j_getR (c := 114) C dX8_seed_19 rfl lkX8_7 is_113 rfl ?_
    refine j_iconst (v := (nI 5)) C dX8_seed_22 rfl (by decide) ?_
    refine j_iload_n C dX8_seed_23 rfl 2 rfl ?_
    refine j_iast C dX8_seed_24 rfl is_114 g4_ ?_
    refine j_mem (fun μ7_ e8_ => ?_)
    replace h := zl_u h e8_
    refine j_iload_n C dX8_seed_25 rfl 0 rfl ?_
    obtain rfl := Option.some.inj h
    exact j_iret E dX8_seed_26
  · replace h := if_f h c3_
    refine j_iconst (v := (-1)) C dX8_seed_9 rfl (by decide) ?_
    obtain rfl := Option.some.inj h
    exact j_iret E dX8_seed_10
set_option maxRecDepth 100000 in
theorem c_X8_seed (l : Launch) (D : va_G) (ad : Nat → Nat) (cl : Nat → ClassId) {a1 : Int32} (μ : Mem) (ρ : Int32 × Mem) (h : f_X8_seed a1 μ = some ρ) : CI l D ad cl yX8_seed wsX8_seed rmX8_seed [.ref 113, .int a1] μ ρ.1 ρ.2 := c_ofI (cc := cX8_seed) (nL := 3) rfl (by decide) (Nat.le_of_ble_eq_true rfl) (fun Γ C E => w_X8_seed C E μ h)
/-! X8_copies -/
def wsX8_copies : List Cond := .code yX8_copies cX8_copies 3 none :: G0
def rmX8_copies : Room := { frames := 0, cells := 0, slots := 0, locals := 0 }
def f_X8_copies_2 (k0 : Nat) (k1 : Nat) : Nat → Int32 → Mem → Option (Mem)
  | 0, _, _ => none
  | n + 1, x2, μ => (if (nI 1829) ≤ x2 then some μ else gd (inb x2 1829) <| zl (sI μ k1 (Int32.toNatClampNeg x2) (μ.1 k0 (Int32.toNatClampNeg x2))) fun μ3_ => f_X8_copies_2 k0 k1 n (x2 + (nI 1)) μ3_)
set_option maxHeartbeats 4000000 in
set_option maxRecDepth 100000 in
theorem w_X8_copies_2 {Γ : jG} (C : jC Γ 3 cX8_copies RX8 rmX8_copies) {k0 : Nat} {k1 : Nat} (hk0 : isRow k0) (hk1 : isRow k1) {ρ : Mem} (E : jEV Γ cX8_copies ρ) : ∀ (n : Nat) (x2 : Int32) (μ : Mem), f_X8_copies_2 k0 k1 n x2 μ = some ρ → jJ Γ 3 2 [(0, .ref k0), (1, .ref k1), (2, .int x2)] [] μ := by
  intro n
  induction n with
  | zero => intro x2 μ h; rw [f_X8_copies_2] at h; cases h
  | succ n ih =>
    intro x2 μ h
    rw [f_X8_copies_2] at h
    refine j_iload_n C dX8_copies_2 rfl 2 rfl ?_
    refine j_sipush (v := (nI 1829)) C dX8_copies_3 rfl (by decide) ?_
    refine j_icmp_ge (tgt := 21) C dX8_copies_6 rfl (by decide) (fun c1_ => ?_) (fun c1_ => ?_)
    · replace h := if_t h c1_
      obtain rfl := Option.some.inj h
      exact j_vret E dX8_copies_21
    · replace h := if_f h c1_
      refine j_aload_n C dX8_copies_9 rfl 1 rfl ?_
      refine j_iload_n C dX8_copies_10 rfl 2 rfl ?_
      refine j_aload_n C dX8_copies_11 rfl 0 rfl ?_
      refine j_iload_n C dX8_copies_12 rfl 2 rfl ?_
      replace h := gd_e h
      obtain ⟨g2_, h⟩ := h
      refine j_iald C dX8_copies_13 rfl (isRow_is hk0) g2_ ?_
      refine j_iast C dX8_copies_14 rfl (isRow_is hk1) g2_ ?_
      refine j_mem (fun μ3_ e4_ => ?_)
      replace h := zl_u h e4_
      refine j_iinc (d := (nI 1)) (v := x2 + (nI 1)) (lv' := [(2, .int (x2 + (nI 1))), (0, .ref k0), (1, .ref k1)]) C dX8_copies_15 rfl (by decide) 2 rfl (by decide) rfl rfl ?_
      refine j_goto (pc' := 2) C dX8_copies_18 (by decide) ?_
      refine j_lv [1, 2, 0] rfl ?_
      exact (ih) (x2 + (nI 1)) μ3_ h
def f_X8_copies (k0 : Nat) (k1 : Nat) (μ : Mem) : Option (Mem) := f_X8_copies_2 k0 k1 zfu (nI 0) μ
set_option maxHeartbeats 4000000 in
set_option maxRecDepth 100000 in
theorem w_X8_copies {Γ : jG} (C : jC Γ 3 cX8_copies RX8 rmX8_copies) {k0 : Nat} {k1 : Nat} (hk0 : isRow k0) (hk1 : isRow k1) {ρ : Mem} (E : jEV Γ cX8_copies ρ) (μ : Mem) (h : f_X8_copies k0 k1 μ = some ρ) : jJ Γ 3 0 [(0, .ref k0), (1, .ref k1)] [] μ := by
  unfold f_X8_copies at h
  refine j_iconst (v := (nI 0)) C dX8_copies_0 rfl (by decide) ?_
  refine j_istore_n (lv' := [(2, .int (nI 0)), (0, .ref k0), (1, .ref k1)]) C dX8_copies_1 rfl (by decide) rfl ?_
  refine j_lv [1, 2, 0] rfl ?_
  exact w_X8_copies_2 C hk0 hk1 E zfu (nI 0) μ h
set_option maxRecDepth 100000 in
theorem c_X8_copies (l : Launch) (D : va_G) (ad : Nat → Nat) (cl : Nat → ClassId) {k0 : Nat} {k1 : Nat} (hk0 : isRow k0) (hk1 : isRow k1) (μ : Mem) (ρ : Mem) (h : f_X8_copies k0 k1 μ = some ρ) : CV l D ad cl yX8_copies wsX8_copies rmX8_copies [.ref k0, .ref k1] μ ρ := c_ofV (cc := cX8_copies) (nL := 3) rfl (by decide) (Nat.le_of_ble_eq_true rfl) (fun Γ C E => w_X8_copies C hk0 hk1 E μ h)
theorem gsX8_196 : jm_gs RX8 196 yX8_copies wsX8_copies 3 2 := ⟨_, _, gi_S gwt5_218 gwt5_219 gwt1_9 gwt5_220, rfl, by decide +kernel⟩
/-! X8_tries -/
def wsX8_tries : List Cond := .code yX8_tries cX8_tries 4 none :: G0
def rmX8_tries : Room := { frames := 4, cells := 0, slots := 0, locals := 104 }
def f_X8_tries_10 (k1 : Nat) (a2 : Int32) : Nat → Int32 → Mem → Option (Mem)
  | 0, _, _ => none
  | n + 1, x3, μ => (if a2 ≤ x3 then some μ else Option.bind (f_X8_goes 116 μ) fun p2_ => f_X8_tries_10 k1 a2 n (x3 + (nI 1)) p2_)
set_option maxHeartbeats 4000000 in
set_option maxRecDepth 100000 in
theorem w_X8_tries_10 {Γ : jG} (C : jC Γ 4 cX8_tries RX8 rmX8_tries) {k1 : Nat} {a2 : Int32} (hk1 : isRow k1) {ρ : Mem} (E : jEV Γ cX8_tries ρ) : ∀ (n : Nat) (x3 : Int32) (μ : Mem), f_X8_tries_10 k1 a2 n x3 μ = some ρ → jJ Γ 4 10 [(0, .ref 113), (2, .int a2), (3, .int x3)] [] μ := by
  intro n
  induction n with
  | zero => intro x3 μ h; rw [f_X8_tries_10] at h; cases h
  | succ n ih =>
    intro x3 μ h
    rw [f_X8_tries_10] at h
    refine j_iload_n C dX8_tries_10 rfl 2 rfl ?_
    refine j_iload_n C dX8_tries_11 rfl 1 rfl ?_
    refine j_icmp_ge (tgt := 29) C dX8_tries_12 rfl (by decide) (fun c1_ => ?_) (fun c1_ => ?_)
    · replace h := if_t h c1_
      obtain rfl := Option.some.inj h
      exact j_vret E dX8_tries_29
    · replace h := if_f h c1_
      refine j_aload_n C dX8_tries_15 rfl 0 rfl ?_
      refine j_aload_n C dX8_tries_16 rfl 0 rfl ?_
      refine j_getR (c := 116) C dX8_tries_17 rfl lkX8_16 is_113 rfl ?_
      replace h := bd_e h
      obtain ⟨p2_, h3_, h⟩ := h
      refine j_cVV (av := [.ref 116]) (rest := []) C dX8_tries_20 rfl (c_X8_goes _ _ _ _ isRow116 μ p2_ h3_) gvX8_187 ⟨⟨rfl, rfl⟩, Nat.le_of_ble_eq_true rfl, Nat.le_of_ble_eq_true rfl⟩ rfl is_113 rfl rfl (Nat.le_of_ble_eq_true rfl) ?_
      refine j_iinc (d := (nI 1)) (v := x3 + (nI 1)) (lv' := [(3, .int (x3 + (nI 1))), (0, .ref 113), (2, .int a2)]) C dX8_tries_23 rfl (by decide) 2 rfl (by decide) rfl rfl ?_
      refine j_goto (pc' := 10) C dX8_tries_26 (by decide) ?_
      refine j_lv [1, 2, 0] rfl ?_
      exact (ih) (x3 + (nI 1)) p2_ h
def f_X8_tries (k1 : Nat) (a2 : Int32) (μ : Mem) : Option (Mem) := Option.bind (f_X8_copies k1 116 μ) fun p1_ => f_X8_tries_10 k1 a2 zfu (nI 0) p1_
set_option maxHeartbeats 4000000 in
set_option maxRecDepth 100000 in
theorem w_X8_tries {Γ : jG} (C : jC Γ 4 cX8_tries RX8 rmX8_tries) {k1 : Nat} {a2 : Int32} (hk1 : isRow k1) {ρ : Mem} (E : jEV Γ cX8_tries ρ) (μ : Mem) (h : f_X8_tries k1 a2 μ = some ρ) : jJ Γ 4 0 [(0, .ref 113), (1, .ref k1), (2, .int a2)] [] μ := by
  unfold f_X8_tries at h
  refine j_aload_n C dX8_tries_0 rfl 1 rfl ?_
  refine j_aload_n C dX8_tries_1 rfl 0 rfl ?_
  refine j_getR (c := 116) C dX8_tries_2 rfl lkX8_16 is_113 rfl ?_
  replace h := bd_e h
  obtain ⟨p1_, h2_, h⟩ := h
  refine j_cSV (av := [.ref k1, .ref 116]) (rest := []) C dX8_tries_5 rfl (c_X8_copies _ _ _ _ hk1 isRow116 μ p1_ h2_) gsX8_196 ⟨⟨rfl, rfl⟩, Nat.le_of_ble_eq_true rfl, Nat.le_of_ble_eq_true rfl⟩ rfl rfl (Nat.le_of_ble_eq_true rfl) ?_
  refine j_iconst (v := (nI 0)) C dX8_tries_8 rfl (by decide) ?_
  refine j_istore_n (lv' := [(3, .int (nI 0)), (0, .ref 113), (1, .ref k1), (2, .int a2)]) C dX8_tries_9 rfl (by decide) rfl ?_
  refine j_lv [1, 3, 0] rfl ?_
  exact w_X8_tries_10 C hk1 E zfu (nI 0) p1_ h
set_option maxRecDepth 100000 in
theorem c_X8_tries (l : Launch) (D : va_G) (ad : Nat → Nat) (cl : Nat → ClassId) {k1 : Nat} {a2 : Int32} (hk1 : isRow k1) (μ : Mem) (ρ : Mem) (h : f_X8_tries k1 a2 μ = some ρ) : CV l D ad cl yX8_tries wsX8_tries rmX8_tries [.ref 113, .ref k1, .int a2] μ ρ := c_ofV (cc := cX8_tries) (nL := 4) rfl (by decide) (Nat.le_of_ble_eq_true rfl) (fun Γ C E => w_X8_tries C hk1 E μ h)
theorem gvX8_200 : jm_gv RX8 200 RX8 yX8_tries wsX8_tries 4 2 := ⟨_, _, gi_V gwt5_214 gwt5_216 gwp4_0 gwt1_9 gwt5_217, rfl, by decide +kernel⟩
/-! X8_behind -/
def wsX8_behind : List Cond := .code yX8_behind cX8_behind 4 (some .int) :: G0
def rmX8_behind : Room := { frames := 5, cells := 0, slots := 0, locals := 127 }
def f_X8_behind_66 (a1 : Int32) (a2 : Int32) (a3 : Int32) (t1 : Int32) (t2 : Int32) (μ : Mem) : Option (Int32 × Mem) := gd (inb (t1 + t2) 1829) <| some (μ.1 116 (Int32.toNatClampNeg (t1 + t2)), μ)
set_option maxHeartbeats 4000000 in
set_option maxRecDepth 100000 in
theorem w_X8_behind_66 {Γ : jG} (C : jC Γ 4 cX8_behind RX8 rmX8_behind) {a1 : Int32} {a2 : Int32} {a3 : Int32} {ρ : Int32 × Mem} (E : jEI Γ cX8_behind ρ.1 ρ.2) (t1 : Int32) (t2 : Int32) (μ : Mem) (h : f_X8_behind_66 a1 a2 a3 t1 t2 μ = some ρ) : jJ Γ 4 66 [] [.int t2, .int t1, .ref 116] μ := by
  unfold f_X8_behind_66 at h
  refine j_iadd C dX8_behind_66 rfl ?_
  replace h := gd_e h
  obtain ⟨g1_, h⟩ := h
  refine j_iald C dX8_behind_67 rfl is_116 g1_ ?_
  obtain rfl := Option.some.inj h
  exact j_iret E dX8_behind_68
def f_X8_behind (a1 : Int32) (a2 : Int32) (a3 : Int32) (μ : Mem) : Option (Int32 × Mem) := zl (sI μ 113 0 (nI 0)) fun μ1_ => Option.bind (f_X8_isRock a1 μ1_) fun p3_ => (if p3_.1 = 0 then some ((-1), p3_.2) else Option.bind (f_X8_in (Int32.toInt64 a2) 0 60 p3_.2) fun p6_ => (if p6_.1 = 0 then some ((-1), p6_.2) else Option.bind (f_X8_in (Int32.toInt64 a3) 0 1 p6_.2) fun p9_ => (if p9_.1 = 0 then some ((-1), p9_.2) else Option.bind (f_X8_tries 114 a2 p9_.2) fun p12_ => (if a3 = 0 then f_X8_behind_66 a1 a2 a3 ((nI 6) + ((nI 6) * a1)) (nI 2) p12_ else f_X8_behind_66 a1 a2 a3 ((nI 6) + ((nI 6) * a1)) (nI 1) p12_))))
set_option maxHeartbeats 4000000 in
set_option maxRecDepth 100000 in
theorem w_X8_behind {Γ : jG} (C : jC Γ 4 cX8_behind RX8 rmX8_behind) {a1 : Int32} {a2 : Int32} {a3 : Int32} {ρ : Int32 × Mem} (E : jEI Γ cX8_behind ρ.1 ρ.2) (μ : Mem) (h : f_X8_behind a1 a2 a3 μ = some ρ) : jJ Γ 4 0 [(0, .ref 113), (1, .int a1), (2, .int a2), (3, .int a3)] [] μ := by
  unfold f_X8_behind at h
  refine j_aload_n C dX8_behind_0 rfl 0 rfl ?_
  refine j_iconst (v := (nI 0)) C dX8_behind_1 rfl (by decide) ?_
  refine j_putI C dX8_behind_2 rfl lpX8_48 is_113 rfl ?_
  refine j_mem (fun μ1_ e2_ => ?_)
  replace h := zl_u h e2_
  refine j_aload_n C dX8_behind_5 rfl 0 rfl ?_
  refine j_iload_n C dX8_behind_6 rfl 1 rfl ?_
  replace h := bd_e h
  obtain ⟨p3_, h4_, h⟩ := h
  refine j_cVI (av := [.int a1]) (rest := []) C dX8_behind_7 rfl (c_X8_isRock _ _ _ _ μ1_ p3_ h4_) gvX8_65 ⟨⟨rfl, rfl⟩, Nat.le_of_ble_eq_true rfl, Nat.le_of_ble_eq_true rfl⟩ rfl is_113 rfl rfl (Nat.le_of_ble_eq_true rfl) ?_
  refine j_if_eq (tgt := 35) C dX8_behind_10 rfl (by decide) (fun c5_ => ?_) (fun c5_ => ?_)
  · replace h := if_t h c5_
    refine j_iconst (v := (-1)) C dX8_behind_35 rfl (by decide) ?_
    obtain rfl := Option.some.inj h
    exact j_iret E dX8_behind_36
  · replace h := if_f h c5_
    refine j_iload_n C dX8_behind_13 rfl 2 rfl ?_
    refine j_i2l C dX8_behind_14 rfl ?_
    refine j_lconst (v := 0) C dX8_behind_15 rfl (by decide) ?_
    refine j_ldc2 (v := 60) C dX8_behind_16 rfl gwt5_197 ?_
    replace h := bd_e h
    obtain ⟨p6_, h7_, h⟩ := h
    refine j_cSI (av := [.long (Int32.toInt64 a2), .long 0, .long 60]) (rest := []) C dX8_behind_19 rfl (c_X8_in _ _ _ _ p3_.2 p6_ h7_) gsX8_51 ⟨⟨rfl, rfl⟩, Nat.le_of_ble_eq_true rfl, Nat.le_of_ble_eq_true rfl⟩ rfl rfl (Nat.le_of_ble_eq_true rfl) ?_
    refine j_if_eq (tgt := 35) C dX8_behind_22 rfl (by decide) (fun c8_ => ?_) (fun c8_ => ?_)
    · replace h := if_t h c8_
      refine j_iconst (v := (-1)) C dX8_behind_35 rfl (by decide) ?_
      obtain rfl := Option.some.inj h
      exact j_iret E dX8_behind_36
    · replace h := if_f h c8_
      refine j_iload_n C dX8_behind_25 rfl 3 rfl ?_
      refine j_i2l C dX8_behind_26 rfl ?_
      refine j_lconst (v := 0) C dX8_behind_27 rfl (by decide) ?_
      refine j_lconst (v := 1) C dX8_behind_28 rfl (by decide) ?_
      replace h := bd_e h
      obtain ⟨p9_, h10_, h⟩ := h
      refine j_cSI (av := [.long (Int32.toInt64 a3), .long 0, .long 1]) (rest := []) C dX8_behind_29 rfl (c_X8_in _ _ _ _ p6_.2 p9_ h10_) gsX8_51 ⟨⟨rfl, rfl⟩, Nat.le_of_ble_eq_true rfl, Nat.le_of_ble_eq_true rfl⟩ rfl rfl (Nat.le_of_ble_eq_true rfl) ?_
      refine j_if_ne (tgt := 37) C dX8_behind_32 rfl (by decide) (fun c11_ => ?_) (fun c11_ => ?_)
      · replace h := if_f h c11_
        refine j_aload_n C dX8_behind_37 rfl 0 rfl ?_
        refine j_aload_n C dX8_behind_38 rfl 0 rfl ?_
        refine j_getR (c := 114) C dX8_behind_39 rfl lkX8_7 is_113 rfl ?_
        refine j_iload_n C dX8_behind_42 rfl 2 rfl ?_
        replace h := bd_e h
        obtain ⟨p12_, h13_, h⟩ := h
        refine j_cVV (av := [.ref 114, .int a2]) (rest := []) C dX8_behind_43 rfl (c_X8_tries _ _ _ _ isRow114 p9_.2 p12_ h13_) gvX8_200 ⟨⟨rfl, rfl⟩, Nat.le_of_ble_eq_true rfl, Nat.le_of_ble_eq_true rfl⟩ rfl is_113 rfl rfl (Nat.le_of_ble_eq_true rfl) ?_
        refine j_aload_n C dX8_behind_46 rfl 0 rfl ?_
        refine j_getR (c := 116) C dX8_behind_47 rfl lkX8_16 is_113 rfl ?_
        refine j_bipush (v := (nI 6)) C dX8_behind_50 rfl (by decide) ?_
        refine j_bipush (v := (nI 6)) C dX8_behind_52 rfl (by decide) ?_
        refine j_iload_n C dX8_behind_54 rfl 1 rfl ?_
        refine j_imul C dX8_behind_55 rfl ?_
        refine j_iadd C dX8_behind_56 rfl ?_
        refine j_iload_n C dX8_behind_57 rfl 3 rfl ?_
        refine j_if_ne (tgt := 65) C dX8_behind_58 rfl (by decide) (fun c14_ => ?_) (fun c14_ => ?_)
        · replace h := if_f h c14_
          refine j_iconst (v := (nI 1)) C dX8_behind_65 rfl (by decide) ?_
          refine j_lv [] rfl ?_
          exact w_X8_behind_66 C E ((nI 6) + ((nI 6) * a1)) (nI 1) p12_ h
        · replace h := if_t h c14_
          refine j_iconst (v := (nI 2)) C dX8_behind_61 rfl (by decide) ?_
          refine j_goto (pc' := 66) C dX8_behind_62 (by decide) ?_
          refine j_lv [] rfl ?_
          exact w_X8_behind_66 C E ((nI 6) + ((nI 6) * a1)) (nI 2) p12_ h
      · replace h := if_t h c11_
        refine j_iconst (v := (-1)) C dX8_behind_35 rfl (by decide) ?_
        obtain rfl := Option.some.inj h
        exact j_iret E dX8_behind_36
set_option maxRecDepth 100000 in
theorem c_X8_behind (l : Launch) (D : va_G) (ad : Nat → Nat) (cl : Nat → ClassId) {a1 : Int32} {a2 : Int32} {a3 : Int32} (μ : Mem) (ρ : Int32 × Mem) (h : f_X8_behind a1 a2 a3 μ = some ρ) : CI l D ad cl yX8_behind wsX8_behind rmX8_behind [.ref 113, .int a1, .int a2, .int a3] μ ρ.1 ρ.2 := c_ofI (cc := cX8_behind) (nL := 4) rfl (by decide) (Nat.le_of_ble_eq_true rfl) (fun Γ C E => w_X8_behind C E μ h)
