/-! X8_ship -/
def wsX8_ship : List Cond := .code yX8_ship cX8_ship 7 (some .int) :: G0
def rmX8_ship : Room := { frames := 1, cells := 0, slots := 0, locals := 25 }
def f_X8_ship_139 (a1 : Int32) (a2 : Int32) (x3 : Int32) (x4 : Int32) (μ : Mem) : Option (Int32 × Mem) := (if x4 ≤ a2 then some ((-4), μ) else (if a2 < x3 then some ((-4), μ) else some ((nI 1), μ)))
set_option maxHeartbeats 4000000 in
set_option maxRecDepth 100000 in
theorem w_X8_ship_139 {Γ : jG} (C : jC Γ 7 cX8_ship RX8 rmX8_ship) {a1 : Int32} {a2 : Int32} {ρ : Int32 × Mem} (E : jEI Γ cX8_ship ρ.1 ρ.2) (x3 : Int32) (x4 : Int32) (μ : Mem) (h : f_X8_ship_139 a1 a2 x3 x4 μ = some ρ) : jJ Γ 7 139 [(2, .int a2), (3, .int x3), (4, .int x4)] [] μ := by
  unfold f_X8_ship_139 at h
  refine j_iload C dX8_ship_139 rfl 2 rfl ?_
  refine j_iload_n C dX8_ship_141 rfl 0 rfl ?_
  refine j_icmp_le (tgt := 154) C dX8_ship_142 rfl (by decide) (fun c1_ => ?_) (fun c1_ => ?_)
  · replace h := if_t h c1_
    refine j_bipush (v := (-4)) C dX8_ship_154 rfl (by decide) ?_
    obtain rfl := Option.some.inj h
    exact j_iret E dX8_ship_156
  · replace h := if_f h c1_
    refine j_iload_n C dX8_ship_145 rfl 1 rfl ?_
    refine j_iload_n C dX8_ship_146 rfl 0 rfl ?_
    refine j_icmp_gt (tgt := 154) C dX8_ship_147 rfl (by decide) (fun c2_ => ?_) (fun c2_ => ?_)
    · replace h := if_t h c2_
      refine j_bipush (v := (-4)) C dX8_ship_154 rfl (by decide) ?_
      obtain rfl := Option.some.inj h
      exact j_iret E dX8_ship_156
    · replace h := if_f h c2_
      refine j_iconst (v := (nI 1)) C dX8_ship_150 rfl (by decide) ?_
      refine j_goto (pc' := 156) C dX8_ship_151 (by decide) ?_
      obtain rfl := Option.some.inj h
      exact j_iret E dX8_ship_156
def f_X8_ship_124 (a1 : Int32) (a2 : Int32) (x3 : Int32) (x4 : Int32) (μ : Mem) : Option (Int32 × Mem) := (if x3 ≤ a2 then f_X8_ship_139 a1 a2 x3 x4 μ else (if a2 < x4 then f_X8_ship_139 a1 a2 x3 x4 μ else some ((nI 0), μ)))
set_option maxHeartbeats 4000000 in
set_option maxRecDepth 100000 in
theorem w_X8_ship_124 {Γ : jG} (C : jC Γ 7 cX8_ship RX8 rmX8_ship) {a1 : Int32} {a2 : Int32} {ρ : Int32 × Mem} (E : jEI Γ cX8_ship ρ.1 ρ.2) (x3 : Int32) (x4 : Int32) (μ : Mem) (h : f_X8_ship_124 a1 a2 x3 x4 μ = some ρ) : jJ Γ 7 124 [(2, .int a2), (3, .int x3), (4, .int x4)] [] μ := by
  unfold f_X8_ship_124 at h
  refine j_iload_n C dX8_ship_124 rfl 1 rfl ?_
  refine j_iload_n C dX8_ship_125 rfl 0 rfl ?_
  refine j_icmp_le (tgt := 139) C dX8_ship_126 rfl (by decide) (fun c1_ => ?_) (fun c1_ => ?_)
  · replace h := if_t h c1_
    refine j_lv [0, 1, 2] rfl ?_
    exact w_X8_ship_139 C E x3 x4 μ h
  · replace h := if_f h c1_
    refine j_iload C dX8_ship_129 rfl 2 rfl ?_
    refine j_iload_n C dX8_ship_131 rfl 0 rfl ?_
    refine j_icmp_gt (tgt := 139) C dX8_ship_132 rfl (by decide) (fun c2_ => ?_) (fun c2_ => ?_)
    · replace h := if_t h c2_
      refine j_lv [0, 1, 2] rfl ?_
      exact w_X8_ship_139 C E x3 x4 μ h
    · replace h := if_f h c2_
      refine j_iconst (v := (nI 0)) C dX8_ship_135 rfl (by decide) ?_
      refine j_goto (pc' := 156) C dX8_ship_136 (by decide) ?_
      obtain rfl := Option.some.inj h
      exact j_iret E dX8_ship_156
def f_X8_ship_115 (a1 : Int32) (a2 : Int32) (kb47 : Int32 → Int32 → Int32 → Mem → Option (Int32 × Mem)) (kx124 : Int32 → Int32 → Mem → Option (Int32 × Mem)) (x3 : Int32) (x5 : Int32) (t0 : Int32) (t1 : Int32) (μ : Mem) : Option (Int32 × Mem) := zl (t0 + t1) fun x1_ => kb47 x3 x1_ (x5 + (nI 1)) μ
set_option maxHeartbeats 4000000 in
set_option maxRecDepth 100000 in
theorem w_X8_ship_115 {Γ : jG} (C : jC Γ 7 cX8_ship RX8 rmX8_ship) {a1 : Int32} {a2 : Int32} {kb47 : Int32 → Int32 → Int32 → Mem → Option (Int32 × Mem)} {kx124 : Int32 → Int32 → Mem → Option (Int32 × Mem)} {ρ : Int32 × Mem} (E : jEI Γ cX8_ship ρ.1 ρ.2) (Hkb47 : ∀ (x3 : Int32) (x4 : Int32) (x5 : Int32) (μ : Mem), kb47 x3 x4 x5 μ = some ρ → jJ Γ 7 47 [(0, .ref 113), (1, .int a1), (2, .int a2), (3, .int x3), (4, .int x4), (5, .int x5)] [] μ) (Hkx124 : ∀ (x3 : Int32) (x4 : Int32) (μ : Mem), kx124 x3 x4 μ = some ρ → jJ Γ 7 124 [(2, .int a2), (3, .int x3), (4, .int x4)] [] μ) (x3 : Int32) (x5 : Int32) (t0 : Int32) (t1 : Int32) (μ : Mem) (h : f_X8_ship_115 a1 a2 kb47 kx124 x3 x5 t0 t1 μ = some ρ) : jJ Γ 7 115 [(0, .ref 113), (1, .int a1), (2, .int a2), (3, .int x3), (5, .int x5)] [.int t1, .int t0] μ := by
  unfold f_X8_ship_115 at h
  refine j_iadd C dX8_ship_115 rfl ?_
  refine j_topi (fun x1_ e2_ => ?_)
  replace h := zl_u h e2_
  refine j_istore (lv' := [(4, .int x1_), (0, .ref 113), (1, .int a1), (2, .int a2), (3, .int x3), (5, .int x5)]) C dX8_ship_116 rfl (by decide) rfl ?_
  refine j_iinc (d := (nI 1)) (v := x5 + (nI 1)) (lv' := [(5, .int (x5 + (nI 1))), (4, .int x1_), (0, .ref 113), (1, .int a1), (2, .int a2), (3, .int x3)]) C dX8_ship_118 rfl (by decide) 5 rfl (by decide) rfl rfl ?_
  refine j_goto (pc' := 47) C dX8_ship_121 (by decide) ?_
  refine j_lv [2, 3, 4, 5, 1, 0] rfl ?_
  exact (Hkb47) x3 x1_ (x5 + (nI 1)) μ h
def f_X8_ship_100 (a1 : Int32) (a2 : Int32) (kb47 : Int32 → Int32 → Int32 → Mem → Option (Int32 × Mem)) (kx124 : Int32 → Int32 → Mem → Option (Int32 × Mem)) (x4 : Int32) (x5 : Int32) (x6 : Int32) (t0 : Int32) (t1 : Int32) (μ : Mem) : Option (Int32 × Mem) := zl (t0 + t1) fun x1_ => (if x6 = (nI 1) then f_X8_ship_115 a1 a2 kb47 kx124 x1_ x5 x4 (nI 1) μ else f_X8_ship_115 a1 a2 kb47 kx124 x1_ x5 x4 (nI 0) μ)
set_option maxHeartbeats 4000000 in
set_option maxRecDepth 100000 in
theorem w_X8_ship_100 {Γ : jG} (C : jC Γ 7 cX8_ship RX8 rmX8_ship) {a1 : Int32} {a2 : Int32} {kb47 : Int32 → Int32 → Int32 → Mem → Option (Int32 × Mem)} {kx124 : Int32 → Int32 → Mem → Option (Int32 × Mem)} {ρ : Int32 × Mem} (E : jEI Γ cX8_ship ρ.1 ρ.2) (Hkb47 : ∀ (x3 : Int32) (x4 : Int32) (x5 : Int32) (μ : Mem), kb47 x3 x4 x5 μ = some ρ → jJ Γ 7 47 [(0, .ref 113), (1, .int a1), (2, .int a2), (3, .int x3), (4, .int x4), (5, .int x5)] [] μ) (Hkx124 : ∀ (x3 : Int32) (x4 : Int32) (μ : Mem), kx124 x3 x4 μ = some ρ → jJ Γ 7 124 [(2, .int a2), (3, .int x3), (4, .int x4)] [] μ) (x4 : Int32) (x5 : Int32) (x6 : Int32) (t0 : Int32) (t1 : Int32) (μ : Mem) (h : f_X8_ship_100 a1 a2 kb47 kx124 x4 x5 x6 t0 t1 μ = some ρ) : jJ Γ 7 100 [(0, .ref 113), (1, .int a1), (2, .int a2), (4, .int x4), (5, .int x5), (6, .int x6)] [.int t1, .int t0] μ := by
  unfold f_X8_ship_100 at h
  refine j_iadd C dX8_ship_100 rfl ?_
  refine j_topi (fun x1_ e2_ => ?_)
  replace h := zl_u h e2_
  refine j_istore_n (lv' := [(3, .int x1_), (0, .ref 113), (1, .int a1), (2, .int a2), (4, .int x4), (5, .int x5), (6, .int x6)]) C dX8_ship_101 rfl (by decide) rfl ?_
  refine j_iload C dX8_ship_102 rfl 4 rfl ?_
  refine j_iload C dX8_ship_104 rfl 6 rfl ?_
  refine j_iconst (v := (nI 1)) C dX8_ship_106 rfl (by decide) ?_
  refine j_icmp_ne (tgt := 114) C dX8_ship_107 rfl (by decide) (fun c3_ => ?_) (fun c3_ => ?_)
  · replace h := if_f h c3_
    refine j_iconst (v := (nI 0)) C dX8_ship_114 rfl (by decide) ?_
    refine j_lv [1, 2, 3, 0, 5] rfl ?_
    exact w_X8_ship_115 C E Hkb47 Hkx124 x1_ x5 x4 (nI 0) μ h
  · replace h := if_t h c3_
    refine j_iconst (v := (nI 1)) C dX8_ship_110 rfl (by decide) ?_
    refine j_goto (pc' := 115) C dX8_ship_111 (by decide) ?_
    refine j_lv [1, 2, 3, 0, 5] rfl ?_
    exact w_X8_ship_115 C E Hkb47 Hkx124 x1_ x5 x4 (nI 1) μ h
def f_X8_ship_87 (a1 : Int32) (a2 : Int32) (kb47 : Int32 → Int32 → Int32 → Mem → Option (Int32 × Mem)) (kx124 : Int32 → Int32 → Mem → Option (Int32 × Mem)) (x3 : Int32) (x4 : Int32) (x5 : Int32) (t0 : Int32) (μ : Mem) : Option (Int32 × Mem) := (if t0 = 0 then f_X8_ship_100 a1 a2 kb47 kx124 x4 x5 t0 x3 (nI 1) μ else f_X8_ship_100 a1 a2 kb47 kx124 x4 x5 t0 x3 (nI 0) μ)
set_option maxHeartbeats 4000000 in
set_option maxRecDepth 100000 in
theorem w_X8_ship_87 {Γ : jG} (C : jC Γ 7 cX8_ship RX8 rmX8_ship) {a1 : Int32} {a2 : Int32} {kb47 : Int32 → Int32 → Int32 → Mem → Option (Int32 × Mem)} {kx124 : Int32 → Int32 → Mem → Option (Int32 × Mem)} {ρ : Int32 × Mem} (E : jEI Γ cX8_ship ρ.1 ρ.2) (Hkb47 : ∀ (x3 : Int32) (x4 : Int32) (x5 : Int32) (μ : Mem), kb47 x3 x4 x5 μ = some ρ → jJ Γ 7 47 [(0, .ref 113), (1, .int a1), (2, .int a2), (3, .int x3), (4, .int x4), (5, .int x5)] [] μ) (Hkx124 : ∀ (x3 : Int32) (x4 : Int32) (μ : Mem), kx124 x3 x4 μ = some ρ → jJ Γ 7 124 [(2, .int a2), (3, .int x3), (4, .int x4)] [] μ) (x3 : Int32) (x4 : Int32) (x5 : Int32) (t0 : Int32) (μ : Mem) (h : f_X8_ship_87 a1 a2 kb47 kx124 x3 x4 x5 t0 μ = some ρ) : jJ Γ 7 87 [(0, .ref 113), (1, .int a1), (2, .int a2), (3, .int x3), (4, .int x4), (5, .int x5)] [.int t0] μ := by
  unfold f_X8_ship_87 at h
  refine j_istore (lv' := [(6, .int t0), (0, .ref 113), (1, .int a1), (2, .int a2), (3, .int x3), (4, .int x4), (5, .int x5)]) C dX8_ship_87 rfl (by decide) rfl ?_
  refine j_iload_n C dX8_ship_89 rfl 4 rfl ?_
  refine j_iload C dX8_ship_90 rfl 0 rfl ?_
  refine j_if_ne (tgt := 99) C dX8_ship_92 rfl (by decide) (fun c1_ => ?_) (fun c1_ => ?_)
  · replace h := if_f h c1_
    refine j_iconst (v := (nI 0)) C dX8_ship_99 rfl (by decide) ?_
    refine j_lv [1, 2, 3, 5, 6, 0] rfl ?_
    exact w_X8_ship_100 C E Hkb47 Hkx124 x4 x5 t0 x3 (nI 0) μ h
  · replace h := if_t h c1_
    refine j_iconst (v := (nI 1)) C dX8_ship_95 rfl (by decide) ?_
    refine j_goto (pc' := 100) C dX8_ship_96 (by decide) ?_
    refine j_lv [1, 2, 3, 5, 6, 0] rfl ?_
    exact w_X8_ship_100 C E Hkb47 Hkx124 x4 x5 t0 x3 (nI 1) μ h
def f_X8_ship_47 (a1 : Int32) (a2 : Int32) (kx124 : Int32 → Int32 → Mem → Option (Int32 × Mem)) : Nat → Int32 → Int32 → Int32 → Mem → Option (Int32 × Mem)
  | 0, _, _, _, _ => none
  | n + 1, x3, x4, x5, μ => gd (inb (nI 0) 1829) <| (if (μ.1 114 (Int32.toNatClampNeg (nI 0))) ≤ x5 then kx124 x3 x4 μ else (if ((a1 >>> (x5 &&& 31)) &&& (nI 1)) = (nI 1) then gd (inb (((nI 6) + ((nI 6) * x5)) + (nI 2)) 1829) <| f_X8_ship_87 a1 a2 (fun x3 x4 x5 μ => f_X8_ship_47 a1 a2 kx124 n x3 x4 x5 μ) kx124 x3 x4 x5 (μ.1 114 (Int32.toNatClampNeg (((nI 6) + ((nI 6) * x5)) + (nI 2)))) μ else f_X8_ship_87 a1 a2 (fun x3 x4 x5 μ => f_X8_ship_47 a1 a2 kx124 n x3 x4 x5 μ) kx124 x3 x4 x5 (nI 2) μ))
set_option maxHeartbeats 4000000 in
set_option maxRecDepth 100000 in
theorem w_X8_ship_47 {Γ : jG} (C : jC Γ 7 cX8_ship RX8 rmX8_ship) {a1 : Int32} {a2 : Int32} {kx124 : Int32 → Int32 → Mem → Option (Int32 × Mem)} {ρ : Int32 × Mem} (E : jEI Γ cX8_ship ρ.1 ρ.2) (Hkx124 : ∀ (x3 : Int32) (x4 : Int32) (μ : Mem), kx124 x3 x4 μ = some ρ → jJ Γ 7 124 [(2, .int a2), (3, .int x3), (4, .int x4)] [] μ) : ∀ (n : Nat) (x3 : Int32) (x4 : Int32) (x5 : Int32) (μ : Mem), f_X8_ship_47 a1 a2 kx124 n x3 x4 x5 μ = some ρ → jJ Γ 7 47 [(0, .ref 113), (1, .int a1), (2, .int a2), (3, .int x3), (4, .int x4), (5, .int x5)] [] μ := by
  intro n
  induction n with
  | zero => intro x3 x4 x5 μ h; rw [f_X8_ship_47] at h; cases h
  | succ n ih =>
    intro x3 x4 x5 μ h
    rw [f_X8_ship_47] at h
    refine j_iload C dX8_ship_47 rfl 5 rfl ?_
    refine j_aload_n C dX8_ship_49 rfl 0 rfl ?_
    refine j_getR (c := 114) C dX8_ship_50 rfl lkX8_7 is_113 rfl ?_
    refine j_iconst (v := (nI 0)) C dX8_ship_53 rfl (by decide) ?_
    replace h := gd_e h
    obtain ⟨g1_, h⟩ := h
    refine j_iald C dX8_ship_54 rfl is_114 g1_ ?_
    refine j_icmp_ge (tgt := 124) C dX8_ship_55 rfl (by decide) (fun c2_ => ?_) (fun c2_ => ?_)
    · replace h := if_t h c2_
      refine j_lv [2, 3, 4] rfl ?_
      exact (Hkx124) x3 x4 μ h
    · replace h := if_f h c2_
      refine j_iload_n C dX8_ship_58 rfl 1 rfl ?_
      refine j_iload C dX8_ship_59 rfl 5 rfl ?_
      refine j_ishr C dX8_ship_61 rfl ?_
      refine j_iconst (v := (nI 1)) C dX8_ship_62 rfl (by decide) ?_
      refine j_iand C dX8_ship_63 rfl ?_
      refine j_iconst (v := (nI 1)) C dX8_ship_64 rfl (by decide) ?_
      refine j_icmp_ne (tgt := 86) C dX8_ship_65 rfl (by decide) (fun c3_ => ?_) (fun c3_ => ?_)
      · replace h := if_f h c3_
        refine j_iconst (v := (nI 2)) C dX8_ship_86 rfl (by decide) ?_
        refine j_lv [0, 1, 2, 3, 4, 5] rfl ?_
        exact w_X8_ship_87 C E ih Hkx124 x3 x4 x5 (nI 2) μ h
      · replace h := if_t h c3_
        refine j_aload_n C dX8_ship_68 rfl 0 rfl ?_
        refine j_getR (c := 114) C dX8_ship_69 rfl lkX8_7 is_113 rfl ?_
        refine j_bipush (v := (nI 6)) C dX8_ship_72 rfl (by decide) ?_
        refine j_bipush (v := (nI 6)) C dX8_ship_74 rfl (by decide) ?_
        refine j_iload C dX8_ship_76 rfl 5 rfl ?_
        refine j_imul C dX8_ship_78 rfl ?_
        refine j_iadd C dX8_ship_79 rfl ?_
        refine j_iconst (v := (nI 2)) C dX8_ship_80 rfl (by decide) ?_
        refine j_iadd C dX8_ship_81 rfl ?_
        replace h := gd_e h
        obtain ⟨g4_, h⟩ := h
        refine j_iald C dX8_ship_82 rfl is_114 g4_ ?_
        refine j_goto (pc' := 87) C dX8_ship_83 (by decide) ?_
        refine j_lv [0, 1, 2, 3, 4, 5] rfl ?_
        exact w_X8_ship_87 C E ih Hkx124 x3 x4 x5 (μ.1 114 (Int32.toNatClampNeg (((nI 6) + ((nI 6) * x5)) + (nI 2)))) μ h
def f_X8_ship (a1 : Int32) (a2 : Int32) (μ : Mem) : Option (Int32 × Mem) := zl (sI μ 113 0 (nI 0)) fun μ1_ => gd (inb (nI 0) 1829) <| Option.bind (f_X8_in (Int32.toInt64 a1) 0 (Int32.toInt64 (((nI 1) <<< ((μ1_.1 114 (Int32.toNatClampNeg (nI 0))) &&& 31)) - (nI 1))) μ1_) fun p4_ => (if p4_.1 = 0 then some ((-1), p4_.2) else Option.bind (f_X8_in (Int32.toInt64 a2) 0 4 p4_.2) fun p7_ => (if p7_.1 = 0 then some ((-1), p7_.2) else f_X8_ship_47 a1 a2 (fun x3 x4 μ => f_X8_ship_124 a1 a2 x3 x4 μ) zfu (nI 0) (nI 0) (nI 0) p7_.2))
set_option maxHeartbeats 4000000 in
set_option maxRecDepth 100000 in
theorem w_X8_ship {Γ : jG} (C : jC Γ 7 cX8_ship RX8 rmX8_ship) {a1 : Int32} {a2 : Int32} {ρ : Int32 × Mem} (E : jEI Γ cX8_ship ρ.1 ρ.2) (μ : Mem) (h : f_X8_ship a1 a2 μ = some ρ) : jJ Γ 7 0 [(0, .ref 113), (1, .int a1), (2, .int a2)] [] μ := by
  unfold f_X8_ship at h
  refine j_aload_n C dX8_ship_0 rfl 0 rfl ?_
  refine j_iconst (v := (nI 0)) C dX8_ship_1 rfl (by decide) ?_
  refine j_putI C dX8_ship_2 rfl lpX8_48 is_113 rfl ?_
  refine j_mem (fun μ1_ e2_ => ?_)
  replace h := zl_u h e2_
  refine j_iload_n C dX8_ship_5 rfl 1 rfl ?_
  refine j_i2l C dX8_ship_6 rfl ?_
  refine j_lconst (v := 0) C dX8_ship_7 rfl (by decide) ?_
  refine j_iconst (v := (nI 1)) C dX8_ship_8 rfl (by decide) ?_
  refine j_aload_n C dX8_ship_9 rfl 0 rfl ?_
  refine j_getR (c := 114) C dX8_ship_10 rfl lkX8_7 is_113 rfl ?_
  refine j_iconst (v := (nI 0)) C dX8_ship_13 rfl (by decide) ?_
  replace h := gd_e h
  obtain ⟨g3_, h⟩ := h
  refine j_iald C dX8_ship_14 rfl is_114 g3_ ?_
  refine j_ishl C dX8_ship_15 rfl ?_
  refine j_iconst (v := (nI 1)) C dX8_ship_16 rfl (by decide) ?_
  refine j_isub C dX8_ship_17 rfl ?_
  refine j_i2l C dX8_ship_18 rfl ?_
  replace h := bd_e h
  obtain ⟨p4_, h5_, h⟩ := h
  refine j_cSI (av := [.long (Int32.toInt64 a1), .long 0, .long (Int32.toInt64 (((nI 1) <<< ((μ1_.1 114 (Int32.toNatClampNeg (nI 0))) &&& 31)) - (nI 1)))]) (rest := []) C dX8_ship_19 rfl (c_X8_in _ _ _ _ μ1_ p4_ h5_) gsX8_51 ⟨⟨rfl, rfl⟩, Nat.le_of_ble_eq_true rfl, Nat.le_of_ble_eq_true rfl⟩ rfl rfl (Nat.le_of_ble_eq_true rfl) ?_
  refine j_if_eq (tgt := 37) C dX8_ship_22 rfl (by decide) (fun c6_ => ?_) (fun c6_ => ?_)
  · replace h := if_t h c6_
    refine j_iconst (v := (-1)) C dX8_ship_37 rfl (by decide) ?_
    obtain rfl := Option.some.inj h
    exact j_iret E dX8_ship_38
  · replace h := if_f h c6_
    refine j_iload_n C dX8_ship_25 rfl 2 rfl ?_
    refine j_i2l C dX8_ship_26 rfl ?_
    refine j_lconst (v := 0) C dX8_ship_27 rfl (by decide) ?_
    refine j_ldc2 (v := 4) C dX8_ship_28 rfl gwt6_61 ?_
    replace h := bd_e h
    obtain ⟨p7_, h8_, h⟩ := h
    refine j_cSI (av := [.long (Int32.toInt64 a2), .long 0, .long 4]) (rest := []) C dX8_ship_31 rfl (c_X8_in _ _ _ _ p4_.2 p7_ h8_) gsX8_51 ⟨⟨rfl, rfl⟩, Nat.le_of_ble_eq_true rfl, Nat.le_of_ble_eq_true rfl⟩ rfl rfl (Nat.le_of_ble_eq_true rfl) ?_
    refine j_if_ne (tgt := 39) C dX8_ship_34 rfl (by decide) (fun c9_ => ?_) (fun c9_ => ?_)
    · replace h := if_f h c9_
      refine j_iconst (v := (nI 0)) C dX8_ship_39 rfl (by decide) ?_
      refine j_istore_n (lv' := [(3, .int (nI 0)), (0, .ref 113), (1, .int a1), (2, .int a2)]) C dX8_ship_40 rfl (by decide) rfl ?_
      refine j_iconst (v := (nI 0)) C dX8_ship_41 rfl (by decide) ?_
      refine j_istore (lv' := [(4, .int (nI 0)), (3, .int (nI 0)), (0, .ref 113), (1, .int a1), (2, .int a2)]) C dX8_ship_42 rfl (by decide) rfl ?_
      refine j_iconst (v := (nI 0)) C dX8_ship_44 rfl (by decide) ?_
      refine j_istore (lv' := [(5, .int (nI 0)), (4, .int (nI 0)), (3, .int (nI 0)), (0, .ref 113), (1, .int a1), (2, .int a2)]) C dX8_ship_45 rfl (by decide) rfl ?_
      refine j_lv [3, 4, 5, 2, 1, 0] rfl ?_
      exact w_X8_ship_47 C E (fun x3 x4 μ h => w_X8_ship_124 C E x3 x4 μ h) zfu (nI 0) (nI 0) (nI 0) p7_.2 h
    · replace h := if_t h c9_
      refine j_iconst (v := (-1)) C dX8_ship_37 rfl (by decide) ?_
      obtain rfl := Option.some.inj h
      exact j_iret E dX8_ship_38
set_option maxRecDepth 100000 in
theorem c_X8_ship (l : Launch) (D : va_G) (ad : Nat → Nat) (cl : Nat → ClassId) {a1 : Int32} {a2 : Int32} (μ : Mem) (ρ : Int32 × Mem) (h : f_X8_ship a1 a2 μ = some ρ) : CI l D ad cl yX8_ship wsX8_ship rmX8_ship [.ref 113, .int a1, .int a2] μ ρ.1 ρ.2 := c_ofI (cc := cX8_ship) (nL := 7) rfl (by decide) (Nat.le_of_ble_eq_true rfl) (fun Γ C E => w_X8_ship C E μ h)
/-! X8_image -/
def wsX8_image : List Cond := .code yX8_image cX8_image 1 (some .int) :: G0
def rmX8_image : Room := { frames := 1, cells := 0, slots := 0, locals := 22 }
def f_X8_image (μ : Mem) : Option (Int32 × Mem) := zl (sI μ 113 0 (nI 0)) fun μ1_ => Option.bind (f_X8_copies 114 117 μ1_) fun p3_ => zl (sI p3_ 113 5 (nI 1)) fun μ5_ => some ((nI 1), μ5_)
set_option maxHeartbeats 4000000 in
set_option maxRecDepth 100000 in
theorem w_X8_image {Γ : jG} (C : jC Γ 1 cX8_image RX8 rmX8_image) {ρ : Int32 × Mem} (E : jEI Γ cX8_image ρ.1 ρ.2) (μ : Mem) (h : f_X8_image μ = some ρ) : jJ Γ 1 0 [(0, .ref 113)] [] μ := by
  unfold f_X8_image at h
  refine j_aload_n C dX8_image_0 rfl 0 rfl ?_
  refine j_iconst (v := (nI 0)) C dX8_image_1 rfl (by decide) ?_
  refine j_putI C dX8_image_2 rfl lpX8_48 is_113 rfl ?_
  refine j_mem (fun μ1_ e2_ => ?_)
  replace h := zl_u h e2_
  refine j_aload_n C dX8_image_5 rfl 0 rfl ?_
  refine j_getR (c := 114) C dX8_image_6 rfl lkX8_7 is_113 rfl ?_
  refine j_aload_n C dX8_image_9 rfl 0 rfl ?_
  refine j_getR (c := 117) C dX8_image_10 rfl lkX8_19 is_113 rfl ?_
  replace h := bd_e h
  obtain ⟨p3_, h4_, h⟩ := h
  refine j_cSV (av := [.ref 114, .ref 117]) (rest := []) C dX8_image_13 rfl (c_X8_copies _ _ _ _ isRow114 isRow117 μ1_ p3_ h4_) gsX8_196 ⟨⟨rfl, rfl⟩, Nat.le_of_ble_eq_true rfl, Nat.le_of_ble_eq_true rfl⟩ rfl rfl (Nat.le_of_ble_eq_true rfl) ?_
  refine j_aload_n C dX8_image_16 rfl 0 rfl ?_
  refine j_iconst (v := (nI 1)) C dX8_image_17 rfl (by decide) ?_
  refine j_putZ C dX8_image_18 rfl lpX8_230 is_113 rfl (by decide) ?_
  refine j_mem (fun μ5_ e6_ => ?_)
  replace h := zl_u h e6_
  refine j_iconst (v := (nI 1)) C dX8_image_21 rfl (by decide) ?_
  obtain rfl := Option.some.inj h
  exact j_iret E dX8_image_22
set_option maxRecDepth 100000 in
theorem c_X8_image (l : Launch) (D : va_G) (ad : Nat → Nat) (cl : Nat → ClassId) (μ : Mem) (ρ : Int32 × Mem) (h : f_X8_image μ = some ρ) : CI l D ad cl yX8_image wsX8_image rmX8_image [.ref 113] μ ρ.1 ρ.2 := c_ofI (cc := cX8_image) (nL := 1) rfl (by decide) (Nat.le_of_ble_eq_true rfl) (fun Γ C E => w_X8_image C E μ h)
/-! X8_restore -/
def wsX8_restore : List Cond := .code yX8_restore cX8_restore 1 (some .int) :: G0
def rmX8_restore : Room := { frames := 1, cells := 0, slots := 0, locals := 22 }
def f_X8_restore (μ : Mem) : Option (Int32 × Mem) := zl (sI μ 113 0 (nI 0)) fun μ1_ => (if (μ1_.1 113 5) = 0 then some ((-4), μ1_) else Option.bind (f_X8_copies 117 114 μ1_) fun p4_ => some ((nI 1), p4_))
set_option maxHeartbeats 4000000 in
set_option maxRecDepth 100000 in
theorem w_X8_restore {Γ : jG} (C : jC Γ 1 cX8_restore RX8 rmX8_restore) {ρ : Int32 × Mem} (E : jEI Γ cX8_restore ρ.1 ρ.2) (μ : Mem) (h : f_X8_restore μ = some ρ) : jJ Γ 1 0 [(0, .ref 113)] [] μ := by
  unfold f_X8_restore at h
  refine j_aload_n C dX8_restore_0 rfl 0 rfl ?_
  refine j_iconst (v := (nI 0)) C dX8_restore_1 rfl (by decide) ?_
  refine j_putI C dX8_restore_2 rfl lpX8_48 is_113 rfl ?_
  refine j_mem (fun μ1_ e2_ => ?_)
  replace h := zl_u h e2_
  refine j_aload_n C dX8_restore_5 rfl 0 rfl ?_
  refine j_getI C dX8_restore_6 rfl lkX8_230 is_113 rfl ?_
  refine j_if_ne (tgt := 15) C dX8_restore_9 rfl (by decide) (fun c3_ => ?_) (fun c3_ => ?_)
  · replace h := if_f h c3_
    refine j_aload_n C dX8_restore_15 rfl 0 rfl ?_
    refine j_getR (c := 117) C dX8_restore_16 rfl lkX8_19 is_113 rfl ?_
    refine j_aload_n C dX8_restore_19 rfl 0 rfl ?_
    refine j_getR (c := 114) C dX8_restore_20 rfl lkX8_7 is_113 rfl ?_
    replace h := bd_e h
    obtain ⟨p4_, h5_, h⟩ := h
    refine j_cSV (av := [.ref 117, .ref 114]) (rest := []) C dX8_restore_23 rfl (c_X8_copies _ _ _ _ isRow117 isRow114 μ1_ p4_ h5_) gsX8_196 ⟨⟨rfl, rfl⟩, Nat.le_of_ble_eq_true rfl, Nat.le_of_ble_eq_true rfl⟩ rfl rfl (Nat.le_of_ble_eq_true rfl) ?_
    refine j_iconst (v := (nI 1)) C dX8_restore_26 rfl (by decide) ?_
    obtain rfl := Option.some.inj h
    exact j_iret E dX8_restore_27
  · replace h := if_t h c3_
    refine j_bipush (v := (-4)) C dX8_restore_12 rfl (by decide) ?_
    obtain rfl := Option.some.inj h
    exact j_iret E dX8_restore_14
set_option maxRecDepth 100000 in
theorem c_X8_restore (l : Launch) (D : va_G) (ad : Nat → Nat) (cl : Nat → ClassId) (μ : Mem) (ρ : Int32 × Mem) (h : f_X8_restore μ = some ρ) : CI l D ad cl yX8_restore wsX8_restore rmX8_restore [.ref 113] μ ρ.1 ρ.2 := c_ofI (cc := cX8_restore) (nL := 1) rfl (by decide) (Nat.le_of_ble_eq_true rfl) (fun Γ C E => w_X8_restore C E μ h)
/-! X8_wrongOf -/
def wsX8_wrongOf : List Cond := .code yX8_wrongOf cX8_wrongOf 5 (some .int) :: G0
def rmX8_wrongOf : Room := { frames := 0, cells := 0, slots := 0, locals := 0 }
def f_X8_wrongOf_51 (a1 : Int32) (a2 : Int32) (a3 : Int32) (a4 : Int32) (μ : Mem) : Option (Int32 × Mem) := some ((-13), μ)
set_option maxHeartbeats 4000000 in
set_option maxRecDepth 100000 in
theorem w_X8_wrongOf_51 {Γ : jG} (C : jC Γ 5 cX8_wrongOf RX8 rmX8_wrongOf) {a1 : Int32} {a2 : Int32} {a3 : Int32} {a4 : Int32} {ρ : Int32 × Mem} (E : jEI Γ cX8_wrongOf ρ.1 ρ.2) (μ : Mem) (h : f_X8_wrongOf_51 a1 a2 a3 a4 μ = some ρ) : jJ Γ 5 51 [] [] μ := by
  unfold f_X8_wrongOf_51 at h
  refine j_bipush (v := (-13)) C dX8_wrongOf_51 rfl (by decide) ?_
  refine j_goto (pc' := 57) C dX8_wrongOf_53 (by decide) ?_
  obtain rfl := Option.some.inj h
  exact j_iret E dX8_wrongOf_57
def f_X8_wrongOf (a1 : Int32) (a2 : Int32) (a3 : Int32) (a4 : Int32) (μ : Mem) : Option (Int32 × Mem) := gd (inb a1 4) <| (if 0 ≤ (μ.1 120 (Int32.toNatClampNeg a1)) then (if (μ.1 120 (Int32.toNatClampNeg a1)) = a2 then (if a3 < 0 then f_X8_wrongOf_51 a1 a2 a3 a4 μ else (if a4 < 0 then f_X8_wrongOf_51 a1 a2 a3 a4 μ else (if (lg_cmp ((Int32.toInt64 a3) + (Int32.toInt64 a4)) (Int32.toInt64 (μ.1 121 (Int32.toNatClampNeg a1)))) ≤ 0 then some ((nI 0), μ) else f_X8_wrongOf_51 a1 a2 a3 a4 μ))) else some ((-12), μ)) else some ((-11), μ))
set_option maxHeartbeats 4000000 in
set_option maxRecDepth 100000 in
theorem w_X8_wrongOf {Γ : jG} (C : jC Γ 5 cX8_wrongOf RX8 rmX8_wrongOf) {a1 : Int32} {a2 : Int32} {a3 : Int32} {a4 : Int32} {ρ : Int32 × Mem} (E : jEI Γ cX8_wrongOf ρ.1 ρ.2) (μ : Mem) (h : f_X8_wrongOf a1 a2 a3 a4 μ = some ρ) : jJ Γ 5 0 [(0, .ref 113), (1, .int a1), (2, .int a2), (3, .int a3), (4, .int a4)] [] μ := by
  unfold f_X8_wrongOf at h
  refine j_aload_n C dX8_wrongOf_0 rfl 0 rfl ?_
  refine j_getR (c := 120) C dX8_wrongOf_1 rfl lkX8_28 is_113 rfl ?_
  refine j_iload_n C dX8_wrongOf_4 rfl 1 rfl ?_
  replace h := gd_e h
  obtain ⟨g1_, h⟩ := h
  refine j_iald C dX8_wrongOf_5 rfl is_120 g1_ ?_
  refine j_if_ge (tgt := 12) C dX8_wrongOf_6 rfl (by decide) (fun c2_ => ?_) (fun c2_ => ?_)
  · replace h := if_t h c2_
    refine j_aload_n C dX8_wrongOf_12 rfl 0 rfl ?_
    refine j_getR (c := 120) C dX8_wrongOf_13 rfl lkX8_28 is_113 rfl ?_
    refine j_iload_n C dX8_wrongOf_16 rfl 1 rfl ?_
    refine j_iald C dX8_wrongOf_17 rfl is_120 g1_ ?_
    refine j_iload_n C dX8_wrongOf_18 rfl 2 rfl ?_
    refine j_icmp_eq (tgt := 25) C dX8_wrongOf_19 rfl (by decide) (fun c3_ => ?_) (fun c3_ => ?_)
    · replace h := if_t h c3_
      refine j_iload_n C dX8_wrongOf_25 rfl 3 rfl ?_
      refine j_if_lt (tgt := 51) C dX8_wrongOf_26 rfl (by decide) (fun c4_ => ?_) (fun c4_ => ?_)
      · replace h := if_t h c4_
        refine j_lv [] rfl ?_
        exact w_X8_wrongOf_51 C E μ h
      · replace h := if_f h c4_
        refine j_iload C dX8_wrongOf_29 rfl 4 rfl ?_
        refine j_if_lt (tgt := 51) C dX8_wrongOf_31 rfl (by decide) (fun c5_ => ?_) (fun c5_ => ?_)
        · replace h := if_t h c5_
          refine j_lv [] rfl ?_
          exact w_X8_wrongOf_51 C E μ h
        · replace h := if_f h c5_
          refine j_iload_n C dX8_wrongOf_34 rfl 3 rfl ?_
          refine j_i2l C dX8_wrongOf_35 rfl ?_
          refine j_iload C dX8_wrongOf_36 rfl 4 rfl ?_
          refine j_i2l C dX8_wrongOf_38 rfl ?_
          refine j_ladd C dX8_wrongOf_39 rfl ?_
          refine j_aload_n C dX8_wrongOf_40 rfl 0 rfl ?_
          refine j_getR (c := 121) C dX8_wrongOf_41 rfl lkX8_31 is_113 rfl ?_
          refine j_iload_n C dX8_wrongOf_44 rfl 1 rfl ?_
          refine j_iald C dX8_wrongOf_45 rfl is_121 g1_ ?_
          refine j_i2l C dX8_wrongOf_46 rfl ?_
          refine j_lcmp C dX8_wrongOf_47 rfl ?_
          refine j_if_le (tgt := 56) C dX8_wrongOf_48 rfl (by decide) (fun c6_ => ?_) (fun c6_ => ?_)
          · replace h := if_t h c6_
            refine j_iconst (v := (nI 0)) C dX8_wrongOf_56 rfl (by decide) ?_
            obtain rfl := Option.some.inj h
            exact j_iret E dX8_wrongOf_57
          · replace h := if_f h c6_
            refine j_lv [] rfl ?_
            exact w_X8_wrongOf_51 C E μ h
    · replace h := if_f h c3_
      refine j_bipush (v := (-12)) C dX8_wrongOf_22 rfl (by decide) ?_
      obtain rfl := Option.some.inj h
      exact j_iret E dX8_wrongOf_24
  · replace h := if_f h c2_
    refine j_bipush (v := (-11)) C dX8_wrongOf_9 rfl (by decide) ?_
    obtain rfl := Option.some.inj h
    exact j_iret E dX8_wrongOf_11
set_option maxRecDepth 100000 in
theorem c_X8_wrongOf (l : Launch) (D : va_G) (ad : Nat → Nat) (cl : Nat → ClassId) {a1 : Int32} {a2 : Int32} {a3 : Int32} {a4 : Int32} (μ : Mem) (ρ : Int32 × Mem) (h : f_X8_wrongOf a1 a2 a3 a4 μ = some ρ) : CI l D ad cl yX8_wrongOf wsX8_wrongOf rmX8_wrongOf [.ref 113, .int a1, .int a2, .int a3, .int a4] μ ρ.1 ρ.2 := c_ofI (cc := cX8_wrongOf) (nL := 5) rfl (by decide) (Nat.le_of_ble_eq_true rfl) (fun Γ C E => w_X8_wrongOf C E μ h)
/-! X8_isSheet -/
def wsX8_isSheet : List Cond := .code yX8_isSheet cX8_isSheet 2 (some .boolean) :: G0
def rmX8_isSheet : Room := { frames := 1, cells := 0, slots := 0, locals := 25 }
def f_X8_isSheet (a0 : Int32) (a1 : Int32) (μ : Mem) : Option (Int32 × Mem) := Option.bind (f_X8_in (Int32.toInt64 a0) 0 3 μ) fun p1_ => (if p1_.1 = 0 then some ((nI 0), p1_.2) else Option.bind (f_X8_in (Int32.toInt64 a1) 0 3 p1_.2) fun p4_ => (if p4_.1 = 0 then some ((nI 0), p4_.2) else some ((nI 1), p4_.2)))
set_option maxHeartbeats 4000000 in
set_option maxRecDepth 100000 in
theorem w_X8_isSheet {Γ : jG} (C : jC Γ 2 cX8_isSheet RX8 rmX8_isSheet) {a0 : Int32} {a1 : Int32} {ρ : Int32 × Mem} (E : (isB ρ.1 = true → jEI Γ cX8_isSheet ρ.1 ρ.2)) (μ : Mem) (h : f_X8_isSheet a0 a1 μ = some ρ) : jJ Γ 2 0 [(0, .int a0), (1, .int a1)] [] μ := by
  unfold f_X8_isSheet at h
  refine j_iload_n C dX8_isSheet_0 rfl 0 rfl ?_
  refine j_i2l C dX8_isSheet_1 rfl ?_
  refine j_lconst (v := 0) C dX8_isSheet_2 rfl (by decide) ?_
  refine j_ldc2 (v := 3) C dX8_isSheet_3 rfl gwt5_95 ?_
  replace h := bd_e h
  obtain ⟨p1_, h2_, h⟩ := h
  refine j_cSI (av := [.long (Int32.toInt64 a0), .long 0, .long 3]) (rest := []) C dX8_isSheet_6 rfl (c_X8_in _ _ _ _ μ p1_ h2_) gsX8_51 ⟨⟨rfl, rfl⟩, Nat.le_of_ble_eq_true rfl, Nat.le_of_ble_eq_true rfl⟩ rfl rfl (Nat.le_of_ble_eq_true rfl) ?_
  refine j_if_eq (tgt := 28) C dX8_isSheet_9 rfl (by decide) (fun c3_ => ?_) (fun c3_ => ?_)
  · replace h := if_t h c3_
    refine j_iconst (v := (nI 0)) C dX8_isSheet_28 rfl (by decide) ?_
    obtain rfl := Option.some.inj h
    exact j_iret (E isB_0) dX8_isSheet_29
  · replace h := if_f h c3_
    refine j_iload_n C dX8_isSheet_12 rfl 1 rfl ?_
    refine j_i2l C dX8_isSheet_13 rfl ?_
    refine j_lconst (v := 0) C dX8_isSheet_14 rfl (by decide) ?_
    refine j_ldc2 (v := 3) C dX8_isSheet_15 rfl gwt5_95 ?_
    replace h := bd_e h
    obtain ⟨p4_, h5_, h⟩ := h
    refine j_cSI (av := [.long (Int32.toInt64 a1), .long 0, .long 3]) (rest := []) C dX8_isSheet_18 rfl (c_X8_in _ _ _ _ p1_.2 p4_ h5_) gsX8_51 ⟨⟨rfl, rfl⟩, Nat.le_of_ble_eq_true rfl, Nat.le_of_ble_eq_true rfl⟩ rfl rfl (Nat.le_of_ble_eq_true rfl) ?_
    refine j_if_eq (tgt := 28) C dX8_isSheet_21 rfl (by decide) (fun c6_ => ?_) (fun c6_ => ?_)
    · replace h := if_t h c6_
      refine j_iconst (v := (nI 0)) C dX8_isSheet_28 rfl (by decide) ?_
      obtain rfl := Option.some.inj h
      exact j_iret (E isB_0) dX8_isSheet_29
    · replace h := if_f h c6_
      refine j_iconst (v := (nI 1)) C dX8_isSheet_24 rfl (by decide) ?_
      refine j_goto (pc' := 29) C dX8_isSheet_25 (by decide) ?_
      obtain rfl := Option.some.inj h
      exact j_iret (E isB_1) dX8_isSheet_29
set_option maxRecDepth 100000 in
theorem c_X8_isSheet (l : Launch) (D : va_G) (ad : Nat → Nat) (cl : Nat → ClassId) {a0 : Int32} {a1 : Int32} (μ : Mem) (ρ : Int32 × Mem) (h : f_X8_isSheet a0 a1 μ = some ρ) : CI l D ad cl yX8_isSheet wsX8_isSheet rmX8_isSheet [.int a0, .int a1] μ ρ.1 ρ.2 := c_ofZ (cc := cX8_isSheet) (nL := 2) rfl (by decide) (Nat.le_of_ble_eq_true rfl) (fun Γ C E => w_X8_isSheet C E μ h)
theorem gsX8_233 : jm_gs RX8 233 yX8_isSheet wsX8_isSheet 2 2 := ⟨_, _, gi_S gwt6_74 gwt6_75 gwt1_9 gwt6_76, rfl, by decide +kernel⟩
theorem gvX8_236 : jm_gv RX8 236 RX8 yX8_wrongOf wsX8_wrongOf 5 4 := ⟨_, _, gi_V gwt6_77 gwt6_79 gwp4_7 gwt1_9 gwt6_80, rfl, by decide +kernel⟩
/-! X8_delays -/
def wsX8_delays : List Cond := .code yX8_delays cX8_delays 7 (some .int) :: G0
def rmX8_delays : Room := { frames := 2, cells := 0, slots := 0, locals := 46 }
def f_X8_delays_158 (a1 : Int32) (a2 : Int32) (a3 : Int32) (a4 : Int32) (μ : Mem) : Option (Int32 × Mem) := gd (inb (nI 0) 1829) <| some (μ.1 114 (Int32.toNatClampNeg (nI 0)), μ)
set_option maxHeartbeats 4000000 in
set_option maxRecDepth 100000 in
theorem w_X8_delays_158 {Γ : jG} (C : jC Γ 7 cX8_delays RX8 rmX8_delays) {a1 : Int32} {a2 : Int32} {a3 : Int32} {a4 : Int32} {ρ : Int32 × Mem} (E : jEI Γ cX8_delays ρ.1 ρ.2) (μ : Mem) (h : f_X8_delays_158 a1 a2 a3 a4 μ = some ρ) : jJ Γ 7 158 [(0, .ref 113)] [] μ := by
  unfold f_X8_delays_158 at h
  refine j_aload_n C dX8_delays_158 rfl 0 rfl ?_
  refine j_getR (c := 114) C dX8_delays_159 rfl lkX8_7 is_113 rfl ?_
  refine j_iconst (v := (nI 0)) C dX8_delays_162 rfl (by decide) ?_
  replace h := gd_e h
  obtain ⟨g1_, h⟩ := h
  refine j_iald C dX8_delays_163 rfl is_114 g1_ ?_
  obtain rfl := Option.some.inj h
  exact j_iret E dX8_delays_164
def f_X8_delays_152 (a1 : Int32) (a2 : Int32) (a3 : Int32) (a4 : Int32) (kb104 : Int32 → Mem → Option (Int32 × Mem)) (kx158 : Mem → Option (Int32 × Mem)) (x6 : Int32) (μ : Mem) : Option (Int32 × Mem) := kb104 (x6 + (nI 1)) μ
set_option maxHeartbeats 4000000 in
set_option maxRecDepth 100000 in
theorem w_X8_delays_152 {Γ : jG} (C : jC Γ 7 cX8_delays RX8 rmX8_delays) {a1 : Int32} {a2 : Int32} {a3 : Int32} {a4 : Int32} {kb104 : Int32 → Mem → Option (Int32 × Mem)} {kx158 : Mem → Option (Int32 × Mem)} {ρ : Int32 × Mem} (E : jEI Γ cX8_delays ρ.1 ρ.2) (Hkb104 : ∀ (x6 : Int32) (μ : Mem), kb104 x6 μ = some ρ → jJ Γ 7 104 [(0, .ref 113), (1, .int a1), (2, .int a2), (4, .int a4), (6, .int x6)] [] μ) (Hkx158 : ∀ (μ : Mem), kx158 μ = some ρ → jJ Γ 7 158 [(0, .ref 113)] [] μ) (x6 : Int32) (μ : Mem) (h : f_X8_delays_152 a1 a2 a3 a4 kb104 kx158 x6 μ = some ρ) : jJ Γ 7 152 [(0, .ref 113), (1, .int a1), (2, .int a2), (4, .int a4), (6, .int x6)] [] μ := by
  unfold f_X8_delays_152 at h
  refine j_iinc (d := (nI 1)) (v := x6 + (nI 1)) (lv' := [(6, .int (x6 + (nI 1))), (0, .ref 113), (1, .int a1), (2, .int a2), (4, .int a4)]) C dX8_delays_152 rfl (by decide) 4 rfl (by decide) rfl rfl ?_
  refine j_goto (pc' := 104) C dX8_delays_155 (by decide) ?_
  refine j_lv [1, 2, 3, 4, 0] rfl ?_
  exact (Hkb104) (x6 + (nI 1)) μ h
def f_X8_delays_104 (a1 : Int32) (a2 : Int32) (a3 : Int32) (a4 : Int32) (kx158 : Mem → Option (Int32 × Mem)) : Nat → Int32 → Mem → Option (Int32 × Mem)
  | 0, _, _ => none
  | n + 1, x6, μ => gd (inb (nI 0) 1829) <| (if (μ.1 114 (Int32.toNatClampNeg (nI 0))) ≤ x6 then kx158 μ else (if x6 = a1 then f_X8_delays_152 a1 a2 a3 a4 (fun x6 μ => f_X8_delays_104 a1 a2 a3 a4 kx158 n x6 μ) kx158 x6 μ else gd (inb ((((nI 24) * a2) + a4) + x6) 96) <| gd (inb (((nI 60) + ((nI 9) * a1)) + x6) 1829) <| zl (sI μ 114 (Int32.toNatClampNeg (((nI 60) + ((nI 9) * a1)) + x6)) (Int64.toInt32 (μ.2 122 (Int32.toNatClampNeg ((((nI 24) * a2) + a4) + x6))))) fun μ6_ => f_X8_delays_152 a1 a2 a3 a4 (fun x6 μ => f_X8_delays_104 a1 a2 a3 a4 kx158 n x6 μ) kx158 x6 μ6_))
set_option maxHeartbeats 4000000 in
set_option maxRecDepth 100000 in
theorem w_X8_delays_104 {Γ : jG} (C : jC Γ 7 cX8_delays RX8 rmX8_delays) {a1 : Int32} {a2 : Int32} {a3 : Int32} {a4 : Int32} {kx158 : Mem → Option (Int32 × Mem)} {ρ : Int32 × Mem} (E : jEI Γ cX8_delays ρ.1 ρ.2) (Hkx158 : ∀ (μ : Mem), kx158 μ = some ρ → jJ Γ 7 158 [(0, .ref 113)] [] μ) : ∀ (n : Nat) (x6 : Int32) (μ : Mem), f_X8_delays_104 a1 a2 a3 a4 kx158 n x6 μ = some ρ → jJ Γ 7 104 [(0, .ref 113), (1, .int a1), (2, .int a2), (4, .int a4), (6, .int x6)] [] μ := by
  intro n
  induction n with
  | zero => intro x6 μ h; rw [f_X8_delays_104] at h; cases h
  | succ n ih =>
    intro x6 μ h
    rw [f_X8_delays_104] at h
    refine j_iload C dX8_delays_104 rfl 4 rfl ?_
    refine j_aload_n C dX8_delays_106 rfl 0 rfl ?_
    refine j_getR (c := 114) C dX8_delays_107 rfl lkX8_7 is_113 rfl ?_
    refine j_iconst (v := (nI 0)) C dX8_delays_110 rfl (by decide) ?_
    replace h := gd_e h
    obtain ⟨g1_, h⟩ := h
    refine j_iald C dX8_delays_111 rfl is_114 g1_ ?_
    refine j_icmp_ge (tgt := 158) C dX8_delays_112 rfl (by decide) (fun c2_ => ?_) (fun c2_ => ?_)
    · replace h := if_t h c2_
      refine j_lv [0] rfl ?_
      exact (Hkx158) μ h
    · replace h := if_f h c2_
      refine j_iload C dX8_delays_115 rfl 4 rfl ?_
      refine j_iload_n C dX8_delays_117 rfl 1 rfl ?_
      refine j_icmp_eq (tgt := 152) C dX8_delays_118 rfl (by decide) (fun c3_ => ?_) (fun c3_ => ?_)
      · replace h := if_t h c3_
        refine j_lv [0, 1, 2, 3, 4] rfl ?_
        exact w_X8_delays_152 C E ih Hkx158 x6 μ h
      · replace h := if_f h c3_
        refine j_aload_n C dX8_delays_121 rfl 0 rfl ?_
        refine j_getR (c := 114) C dX8_delays_122 rfl lkX8_7 is_113 rfl ?_
        refine j_bipush (v := (nI 60)) C dX8_delays_125 rfl (by decide) ?_
        refine j_bipush (v := (nI 9)) C dX8_delays_127 rfl (by decide) ?_
        refine j_iload_n C dX8_delays_129 rfl 1 rfl ?_
        refine j_imul C dX8_delays_130 rfl ?_
        refine j_iadd C dX8_delays_131 rfl ?_
        refine j_iload C dX8_delays_132 rfl 4 rfl ?_
        refine j_iadd C dX8_delays_134 rfl ?_
        refine j_aload_n C dX8_delays_135 rfl 0 rfl ?_
        refine j_getR (c := 122) C dX8_delays_136 rfl lkX8_34 is_113 rfl ?_
        refine j_bipush (v := (nI 24)) C dX8_delays_139 rfl (by decide) ?_
        refine j_iload_n C dX8_delays_141 rfl 2 rfl ?_
        refine j_imul C dX8_delays_142 rfl ?_
        refine j_iload C dX8_delays_143 rfl 3 rfl ?_
        refine j_iadd C dX8_delays_145 rfl ?_
        refine j_iload C dX8_delays_146 rfl 4 rfl ?_
        refine j_iadd C dX8_delays_148 rfl ?_
        replace h := gd_e h
        obtain ⟨g4_, h⟩ := h
        refine j_lald C dX8_delays_149 rfl is_122 g4_ ?_
        refine j_l2i C dX8_delays_150 rfl ?_
        replace h := gd_e h
        obtain ⟨g5_, h⟩ := h
        refine j_iast C dX8_delays_151 rfl is_114 g5_ ?_
        refine j_mem (fun μ6_ e7_ => ?_)
        replace h := zl_u h e7_
        refine j_lv [0, 1, 2, 3, 4] rfl ?_
        exact w_X8_delays_152 C E ih Hkx158 x6 μ6_ h
def f_X8_delays_101 (a1 : Int32) (a2 : Int32) (a3 : Int32) (a4 : Int32) (μ : Mem) : Option (Int32 × Mem) := f_X8_delays_104 a1 a2 a3 a4 (fun μ => f_X8_delays_158 a1 a2 a3 a4 μ) zfu (nI 0) μ
set_option maxHeartbeats 4000000 in
set_option maxRecDepth 100000 in
theorem w_X8_delays_101 {Γ : jG} (C : jC Γ 7 cX8_delays RX8 rmX8_delays) {a1 : Int32} {a2 : Int32} {a3 : Int32} {a4 : Int32} {ρ : Int32 × Mem} (E : jEI Γ cX8_delays ρ.1 ρ.2) (μ : Mem) (h : f_X8_delays_101 a1 a2 a3 a4 μ = some ρ) : jJ Γ 7 101 [(0, .ref 113), (1, .int a1), (2, .int a2), (4, .int a4)] [] μ := by
  unfold f_X8_delays_101 at h
  refine j_iconst (v := (nI 0)) C dX8_delays_101 rfl (by decide) ?_
  refine j_istore (lv' := [(6, .int (nI 0)), (0, .ref 113), (1, .int a1), (2, .int a2), (4, .int a4)]) C dX8_delays_102 rfl (by decide) rfl ?_
  refine j_lv [1, 2, 3, 4, 0] rfl ?_
  exact w_X8_delays_104 C E (fun μ h => w_X8_delays_158 C E μ h) zfu (nI 0) μ h
def f_X8_delays_95 (a1 : Int32) (a2 : Int32) (a3 : Int32) (a4 : Int32) (kb50 : Int32 → Mem → Option (Int32 × Mem)) (kx101 : Mem → Option (Int32 × Mem)) (x6 : Int32) (μ : Mem) : Option (Int32 × Mem) := kb50 (x6 + (nI 1)) μ
set_option maxHeartbeats 4000000 in
set_option maxRecDepth 100000 in
theorem w_X8_delays_95 {Γ : jG} (C : jC Γ 7 cX8_delays RX8 rmX8_delays) {a1 : Int32} {a2 : Int32} {a3 : Int32} {a4 : Int32} {kb50 : Int32 → Mem → Option (Int32 × Mem)} {kx101 : Mem → Option (Int32 × Mem)} {ρ : Int32 × Mem} (E : jEI Γ cX8_delays ρ.1 ρ.2) (Hkb50 : ∀ (x6 : Int32) (μ : Mem), kb50 x6 μ = some ρ → jJ Γ 7 50 [(0, .ref 113), (1, .int a1), (2, .int a2), (4, .int a4), (6, .int x6)] [] μ) (Hkx101 : ∀ (μ : Mem), kx101 μ = some ρ → jJ Γ 7 101 [(0, .ref 113), (1, .int a1), (2, .int a2), (4, .int a4)] [] μ) (x6 : Int32) (μ : Mem) (h : f_X8_delays_95 a1 a2 a3 a4 kb50 kx101 x6 μ = some ρ) : jJ Γ 7 95 [(0, .ref 113), (1, .int a1), (2, .int a2), (4, .int a4), (6, .int x6)] [] μ := by
  unfold f_X8_delays_95 at h
  refine j_iinc (d := (nI 1)) (v := x6 + (nI 1)) (lv' := [(6, .int (x6 + (nI 1))), (0, .ref 113), (1, .int a1), (2, .int a2), (4, .int a4)]) C dX8_delays_95 rfl (by decide) 4 rfl (by decide) rfl rfl ?_
  refine j_goto (pc' := 50) C dX8_delays_98 (by decide) ?_
  refine j_lv [1, 2, 3, 4, 0] rfl ?_
  exact (Hkb50) (x6 + (nI 1)) μ h
def f_X8_delays_50 (a1 : Int32) (a2 : Int32) (a3 : Int32) (a4 : Int32) (kx101 : Mem → Option (Int32 × Mem)) : Nat → Int32 → Mem → Option (Int32 × Mem)
  | 0, _, _ => none
  | n + 1, x6, μ => gd (inb (nI 0) 1829) <| (if (μ.1 114 (Int32.toNatClampNeg (nI 0))) ≤ x6 then kx101 μ else (if x6 = a1 then f_X8_delays_95 a1 a2 a3 a4 (fun x6 μ => f_X8_delays_50 a1 a2 a3 a4 kx101 n x6 μ) kx101 x6 μ else gd (inb ((((nI 24) * a2) + a4) + x6) 96) <| Option.bind (f_X8_in (μ.2 122 (Int32.toNatClampNeg ((((nI 24) * a2) + a4) + x6))) 1 9 μ) fun p5_ => (if p5_.1 = 0 then some ((-2), p5_.2) else f_X8_delays_95 a1 a2 a3 a4 (fun x6 μ => f_X8_delays_50 a1 a2 a3 a4 kx101 n x6 μ) kx101 x6 p5_.2)))
set_option maxHeartbeats 4000000 in
set_option maxRecDepth 100000 in
theorem w_X8_delays_50 {Γ : jG} (C : jC Γ 7 cX8_delays RX8 rmX8_delays) {a1 : Int32} {a2 : Int32} {a3 : Int32} {a4 : Int32} {kx101 : Mem → Option (Int32 × Mem)} {ρ : Int32 × Mem} (E : jEI Γ cX8_delays ρ.1 ρ.2) (Hkx101 : ∀ (μ : Mem), kx101 μ = some ρ → jJ Γ 7 101 [(0, .ref 113), (1, .int a1), (2, .int a2), (4, .int a4)] [] μ) : ∀ (n : Nat) (x6 : Int32) (μ : Mem), f_X8_delays_50 a1 a2 a3 a4 kx101 n x6 μ = some ρ → jJ Γ 7 50 [(0, .ref 113), (1, .int a1), (2, .int a2), (4, .int a4), (6, .int x6)] [] μ := by
  intro n
  induction n with
  | zero => intro x6 μ h; rw [f_X8_delays_50] at h; cases h
  | succ n ih =>
    intro x6 μ h
    rw [f_X8_delays_50] at h
    refine j_iload C dX8_delays_50 rfl 4 rfl ?_
    refine j_aload_n C dX8_delays_52 rfl 0 rfl ?_
    refine j_getR (c := 114) C dX8_delays_53 rfl lkX8_7 is_113 rfl ?_
    refine j_iconst (v := (nI 0)) C dX8_delays_56 rfl (by decide) ?_
    replace h := gd_e h
    obtain ⟨g1_, h⟩ := h
    refine j_iald C dX8_delays_57 rfl is_114 g1_ ?_
    refine j_icmp_ge (tgt := 101) C dX8_delays_58 rfl (by decide) (fun c2_ => ?_) (fun c2_ => ?_)
    · replace h := if_t h c2_
      refine j_lv [0, 1, 2, 3] rfl ?_
      exact (Hkx101) μ h
    · replace h := if_f h c2_
      refine j_iload C dX8_delays_61 rfl 4 rfl ?_
      refine j_iload_n C dX8_delays_63 rfl 1 rfl ?_
      refine j_icmp_eq (tgt := 95) C dX8_delays_64 rfl (by decide) (fun c3_ => ?_) (fun c3_ => ?_)
      · replace h := if_t h c3_
        refine j_lv [0, 1, 2, 3, 4] rfl ?_
        exact w_X8_delays_95 C E ih Hkx101 x6 μ h
      · replace h := if_f h c3_
        refine j_aload_n C dX8_delays_67 rfl 0 rfl ?_
        refine j_getR (c := 122) C dX8_delays_68 rfl lkX8_34 is_113 rfl ?_
        refine j_bipush (v := (nI 24)) C dX8_delays_71 rfl (by decide) ?_
        refine j_iload_n C dX8_delays_73 rfl 2 rfl ?_
        refine j_imul C dX8_delays_74 rfl ?_
        refine j_iload C dX8_delays_75 rfl 3 rfl ?_
        refine j_iadd C dX8_delays_77 rfl ?_
        refine j_iload C dX8_delays_78 rfl 4 rfl ?_
        refine j_iadd C dX8_delays_80 rfl ?_
        replace h := gd_e h
        obtain ⟨g4_, h⟩ := h
        refine j_lald C dX8_delays_81 rfl is_122 g4_ ?_
        refine j_lconst (v := 1) C dX8_delays_82 rfl (by decide) ?_
        refine j_ldc2 (v := 9) C dX8_delays_83 rfl gwt5_62 ?_
        replace h := bd_e h
        obtain ⟨p5_, h6_, h⟩ := h
        refine j_cSI (av := [.long (μ.2 122 (Int32.toNatClampNeg ((((nI 24) * a2) + a4) + x6))), .long 1, .long 9]) (rest := []) C dX8_delays_86 rfl (c_X8_in _ _ _ _ μ p5_ h6_) gsX8_51 ⟨⟨rfl, rfl⟩, Nat.le_of_ble_eq_true rfl, Nat.le_of_ble_eq_true rfl⟩ rfl rfl (Nat.le_of_ble_eq_true rfl) ?_
        refine j_if_ne (tgt := 95) C dX8_delays_89 rfl (by decide) (fun c7_ => ?_) (fun c7_ => ?_)
        · replace h := if_f h c7_
          refine j_lv [0, 1, 2, 3, 4] rfl ?_
          exact w_X8_delays_95 C E ih Hkx101 x6 p5_.2 h
        · replace h := if_t h c7_
          refine j_bipush (v := (-2)) C dX8_delays_92 rfl (by decide) ?_
          obtain rfl := Option.some.inj h
          exact j_iret E dX8_delays_94
def f_X8_delays (a1 : Int32) (a2 : Int32) (a3 : Int32) (a4 : Int32) (μ : Mem) : Option (Int32 × Mem) := zl (sI μ 113 0 (nI 0)) fun μ1_ => Option.bind (f_X8_isRock a1 μ1_) fun p3_ => (if p3_.1 = 0 then some ((-1), p3_.2) else Option.bind (f_X8_isSheet a2 a3 p3_.2) fun p6_ => (if p6_.1 = 0 then some ((-1), p6_.2) else gd (inb (nI 0) 1829) <| Option.bind (f_X8_wrongOf a2 a3 a4 (p6_.2.1 114 (Int32.toNatClampNeg (nI 0))) p6_.2) fun p10_ => (if p10_.1 = 0 then f_X8_delays_50 a1 a2 a3 a4 (fun μ => f_X8_delays_101 a1 a2 a3 a4 μ) zfu (nI 0) p10_.2 else some (p10_.1, p10_.2))))
set_option maxHeartbeats 4000000 in
set_option maxRecDepth 100000 in
theorem w_X8_delays {Γ : jG} (C : jC Γ 7 cX8_delays RX8 rmX8_delays) {a1 : Int32} {a2 : Int32} {a3 : Int32} {a4 : Int32} {ρ : Int32 × Mem} (E : jEI Γ cX8_delays ρ.1 ρ.2) (μ : Mem) (h : f_X8_delays a1 a2 a3 a4 μ = some ρ) : jJ Γ 7 0 [(0, .ref 113), (1, .int a1), (2, .int a2), (3, .int a3), (4, .int a4)] [] μ := by
  unfold f_X8_delays at h
  refine j_aload_n C dX8_delays_0 rfl 0 rfl ?_
  refine j_iconst (v := (nI 0)) C dX8_delays_1 rfl (by decide) ?_
  refine j_putI C dX8_delays_2 rfl lpX8_48 is_113 rfl ?_
  refine j_mem (fun μ1_ e2_ => ?_)
  replace h := zl_u h e2_
  refine j_aload_n C dX8_delays_5 rfl 0 rfl ?_
  refine j_iload_n C dX8_delays_6 rfl 1 rfl ?_
  replace h := bd_e h
  obtain ⟨p3_, h4_, h⟩ := h
  refine j_cVI (av := [.int a1]) (rest := []) C dX8_delays_7 rfl (c_X8_isRock _ _ _ _ μ1_ p3_ h4_) gvX8_65 ⟨⟨rfl, rfl⟩, Nat.le_of_ble_eq_true rfl, Nat.le_of_ble_eq_true rfl⟩ rfl is_113 rfl rfl (Nat.le_of_ble_eq_true rfl) ?_
  refine j_if_eq (tgt := 21) C dX8_delays_10 rfl (by decide) (fun c5_ => ?_) (fun c5_ => ?_)
  · replace h := if_t h c5_
    refine j_iconst (v := (-1)) C dX8_delays_21 rfl (by decide) ?_
    obtain rfl := Option.some.inj h
    exact j_iret E dX8_delays_22
  · replace h := if_f h c5_
    refine j_iload_n C dX8_delays_13 rfl 2 rfl ?_
    refine j_iload_n C dX8_delays_14 rfl 3 rfl ?_
    replace h := bd_e h
    obtain ⟨p6_, h7_, h⟩ := h
    refine j_cSI (av := [.int a2, .int a3]) (rest := []) C dX8_delays_15 rfl (c_X8_isSheet _ _ _ _ p3_.2 p6_ h7_) gsX8_233 ⟨⟨rfl, rfl⟩, Nat.le_of_ble_eq_true rfl, Nat.le_of_ble_eq_true rfl⟩ rfl rfl (Nat.le_of_ble_eq_true rfl) ?_
    refine j_if_ne (tgt := 23) C dX8_delays_18 rfl (by decide) (fun c8_ => ?_) (fun c8_ => ?_)
    · replace h := if_f h c8_
      refine j_aload_n C dX8_delays_23 rfl 0 rfl ?_
      refine j_iload_n C dX8_delays_24 rfl 2 rfl ?_
      refine j_iload_n C dX8_delays_25 rfl 3 rfl ?_
      refine j_iload C dX8_delays_26 rfl 4 rfl ?_
      refine j_aload_n C dX8_delays_28 rfl 0 rfl ?_
      refine j_getR (c := 114) C dX8_delays_29 rfl lkX8_7 is_113 rfl ?_
      refine j_iconst (v := (nI 0)) C dX8_delays_32 rfl (by decide) ?_
      replace h := gd_e h
      obtain ⟨g9_, h⟩ := h
      refine j_iald C dX8_delays_33 rfl is_114 g9_ ?_
      replace h := bd_e h
      obtain ⟨p10_, h11_, h⟩ := h
      refine j_cVI (av := [.int a2, .int a3, .int a4, .int (p6_.2.1 114 (Int32.toNatClampNeg (nI 0)))]) (rest := []) C dX8_delays_34 rfl (c_X8_wrongOf _ _ _ _ p6_.2 p10_ h11_) gvX8_236 ⟨⟨rfl, rfl⟩, Nat.le_of_ble_eq_true rfl, Nat.le_of_ble_eq_true rfl⟩ rfl is_113 rfl rfl (Nat.le_of_ble_eq_true rfl) ?_
      refine j_istore (lv' := [(5, .int p10_.1), (0, .ref 113), (1, .int a1), (2, .int a2), (3, .int a3), (4, .int a4)]) C dX8_delays_37 rfl (by decide) rfl ?_
      refine j_iload C dX8_delays_39 rfl 0 rfl ?_
      refine j_if_eq (tgt := 47) C dX8_delays_41 rfl (by decide) (fun c12_ => ?_) (fun c12_ => ?_)
      · replace h := if_t h c12_
        refine j_iconst (v := (nI 0)) C dX8_delays_47 rfl (by decide) ?_
        refine j_istore (lv' := [(6, .int (nI 0)), (5, .int p10_.1), (0, .ref 113), (1, .int a1), (2, .int a2), (3, .int a3), (4, .int a4)]) C dX8_delays_48 rfl (by decide) rfl ?_
        refine j_lv [2, 3, 4, 6, 0] rfl ?_
        exact w_X8_delays_50 C E (fun μ h => w_X8_delays_101 C E μ h) zfu (nI 0) p10_.2 h
      · replace h := if_f h c12_
        refine j_iload C dX8_delays_44 rfl 0 rfl ?_
        obtain rfl := Option.some.inj h
        exact j_iret E dX8_delays_46
    · replace h := if_t h c8_
      refine j_iconst (v := (-1)) C dX8_delays_21 rfl (by decide) ?_
      obtain rfl := Option.some.inj h
      exact j_iret E dX8_delays_22
set_option maxRecDepth 100000 in
theorem c_X8_delays (l : Launch) (D : va_G) (ad : Nat → Nat) (cl : Nat → ClassId) {a1 : Int32} {a2 : Int32} {a3 : Int32} {a4 : Int32} (μ : Mem) (ρ : Int32 × Mem) (h : f_X8_delays a1 a2 a3 a4 μ = some ρ) : CI l D ad cl yX8_delays wsX8_delays rmX8_delays [.ref 113, .int a1, .int a2, .int a3, .int a4] μ ρ.1 ρ.2 := c_ofI (cc := cX8_delays) (nL := 7) rfl (by decide) (Nat.le_of_ble_eq_true rfl) (fun Γ C E => w_X8_delays C E μ h)
/-! X8_film -/
def wsX8_film : List Cond := .code yX8_film cX8_film 6 (some .int) :: G0
def rmX8_film : Room := { frames := 2, cells := 0, slots := 0, locals := 46 }
def f_X8_film_88 (a1 : Int32) (a2 : Int32) (a3 : Int32) (μ : Mem) : Option (Int32 × Mem) := gd (inb (nI 0) 1829) <| some (μ.1 114 (Int32.toNatClampNeg (nI 0)), μ)
set_option maxHeartbeats 4000000 in
set_option maxRecDepth 100000 in
theorem w_X8_film_88 {Γ : jG} (C : jC Γ 6 cX8_film RX8 rmX8_film) {a1 : Int32} {a2 : Int32} {a3 : Int32} {ρ : Int32 × Mem} (E : jEI Γ cX8_film ρ.1 ρ.2) (μ : Mem) (h : f_X8_film_88 a1 a2 a3 μ = some ρ) : jJ Γ 6 88 [(0, .ref 113)] [] μ := by
  unfold f_X8_film_88 at h
  refine j_aload_n C dX8_film_88 rfl 0 rfl ?_
  refine j_getR (c := 114) C dX8_film_89 rfl lkX8_7 is_113 rfl ?_
  refine j_iconst (v := (nI 0)) C dX8_film_92 rfl (by decide) ?_
  replace h := gd_e h
  obtain ⟨g1_, h⟩ := h
  refine j_iald C dX8_film_93 rfl is_114 g1_ ?_
  obtain rfl := Option.some.inj h
  exact j_iret E dX8_film_94
def f_X8_film_41 (a1 : Int32) (a2 : Int32) (a3 : Int32) (kx88 : Mem → Option (Int32 × Mem)) : Nat → Int32 → Mem → Option (Int32 × Mem)
  | 0, _, _ => none
  | n + 1, x5, μ => gd (inb (nI 0) 1829) <| (if (μ.1 114 (Int32.toNatClampNeg (nI 0))) ≤ x5 then kx88 μ else gd (inb (((nI 6) + ((nI 6) * x5)) + (nI 2)) 1829) <| gd (inb ((((nI 24) * a1) + a3) + x5) 96) <| zl (sL μ 122 (Int32.toNatClampNeg ((((nI 24) * a1) + a3) + x5)) (Int32.toInt64 (μ.1 114 (Int32.toNatClampNeg (((nI 6) + ((nI 6) * x5)) + (nI 2)))))) fun μ5_ => f_X8_film_41 a1 a2 a3 kx88 n (x5 + (nI 1)) μ5_)
set_option maxHeartbeats 4000000 in
set_option maxRecDepth 100000 in
theorem w_X8_film_41 {Γ : jG} (C : jC Γ 6 cX8_film RX8 rmX8_film) {a1 : Int32} {a2 : Int32} {a3 : Int32} {kx88 : Mem → Option (Int32 × Mem)} {ρ : Int32 × Mem} (E : jEI Γ cX8_film ρ.1 ρ.2) (Hkx88 : ∀ (μ : Mem), kx88 μ = some ρ → jJ Γ 6 88 [(0, .ref 113)] [] μ) : ∀ (n : Nat) (x5 : Int32) (μ : Mem), f_X8_film_41 a1 a2 a3 kx88 n x5 μ = some ρ → jJ Γ 6 41 [(0, .ref 113), (1, .int a1), (3, .int a3), (5, .int x5)] [] μ := by
  intro n
  induction n with
  | zero => intro x5 μ h; rw [f_X8_film_41] at h; cases h
  | succ n ih =>
    intro x5 μ h
    rw [f_X8_film_41] at h
    refine j_iload C dX8_film_41 rfl 3 rfl ?_
    refine j_aload_n C dX8_film_43 rfl 0 rfl ?_
    refine j_getR (c := 114) C dX8_film_44 rfl lkX8_7 is_113 rfl ?_
    refine j_iconst (v := (nI 0)) C dX8_film_47 rfl (by decide) ?_
    replace h := gd_e h
    obtain ⟨g1_, h⟩ := h
    refine j_iald C dX8_film_48 rfl is_114 g1_ ?_
    refine j_icmp_ge (tgt := 88) C dX8_film_49 rfl (by decide) (fun c2_ => ?_) (fun c2_ => ?_)
    · replace h := if_t h c2_
      refine j_lv [0] rfl ?_
      exact (Hkx88) μ h
    · replace h := if_f h c2_
      refine j_aload_n C dX8_film_52 rfl 0 rfl ?_
      refine j_getR (c := 122) C dX8_film_53 rfl lkX8_34 is_113 rfl ?_
      refine j_bipush (v := (nI 24)) C dX8_film_56 rfl (by decide) ?_
      refine j_iload_n C dX8_film_58 rfl 1 rfl ?_
      refine j_imul C dX8_film_59 rfl ?_
      refine j_iload_n C dX8_film_60 rfl 2 rfl ?_
      refine j_iadd C dX8_film_61 rfl ?_
      refine j_iload C dX8_film_62 rfl 3 rfl ?_
      refine j_iadd C dX8_film_64 rfl ?_
      refine j_aload_n C dX8_film_65 rfl 0 rfl ?_
      refine j_getR (c := 114) C dX8_film_66 rfl lkX8_7 is_113 rfl ?_
      refine j_bipush (v := (nI 6)) C dX8_film_69 rfl (by decide) ?_
      refine j_bipush (v := (nI 6)) C dX8_film_71 rfl (by decide) ?_
      refine j_iload C dX8_film_73 rfl 3 rfl ?_
      refine j_imul C dX8_film_75 rfl ?_
      refine j_iadd C dX8_film_76 rfl ?_
      refine j_iconst (v := (nI 2)) C dX8_film_77 rfl (by decide) ?_
      refine j_iadd C dX8_film_78 rfl ?_
      replace h := gd_e h
      obtain ⟨g3_, h⟩ := h
      refine j_iald C dX8_film_79 rfl is_114 g3_ ?_
      refine j_i2l C dX8_film_80 rfl ?_
      replace h := gd_e h
      obtain ⟨g4_, h⟩ := h
      refine j_last C dX8_film_81 rfl is_122 g4_ ?_
      refine j_mem (fun μ5_ e6_ => ?_)
      replace h := zl_u h e6_
      refine j_iinc (d := (nI 1)) (v := x5 + (nI 1)) (lv' := [(5, .int (x5 + (nI 1))), (0, .ref 113), (1, .int a1), (3, .int a3)]) C dX8_film_82 rfl (by decide) 3 rfl (by decide) rfl rfl ?_
      refine j_goto (pc' := 41) C dX8_film_85 (by decide) ?_
      refine j_lv [1, 2, 3, 0] rfl ?_
      exact (ih) (x5 + (nI 1)) μ5_ h
def f_X8_film (a1 : Int32) (a2 : Int32) (a3 : Int32) (μ : Mem) : Option (Int32 × Mem) := zl (sI μ 113 0 (nI 0)) fun μ1_ => Option.bind (f_X8_isSheet a1 a2 μ1_) fun p3_ => (if p3_.1 = 0 then some ((-1), p3_.2) else gd (inb (nI 0) 1829) <| Option.bind (f_X8_wrongOf a1 a2 a3 (p3_.2.1 114 (Int32.toNatClampNeg (nI 0))) p3_.2) fun p7_ => (if p7_.1 = 0 then f_X8_film_41 a1 a2 a3 (fun μ => f_X8_film_88 a1 a2 a3 μ) zfu (nI 0) p7_.2 else some (p7_.1, p7_.2)))
set_option maxHeartbeats 4000000 in
set_option maxRecDepth 100000 in
theorem w_X8_film {Γ : jG} (C : jC Γ 6 cX8_film RX8 rmX8_film) {a1 : Int32} {a2 : Int32} {a3 : Int32} {ρ : Int32 × Mem} (E : jEI Γ cX8_film ρ.1 ρ.2) (μ : Mem) (h : f_X8_film a1 a2 a3 μ = some ρ) : jJ Γ 6 0 [(0, .ref 113), (1, .int a1), (2, .int a2), (3, .int a3)] [] μ := by
  unfold f_X8_film at h
  refine j_aload_n C dX8_film_0 rfl 0 rfl ?_
  refine j_iconst (v := (nI 0)) C dX8_film_1 rfl (by decide) ?_
  refine j_putI C dX8_film_2 rfl lpX8_48 is_113 rfl ?_
  refine j_mem (fun μ1_ e2_ => ?_)
  replace h := zl_u h e2_
  refine j_iload_n C dX8_film_5 rfl 1 rfl ?_
  refine j_iload_n C dX8_film_6 rfl 2 rfl ?_
  replace h := bd_e h
  obtain ⟨p3_, h4_, h⟩ := h
  refine j_cSI (av := [.int a1, .int a2]) (rest := []) C dX8_film_7 rfl (c_X8_isSheet _ _ _ _ μ1_ p3_ h4_) gsX8_233 ⟨⟨rfl, rfl⟩, Nat.le_of_ble_eq_true rfl, Nat.le_of_ble_eq_true rfl⟩ rfl rfl (Nat.le_of_ble_eq_true rfl) ?_
  refine j_if_ne (tgt := 15) C dX8_film_10 rfl (by decide) (fun c5_ => ?_) (fun c5_ => ?_)
  · replace h := if_f h c5_
    refine j_aload_n C dX8_film_15 rfl 0 rfl ?_
    refine j_iload_n C dX8_film_16 rfl 1 rfl ?_
    refine j_iload_n C dX8_film_17 rfl 2 rfl ?_
    refine j_iload_n C dX8_film_18 rfl 3 rfl ?_
    refine j_aload_n C dX8_film_19 rfl 0 rfl ?_
    refine j_getR (c := 114) C dX8_film_20 rfl lkX8_7 is_113 rfl ?_
    refine j_iconst (v := (nI 0)) C dX8_film_23 rfl (by decide) ?_
    replace h := gd_e h
    obtain ⟨g6_, h⟩ := h
    refine j_iald C dX8_film_24 rfl is_114 g6_ ?_
    replace h := bd_e h
    obtain ⟨p7_, h8_, h⟩ := h
    refine j_cVI (av := [.int a1, .int a2, .int a3, .int (p3_.2.1 114 (Int32.toNatClampNeg (nI 0)))]) (rest := []) C dX8_film_25 rfl (c_X8_wrongOf _ _ _ _ p3_.2 p7_ h8_) gvX8_236 ⟨⟨rfl, rfl⟩, Nat.le_of_ble_eq_true rfl, Nat.le_of_ble_eq_true rfl⟩ rfl is_113 rfl rfl (Nat.le_of_ble_eq_true rfl) ?_
    refine j_istore (lv' := [(4, .int p7_.1), (0, .ref 113), (1, .int a1), (2, .int a2), (3, .int a3)]) C dX8_film_28 rfl (by decide) rfl ?_
    refine j_iload C dX8_film_30 rfl 0 rfl ?_
    refine j_if_eq (tgt := 38) C dX8_film_32 rfl (by decide) (fun c9_ => ?_) (fun c9_ => ?_)
    · replace h := if_t h c9_
      refine j_iconst (v := (nI 0)) C dX8_film_38 rfl (by decide) ?_
      refine j_istore (lv' := [(5, .int (nI 0)), (4, .int p7_.1), (0, .ref 113), (1, .int a1), (2, .int a2), (3, .int a3)]) C dX8_film_39 rfl (by decide) rfl ?_
      refine j_lv [2, 3, 5, 0] rfl ?_
      exact w_X8_film_41 C E (fun μ h => w_X8_film_88 C E μ h) zfu (nI 0) p7_.2 h
    · replace h := if_f h c9_
      refine j_iload C dX8_film_35 rfl 0 rfl ?_
      obtain rfl := Option.some.inj h
      exact j_iret E dX8_film_37
  · replace h := if_t h c5_
    refine j_iconst (v := (-1)) C dX8_film_13 rfl (by decide) ?_
    obtain rfl := Option.some.inj h
    exact j_iret E dX8_film_14
set_option maxRecDepth 100000 in
theorem c_X8_film (l : Launch) (D : va_G) (ad : Nat → Nat) (cl : Nat → ClassId) {a1 : Int32} {a2 : Int32} {a3 : Int32} (μ : Mem) (ρ : Int32 × Mem) (h : f_X8_film a1 a2 a3 μ = some ρ) : CI l D ad cl yX8_film wsX8_film rmX8_film [.ref 113, .int a1, .int a2, .int a3] μ ρ.1 ρ.2 := c_ofI (cc := cX8_film) (nL := 6) rfl (by decide) (Nat.le_of_ble_eq_true rfl) (fun Γ C E => w_X8_film C E μ h)
/-! X8_seen -/
def wsX8_seen : List Cond := .code yX8_seen cX8_seen 8 (some .int) :: G0
def rmX8_seen : Room := { frames := 4, cells := 0, slots := 0, locals := 104 }
def f_X8_seen_128 (a1 : Int32) (a2 : Int32) (a3 : Int32) (kb52 : Int32 → Mem → Option (Int32 × Mem)) (x5 : Int32) (x6 : Int32) (μ : Mem) : Option (Int32 × Mem) := (if x6 = 0 then Option.bind (f_X8_goes 116 μ) fun p2_ => kb52 (x5 + (nI 1)) p2_ else some (x5, μ))
set_option maxHeartbeats 4000000 in
set_option maxRecDepth 100000 in
theorem w_X8_seen_128 {Γ : jG} (C : jC Γ 8 cX8_seen RX8 rmX8_seen) {a1 : Int32} {a2 : Int32} {a3 : Int32} {kb52 : Int32 → Mem → Option (Int32 × Mem)} {ρ : Int32 × Mem} (E : jEI Γ cX8_seen ρ.1 ρ.2) (Hkb52 : ∀ (x5 : Int32) (μ : Mem), kb52 x5 μ = some ρ → jJ Γ 8 52 [(0, .ref 113), (1, .int a1), (3, .int a3), (5, .int x5)] [] μ) (x5 : Int32) (x6 : Int32) (μ : Mem) (h : f_X8_seen_128 a1 a2 a3 kb52 x5 x6 μ = some ρ) : jJ Γ 8 128 [(0, .ref 113), (1, .int a1), (3, .int a3), (5, .int x5), (6, .int x6)] [] μ := by
  unfold f_X8_seen_128 at h
  refine j_iload C dX8_seen_128 rfl 4 rfl ?_
  refine j_if_eq (tgt := 136) C dX8_seen_130 rfl (by decide) (fun c1_ => ?_) (fun c1_ => ?_)
  · replace h := if_t h c1_
    refine j_aload_n C dX8_seen_136 rfl 0 rfl ?_
    refine j_aload_n C dX8_seen_137 rfl 0 rfl ?_
    refine j_getR (c := 116) C dX8_seen_138 rfl lkX8_16 is_113 rfl ?_
    replace h := bd_e h
    obtain ⟨p2_, h3_, h⟩ := h
    refine j_cVV (av := [.ref 116]) (rest := []) C dX8_seen_141 rfl (c_X8_goes _ _ _ _ isRow116 μ p2_ h3_) gvX8_187 ⟨⟨rfl, rfl⟩, Nat.le_of_ble_eq_true rfl, Nat.le_of_ble_eq_true rfl⟩ rfl is_113 rfl rfl (Nat.le_of_ble_eq_true rfl) ?_
    refine j_iinc (d := (nI 1)) (v := x5 + (nI 1)) (lv' := [(5, .int (x5 + (nI 1))), (0, .ref 113), (1, .int a1), (3, .int a3), (6, .int x6)]) C dX8_seen_144 rfl (by decide) 3 rfl (by decide) rfl rfl ?_
    refine j_goto (pc' := 52) C dX8_seen_147 (by decide) ?_
    refine j_lv [1, 2, 3, 0] rfl ?_
    exact (Hkb52) (x5 + (nI 1)) p2_ h
  · replace h := if_f h c1_
    refine j_iload C dX8_seen_133 rfl 3 rfl ?_
    obtain rfl := Option.some.inj h
    exact j_iret E dX8_seen_135
def f_X8_seen_120 (a1 : Int32) (a2 : Int32) (a3 : Int32) (kb65 : Int32 → Int32 → Int32 → Mem → Option (Int32 × Mem)) (kx128 : Int32 → Int32 → Mem → Option (Int32 × Mem)) (x5 : Int32) (x7 : Int32) (t0 : Int32) (μ : Mem) : Option (Int32 × Mem) := kb65 x5 t0 (x7 + (nI 1)) μ
set_option maxHeartbeats 4000000 in
set_option maxRecDepth 100000 in
theorem w_X8_seen_120 {Γ : jG} (C : jC Γ 8 cX8_seen RX8 rmX8_seen) {a1 : Int32} {a2 : Int32} {a3 : Int32} {kb65 : Int32 → Int32 → Int32 → Mem → Option (Int32 × Mem)} {kx128 : Int32 → Int32 → Mem → Option (Int32 × Mem)} {ρ : Int32 × Mem} (E : jEI Γ cX8_seen ρ.1 ρ.2) (Hkb65 : ∀ (x5 : Int32) (x6 : Int32) (x7 : Int32) (μ : Mem), kb65 x5 x6 x7 μ = some ρ → jJ Γ 8 65 [(0, .ref 113), (1, .int a1), (3, .int a3), (5, .int x5), (6, .int x6), (7, .int x7)] [] μ) (Hkx128 : ∀ (x5 : Int32) (x6 : Int32) (μ : Mem), kx128 x5 x6 μ = some ρ → jJ Γ 8 128 [(0, .ref 113), (1, .int a1), (3, .int a3), (5, .int x5), (6, .int x6)] [] μ) (x5 : Int32) (x7 : Int32) (t0 : Int32) (μ : Mem) (h : f_X8_seen_120 a1 a2 a3 kb65 kx128 x5 x7 t0 μ = some ρ) : jJ Γ 8 120 [(0, .ref 113), (1, .int a1), (3, .int a3), (5, .int x5), (7, .int x7)] [.int t0] μ := by
  unfold f_X8_seen_120 at h
  refine j_istore (lv' := [(6, .int t0), (0, .ref 113), (1, .int a1), (3, .int a3), (5, .int x5), (7, .int x7)]) C dX8_seen_120 rfl (by decide) rfl ?_
  refine j_iinc (d := (nI 1)) (v := x7 + (nI 1)) (lv' := [(7, .int (x7 + (nI 1))), (6, .int t0), (0, .ref 113), (1, .int a1), (3, .int a3), (5, .int x5)]) C dX8_seen_122 rfl (by decide) 5 rfl (by decide) rfl rfl ?_
  refine j_goto (pc' := 65) C dX8_seen_125 (by decide) ?_
  refine j_lv [2, 3, 4, 5, 1, 0] rfl ?_
  exact (Hkb65) x5 t0 (x7 + (nI 1)) μ h
def f_X8_seen_119 (a1 : Int32) (a2 : Int32) (a3 : Int32) (kb65 : Int32 → Int32 → Int32 → Mem → Option (Int32 × Mem)) (kx128 : Int32 → Int32 → Mem → Option (Int32 × Mem)) (x5 : Int32) (x7 : Int32) (μ : Mem) : Option (Int32 × Mem) := f_X8_seen_120 a1 a2 a3 kb65 kx128 x5 x7 (nI 0) μ
set_option maxHeartbeats 4000000 in
set_option maxRecDepth 100000 in
theorem w_X8_seen_119 {Γ : jG} (C : jC Γ 8 cX8_seen RX8 rmX8_seen) {a1 : Int32} {a2 : Int32} {a3 : Int32} {kb65 : Int32 → Int32 → Int32 → Mem → Option (Int32 × Mem)} {kx128 : Int32 → Int32 → Mem → Option (Int32 × Mem)} {ρ : Int32 × Mem} (E : jEI Γ cX8_seen ρ.1 ρ.2) (Hkb65 : ∀ (x5 : Int32) (x6 : Int32) (x7 : Int32) (μ : Mem), kb65 x5 x6 x7 μ = some ρ → jJ Γ 8 65 [(0, .ref 113), (1, .int a1), (3, .int a3), (5, .int x5), (6, .int x6), (7, .int x7)] [] μ) (Hkx128 : ∀ (x5 : Int32) (x6 : Int32) (μ : Mem), kx128 x5 x6 μ = some ρ → jJ Γ 8 128 [(0, .ref 113), (1, .int a1), (3, .int a3), (5, .int x5), (6, .int x6)] [] μ) (x5 : Int32) (x7 : Int32) (μ : Mem) (h : f_X8_seen_119 a1 a2 a3 kb65 kx128 x5 x7 μ = some ρ) : jJ Γ 8 119 [(0, .ref 113), (1, .int a1), (3, .int a3), (5, .int x5), (7, .int x7)] [] μ := by
  unfold f_X8_seen_119 at h
  refine j_iconst (v := (nI 0)) C dX8_seen_119 rfl (by decide) ?_
  refine j_lv [0, 1, 2, 3, 4] rfl ?_
  exact w_X8_seen_120 C E Hkb65 Hkx128 x5 x7 (nI 0) μ h
def f_X8_seen_65 (a1 : Int32) (a2 : Int32) (a3 : Int32) (kx128 : Int32 → Int32 → Mem → Option (Int32 × Mem)) : Nat → Int32 → Int32 → Int32 → Mem → Option (Int32 × Mem)
  | 0, _, _, _, _ => none
  | n + 1, x5, x6, x7, μ => gd (inb (nI 0) 1829) <| (if (μ.1 114 (Int32.toNatClampNeg (nI 0))) ≤ x7 then kx128 x5 x6 μ else (if x6 = 0 then f_X8_seen_119 a1 a2 a3 (fun x5 x6 x7 μ => f_X8_seen_65 a1 a2 a3 kx128 n x5 x6 x7 μ) kx128 x5 x7 μ else gd (inb ((((nI 24) * a1) + a3) + x7) 96) <| gd (inb (((nI 6) + ((nI 6) * x7)) + (nI 2)) 1829) <| (if (lg_cmp (μ.2 122 (Int32.toNatClampNeg ((((nI 24) * a1) + a3) + x7))) (Int32.toInt64 (μ.1 116 (Int32.toNatClampNeg (((nI 6) + ((nI 6) * x7)) + (nI 2)))))) = 0 then f_X8_seen_120 a1 a2 a3 (fun x5 x6 x7 μ => f_X8_seen_65 a1 a2 a3 kx128 n x5 x6 x7 μ) kx128 x5 x7 (nI 1) μ else f_X8_seen_119 a1 a2 a3 (fun x5 x6 x7 μ => f_X8_seen_65 a1 a2 a3 kx128 n x5 x6 x7 μ) kx128 x5 x7 μ)))
set_option maxHeartbeats 4000000 in
set_option maxRecDepth 100000 in
theorem w_X8_seen_65 {Γ : jG} (C : jC Γ 8 cX8_seen RX8 rmX8_seen) {a1 : Int32} {a2 : Int32} {a3 : Int32} {kx128 : Int32 → Int32 → Mem → Option (Int32 × Mem)} {ρ : Int32 × Mem} (E : jEI Γ cX8_seen ρ.1 ρ.2) (Hkx128 : ∀ (x5 : Int32) (x6 : Int32) (μ : Mem), kx128 x5 x6 μ = some ρ → jJ Γ 8 128 [(0, .ref 113), (1, .int a1), (3, .int a3), (5, .int x5), (6, .int x6)] [] μ) : ∀ (n : Nat) (x5 : Int32) (x6 : Int32) (x7 : Int32) (μ : Mem), f_X8_seen_65 a1 a2 a3 kx128 n x5 x6 x7 μ = some ρ → jJ Γ 8 65 [(0, .ref 113), (1, .int a1), (3, .int a3), (5, .int x5), (6, .int x6), (7, .int x7)] [] μ := by
  intro n
  induction n with
  | zero => intro x5 x6 x7 μ h; rw [f_X8_seen_65] at h; cases h
  | succ n ih =>
    intro x5 x6 x7 μ h
    rw [f_X8_seen_65] at h
    refine j_iload C dX8_seen_65 rfl 5 rfl ?_
    refine j_aload_n C dX8_seen_67 rfl 0 rfl ?_
    refine j_getR (c := 114) C dX8_seen_68 rfl lkX8_7 is_113 rfl ?_
    refine j_iconst (v := (nI 0)) C dX8_seen_71 rfl (by decide) ?_
    replace h := gd_e h
    obtain ⟨g1_, h⟩ := h
    refine j_iald C dX8_seen_72 rfl is_114 g1_ ?_
    refine j_icmp_ge (tgt := 128) C dX8_seen_73 rfl (by decide) (fun c2_ => ?_) (fun c2_ => ?_)
    · replace h := if_t h c2_
      refine j_lv [0, 1, 2, 3, 4] rfl ?_
      exact (Hkx128) x5 x6 μ h
    · replace h := if_f h c2_
      refine j_iload C dX8_seen_76 rfl 4 rfl ?_
      refine j_if_eq (tgt := 119) C dX8_seen_78 rfl (by decide) (fun c3_ => ?_) (fun c3_ => ?_)
      · replace h := if_t h c3_
        refine j_lv [0, 1, 2, 3, 5] rfl ?_
        exact w_X8_seen_119 C E ih Hkx128 x5 x7 μ h
      · replace h := if_f h c3_
        refine j_aload_n C dX8_seen_81 rfl 0 rfl ?_
        refine j_getR (c := 122) C dX8_seen_82 rfl lkX8_34 is_113 rfl ?_
        refine j_bipush (v := (nI 24)) C dX8_seen_85 rfl (by decide) ?_
        refine j_iload_n C dX8_seen_87 rfl 1 rfl ?_
        refine j_imul C dX8_seen_88 rfl ?_
        refine j_iload_n C dX8_seen_89 rfl 2 rfl ?_
        refine j_iadd C dX8_seen_90 rfl ?_
        refine j_iload C dX8_seen_91 rfl 5 rfl ?_
        refine j_iadd C dX8_seen_93 rfl ?_
        replace h := gd_e h
        obtain ⟨g4_, h⟩ := h
        refine j_lald C dX8_seen_94 rfl is_122 g4_ ?_
        refine j_aload_n C dX8_seen_95 rfl 0 rfl ?_
        refine j_getR (c := 116) C dX8_seen_96 rfl lkX8_16 is_113 rfl ?_
        refine j_bipush (v := (nI 6)) C dX8_seen_99 rfl (by decide) ?_
        refine j_bipush (v := (nI 6)) C dX8_seen_101 rfl (by decide) ?_
        refine j_iload C dX8_seen_103 rfl 5 rfl ?_
        refine j_imul C dX8_seen_105 rfl ?_
        refine j_iadd C dX8_seen_106 rfl ?_
        refine j_iconst (v := (nI 2)) C dX8_seen_107 rfl (by decide) ?_
        refine j_iadd C dX8_seen_108 rfl ?_
        replace h := gd_e h
        obtain ⟨g5_, h⟩ := h
        refine j_iald C dX8_seen_109 rfl is_116 g5_ ?_
        refine j_i2l C dX8_seen_110 rfl ?_
        refine j_lcmp C dX8_seen_111 rfl ?_
        refine j_if_ne (tgt := 119) C dX8_seen_112 rfl (by decide) (fun c6_ => ?_) (fun c6_ => ?_)
        · replace h := if_f h c6_
          refine j_lv [0, 1, 2, 3, 5] rfl ?_
          exact w_X8_seen_119 C E ih Hkx128 x5 x7 μ h
        · replace h := if_t h c6_
          refine j_iconst (v := (nI 1)) C dX8_seen_115 rfl (by decide) ?_
          refine j_goto (pc' := 120) C dX8_seen_116 (by decide) ?_
          refine j_lv [0, 1, 2, 3, 5] rfl ?_
          exact w_X8_seen_120 C E ih Hkx128 x5 x7 (nI 1) μ h
def f_X8_seen_52 (a1 : Int32) (a2 : Int32) (a3 : Int32) : Nat → Int32 → Mem → Option (Int32 × Mem)
  | 0, _, _ => none
  | n + 1, x5, μ => (if (nI 61) ≤ x5 then some ((-4), μ) else f_X8_seen_65 a1 a2 a3 (fun x5 x6 μ => f_X8_seen_128 a1 a2 a3 (fun x5 μ => f_X8_seen_52 a1 a2 a3 n x5 μ) x5 x6 μ) zfu x5 (nI 1) (nI 0) μ)
set_option maxHeartbeats 4000000 in
set_option maxRecDepth 100000 in
theorem w_X8_seen_52 {Γ : jG} (C : jC Γ 8 cX8_seen RX8 rmX8_seen) {a1 : Int32} {a2 : Int32} {a3 : Int32} {ρ : Int32 × Mem} (E : jEI Γ cX8_seen ρ.1 ρ.2) : ∀ (n : Nat) (x5 : Int32) (μ : Mem), f_X8_seen_52 a1 a2 a3 n x5 μ = some ρ → jJ Γ 8 52 [(0, .ref 113), (1, .int a1), (3, .int a3), (5, .int x5)] [] μ := by
  intro n
  induction n with
  | zero => intro x5 μ h; rw [f_X8_seen_52] at h; cases h
  | succ n ih =>
    intro x5 μ h
    rw [f_X8_seen_52] at h
    refine j_iload C dX8_seen_52 rfl 3 rfl ?_
    refine j_bipush (v := (nI 61)) C dX8_seen_54 rfl (by decide) ?_
    refine j_icmp_ge (tgt := 150) C dX8_seen_56 rfl (by decide) (fun c1_ => ?_) (fun c1_ => ?_)
    · replace h := if_t h c1_
      refine j_bipush (v := (-4)) C dX8_seen_150 rfl (by decide) ?_
      obtain rfl := Option.some.inj h
      exact j_iret E dX8_seen_152
    · replace h := if_f h c1_
      refine j_iconst (v := (nI 1)) C dX8_seen_59 rfl (by decide) ?_
      refine j_istore (lv' := [(6, .int (nI 1)), (0, .ref 113), (1, .int a1), (3, .int a3), (5, .int x5)]) C dX8_seen_60 rfl (by decide) rfl ?_
      refine j_iconst (v := (nI 0)) C dX8_seen_62 rfl (by decide) ?_
      refine j_istore (lv' := [(7, .int (nI 0)), (6, .int (nI 1)), (0, .ref 113), (1, .int a1), (3, .int a3), (5, .int x5)]) C dX8_seen_63 rfl (by decide) rfl ?_
      refine j_lv [2, 3, 4, 5, 1, 0] rfl ?_
      exact w_X8_seen_65 C E (fun x5 x6 μ h => w_X8_seen_128 C E ih x5 x6 μ h) zfu x5 (nI 1) (nI 0) μ h
def f_X8_seen (a1 : Int32) (a2 : Int32) (a3 : Int32) (μ : Mem) : Option (Int32 × Mem) := zl (sI μ 113 0 (nI 0)) fun μ1_ => Option.bind (f_X8_isSheet a1 a2 μ1_) fun p3_ => (if p3_.1 = 0 then some ((-1), p3_.2) else gd (inb (nI 0) 1829) <| Option.bind (f_X8_wrongOf a1 a2 a3 (p3_.2.1 114 (Int32.toNatClampNeg (nI 0))) p3_.2) fun p7_ => (if p7_.1 = 0 then Option.bind (f_X8_copies 114 116 p7_.2) fun p10_ => f_X8_seen_52 a1 a2 a3 zfu (nI 0) p10_ else some (p7_.1, p7_.2)))
set_option maxHeartbeats 4000000 in
set_option maxRecDepth 100000 in
theorem w_X8_seen {Γ : jG} (C : jC Γ 8 cX8_seen RX8 rmX8_seen) {a1 : Int32} {a2 : Int32} {a3 : Int32} {ρ : Int32 × Mem} (E : jEI Γ cX8_seen ρ.1 ρ.2) (μ : Mem) (h : f_X8_seen a1 a2 a3 μ = some ρ) : jJ Γ 8 0 [(0, .ref 113), (1, .int a1), (2, .int a2), (3, .int a3)] [] μ := by
  unfold f_X8_seen at h
  refine j_aload_n C dX8_seen_0 rfl 0 rfl ?_
  refine j_iconst (v := (nI 0)) C dX8_seen_1 rfl (by decide) ?_
  refine j_putI C dX8_seen_2 rfl lpX8_48 is_113 rfl ?_
  refine j_mem (fun μ1_ e2_ => ?_)
  replace h := zl_u h e2_
  refine j_iload_n C dX8_seen_5 rfl 1 rfl ?_
  refine j_iload_n C dX8_seen_6 rfl 2 rfl ?_
  replace h := bd_e h
  obtain ⟨p3_, h4_, h⟩ := h
  refine j_cSI (av := [.int a1, .int a2]) (rest := []) C dX8_seen_7 rfl (c_X8_isSheet _ _ _ _ μ1_ p3_ h4_) gsX8_233 ⟨⟨rfl, rfl⟩, Nat.le_of_ble_eq_true rfl, Nat.le_of_ble_eq_true rfl⟩ rfl rfl (Nat.le_of_ble_eq_true rfl) ?_
  refine j_if_ne (tgt := 15) C dX8_seen_10 rfl (by decide) (fun c5_ => ?_) (fun c5_ => ?_)
  · replace h := if_f h c5_
    refine j_aload_n C dX8_seen_15 rfl 0 rfl ?_
    refine j_iload_n C dX8_seen_16 rfl 1 rfl ?_
    refine j_iload_n C dX8_seen_17 rfl 2 rfl ?_
    refine j_iload_n C dX8_seen_18 rfl 3 rfl ?_
    refine j_aload_n C dX8_seen_19 rfl 0 rfl ?_
    refine j_getR (c := 114) C dX8_seen_20 rfl lkX8_7 is_113 rfl ?_
    refine j_iconst (v := (nI 0)) C dX8_seen_23 rfl (by decide) ?_
    replace h := gd_e h
    obtain ⟨g6_, h⟩ := h
    refine j_iald C dX8_seen_24 rfl is_114 g6_ ?_
    replace h := bd_e h
    obtain ⟨p7_, h8_, h⟩ := h
    refine j_cVI (av := [.int a1, .int a2, .int a3, .int (p3_.2.1 114 (Int32.toNatClampNeg (nI 0)))]) (rest := []) C dX8_seen_25 rfl (c_X8_wrongOf _ _ _ _ p3_.2 p7_ h8_) gvX8_236 ⟨⟨rfl, rfl⟩, Nat.le_of_ble_eq_true rfl, Nat.le_of_ble_eq_true rfl⟩ rfl is_113 rfl rfl (Nat.le_of_ble_eq_true rfl) ?_
    refine j_istore (lv' := [(4, .int p7_.1), (0, .ref 113), (1, .int a1), (2, .int a2), (3, .int a3)]) C dX8_seen_28 rfl (by decide) rfl ?_
    refine j_iload C dX8_seen_30 rfl 0 rfl ?_
    refine j_if_eq (tgt := 38) C dX8_seen_32 rfl (by decide) (fun c9_ => ?_) (fun c9_ => ?_)
    · replace h := if_t h c9_
      refine j_aload_n C dX8_seen_38 rfl 1 rfl ?_
      refine j_getR (c := 114) C dX8_seen_39 rfl lkX8_7 is_113 rfl ?_
      refine j_aload_n C dX8_seen_42 rfl 1 rfl ?_
      refine j_getR (c := 116) C dX8_seen_43 rfl lkX8_16 is_113 rfl ?_
      replace h := bd_e h
      obtain ⟨p10_, h11_, h⟩ := h
      refine j_cSV (av := [.ref 114, .ref 116]) (rest := []) C dX8_seen_46 rfl (c_X8_copies _ _ _ _ isRow114 isRow116 p7_.2 p10_ h11_) gsX8_196 ⟨⟨rfl, rfl⟩, Nat.le_of_ble_eq_true rfl, Nat.le_of_ble_eq_true rfl⟩ rfl rfl (Nat.le_of_ble_eq_true rfl) ?_
      refine j_iconst (v := (nI 0)) C dX8_seen_49 rfl (by decide) ?_
      refine j_istore (lv' := [(5, .int (nI 0)), (4, .int p7_.1), (0, .ref 113), (1, .int a1), (2, .int a2), (3, .int a3)]) C dX8_seen_50 rfl (by decide) rfl ?_
      refine j_lv [2, 3, 5, 0] rfl ?_
      exact w_X8_seen_52 C E zfu (nI 0) p10_ h
    · replace h := if_f h c9_
      refine j_iload C dX8_seen_35 rfl 0 rfl ?_
      obtain rfl := Option.some.inj h
      exact j_iret E dX8_seen_37
  · replace h := if_t h c5_
    refine j_iconst (v := (-1)) C dX8_seen_13 rfl (by decide) ?_
    obtain rfl := Option.some.inj h
    exact j_iret E dX8_seen_14
set_option maxRecDepth 100000 in
theorem c_X8_seen (l : Launch) (D : va_G) (ad : Nat → Nat) (cl : Nat → ClassId) {a1 : Int32} {a2 : Int32} {a3 : Int32} (μ : Mem) (ρ : Int32 × Mem) (h : f_X8_seen a1 a2 a3 μ = some ρ) : CI l D ad cl yX8_seen wsX8_seen rmX8_seen [.ref 113, .int a1, .int a2, .int a3] μ ρ.1 ρ.2 := c_ofI (cc := cX8_seen) (nL := 8) rfl (by decide) (Nat.le_of_ble_eq_true rfl) (fun Γ C E => w_X8_seen C E μ h)
/-! X8_sheet -/
def wsX8_sheet : List Cond := .code yX8_sheet cX8_sheet 5 (some .int) :: G0
def rmX8_sheet : Room := { frames := 2, cells := 0, slots := 0, locals := 46 }
def f_X8_sheet_45 (a1 : Int32) (a2 : Int32) (a3 : Int32) : Nat → Int32 → Mem → Option (Int32 × Mem)
  | 0, _, _ => none
  | n + 1, x4, μ => (if (nI 24) ≤ x4 then some (a3, μ) else gd (inb (((nI 24) * a1) + x4) 96) <| zl (sL μ 122 (Int32.toNatClampNeg (((nI 24) * a1) + x4)) 0) fun μ3_ => f_X8_sheet_45 a1 a2 a3 n (x4 + (nI 1)) μ3_)
set_option maxHeartbeats 4000000 in
set_option maxRecDepth 100000 in
theorem w_X8_sheet_45 {Γ : jG} (C : jC Γ 5 cX8_sheet RX8 rmX8_sheet) {a1 : Int32} {a2 : Int32} {a3 : Int32} {ρ : Int32 × Mem} (E : jEI Γ cX8_sheet ρ.1 ρ.2) : ∀ (n : Nat) (x4 : Int32) (μ : Mem), f_X8_sheet_45 a1 a2 a3 n x4 μ = some ρ → jJ Γ 5 45 [(0, .ref 113), (1, .int a1), (3, .int a3), (4, .int x4)] [] μ := by
  intro n
  induction n with
  | zero => intro x4 μ h; rw [f_X8_sheet_45] at h; cases h
  | succ n ih =>
    intro x4 μ h
    rw [f_X8_sheet_45] at h
    refine j_iload C dX8_sheet_45 rfl 3 rfl ?_
    refine j_bipush (v := (nI 24)) C dX8_sheet_47 rfl (by decide) ?_
    refine j_icmp_ge (tgt := 71) C dX8_sheet_49 rfl (by decide) (fun c1_ => ?_) (fun c1_ => ?_)
    · replace h := if_t h c1_
      refine j_iload_n C dX8_sheet_71 rfl 2 rfl ?_
      obtain rfl := Option.some.inj h
      exact j_iret E dX8_sheet_72
    · replace h := if_f h c1_
      refine j_aload_n C dX8_sheet_52 rfl 0 rfl ?_
      refine j_getR (c := 122) C dX8_sheet_53 rfl lkX8_34 is_113 rfl ?_
      refine j_bipush (v := (nI 24)) C dX8_sheet_56 rfl (by decide) ?_
      refine j_iload_n C dX8_sheet_58 rfl 1 rfl ?_
      refine j_imul C dX8_sheet_59 rfl ?_
      refine j_iload C dX8_sheet_60 rfl 3 rfl ?_
      refine j_iadd C dX8_sheet_62 rfl ?_
      refine j_lconst (v := 0) C dX8_sheet_63 rfl (by decide) ?_
      replace h := gd_e h
      obtain ⟨g2_, h⟩ := h
      refine j_last C dX8_sheet_64 rfl is_122 g2_ ?_
      refine j_mem (fun μ3_ e4_ => ?_)
      replace h := zl_u h e4_
      refine j_iinc (d := (nI 1)) (v := x4 + (nI 1)) (lv' := [(4, .int (x4 + (nI 1))), (0, .ref 113), (1, .int a1), (3, .int a3)]) C dX8_sheet_65 rfl (by decide) 3 rfl (by decide) rfl rfl ?_
      refine j_goto (pc' := 45) C dX8_sheet_68 (by decide) ?_
      refine j_lv [1, 2, 3, 0] rfl ?_
      exact (ih) (x4 + (nI 1)) μ3_ h
def f_X8_sheet (a1 : Int32) (a2 : Int32) (a3 : Int32) (μ : Mem) : Option (Int32 × Mem) := zl (sI μ 113 0 (nI 0)) fun μ1_ => Option.bind (f_X8_isSheet a1 a2 μ1_) fun p3_ => (if p3_.1 = 0 then some ((-1), p3_.2) else (if a3 ≤ (nI 24) then (if 0 ≤ a3 then gd (inb a1 4) <| zl (sI p3_.2 120 (Int32.toNatClampNeg a1) a2) fun μ9_ => zl (sI μ9_ 121 (Int32.toNatClampNeg a1) a3) fun μ11_ => f_X8_sheet_45 a1 a2 a3 zfu (nI 0) μ11_ else some ((-14), p3_.2)) else some ((-1), p3_.2)))
set_option maxHeartbeats 4000000 in
set_option maxRecDepth 100000 in
theorem w_X8_sheet {Γ : jG} (C : jC Γ 5 cX8_sheet RX8 rmX8_sheet) {a1 : Int32} {a2 : Int32} {a3 : Int32} {ρ : Int32 × Mem} (E : jEI Γ cX8_sheet ρ.1 ρ.2) (μ : Mem) (h : f_X8_sheet a1 a2 a3 μ = some ρ) : jJ Γ 5 0 [(0, .ref 113), (1, .int a1), (2, .int a2), (3, .int a3)] [] μ := by
  unfold f_X8_sheet at h
  refine j_aload_n C dX8_sheet_0 rfl 0 rfl ?_
  refine j_iconst (v := (nI 0)) C dX8_sheet_1 rfl (by decide) ?_
  refine j_putI C dX8_sheet_2 rfl lpX8_48 is_113 rfl ?_
  refine j_mem (fun μ1_ e2_ => ?_)
  replace h := zl_u h e2_
  refine j_iload_n C dX8_sheet_5 rfl 1 rfl ?_
  refine j_iload_n C dX8_sheet_6 rfl 2 rfl ?_
  replace h := bd_e h
  obtain ⟨p3_, h4_, h⟩ := h
  refine j_cSI (av := [.int a1, .int a2]) (rest := []) C dX8_sheet_7 rfl (c_X8_isSheet _ _ _ _ μ1_ p3_ h4_) gsX8_233 ⟨⟨rfl, rfl⟩, Nat.le_of_ble_eq_true rfl, Nat.le_of_ble_eq_true rfl⟩ rfl rfl (Nat.le_of_ble_eq_true rfl) ?_
  refine j_if_eq (tgt := 19) C dX8_sheet_10 rfl (by decide) (fun c5_ => ?_) (fun c5_ => ?_)
  · replace h := if_t h c5_
    refine j_iconst (v := (-1)) C dX8_sheet_19 rfl (by decide) ?_
    obtain rfl := Option.some.inj h
    exact j_iret E dX8_sheet_20
  · replace h := if_f h c5_
    refine j_iload_n C dX8_sheet_13 rfl 3 rfl ?_
    refine j_bipush (v := (nI 24)) C dX8_sheet_14 rfl (by decide) ?_
    refine j_icmp_le (tgt := 21) C dX8_sheet_16 rfl (by decide) (fun c6_ => ?_) (fun c6_ => ?_)
    · replace h := if_t h c6_
      refine j_iload_n C dX8_sheet_21 rfl 3 rfl ?_
      refine j_if_ge (tgt := 28) C dX8_sheet_22 rfl (by decide) (fun c7_ => ?_) (fun c7_ => ?_)
      · replace h := if_t h c7_
        refine j_aload_n C dX8_sheet_28 rfl 0 rfl ?_
        refine j_getR (c := 120) C dX8_sheet_29 rfl lkX8_28 is_113 rfl ?_
        refine j_iload_n C dX8_sheet_32 rfl 1 rfl ?_
        refine j_iload_n C dX8_sheet_33 rfl 2 rfl ?_
        replace h := gd_e h
        obtain ⟨g8_, h⟩ := h
        refine j_iast C dX8_sheet_34 rfl is_120 g8_ ?_
        refine j_mem (fun μ9_ e10_ => ?_)
        replace h := zl_u h e10_
        refine j_aload_n C dX8_sheet_35 rfl 0 rfl ?_
        refine j_getR (c := 121) C dX8_sheet_36 rfl lkX8_31 is_113 rfl ?_
        refine j_iload_n C dX8_sheet_39 rfl 1 rfl ?_
        refine j_iload_n C dX8_sheet_40 rfl 3 rfl ?_
        refine j_iast C dX8_sheet_41 rfl is_121 g8_ ?_
        refine j_mem (fun μ11_ e12_ => ?_)
        replace h := zl_u h e12_
        refine j_iconst (v := (nI 0)) C dX8_sheet_42 rfl (by decide) ?_
        refine j_istore (lv' := [(4, .int (nI 0)), (0, .ref 113), (1, .int a1), (2, .int a2), (3, .int a3)]) C dX8_sheet_43 rfl (by decide) rfl ?_
        refine j_lv [1, 2, 4, 0] rfl ?_
        exact w_X8_sheet_45 C E zfu (nI 0) μ11_ h
      · replace h := if_f h c7_
        refine j_bipush (v := (-14)) C dX8_sheet_25 rfl (by decide) ?_
        obtain rfl := Option.some.inj h
        exact j_iret E dX8_sheet_27
    · replace h := if_f h c6_
      refine j_iconst (v := (-1)) C dX8_sheet_19 rfl (by decide) ?_
      obtain rfl := Option.some.inj h
      exact j_iret E dX8_sheet_20
set_option maxRecDepth 100000 in
theorem c_X8_sheet (l : Launch) (D : va_G) (ad : Nat → Nat) (cl : Nat → ClassId) {a1 : Int32} {a2 : Int32} {a3 : Int32} (μ : Mem) (ρ : Int32 × Mem) (h : f_X8_sheet a1 a2 a3 μ = some ρ) : CI l D ad cl yX8_sheet wsX8_sheet rmX8_sheet [.ref 113, .int a1, .int a2, .int a3] μ ρ.1 ρ.2 := c_ofI (cc := cX8_sheet) (nL := 5) rfl (by decide) (Nat.le_of_ble_eq_true rfl) (fun Γ C E => w_X8_sheet C E μ h)
/-! X8_drop -/
def wsX8_drop : List Cond := .code yX8_drop cX8_drop 2 (some .int) :: G0
def rmX8_drop : Room := { frames := 1, cells := 0, slots := 0, locals := 25 }
def f_X8_drop (a1 : Int32) (μ : Mem) : Option (Int32 × Mem) := zl (sI μ 113 0 (nI 0)) fun μ1_ => Option.bind (f_X8_in (Int32.toInt64 a1) 0 3 μ1_) fun p3_ => (if p3_.1 = 0 then some ((-1), p3_.2) else gd (inb a1 4) <| (if 0 ≤ (p3_.2.1 120 (Int32.toNatClampNeg a1)) then zl (sI p3_.2 120 (Int32.toNatClampNeg a1) (-1)) fun μ8_ => some (μ8_.1 121 (Int32.toNatClampNeg a1), μ8_) else some ((-11), p3_.2)))
set_option maxHeartbeats 4000000 in
set_option maxRecDepth 100000 in
theorem w_X8_drop {Γ : jG} (C : jC Γ 2 cX8_drop RX8 rmX8_drop) {a1 : Int32} {ρ : Int32 × Mem} (E : jEI Γ cX8_drop ρ.1 ρ.2) (μ : Mem) (h : f_X8_drop a1 μ = some ρ) : jJ Γ 2 0 [(0, .ref 113), (1, .int a1)] [] μ := by
  unfold f_X8_drop at h
  refine j_aload_n C dX8_drop_0 rfl 0 rfl ?_
  refine j_iconst (v := (nI 0)) C dX8_drop_1 rfl (by decide) ?_
  refine j_putI C dX8_drop_2 rfl lpX8_48 is_113 rfl ?_
  refine j_mem (fun μ1_ e2_ => ?_)
  replace h := zl_u h e2_
  refine j_iload_n C dX8_drop_5 rfl 1 rfl ?_
  refine j_i2l C dX8_drop_6 rfl ?_
  refine j_lconst (v := 0) C dX8_drop_7 rfl (by decide) ?_
  refine j_ldc2 (v := 3) C dX8_drop_8 rfl gwt5_95 ?_
  replace h := bd_e h
  obtain ⟨p3_, h4_, h⟩ := h
  refine j_cSI (av := [.long (Int32.toInt64 a1), .long 0, .long 3]) (rest := []) C dX8_drop_11 rfl (c_X8_in _ _ _ _ μ1_ p3_ h4_) gsX8_51 ⟨⟨rfl, rfl⟩, Nat.le_of_ble_eq_true rfl, Nat.le_of_ble_eq_true rfl⟩ rfl rfl (Nat.le_of_ble_eq_true rfl) ?_
  refine j_if_ne (tgt := 19) C dX8_drop_14 rfl (by decide) (fun c5_ => ?_) (fun c5_ => ?_)
  · replace h := if_f h c5_
    refine j_aload_n C dX8_drop_19 rfl 0 rfl ?_
    refine j_getR (c := 120) C dX8_drop_20 rfl lkX8_28 is_113 rfl ?_
    refine j_iload_n C dX8_drop_23 rfl 1 rfl ?_
    replace h := gd_e h
    obtain ⟨g6_, h⟩ := h
    refine j_iald C dX8_drop_24 rfl is_120 g6_ ?_
    refine j_if_ge (tgt := 31) C dX8_drop_25 rfl (by decide) (fun c7_ => ?_) (fun c7_ => ?_)
    · replace h := if_t h c7_
      refine j_aload_n C dX8_drop_31 rfl 0 rfl ?_
      refine j_getR (c := 120) C dX8_drop_32 rfl lkX8_28 is_113 rfl ?_
      refine j_iload_n C dX8_drop_35 rfl 1 rfl ?_
      refine j_iconst (v := (-1)) C dX8_drop_36 rfl (by decide) ?_
      refine j_iast C dX8_drop_37 rfl is_120 g6_ ?_
      refine j_mem (fun μ8_ e9_ => ?_)
      replace h := zl_u h e9_
      refine j_aload_n C dX8_drop_38 rfl 0 rfl ?_
      refine j_getR (c := 121) C dX8_drop_39 rfl lkX8_31 is_113 rfl ?_
      refine j_iload_n C dX8_drop_42 rfl 1 rfl ?_
      refine j_iald C dX8_drop_43 rfl is_121 g6_ ?_
      obtain rfl := Option.some.inj h
      exact j_iret E dX8_drop_44
    · replace h := if_f h c7_
      refine j_bipush (v := (-11)) C dX8_drop_28 rfl (by decide) ?_
      obtain rfl := Option.some.inj h
      exact j_iret E dX8_drop_30
  · replace h := if_t h c5_
    refine j_iconst (v := (-1)) C dX8_drop_17 rfl (by decide) ?_
    obtain rfl := Option.some.inj h
    exact j_iret E dX8_drop_18
set_option maxRecDepth 100000 in
theorem c_X8_drop (l : Launch) (D : va_G) (ad : Nat → Nat) (cl : Nat → ClassId) {a1 : Int32} (μ : Mem) (ρ : Int32 × Mem) (h : f_X8_drop a1 μ = some ρ) : CI l D ad cl yX8_drop wsX8_drop rmX8_drop [.ref 113, .int a1] μ ρ.1 ρ.2 := c_ofI (cc := cX8_drop) (nL := 2) rfl (by decide) (Nat.le_of_ble_eq_true rfl) (fun Γ C E => w_X8_drop C E μ h)
/-! X8_cut -/
def wsX8_cut : List Cond := .code yX8_cut cX8_cut 3 (some .long) :: G0
def rmX8_cut : Room := { frames := 0, cells := 0, slots := 0, locals := 0 }
def f_X8_cut (a0 : Int32) (a1 : Int64) (μ : Mem) : Option (Int64 × Mem) := (if a0 = 0 then some (Int32.toInt64 ((Int32.toInt8 (Int64.toInt32 a1)).toInt32), μ) else (if a0 = (nI 1) then some (Int32.toInt64 ((Int32.toInt16 (Int64.toInt32 a1)).toInt32), μ) else (if a0 = (nI 2) then some (Int32.toInt64 (Int64.toInt32 a1), μ) else some (a1, μ))))
set_option maxHeartbeats 4000000 in
set_option maxRecDepth 100000 in
theorem w_X8_cut {Γ : jG} (C : jC Γ 3 cX8_cut RX8 rmX8_cut) {a0 : Int32} {a1 : Int64} {ρ : Int64 × Mem} (E : jEL Γ cX8_cut ρ.1 ρ.2) (μ : Mem) (h : f_X8_cut a0 a1 μ = some ρ) : jJ Γ 3 0 [(0, .int a0), (1, .long a1)] [] μ := by
  unfold f_X8_cut at h
  refine j_iload_n C dX8_cut_0 rfl 0 rfl ?_
  refine j_if_ne (tgt := 11) C dX8_cut_1 rfl (by decide) (fun c1_ => ?_) (fun c1_ => ?_)
  · replace h := if_f h c1_
    refine j_iload_n C dX8_cut_11 rfl 0 rfl ?_
    refine j_iconst (v := (nI 1)) C dX8_cut_12 rfl (by decide) ?_
    refine j_icmp_ne (tgt := 23) C dX8_cut_13 rfl (by decide) (fun c2_ => ?_) (fun c2_ => ?_)
    · replace h := if_f h c2_
      refine j_iload_n C dX8_cut_23 rfl 0 rfl ?_
      refine j_iconst (v := (nI 2)) C dX8_cut_24 rfl (by decide) ?_
      refine j_icmp_ne (tgt := 34) C dX8_cut_25 rfl (by decide) (fun c3_ => ?_) (fun c3_ => ?_)
      · replace h := if_f h c3_
        refine j_lload_n C dX8_cut_34 rfl 1 rfl ?_
        obtain rfl := Option.some.inj h
        exact j_lret E dX8_cut_35
      · replace h := if_t h c3_
        refine j_lload_n C dX8_cut_28 rfl 1 rfl ?_
        refine j_l2i C dX8_cut_29 rfl ?_
        refine j_i2l C dX8_cut_30 rfl ?_
        refine j_goto (pc' := 35) C dX8_cut_31 (by decide) ?_
        obtain rfl := Option.some.inj h
        exact j_lret E dX8_cut_35
    · replace h := if_t h c2_
      refine j_lload_n C dX8_cut_16 rfl 1 rfl ?_
      refine j_l2i C dX8_cut_17 rfl ?_
      refine j_i2s C dX8_cut_18 rfl ?_
      refine j_i2l C dX8_cut_19 rfl ?_
      refine j_goto (pc' := 35) C dX8_cut_20 (by decide) ?_
      obtain rfl := Option.some.inj h
      exact j_lret E dX8_cut_35
  · replace h := if_t h c1_
    refine j_lload_n C dX8_cut_4 rfl 1 rfl ?_
    refine j_l2i C dX8_cut_5 rfl ?_
    refine j_i2b C dX8_cut_6 rfl ?_
    refine j_i2l C dX8_cut_7 rfl ?_
    refine j_goto (pc' := 35) C dX8_cut_8 (by decide) ?_
    obtain rfl := Option.some.inj h
    exact j_lret E dX8_cut_35
set_option maxRecDepth 100000 in
theorem c_X8_cut (l : Launch) (D : va_G) (ad : Nat → Nat) (cl : Nat → ClassId) {a0 : Int32} {a1 : Int64} (μ : Mem) (ρ : Int64 × Mem) (h : f_X8_cut a0 a1 μ = some ρ) : CL l D ad cl yX8_cut wsX8_cut rmX8_cut [.int a0, .long a1] μ ρ.1 ρ.2 := c_ofL (cc := cX8_cut) (nL := 3) rfl (by decide) (Nat.le_of_ble_eq_true rfl) (fun Γ C E => w_X8_cut C E μ h)
theorem gsX8_240 : jm_gs RX8 240 yX8_cut wsX8_cut 3 2 := ⟨_, _, gi_S gwt6_101 gwt6_102 gwt1_9 gwt6_103, rfl, by decide +kernel⟩
/-! X8_item -/
def wsX8_item : List Cond := .code yX8_item cX8_item 7 (some .int) :: G0
def rmX8_item : Room := { frames := 2, cells := 0, slots := 0, locals := 46 }
def f_X8_item (a1 : Int32) (a2 : Int32) (a3 : Int32) (a4 : Int64) (μ : Mem) : Option (Int32 × Mem) := zl (sI μ 113 0 (nI 0)) fun μ1_ => Option.bind (f_X8_isSheet a1 a2 μ1_) fun p3_ => (if p3_.1 = 0 then some ((-1), p3_.2) else Option.bind (f_X8_wrongOf a1 a2 a3 (nI 1) p3_.2) fun p6_ => (if p6_.1 = 0 then Option.bind (f_X8_cut a2 a4 p6_.2) fun p9_ => gd (inb (((nI 24) * a1) + a3) 96) <| zl (sL p9_.2 122 (Int32.toNatClampNeg (((nI 24) * a1) + a3)) p9_.1) fun μ12_ => some ((nI 1), μ12_) else some (p6_.1, p6_.2)))
set_option maxHeartbeats 4000000 in
set_option maxRecDepth 100000 in
theorem w_X8_item {Γ : jG} (C : jC Γ 7 cX8_item RX8 rmX8_item) {a1 : Int32} {a2 : Int32} {a3 : Int32} {a4 : Int64} {ρ : Int32 × Mem} (E : jEI Γ cX8_item ρ.1 ρ.2) (μ : Mem) (h : f_X8_item a1 a2 a3 a4 μ = some ρ) : jJ Γ 7 0 [(0, .ref 113), (1, .int a1), (2, .int a2), (3, .int a3), (4, .long a4)] [] μ := by
  unfold f_X8_item at h
  refine j_aload_n C dX8_item_0 rfl 0 rfl ?_
  refine j_iconst (v := (nI 0)) C dX8_item_1 rfl (by decide) ?_
  refine j_putI C dX8_item_2 rfl lpX8_48 is_113 rfl ?_
  refine j_mem (fun μ1_ e2_ => ?_)
  replace h := zl_u h e2_
  refine j_iload_n C dX8_item_5 rfl 1 rfl ?_
  refine j_iload_n C dX8_item_6 rfl 2 rfl ?_
  replace h := bd_e h
  obtain ⟨p3_, h4_, h⟩ := h
  refine j_cSI (av := [.int a1, .int a2]) (rest := []) C dX8_item_7 rfl (c_X8_isSheet _ _ _ _ μ1_ p3_ h4_) gsX8_233 ⟨⟨rfl, rfl⟩, Nat.le_of_ble_eq_true rfl, Nat.le_of_ble_eq_true rfl⟩ rfl rfl (Nat.le_of_ble_eq_true rfl) ?_
  refine j_if_ne (tgt := 15) C dX8_item_10 rfl (by decide) (fun c5_ => ?_) (fun c5_ => ?_)
  · replace h := if_f h c5_
    refine j_aload_n C dX8_item_15 rfl 0 rfl ?_
    refine j_iload_n C dX8_item_16 rfl 1 rfl ?_
    refine j_iload_n C dX8_item_17 rfl 2 rfl ?_
    refine j_iload_n C dX8_item_18 rfl 3 rfl ?_
    refine j_iconst (v := (nI 1)) C dX8_item_19 rfl (by decide) ?_
    replace h := bd_e h
    obtain ⟨p6_, h7_, h⟩ := h
    refine j_cVI (av := [.int a1, .int a2, .int a3, .int (nI 1)]) (rest := []) C dX8_item_20 rfl (c_X8_wrongOf _ _ _ _ p3_.2 p6_ h7_) gvX8_236 ⟨⟨rfl, rfl⟩, Nat.le_of_ble_eq_true rfl, Nat.le_of_ble_eq_true rfl⟩ rfl is_113 rfl rfl (Nat.le_of_ble_eq_true rfl) ?_
    refine j_istore (lv' := [(6, .int p6_.1), (0, .ref 113), (1, .int a1), (2, .int a2), (3, .int a3), (4, .long a4)]) C dX8_item_23 rfl (by decide) rfl ?_
    refine j_iload C dX8_item_25 rfl 0 rfl ?_
    refine j_if_eq (tgt := 33) C dX8_item_27 rfl (by decide) (fun c8_ => ?_) (fun c8_ => ?_)
    · replace h := if_t h c8_
      refine j_aload_n C dX8_item_33 rfl 1 rfl ?_
      refine j_getR (c := 122) C dX8_item_34 rfl lkX8_34 is_113 rfl ?_
      refine j_bipush (v := (nI 24)) C dX8_item_37 rfl (by decide) ?_
      refine j_iload_n C dX8_item_39 rfl 2 rfl ?_
      refine j_imul C dX8_item_40 rfl ?_
      refine j_iload_n C dX8_item_41 rfl 4 rfl ?_
      refine j_iadd C dX8_item_42 rfl ?_
      refine j_iload_n C dX8_item_43 rfl 3 rfl ?_
      refine j_lload C dX8_item_44 rfl 5 rfl ?_
      replace h := bd_e h
      obtain ⟨p9_, h10_, h⟩ := h
      refine j_cSL (av := [.int a2, .long a4]) (rest := [.int (((nI 24) * a1) + a3), .ref 122]) C dX8_item_46 rfl (c_X8_cut _ _ _ _ p6_.2 p9_ h10_) gsX8_240 ⟨⟨rfl, rfl⟩, Nat.le_of_ble_eq_true rfl, Nat.le_of_ble_eq_true rfl⟩ rfl rfl (Nat.le_of_ble_eq_true rfl) ?_
      replace h := gd_e h
      obtain ⟨g11_, h⟩ := h
      refine j_last C dX8_item_49 rfl is_122 g11_ ?_
      refine j_mem (fun μ12_ e13_ => ?_)
      replace h := zl_u h e13_
      refine j_iconst (v := (nI 1)) C dX8_item_50 rfl (by decide) ?_
      obtain rfl := Option.some.inj h
      exact j_iret E dX8_item_51
    · replace h := if_f h c8_
      refine j_iload C dX8_item_30 rfl 0 rfl ?_
      obtain rfl := Option.some.inj h
      exact j_iret E dX8_item_32
  · replace h := if_t h c5_
    refine j_iconst (v := (-1)) C dX8_item_13 rfl (by decide) ?_
    obtain rfl := Option.some.inj h
    exact j_iret E dX8_item_14
set_option maxRecDepth 100000 in
theorem c_X8_item (l : Launch) (D : va_G) (ad : Nat → Nat) (cl : Nat → ClassId) {a1 : Int32} {a2 : Int32} {a3 : Int32} {a4 : Int64} (μ : Mem) (ρ : Int32 × Mem) (h : f_X8_item a1 a2 a3 a4 μ = some ρ) : CI l D ad cl yX8_item wsX8_item rmX8_item [.ref 113, .int a1, .int a2, .int a3, .long a4] μ ρ.1 ρ.2 := c_ofI (cc := cX8_item) (nL := 7) rfl (by decide) (Nat.le_of_ble_eq_true rfl) (fun Γ C E => w_X8_item C E μ h)
