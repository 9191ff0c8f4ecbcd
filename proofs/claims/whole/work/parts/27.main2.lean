theorem gvX7_255 : jm_gv RX7 255 RX7 yX7_refusalOfRow wsX7_refusalOfRow 5 4 := ⟨_, _, gi_V gwt4_144 gwt4_146 gwp2_15 gwt1_1 gwt4_147, rfl, by decide +kernel⟩
/-! X7_delays -/
def wsX7_delays : List Cond := .code yX7_delays cX7_delays 10 (some .int) :: G0
def rmX7_delays : Room := { frames := 2, cells := 0, slots := 0, locals := 46 }
def f_X7_delays_162 (a1 : Int32) (a2 : Int32) (a3 : Int32) (a4 : Int32) (μ : Mem) : Option (Int32 × Mem) := some (μ.1 2 0, μ)
set_option maxHeartbeats 4000000 in
set_option maxRecDepth 100000 in
theorem w_X7_delays_162 {Γ : jG} (C : jC Γ 10 cX7_delays RX7 rmX7_delays) {a1 : Int32} {a2 : Int32} {a3 : Int32} {a4 : Int32} {ρ : Int32 × Mem} (E : jEI Γ cX7_delays ρ.1 ρ.2) (μ : Mem) (h : f_X7_delays_162 a1 a2 a3 a4 μ = some ρ) : jJ Γ 10 162 [(0, .ref 0)] [] μ := by
  unfold f_X7_delays_162 at h
  refine j_aload_n C dX7_delays_162 rfl 0 rfl ?_
  refine j_getR (c := 1) C dX7_delays_163 rfl lkX7_10 is_0 rfl ?_
  refine j_getR (c := 2) C dX7_delays_166 rfl lkX7_38 (isT_0 isT1) rfl ?_
  refine j_getI C dX7_delays_169 rfl lkX7_58 (isN_0 (isT_n isT1)) rfl ?_
  obtain rfl := Option.some.inj h
  exact j_iret E dX7_delays_172
def f_X7_delays_156 (a1 : Int32) (a2 : Int32) (a3 : Int32) (a4 : Int32) (kb111 : Int32 → Mem → Option (Int32 × Mem)) (kx162 : Mem → Option (Int32 × Mem)) (x7 : Int32) (μ : Mem) : Option (Int32 × Mem) := kb111 (x7 + (nI 1)) μ
set_option maxHeartbeats 4000000 in
set_option maxRecDepth 100000 in
theorem w_X7_delays_156 {Γ : jG} (C : jC Γ 10 cX7_delays RX7 rmX7_delays) {a1 : Int32} {a2 : Int32} {a3 : Int32} {a4 : Int32} {kb111 : Int32 → Mem → Option (Int32 × Mem)} {kx162 : Mem → Option (Int32 × Mem)} {ρ : Int32 × Mem} (E : jEI Γ cX7_delays ρ.1 ρ.2) (Hkb111 : ∀ (x7 : Int32) (μ : Mem), kb111 x7 μ = some ρ → jJ Γ 10 111 [(0, .ref 0), (1, .int a1), (4, .int a4), (6, .ref (105 + (Int32.toNatClampNeg a2) + 4)), (7, .int x7)] [] μ) (Hkx162 : ∀ (μ : Mem), kx162 μ = some ρ → jJ Γ 10 162 [(0, .ref 0)] [] μ) (x7 : Int32) (μ : Mem) (h : f_X7_delays_156 a1 a2 a3 a4 kb111 kx162 x7 μ = some ρ) : jJ Γ 10 156 [(0, .ref 0), (1, .int a1), (4, .int a4), (6, .ref (105 + (Int32.toNatClampNeg a2) + 4)), (7, .int x7)] [] μ := by
  unfold f_X7_delays_156 at h
  refine j_iinc (d := (nI 1)) (v := x7 + (nI 1)) (lv' := [(7, .int (x7 + (nI 1))), (0, .ref 0), (1, .int a1), (4, .int a4), (6, .ref (105 + (Int32.toNatClampNeg a2) + 4))]) C dX7_delays_156 rfl (by decide) 4 rfl (by decide) rfl rfl ?_
  refine j_goto (pc' := 111) C dX7_delays_159 (by decide) ?_
  refine j_lv [1, 2, 3, 4, 0] rfl ?_
  exact (Hkb111) (x7 + (nI 1)) μ h
def f_X7_delays_111 (a1 : Int32) (a2 : Int32) (a3 : Int32) (a4 : Int32) (kx162 : Mem → Option (Int32 × Mem)) : Nat → Int32 → Mem → Option (Int32 × Mem)
  | 0, _, _ => none
  | n + 1, x7, μ => (if (μ.1 2 0) ≤ x7 then kx162 μ else (if x7 = a1 then f_X7_delays_156 a1 a2 a3 a4 (fun x7 μ => f_X7_delays_111 a1 a2 a3 a4 kx162 n x7 μ) kx162 x7 μ else gd (inb a1 9) <| gd (inb a2 4) <| gd (inb (a4 + x7) 24) <| gd (inb x7 9) <| zl (sI μ (9 + (Int32.toNatClampNeg a1)) (Int32.toNatClampNeg x7) (Int64.toInt32 (μ.2 (105 + (Int32.toNatClampNeg a2) + 4) (Int32.toNatClampNeg (a4 + x7))))) fun μ7_ => f_X7_delays_156 a1 a2 a3 a4 (fun x7 μ => f_X7_delays_111 a1 a2 a3 a4 kx162 n x7 μ) kx162 x7 μ7_))
set_option maxHeartbeats 4000000 in
set_option maxRecDepth 100000 in
theorem w_X7_delays_111 {Γ : jG} (C : jC Γ 10 cX7_delays RX7 rmX7_delays) {a1 : Int32} {a2 : Int32} {a3 : Int32} {a4 : Int32} {kx162 : Mem → Option (Int32 × Mem)} {ρ : Int32 × Mem} (E : jEI Γ cX7_delays ρ.1 ρ.2) (Hkx162 : ∀ (μ : Mem), kx162 μ = some ρ → jJ Γ 10 162 [(0, .ref 0)] [] μ) : ∀ (n : Nat) (x7 : Int32) (μ : Mem), f_X7_delays_111 a1 a2 a3 a4 kx162 n x7 μ = some ρ → jJ Γ 10 111 [(0, .ref 0), (1, .int a1), (4, .int a4), (6, .ref (105 + (Int32.toNatClampNeg a2) + 4)), (7, .int x7)] [] μ := by
  intro n
  induction n with
  | zero => intro x7 μ h; rw [f_X7_delays_111] at h; cases h
  | succ n ih =>
    intro x7 μ h
    rw [f_X7_delays_111] at h
    refine j_iload C dX7_delays_111 rfl 4 rfl ?_
    refine j_aload_n C dX7_delays_113 rfl 0 rfl ?_
    refine j_getR (c := 1) C dX7_delays_114 rfl lkX7_10 is_0 rfl ?_
    refine j_getR (c := 2) C dX7_delays_117 rfl lkX7_38 (isT_0 isT1) rfl ?_
    refine j_getI C dX7_delays_120 rfl lkX7_58 (isN_0 (isT_n isT1)) rfl ?_
    refine j_icmp_ge (tgt := 162) C dX7_delays_123 rfl (by decide) (fun c1_ => ?_) (fun c1_ => ?_)
    · replace h := if_t h c1_
      refine j_lv [0] rfl ?_
      exact (Hkx162) μ h
    · replace h := if_f h c1_
      refine j_iload C dX7_delays_126 rfl 4 rfl ?_
      refine j_iload_n C dX7_delays_128 rfl 1 rfl ?_
      refine j_icmp_eq (tgt := 156) C dX7_delays_129 rfl (by decide) (fun c2_ => ?_) (fun c2_ => ?_)
      · replace h := if_t h c2_
        refine j_lv [0, 1, 2, 3, 4] rfl ?_
        exact w_X7_delays_156 C E ih Hkx162 x7 μ h
      · replace h := if_f h c2_
        refine j_aload_n C dX7_delays_132 rfl 0 rfl ?_
        refine j_getR (c := 1) C dX7_delays_133 rfl lkX7_10 is_0 rfl ?_
        refine j_getR (c := 2) C dX7_delays_136 rfl lkX7_38 (isT_0 isT1) rfl ?_
        refine j_getR (c := 8) C dX7_delays_139 rfl lkX7_97 (isN_0 (isT_n isT1)) rfl ?_
        refine j_iload_n C dX7_delays_142 rfl 1 rfl ?_
        replace h := gd_e h
        obtain ⟨g3_, h⟩ := h
        refine j_aald C dX7_delays_143 rfl (Or.inl rfl) (isN_a6 (isT_n isT1)) g3_ ?_
        refine j_iload C dX7_delays_144 rfl 4 rfl ?_
        refine j_aload C dX7_delays_146 rfl 3 rfl ?_
        refine j_iload C dX7_delays_148 rfl 2 rfl ?_
        refine j_iload C dX7_delays_150 rfl 4 rfl ?_
        refine j_iadd C dX7_delays_152 rfl ?_
        replace h := gd_e h
        obtain ⟨g4_, h⟩ := h
        replace h := gd_e h
        obtain ⟨g5_, h⟩ := h
        refine j_lald C dX7_delays_153 rfl (isS_it (isS_of g4_)) g5_ ?_
        refine j_l2i C dX7_delays_154 rfl ?_
        replace h := gd_e h
        obtain ⟨g6_, h⟩ := h
        refine j_iast C dX7_delays_155 rfl (isN_dl (isT_n isT1) g3_) g6_ ?_
        refine j_mem (fun μ7_ e8_ => ?_)
        replace h := zl_u h e8_
        refine j_lv [0, 1, 2, 3, 4] rfl ?_
        exact w_X7_delays_156 C E ih Hkx162 x7 μ7_ h
def f_X7_delays_108 (a1 : Int32) (a2 : Int32) (a3 : Int32) (a4 : Int32) (μ : Mem) : Option (Int32 × Mem) := f_X7_delays_111 a1 a2 a3 a4 (fun μ => f_X7_delays_162 a1 a2 a3 a4 μ) zfu (nI 0) μ
set_option maxHeartbeats 4000000 in
set_option maxRecDepth 100000 in
theorem w_X7_delays_108 {Γ : jG} (C : jC Γ 10 cX7_delays RX7 rmX7_delays) {a1 : Int32} {a2 : Int32} {a3 : Int32} {a4 : Int32} {ρ : Int32 × Mem} (E : jEI Γ cX7_delays ρ.1 ρ.2) (μ : Mem) (h : f_X7_delays_108 a1 a2 a3 a4 μ = some ρ) : jJ Γ 10 108 [(0, .ref 0), (1, .int a1), (4, .int a4), (6, .ref (105 + (Int32.toNatClampNeg a2) + 4))] [] μ := by
  unfold f_X7_delays_108 at h
  refine j_iconst (v := (nI 0)) C dX7_delays_108 rfl (by decide) ?_
  refine j_istore (lv' := [(7, .int (nI 0)), (0, .ref 0), (1, .int a1), (4, .int a4), (6, .ref (105 + (Int32.toNatClampNeg a2) + 4))]) C dX7_delays_109 rfl (by decide) rfl ?_
  refine j_lv [1, 2, 3, 4, 0] rfl ?_
  exact w_X7_delays_111 C E (fun μ h => w_X7_delays_162 C E μ h) zfu (nI 0) μ h
def f_X7_delays_102 (a1 : Int32) (a2 : Int32) (a3 : Int32) (a4 : Int32) (kb52 : Int32 → Mem → Option (Int32 × Mem)) (kx108 : Mem → Option (Int32 × Mem)) (x7 : Int32) (μ : Mem) : Option (Int32 × Mem) := kb52 (x7 + (nI 1)) μ
set_option maxHeartbeats 4000000 in
set_option maxRecDepth 100000 in
theorem w_X7_delays_102 {Γ : jG} (C : jC Γ 10 cX7_delays RX7 rmX7_delays) {a1 : Int32} {a2 : Int32} {a3 : Int32} {a4 : Int32} {kb52 : Int32 → Mem → Option (Int32 × Mem)} {kx108 : Mem → Option (Int32 × Mem)} {ρ : Int32 × Mem} (E : jEI Γ cX7_delays ρ.1 ρ.2) (Hkb52 : ∀ (x7 : Int32) (μ : Mem), kb52 x7 μ = some ρ → jJ Γ 10 52 [(0, .ref 0), (1, .int a1), (4, .int a4), (6, .ref (105 + (Int32.toNatClampNeg a2) + 4)), (7, .int x7)] [] μ) (Hkx108 : ∀ (μ : Mem), kx108 μ = some ρ → jJ Γ 10 108 [(0, .ref 0), (1, .int a1), (4, .int a4), (6, .ref (105 + (Int32.toNatClampNeg a2) + 4))] [] μ) (x7 : Int32) (μ : Mem) (h : f_X7_delays_102 a1 a2 a3 a4 kb52 kx108 x7 μ = some ρ) : jJ Γ 10 102 [(0, .ref 0), (1, .int a1), (4, .int a4), (6, .ref (105 + (Int32.toNatClampNeg a2) + 4)), (7, .int x7)] [] μ := by
  unfold f_X7_delays_102 at h
  refine j_iinc (d := (nI 1)) (v := x7 + (nI 1)) (lv' := [(7, .int (x7 + (nI 1))), (0, .ref 0), (1, .int a1), (4, .int a4), (6, .ref (105 + (Int32.toNatClampNeg a2) + 4))]) C dX7_delays_102 rfl (by decide) 4 rfl (by decide) rfl rfl ?_
  refine j_goto (pc' := 52) C dX7_delays_105 (by decide) ?_
  refine j_lv [1, 2, 3, 4, 0] rfl ?_
  exact (Hkb52) (x7 + (nI 1)) μ h
def f_X7_delays_52 (a1 : Int32) (a2 : Int32) (a3 : Int32) (a4 : Int32) (kx108 : Mem → Option (Int32 × Mem)) : Nat → Int32 → Mem → Option (Int32 × Mem)
  | 0, _, _ => none
  | n + 1, x7, μ => (if (μ.1 2 0) ≤ x7 then kx108 μ else gd (inb a2 4) <| gd (inb (a4 + x7) 24) <| zl (μ.2 (105 + (Int32.toNatClampNeg a2) + 4) (Int32.toNatClampNeg (a4 + x7))) fun x4_ => (if x7 = a1 then f_X7_delays_102 a1 a2 a3 a4 (fun x7 μ => f_X7_delays_52 a1 a2 a3 a4 kx108 n x7 μ) kx108 x7 μ else (if (lg_cmp x4_ 1) < 0 then some ((-2), μ) else (if (lg_cmp x4_ 9) ≤ 0 then f_X7_delays_102 a1 a2 a3 a4 (fun x7 μ => f_X7_delays_52 a1 a2 a3 a4 kx108 n x7 μ) kx108 x7 μ else some ((-2), μ)))))
set_option maxHeartbeats 4000000 in
set_option maxRecDepth 100000 in
theorem w_X7_delays_52 {Γ : jG} (C : jC Γ 10 cX7_delays RX7 rmX7_delays) {a1 : Int32} {a2 : Int32} {a3 : Int32} {a4 : Int32} {kx108 : Mem → Option (Int32 × Mem)} {ρ : Int32 × Mem} (E : jEI Γ cX7_delays ρ.1 ρ.2) (Hkx108 : ∀ (μ : Mem), kx108 μ = some ρ → jJ Γ 10 108 [(0, .ref 0), (1, .int a1), (4, .int a4), (6, .ref (105 + (Int32.toNatClampNeg a2) + 4))] [] μ) : ∀ (n : Nat) (x7 : Int32) (μ : Mem), f_X7_delays_52 a1 a2 a3 a4 kx108 n x7 μ = some ρ → jJ Γ 10 52 [(0, .ref 0), (1, .int a1), (4, .int a4), (6, .ref (105 + (Int32.toNatClampNeg a2) + 4)), (7, .int x7)] [] μ := by
  intro n
  induction n with
  | zero => intro x7 μ h; rw [f_X7_delays_52] at h; cases h
  | succ n ih =>
    intro x7 μ h
    rw [f_X7_delays_52] at h
    refine j_iload C dX7_delays_52 rfl 4 rfl ?_
    refine j_aload_n C dX7_delays_54 rfl 0 rfl ?_
    refine j_getR (c := 1) C dX7_delays_55 rfl lkX7_10 is_0 rfl ?_
    refine j_getR (c := 2) C dX7_delays_58 rfl lkX7_38 (isT_0 isT1) rfl ?_
    refine j_getI C dX7_delays_61 rfl lkX7_58 (isN_0 (isT_n isT1)) rfl ?_
    refine j_icmp_ge (tgt := 108) C dX7_delays_64 rfl (by decide) (fun c1_ => ?_) (fun c1_ => ?_)
    · replace h := if_t h c1_
      refine j_lv [0, 1, 2, 3] rfl ?_
      exact (Hkx108) μ h
    · replace h := if_f h c1_
      refine j_aload C dX7_delays_67 rfl 3 rfl ?_
      refine j_iload C dX7_delays_69 rfl 2 rfl ?_
      refine j_iload C dX7_delays_71 rfl 4 rfl ?_
      refine j_iadd C dX7_delays_73 rfl ?_
      replace h := gd_e h
      obtain ⟨g2_, h⟩ := h
      replace h := gd_e h
      obtain ⟨g3_, h⟩ := h
      refine j_lald C dX7_delays_74 rfl (isS_it (isS_of g2_)) g3_ ?_
      refine j_topl (fun x4_ e5_ => ?_)
      replace h := zl_u h e5_
      refine j_lstore (lv' := [(8, .long x4_), (0, .ref 0), (1, .int a1), (4, .int a4), (6, .ref (105 + (Int32.toNatClampNeg a2) + 4)), (7, .int x7)]) C dX7_delays_75 rfl (by decide) rfl ?_
      refine j_iload C dX7_delays_77 rfl 5 rfl ?_
      refine j_iload_n C dX7_delays_79 rfl 2 rfl ?_
      refine j_icmp_eq (tgt := 102) C dX7_delays_80 rfl (by decide) (fun c6_ => ?_) (fun c6_ => ?_)
      · replace h := if_t h c6_
        refine j_lv [1, 2, 3, 4, 5] rfl ?_
        exact w_X7_delays_102 C E ih Hkx108 x7 μ h
      · replace h := if_f h c6_
        refine j_lload C dX7_delays_83 rfl 0 rfl ?_
        refine j_lconst (v := 1) C dX7_delays_85 rfl (by decide) ?_
        refine j_lcmp C dX7_delays_86 rfl ?_
        refine j_if_lt (tgt := 99) C dX7_delays_87 rfl (by decide) (fun c7_ => ?_) (fun c7_ => ?_)
        · replace h := if_t h c7_
          refine j_bipush (v := (-2)) C dX7_delays_99 rfl (by decide) ?_
          obtain rfl := Option.some.inj h
          exact j_iret E dX7_delays_101
        · replace h := if_f h c7_
          refine j_lload C dX7_delays_90 rfl 0 rfl ?_
          refine j_ldc2 (v := 9) C dX7_delays_92 rfl gwt4_152 ?_
          refine j_lcmp C dX7_delays_95 rfl ?_
          refine j_if_le (tgt := 102) C dX7_delays_96 rfl (by decide) (fun c8_ => ?_) (fun c8_ => ?_)
          · replace h := if_t h c8_
            refine j_lv [1, 2, 3, 4, 5] rfl ?_
            exact w_X7_delays_102 C E ih Hkx108 x7 μ h
          · replace h := if_f h c8_
            refine j_bipush (v := (-2)) C dX7_delays_99 rfl (by decide) ?_
            obtain rfl := Option.some.inj h
            exact j_iret E dX7_delays_101
def f_X7_delays (a1 : Int32) (a2 : Int32) (a3 : Int32) (a4 : Int32) (μ : Mem) : Option (Int32 × Mem) := Option.bind (f_X7_isRock a1 μ) fun p1_ => (if p1_.1 = 0 then some ((-1), p1_.2) else Option.bind (f_X7_refusalOfRow a2 a3 a4 (p1_.2.1 2 0) p1_.2) fun p4_ => (if p4_.1 = 0 then gd (inb a2 4) <| f_X7_delays_52 a1 a2 a3 a4 (fun μ => f_X7_delays_108 a1 a2 a3 a4 μ) zfu (nI 0) p4_.2 else some (p4_.1, p4_.2)))
set_option maxHeartbeats 4000000 in
set_option maxRecDepth 100000 in
theorem w_X7_delays {Γ : jG} (C : jC Γ 10 cX7_delays RX7 rmX7_delays) {a1 : Int32} {a2 : Int32} {a3 : Int32} {a4 : Int32} {ρ : Int32 × Mem} (E : jEI Γ cX7_delays ρ.1 ρ.2) (μ : Mem) (h : f_X7_delays a1 a2 a3 a4 μ = some ρ) : jJ Γ 10 0 [(0, .ref 0), (1, .int a1), (2, .int a2), (3, .int a3), (4, .int a4)] [] μ := by
  unfold f_X7_delays at h
  refine j_aload_n C dX7_delays_0 rfl 0 rfl ?_
  refine j_iload_n C dX7_delays_1 rfl 1 rfl ?_
  replace h := bd_e h
  obtain ⟨p1_, h2_, h⟩ := h
  refine j_cVI (av := [.int a1]) (rest := []) C dX7_delays_2 rfl (c_X7_isRock _ _ _ _ μ p1_ h2_) gvX7_72 ⟨⟨rfl, rfl⟩, Nat.le_of_ble_eq_true rfl, Nat.le_of_ble_eq_true rfl⟩ rfl is_0 rfl rfl (Nat.le_of_ble_eq_true rfl) ?_
  refine j_if_ne (tgt := 10) C dX7_delays_5 rfl (by decide) (fun c3_ => ?_) (fun c3_ => ?_)
  · replace h := if_f h c3_
    refine j_aload_n C dX7_delays_10 rfl 0 rfl ?_
    refine j_iload_n C dX7_delays_11 rfl 2 rfl ?_
    refine j_iload_n C dX7_delays_12 rfl 3 rfl ?_
    refine j_iload C dX7_delays_13 rfl 4 rfl ?_
    refine j_aload_n C dX7_delays_15 rfl 0 rfl ?_
    refine j_getR (c := 1) C dX7_delays_16 rfl lkX7_10 is_0 rfl ?_
    refine j_getR (c := 2) C dX7_delays_19 rfl lkX7_38 (isT_0 isT1) rfl ?_
    refine j_getI C dX7_delays_22 rfl lkX7_58 (isN_0 (isT_n isT1)) rfl ?_
    replace h := bd_e h
    obtain ⟨p4_, h5_, h⟩ := h
    refine j_cVI (av := [.int a2, .int a3, .int a4, .int (p1_.2.1 2 0)]) (rest := []) C dX7_delays_25 rfl (c_X7_refusalOfRow _ _ _ _ p1_.2 p4_ h5_) gvX7_255 ⟨⟨rfl, rfl⟩, Nat.le_of_ble_eq_true rfl, Nat.le_of_ble_eq_true rfl⟩ rfl is_0 rfl rfl (Nat.le_of_ble_eq_true rfl) ?_
    refine j_istore (lv' := [(5, .int p4_.1), (0, .ref 0), (1, .int a1), (2, .int a2), (3, .int a3), (4, .int a4)]) C dX7_delays_28 rfl (by decide) rfl ?_
    refine j_iload C dX7_delays_30 rfl 0 rfl ?_
    refine j_if_eq (tgt := 38) C dX7_delays_32 rfl (by decide) (fun c6_ => ?_) (fun c6_ => ?_)
    · replace h := if_t h c6_
      refine j_aload_n C dX7_delays_38 rfl 1 rfl ?_
      refine j_getR (c := 104) C dX7_delays_39 rfl lkX7_32 is_0 rfl ?_
      refine j_iload_n C dX7_delays_42 rfl 3 rfl ?_
      replace h := gd_e h
      obtain ⟨g7_, h⟩ := h
      refine j_aald C dX7_delays_43 rfl (Or.inr rfl) is_104 g7_ ?_
      refine j_getR (c := 105 + (Int32.toNatClampNeg a2) + 4) C dX7_delays_44 rfl lkX7_258 (isS_0 (isS_of g7_)) rfl ?_
      refine j_astore (lv' := [(6, .ref (105 + (Int32.toNatClampNeg a2) + 4)), (5, .int p4_.1), (0, .ref 0), (1, .int a1), (2, .int a2), (3, .int a3), (4, .int a4)]) C dX7_delays_47 rfl (by decide) rfl ?_
      refine j_iconst (v := (nI 0)) C dX7_delays_49 rfl (by decide) ?_
      refine j_istore (lv' := [(7, .int (nI 0)), (6, .ref (105 + (Int32.toNatClampNeg a2) + 4)), (5, .int p4_.1), (0, .ref 0), (1, .int a1), (2, .int a2), (3, .int a3), (4, .int a4)]) C dX7_delays_50 rfl (by decide) rfl ?_
      refine j_lv [3, 4, 7, 1, 0] rfl ?_
      exact w_X7_delays_52 C E (fun μ h => w_X7_delays_108 C E μ h) zfu (nI 0) p4_.2 h
    · replace h := if_f h c6_
      refine j_iload C dX7_delays_35 rfl 0 rfl ?_
      obtain rfl := Option.some.inj h
      exact j_iret E dX7_delays_37
  · replace h := if_t h c3_
    refine j_iconst (v := (-1)) C dX7_delays_8 rfl (by decide) ?_
    obtain rfl := Option.some.inj h
    exact j_iret E dX7_delays_9
set_option maxRecDepth 100000 in
theorem c_X7_delays (l : Launch) (D : va_G) (ad : Nat → Nat) (cl : Nat → ClassId) {a1 : Int32} {a2 : Int32} {a3 : Int32} {a4 : Int32} (μ : Mem) (ρ : Int32 × Mem) (h : f_X7_delays a1 a2 a3 a4 μ = some ρ) : CI l D ad cl yX7_delays wsX7_delays rmX7_delays [.ref 0, .int a1, .int a2, .int a3, .int a4] μ ρ.1 ρ.2 := c_ofI (cc := cX7_delays) (nL := 10) rfl (by decide) (Nat.le_of_ble_eq_true rfl) (fun Γ C E => w_X7_delays C E μ h)
/-! X7_film -/
def wsX7_film : List Cond := .code yX7_film cX7_film 6 (some .int) :: G0
def rmX7_film : Room := { frames := 2, cells := 0, slots := 0, locals := 46 }
def f_X7_film_79 (a1 : Int32) (a2 : Int32) (a3 : Int32) (μ : Mem) : Option (Int32 × Mem) := some (μ.1 2 0, μ)
set_option maxHeartbeats 4000000 in
set_option maxRecDepth 100000 in
theorem w_X7_film_79 {Γ : jG} (C : jC Γ 6 cX7_film RX7 rmX7_film) {a1 : Int32} {a2 : Int32} {a3 : Int32} {ρ : Int32 × Mem} (E : jEI Γ cX7_film ρ.1 ρ.2) (μ : Mem) (h : f_X7_film_79 a1 a2 a3 μ = some ρ) : jJ Γ 6 79 [(0, .ref 0)] [] μ := by
  unfold f_X7_film_79 at h
  refine j_aload_n C dX7_film_79 rfl 0 rfl ?_
  refine j_getR (c := 1) C dX7_film_80 rfl lkX7_10 is_0 rfl ?_
  refine j_getR (c := 2) C dX7_film_83 rfl lkX7_38 (isT_0 isT1) rfl ?_
  refine j_getI C dX7_film_86 rfl lkX7_58 (isN_0 (isT_n isT1)) rfl ?_
  obtain rfl := Option.some.inj h
  exact j_iret E dX7_film_89
def f_X7_film_30 (a1 : Int32) (a2 : Int32) (a3 : Int32) (kx79 : Mem → Option (Int32 × Mem)) : Nat → Int32 → Mem → Option (Int32 × Mem)
  | 0, _, _ => none
  | n + 1, x5, μ => (if (μ.1 2 0) ≤ x5 then kx79 μ else gd (inb a1 4) <| gd (inb x5 9) <| gd (inb (a3 + x5) 24) <| zl (sL μ (105 + (Int32.toNatClampNeg a1) + 4) (Int32.toNatClampNeg (a3 + x5)) (Int32.toInt64 (μ.1 4 (Int32.toNatClampNeg x5)))) fun μ5_ => f_X7_film_30 a1 a2 a3 kx79 n (x5 + (nI 1)) μ5_)
set_option maxHeartbeats 4000000 in
set_option maxRecDepth 100000 in
theorem w_X7_film_30 {Γ : jG} (C : jC Γ 6 cX7_film RX7 rmX7_film) {a1 : Int32} {a2 : Int32} {a3 : Int32} {kx79 : Mem → Option (Int32 × Mem)} {ρ : Int32 × Mem} (E : jEI Γ cX7_film ρ.1 ρ.2) (Hkx79 : ∀ (μ : Mem), kx79 μ = some ρ → jJ Γ 6 79 [(0, .ref 0)] [] μ) : ∀ (n : Nat) (x5 : Int32) (μ : Mem), f_X7_film_30 a1 a2 a3 kx79 n x5 μ = some ρ → jJ Γ 6 30 [(0, .ref 0), (1, .int a1), (3, .int a3), (5, .int x5)] [] μ := by
  intro n
  induction n with
  | zero => intro x5 μ h; rw [f_X7_film_30] at h; cases h
  | succ n ih =>
    intro x5 μ h
    rw [f_X7_film_30] at h
    refine j_iload C dX7_film_30 rfl 3 rfl ?_
    refine j_aload_n C dX7_film_32 rfl 0 rfl ?_
    refine j_getR (c := 1) C dX7_film_33 rfl lkX7_10 is_0 rfl ?_
    refine j_getR (c := 2) C dX7_film_36 rfl lkX7_38 (isT_0 isT1) rfl ?_
    refine j_getI C dX7_film_39 rfl lkX7_58 (isN_0 (isT_n isT1)) rfl ?_
    refine j_icmp_ge (tgt := 79) C dX7_film_42 rfl (by decide) (fun c1_ => ?_) (fun c1_ => ?_)
    · replace h := if_t h c1_
      refine j_lv [0] rfl ?_
      exact (Hkx79) μ h
    · replace h := if_f h c1_
      refine j_aload_n C dX7_film_45 rfl 0 rfl ?_
      refine j_getR (c := 104) C dX7_film_46 rfl lkX7_32 is_0 rfl ?_
      refine j_iload_n C dX7_film_49 rfl 1 rfl ?_
      replace h := gd_e h
      obtain ⟨g2_, h⟩ := h
      refine j_aald C dX7_film_50 rfl (Or.inr rfl) is_104 g2_ ?_
      refine j_getR (c := 105 + (Int32.toNatClampNeg a1) + 4) C dX7_film_51 rfl lkX7_258 (isS_0 (isS_of g2_)) rfl ?_
      refine j_iload_n C dX7_film_54 rfl 2 rfl ?_
      refine j_iload C dX7_film_55 rfl 3 rfl ?_
      refine j_iadd C dX7_film_57 rfl ?_
      refine j_aload_n C dX7_film_58 rfl 0 rfl ?_
      refine j_getR (c := 1) C dX7_film_59 rfl lkX7_10 is_0 rfl ?_
      refine j_getR (c := 2) C dX7_film_62 rfl lkX7_38 (isT_0 isT1) rfl ?_
      refine j_getR (c := 4) C dX7_film_65 rfl lkX7_105 (isN_0 (isT_n isT1)) rfl ?_
      refine j_iload C dX7_film_68 rfl 3 rfl ?_
      replace h := gd_e h
      obtain ⟨g3_, h⟩ := h
      refine j_iald C dX7_film_70 rfl (isN_a2 (isT_n isT1)) g3_ ?_
      refine j_i2l C dX7_film_71 rfl ?_
      replace h := gd_e h
      obtain ⟨g4_, h⟩ := h
      refine j_last C dX7_film_72 rfl (isS_it (isS_of g2_)) g4_ ?_
      refine j_mem (fun μ5_ e6_ => ?_)
      replace h := zl_u h e6_
      refine j_iinc (d := (nI 1)) (v := x5 + (nI 1)) (lv' := [(5, .int (x5 + (nI 1))), (0, .ref 0), (1, .int a1), (3, .int a3)]) C dX7_film_73 rfl (by decide) 3 rfl (by decide) rfl rfl ?_
      refine j_goto (pc' := 30) C dX7_film_76 (by decide) ?_
      refine j_lv [1, 2, 3, 0] rfl ?_
      exact (ih) (x5 + (nI 1)) μ5_ h
def f_X7_film (a1 : Int32) (a2 : Int32) (a3 : Int32) (μ : Mem) : Option (Int32 × Mem) := Option.bind (f_X7_refusalOfRow a1 a2 a3 (μ.1 2 0) μ) fun p1_ => (if p1_.1 = 0 then f_X7_film_30 a1 a2 a3 (fun μ => f_X7_film_79 a1 a2 a3 μ) zfu (nI 0) p1_.2 else some (p1_.1, p1_.2))
set_option maxHeartbeats 4000000 in
set_option maxRecDepth 100000 in
theorem w_X7_film {Γ : jG} (C : jC Γ 6 cX7_film RX7 rmX7_film) {a1 : Int32} {a2 : Int32} {a3 : Int32} {ρ : Int32 × Mem} (E : jEI Γ cX7_film ρ.1 ρ.2) (μ : Mem) (h : f_X7_film a1 a2 a3 μ = some ρ) : jJ Γ 6 0 [(0, .ref 0), (1, .int a1), (2, .int a2), (3, .int a3)] [] μ := by
  unfold f_X7_film at h
  refine j_aload_n C dX7_film_0 rfl 0 rfl ?_
  refine j_iload_n C dX7_film_1 rfl 1 rfl ?_
  refine j_iload_n C dX7_film_2 rfl 2 rfl ?_
  refine j_iload_n C dX7_film_3 rfl 3 rfl ?_
  refine j_aload_n C dX7_film_4 rfl 0 rfl ?_
  refine j_getR (c := 1) C dX7_film_5 rfl lkX7_10 is_0 rfl ?_
  refine j_getR (c := 2) C dX7_film_8 rfl lkX7_38 (isT_0 isT1) rfl ?_
  refine j_getI C dX7_film_11 rfl lkX7_58 (isN_0 (isT_n isT1)) rfl ?_
  replace h := bd_e h
  obtain ⟨p1_, h2_, h⟩ := h
  refine j_cVI (av := [.int a1, .int a2, .int a3, .int (μ.1 2 0)]) (rest := []) C dX7_film_14 rfl (c_X7_refusalOfRow _ _ _ _ μ p1_ h2_) gvX7_255 ⟨⟨rfl, rfl⟩, Nat.le_of_ble_eq_true rfl, Nat.le_of_ble_eq_true rfl⟩ rfl is_0 rfl rfl (Nat.le_of_ble_eq_true rfl) ?_
  refine j_istore (lv' := [(4, .int p1_.1), (0, .ref 0), (1, .int a1), (2, .int a2), (3, .int a3)]) C dX7_film_17 rfl (by decide) rfl ?_
  refine j_iload C dX7_film_19 rfl 0 rfl ?_
  refine j_if_eq (tgt := 27) C dX7_film_21 rfl (by decide) (fun c3_ => ?_) (fun c3_ => ?_)
  · replace h := if_t h c3_
    refine j_iconst (v := (nI 0)) C dX7_film_27 rfl (by decide) ?_
    refine j_istore (lv' := [(5, .int (nI 0)), (4, .int p1_.1), (0, .ref 0), (1, .int a1), (2, .int a2), (3, .int a3)]) C dX7_film_28 rfl (by decide) rfl ?_
    refine j_lv [2, 3, 5, 0] rfl ?_
    exact w_X7_film_30 C E (fun μ h => w_X7_film_79 C E μ h) zfu (nI 0) p1_.2 h
  · replace h := if_f h c3_
    refine j_iload C dX7_film_24 rfl 0 rfl ?_
    obtain rfl := Option.some.inj h
    exact j_iret E dX7_film_26
set_option maxRecDepth 100000 in
theorem c_X7_film (l : Launch) (D : va_G) (ad : Nat → Nat) (cl : Nat → ClassId) {a1 : Int32} {a2 : Int32} {a3 : Int32} (μ : Mem) (ρ : Int32 × Mem) (h : f_X7_film a1 a2 a3 μ = some ρ) : CI l D ad cl yX7_film wsX7_film rmX7_film [.ref 0, .int a1, .int a2, .int a3] μ ρ.1 ρ.2 := c_ofI (cc := cX7_film) (nL := 6) rfl (by decide) (Nat.le_of_ble_eq_true rfl) (fun Γ C E => w_X7_film C E μ h)
theorem gvX7_264 : jm_gv RX7 264 RX6 yX6_shownFromNow wsX6_shownFromNow 3 2 := ⟨_, _, gi_V gwt4_161 gwt4_162 gwt4_163 gwt1_7 gwt4_164, rfl, by decide +kernel⟩
/-! X7_seen -/
def wsX7_seen : List Cond := .code yX7_seen cX7_seen 6 (some .int) :: G0
def rmX7_seen : Room := { frames := 6, cells := 0, slots := 0, locals := 147 }
def f_X7_seen (a1 : Int32) (a2 : Int32) (a3 : Int32) (μ : Mem) : Option (Int32 × Mem) := Option.bind (f_X7_refusalOfRow a1 a2 a3 (μ.1 2 0) μ) fun p1_ => (if p1_.1 = 0 then gd (inb a1 4) <| Option.bind (f_X6_shownFromNow (105 + (Int32.toNatClampNeg a1) + 4) a3 p1_.2) fun p5_ => (if p5_.1 = (nI 61) then some ((-4), p5_.2) else some (p5_.1, p5_.2)) else some (p1_.1, p1_.2))
set_option maxHeartbeats 4000000 in
set_option maxRecDepth 100000 in
theorem w_X7_seen {Γ : jG} (C : jC Γ 6 cX7_seen RX7 rmX7_seen) {a1 : Int32} {a2 : Int32} {a3 : Int32} {ρ : Int32 × Mem} (E : jEI Γ cX7_seen ρ.1 ρ.2) (μ : Mem) (h : f_X7_seen a1 a2 a3 μ = some ρ) : jJ Γ 6 0 [(0, .ref 0), (1, .int a1), (2, .int a2), (3, .int a3)] [] μ := by
  unfold f_X7_seen at h
  refine j_aload_n C dX7_seen_0 rfl 0 rfl ?_
  refine j_iload_n C dX7_seen_1 rfl 1 rfl ?_
  refine j_iload_n C dX7_seen_2 rfl 2 rfl ?_
  refine j_iload_n C dX7_seen_3 rfl 3 rfl ?_
  refine j_aload_n C dX7_seen_4 rfl 0 rfl ?_
  refine j_getR (c := 1) C dX7_seen_5 rfl lkX7_10 is_0 rfl ?_
  refine j_getR (c := 2) C dX7_seen_8 rfl lkX7_38 (isT_0 isT1) rfl ?_
  refine j_getI C dX7_seen_11 rfl lkX7_58 (isN_0 (isT_n isT1)) rfl ?_
  replace h := bd_e h
  obtain ⟨p1_, h2_, h⟩ := h
  refine j_cVI (av := [.int a1, .int a2, .int a3, .int (μ.1 2 0)]) (rest := []) C dX7_seen_14 rfl (c_X7_refusalOfRow _ _ _ _ μ p1_ h2_) gvX7_255 ⟨⟨rfl, rfl⟩, Nat.le_of_ble_eq_true rfl, Nat.le_of_ble_eq_true rfl⟩ rfl is_0 rfl rfl (Nat.le_of_ble_eq_true rfl) ?_
  refine j_istore (lv' := [(4, .int p1_.1), (0, .ref 0), (1, .int a1), (2, .int a2), (3, .int a3)]) C dX7_seen_17 rfl (by decide) rfl ?_
  refine j_iload C dX7_seen_19 rfl 0 rfl ?_
  refine j_if_eq (tgt := 27) C dX7_seen_21 rfl (by decide) (fun c3_ => ?_) (fun c3_ => ?_)
  · replace h := if_t h c3_
    refine j_aload_n C dX7_seen_27 rfl 1 rfl ?_
    refine j_getR (c := 65) C dX7_seen_28 rfl lkX7_49 is_0 rfl ?_
    refine j_aload_n C dX7_seen_31 rfl 1 rfl ?_
    refine j_getR (c := 104) C dX7_seen_32 rfl lkX7_32 is_0 rfl ?_
    refine j_iload_n C dX7_seen_35 rfl 2 rfl ?_
    replace h := gd_e h
    obtain ⟨g4_, h⟩ := h
    refine j_aald C dX7_seen_36 rfl (Or.inr rfl) is_104 g4_ ?_
    refine j_getR (c := 105 + (Int32.toNatClampNeg a1) + 4) C dX7_seen_37 rfl lkX7_258 (isS_0 (isS_of g4_)) rfl ?_
    refine j_iload_n C dX7_seen_40 rfl 4 rfl ?_
    replace h := bd_e h
    obtain ⟨p5_, h6_, h⟩ := h
    refine j_cVI (av := [.ref (105 + (Int32.toNatClampNeg a1) + 4), .int a3]) (rest := []) C dX7_seen_41 rfl (c_X6_shownFromNow _ _ _ _ (isS_items (isS_of g4_)) p1_.2 p5_ h6_) gvX7_264 ⟨⟨rfl, rfl⟩, Nat.le_of_ble_eq_true rfl, Nat.le_of_ble_eq_true rfl⟩ rfl is_65 rfl rfl (Nat.le_of_ble_eq_true rfl) ?_
    refine j_istore (lv' := [(5, .int p5_.1), (4, .int p1_.1), (0, .ref 0), (1, .int a1), (2, .int a2), (3, .int a3)]) C dX7_seen_44 rfl (by decide) rfl ?_
    refine j_iload C dX7_seen_46 rfl 0 rfl ?_
    refine j_bipush (v := (nI 61)) C dX7_seen_48 rfl (by decide) ?_
    refine j_icmp_ne (tgt := 58) C dX7_seen_50 rfl (by decide) (fun c7_ => ?_) (fun c7_ => ?_)
    · replace h := if_f h c7_
      refine j_iload C dX7_seen_58 rfl 0 rfl ?_
      obtain rfl := Option.some.inj h
      exact j_iret E dX7_seen_60
    · replace h := if_t h c7_
      refine j_bipush (v := (-4)) C dX7_seen_53 rfl (by decide) ?_
      refine j_goto (pc' := 60) C dX7_seen_55 (by decide) ?_
      obtain rfl := Option.some.inj h
      exact j_iret E dX7_seen_60
  · replace h := if_f h c3_
    refine j_iload C dX7_seen_24 rfl 0 rfl ?_
    obtain rfl := Option.some.inj h
    exact j_iret E dX7_seen_26
set_option maxRecDepth 100000 in
theorem c_X7_seen (l : Launch) (D : va_G) (ad : Nat → Nat) (cl : Nat → ClassId) {a1 : Int32} {a2 : Int32} {a3 : Int32} (μ : Mem) (ρ : Int32 × Mem) (h : f_X7_seen a1 a2 a3 μ = some ρ) : CI l D ad cl yX7_seen wsX7_seen rmX7_seen [.ref 0, .int a1, .int a2, .int a3] μ ρ.1 ρ.2 := c_ofI (cc := cX7_seen) (nL := 6) rfl (by decide) (Nat.le_of_ble_eq_true rfl) (fun Γ C E => w_X7_seen C E μ h)
theorem gvX7_268 : jm_gv RX7 268 RX3 yX3_renew wsX3_renew 3 2 := ⟨_, _, gi_V gwt4_169 gwt4_170 gwt4_171 gwt1_8 gwt4_172, rfl, by decide +kernel⟩
/-! X7_sheet -/
def wsX7_sheet : List Cond := .code yX7_sheet cX7_sheet 4 (some .int) :: G0
def rmX7_sheet : Room := { frames := 2, cells := 0, slots := 0, locals := 46 }
def f_X7_sheet (a1 : Int32) (a2 : Int32) (a3 : Int32) (μ : Mem) : Option (Int32 × Mem) := Option.bind (f_X7_within a1 (nI 0) (nI 3) μ) fun p1_ => (if p1_.1 = 0 then some ((-1), p1_.2) else Option.bind (f_X7_within a2 (nI 0) (nI 3) p1_.2) fun p4_ => (if p4_.1 = 0 then some ((-1), p4_.2) else (if a3 ≤ (nI 24) then (if 0 ≤ a3 then gd (inb a1 4) <| Option.bind (f_X3_renew (105 + (Int32.toNatClampNeg a1)) a2 a3 p4_.2) fun p10_ => some (a3, p10_) else some ((-14), p4_.2)) else some ((-1), p4_.2))))
set_option maxHeartbeats 4000000 in
set_option maxRecDepth 100000 in
theorem w_X7_sheet {Γ : jG} (C : jC Γ 4 cX7_sheet RX7 rmX7_sheet) {a1 : Int32} {a2 : Int32} {a3 : Int32} {ρ : Int32 × Mem} (E : jEI Γ cX7_sheet ρ.1 ρ.2) (μ : Mem) (h : f_X7_sheet a1 a2 a3 μ = some ρ) : jJ Γ 4 0 [(0, .ref 0), (1, .int a1), (2, .int a2), (3, .int a3)] [] μ := by
  unfold f_X7_sheet at h
  refine j_iload_n C dX7_sheet_0 rfl 1 rfl ?_
  refine j_iconst (v := (nI 0)) C dX7_sheet_1 rfl (by decide) ?_
  refine j_iconst (v := (nI 3)) C dX7_sheet_2 rfl (by decide) ?_
  replace h := bd_e h
  obtain ⟨p1_, h2_, h⟩ := h
  refine j_cSI (av := [.int a1, .int (nI 0), .int (nI 3)]) (rest := []) C dX7_sheet_3 rfl (c_X7_within _ _ _ _ μ p1_ h2_) gsX7_54 ⟨⟨rfl, rfl⟩, Nat.le_of_ble_eq_true rfl, Nat.le_of_ble_eq_true rfl⟩ rfl rfl (Nat.le_of_ble_eq_true rfl) ?_
  refine j_if_eq (tgt := 24) C dX7_sheet_6 rfl (by decide) (fun c3_ => ?_) (fun c3_ => ?_)
  · replace h := if_t h c3_
    refine j_iconst (v := (-1)) C dX7_sheet_24 rfl (by decide) ?_
    obtain rfl := Option.some.inj h
    exact j_iret E dX7_sheet_25
  · replace h := if_f h c3_
    refine j_iload_n C dX7_sheet_9 rfl 2 rfl ?_
    refine j_iconst (v := (nI 0)) C dX7_sheet_10 rfl (by decide) ?_
    refine j_iconst (v := (nI 3)) C dX7_sheet_11 rfl (by decide) ?_
    replace h := bd_e h
    obtain ⟨p4_, h5_, h⟩ := h
    refine j_cSI (av := [.int a2, .int (nI 0), .int (nI 3)]) (rest := []) C dX7_sheet_12 rfl (c_X7_within _ _ _ _ p1_.2 p4_ h5_) gsX7_54 ⟨⟨rfl, rfl⟩, Nat.le_of_ble_eq_true rfl, Nat.le_of_ble_eq_true rfl⟩ rfl rfl (Nat.le_of_ble_eq_true rfl) ?_
    refine j_if_eq (tgt := 24) C dX7_sheet_15 rfl (by decide) (fun c6_ => ?_) (fun c6_ => ?_)
    · replace h := if_t h c6_
      refine j_iconst (v := (-1)) C dX7_sheet_24 rfl (by decide) ?_
      obtain rfl := Option.some.inj h
      exact j_iret E dX7_sheet_25
    · replace h := if_f h c6_
      refine j_iload_n C dX7_sheet_18 rfl 3 rfl ?_
      refine j_bipush (v := (nI 24)) C dX7_sheet_19 rfl (by decide) ?_
      refine j_icmp_le (tgt := 26) C dX7_sheet_21 rfl (by decide) (fun c7_ => ?_) (fun c7_ => ?_)
      · replace h := if_t h c7_
        refine j_iload_n C dX7_sheet_26 rfl 3 rfl ?_
        refine j_if_ge (tgt := 33) C dX7_sheet_27 rfl (by decide) (fun c8_ => ?_) (fun c8_ => ?_)
        · replace h := if_t h c8_
          refine j_aload_n C dX7_sheet_33 rfl 0 rfl ?_
          refine j_getR (c := 104) C dX7_sheet_34 rfl lkX7_32 is_0 rfl ?_
          refine j_iload_n C dX7_sheet_37 rfl 1 rfl ?_
          replace h := gd_e h
          obtain ⟨g9_, h⟩ := h
          refine j_aald C dX7_sheet_38 rfl (Or.inr rfl) is_104 g9_ ?_
          refine j_iload_n C dX7_sheet_39 rfl 2 rfl ?_
          refine j_iload_n C dX7_sheet_40 rfl 3 rfl ?_
          replace h := bd_e h
          obtain ⟨p10_, h11_, h⟩ := h
          refine j_cVV (av := [.int a2, .int a3]) (rest := []) C dX7_sheet_41 rfl (c_X3_renew _ _ _ _ (isS_of g9_) p4_.2 p10_ h11_) gvX7_268 ⟨⟨rfl, rfl⟩, Nat.le_of_ble_eq_true rfl, Nat.le_of_ble_eq_true rfl⟩ rfl (isS_0 (isS_of g9_)) rfl rfl (Nat.le_of_ble_eq_true rfl) ?_
          refine j_iload_n C dX7_sheet_44 rfl 3 rfl ?_
          obtain rfl := Option.some.inj h
          exact j_iret E dX7_sheet_45
        · replace h := if_f h c8_
          refine j_bipush (v := (-14)) C dX7_sheet_30 rfl (by decide) ?_
          obtain rfl := Option.some.inj h
          exact j_iret E dX7_sheet_32
      · replace h := if_f h c7_
        refine j_iconst (v := (-1)) C dX7_sheet_24 rfl (by decide) ?_
        obtain rfl := Option.some.inj h
        exact j_iret E dX7_sheet_25
set_option maxRecDepth 100000 in
theorem c_X7_sheet (l : Launch) (D : va_G) (ad : Nat → Nat) (cl : Nat → ClassId) {a1 : Int32} {a2 : Int32} {a3 : Int32} (μ : Mem) (ρ : Int32 × Mem) (h : f_X7_sheet a1 a2 a3 μ = some ρ) : CI l D ad cl yX7_sheet wsX7_sheet rmX7_sheet [.ref 0, .int a1, .int a2, .int a3] μ ρ.1 ρ.2 := c_ofI (cc := cX7_sheet) (nL := 4) rfl (by decide) (Nat.le_of_ble_eq_true rfl) (fun Γ C E => w_X7_sheet C E μ h)
/-! X7_drop -/
def wsX7_drop : List Cond := .code yX7_drop cX7_drop 2 (some .int) :: G0
def rmX7_drop : Room := { frames := 1, cells := 0, slots := 0, locals := 22 }
def f_X7_drop (a1 : Int32) (μ : Mem) : Option (Int32 × Mem) := Option.bind (f_X7_within a1 (nI 0) (nI 3) μ) fun p1_ => (if p1_.1 = 0 then some ((-1), p1_.2) else gd (inb a1 4) <| (if (p1_.2.1 (105 + (Int32.toNatClampNeg a1)) 0) = 0 then some ((-11), p1_.2) else zl (sI p1_.2 (105 + (Int32.toNatClampNeg a1)) 0 (nI 0)) fun μ6_ => some (μ6_.1 (105 + (Int32.toNatClampNeg a1)) 2, μ6_)))
set_option maxHeartbeats 4000000 in
set_option maxRecDepth 100000 in
theorem w_X7_drop {Γ : jG} (C : jC Γ 2 cX7_drop RX7 rmX7_drop) {a1 : Int32} {ρ : Int32 × Mem} (E : jEI Γ cX7_drop ρ.1 ρ.2) (μ : Mem) (h : f_X7_drop a1 μ = some ρ) : jJ Γ 2 0 [(0, .ref 0), (1, .int a1)] [] μ := by
  unfold f_X7_drop at h
  refine j_iload_n C dX7_drop_0 rfl 1 rfl ?_
  refine j_iconst (v := (nI 0)) C dX7_drop_1 rfl (by decide) ?_
  refine j_iconst (v := (nI 3)) C dX7_drop_2 rfl (by decide) ?_
  replace h := bd_e h
  obtain ⟨p1_, h2_, h⟩ := h
  refine j_cSI (av := [.int a1, .int (nI 0), .int (nI 3)]) (rest := []) C dX7_drop_3 rfl (c_X7_within _ _ _ _ μ p1_ h2_) gsX7_54 ⟨⟨rfl, rfl⟩, Nat.le_of_ble_eq_true rfl, Nat.le_of_ble_eq_true rfl⟩ rfl rfl (Nat.le_of_ble_eq_true rfl) ?_
  refine j_if_ne (tgt := 11) C dX7_drop_6 rfl (by decide) (fun c3_ => ?_) (fun c3_ => ?_)
  · replace h := if_f h c3_
    refine j_aload_n C dX7_drop_11 rfl 0 rfl ?_
    refine j_getR (c := 104) C dX7_drop_12 rfl lkX7_32 is_0 rfl ?_
    refine j_iload_n C dX7_drop_15 rfl 1 rfl ?_
    replace h := gd_e h
    obtain ⟨g4_, h⟩ := h
    refine j_aald C dX7_drop_16 rfl (Or.inr rfl) is_104 g4_ ?_
    refine j_getI C dX7_drop_17 rfl lkX7_272 (isS_0 (isS_of g4_)) rfl ?_
    refine j_if_ne (tgt := 26) C dX7_drop_20 rfl (by decide) (fun c5_ => ?_) (fun c5_ => ?_)
    · replace h := if_f h c5_
      refine j_aload_n C dX7_drop_26 rfl 0 rfl ?_
      refine j_getR (c := 104) C dX7_drop_27 rfl lkX7_32 is_0 rfl ?_
      refine j_iload_n C dX7_drop_30 rfl 1 rfl ?_
      refine j_aald C dX7_drop_31 rfl (Or.inr rfl) is_104 g4_ ?_
      refine j_iconst (v := (nI 0)) C dX7_drop_32 rfl (by decide) ?_
      refine j_putZ C dX7_drop_33 rfl lpX7_272 (isS_0 (isS_of g4_)) rfl (by decide) ?_
      refine j_mem (fun μ6_ e7_ => ?_)
      replace h := zl_u h e7_
      refine j_aload_n C dX7_drop_36 rfl 0 rfl ?_
      refine j_getR (c := 104) C dX7_drop_37 rfl lkX7_32 is_0 rfl ?_
      refine j_iload_n C dX7_drop_40 rfl 1 rfl ?_
      refine j_aald C dX7_drop_41 rfl (Or.inr rfl) is_104 g4_ ?_
      refine j_getI C dX7_drop_42 rfl lkX7_275 (isS_0 (isS_of g4_)) rfl ?_
      obtain rfl := Option.some.inj h
      exact j_iret E dX7_drop_45
    · replace h := if_t h c5_
      refine j_bipush (v := (-11)) C dX7_drop_23 rfl (by decide) ?_
      obtain rfl := Option.some.inj h
      exact j_iret E dX7_drop_25
  · replace h := if_t h c3_
    refine j_iconst (v := (-1)) C dX7_drop_9 rfl (by decide) ?_
    obtain rfl := Option.some.inj h
    exact j_iret E dX7_drop_10
set_option maxRecDepth 100000 in
theorem c_X7_drop (l : Launch) (D : va_G) (ad : Nat → Nat) (cl : Nat → ClassId) {a1 : Int32} (μ : Mem) (ρ : Int32 × Mem) (h : f_X7_drop a1 μ = some ρ) : CI l D ad cl yX7_drop wsX7_drop rmX7_drop [.ref 0, .int a1] μ ρ.1 ρ.2 := c_ofI (cc := cX7_drop) (nL := 2) rfl (by decide) (Nat.le_of_ble_eq_true rfl) (fun Γ C E => w_X7_drop C E μ h)
theorem gvX7_276 : jm_gv RX7 276 RX3 yX3_put wsX3_put 4 2 := ⟨_, _, gi_V gwt4_184 gwt4_185 gwt4_186 gwt1_8 gwt4_187, rfl, by decide +kernel⟩
/-! X7_item -/
def wsX7_item : List Cond := .code yX7_item cX7_item 7 (some .int) :: G0
def rmX7_item : Room := { frames := 2, cells := 0, slots := 0, locals := 46 }
def f_X7_item (a1 : Int32) (a2 : Int32) (a3 : Int32) (a4 : Int64) (μ : Mem) : Option (Int32 × Mem) := Option.bind (f_X7_refusalOfRow a1 a2 a3 (nI 1) μ) fun p1_ => (if p1_.1 = 0 then gd (inb a1 4) <| Option.bind (f_X3_put (105 + (Int32.toNatClampNeg a1)) a3 a4 p1_.2) fun p5_ => some ((nI 1), p5_) else some (p1_.1, p1_.2))
set_option maxHeartbeats 4000000 in
set_option maxRecDepth 100000 in
theorem w_X7_item {Γ : jG} (C : jC Γ 7 cX7_item RX7 rmX7_item) {a1 : Int32} {a2 : Int32} {a3 : Int32} {a4 : Int64} {ρ : Int32 × Mem} (E : jEI Γ cX7_item ρ.1 ρ.2) (μ : Mem) (h : f_X7_item a1 a2 a3 a4 μ = some ρ) : jJ Γ 7 0 [(0, .ref 0), (1, .int a1), (2, .int a2), (3, .int a3), (4, .long a4)] [] μ := by
  unfold f_X7_item at h
  refine j_aload_n C dX7_item_0 rfl 0 rfl ?_
  refine j_iload_n C dX7_item_1 rfl 1 rfl ?_
  refine j_iload_n C dX7_item_2 rfl 2 rfl ?_
  refine j_iload_n C dX7_item_3 rfl 3 rfl ?_
  refine j_iconst (v := (nI 1)) C dX7_item_4 rfl (by decide) ?_
  replace h := bd_e h
  obtain ⟨p1_, h2_, h⟩ := h
  refine j_cVI (av := [.int a1, .int a2, .int a3, .int (nI 1)]) (rest := []) C dX7_item_5 rfl (c_X7_refusalOfRow _ _ _ _ μ p1_ h2_) gvX7_255 ⟨⟨rfl, rfl⟩, Nat.le_of_ble_eq_true rfl, Nat.le_of_ble_eq_true rfl⟩ rfl is_0 rfl rfl (Nat.le_of_ble_eq_true rfl) ?_
  refine j_istore (lv' := [(6, .int p1_.1), (0, .ref 0), (1, .int a1), (2, .int a2), (3, .int a3), (4, .long a4)]) C dX7_item_8 rfl (by decide) rfl ?_
  refine j_iload C dX7_item_10 rfl 0 rfl ?_
  refine j_if_eq (tgt := 18) C dX7_item_12 rfl (by decide) (fun c3_ => ?_) (fun c3_ => ?_)
  · replace h := if_t h c3_
    refine j_aload_n C dX7_item_18 rfl 1 rfl ?_
    refine j_getR (c := 104) C dX7_item_19 rfl lkX7_32 is_0 rfl ?_
    refine j_iload_n C dX7_item_22 rfl 2 rfl ?_
    replace h := gd_e h
    obtain ⟨g4_, h⟩ := h
    refine j_aald C dX7_item_23 rfl (Or.inr rfl) is_104 g4_ ?_
    refine j_iload_n C dX7_item_24 rfl 4 rfl ?_
    refine j_lload C dX7_item_25 rfl 5 rfl ?_
    replace h := bd_e h
    obtain ⟨p5_, h6_, h⟩ := h
    refine j_cVV (av := [.int a3, .long a4]) (rest := []) C dX7_item_27 rfl (c_X3_put _ _ _ _ (isS_of g4_) p1_.2 p5_ h6_) gvX7_276 ⟨⟨rfl, rfl⟩, Nat.le_of_ble_eq_true rfl, Nat.le_of_ble_eq_true rfl⟩ rfl (isS_0 (isS_of g4_)) rfl rfl (Nat.le_of_ble_eq_true rfl) ?_
    refine j_iconst (v := (nI 1)) C dX7_item_30 rfl (by decide) ?_
    obtain rfl := Option.some.inj h
    exact j_iret E dX7_item_31
  · replace h := if_f h c3_
    refine j_iload C dX7_item_15 rfl 0 rfl ?_
    obtain rfl := Option.some.inj h
    exact j_iret E dX7_item_17
set_option maxRecDepth 100000 in
theorem c_X7_item (l : Launch) (D : va_G) (ad : Nat → Nat) (cl : Nat → ClassId) {a1 : Int32} {a2 : Int32} {a3 : Int32} {a4 : Int64} (μ : Mem) (ρ : Int32 × Mem) (h : f_X7_item a1 a2 a3 a4 μ = some ρ) : CI l D ad cl yX7_item wsX7_item rmX7_item [.ref 0, .int a1, .int a2, .int a3, .long a4] μ ρ.1 ρ.2 := c_ofI (cc := cX7_item) (nL := 7) rfl (by decide) (Nat.le_of_ble_eq_true rfl) (fun Γ C E => w_X7_item C E μ h)
/-! X7_copy -/
def wsX7_copy : List Cond := .code yX7_copy cX7_copy 8 (some .int) :: G0
def rmX7_copy : Room := { frames := 1, cells := 0, slots := 0, locals := 40 }
def f_X7_copy (a1 : Int32) (a2 : Int32) (a3 : Int32) (a4 : Int32) (a5 : Int32) (μ : Mem) : Option (Int32 × Mem) := Option.bind (f_X7_within a1 (nI 0) (nI 3) μ) fun p1_ => (if p1_.1 = 0 then some ((-1), p1_.2) else Option.bind (f_X7_within a3 (nI 0) (nI 3) p1_.2) fun p4_ => (if p4_.1 = 0 then some ((-1), p4_.2) else gd (inb a1 4) <| gd (inb a3 4) <| (if (p4_.2.1 (105 + (Int32.toNatClampNeg a1)) 0) = 0 then some ((-11), p4_.2) else (if (p4_.2.1 (105 + (Int32.toNatClampNeg a3)) 0) = 0 then some ((-11), p4_.2) else (if (p4_.2.1 (105 + (Int32.toNatClampNeg a1)) 1) = (p4_.2.1 (105 + (Int32.toNatClampNeg a3)) 1) then Option.bind (f_X3_hasRow (105 + (Int32.toNatClampNeg a1)) a2 a5 p4_.2) fun p12_ => (if p12_.1 = 0 then some ((-13), p12_.2) else Option.bind (f_X3_hasRow (105 + (Int32.toNatClampNeg a3)) a4 a5 p12_.2) fun p15_ => (if p15_.1 = 0 then some ((-13), p15_.2) else gd (cpB a2 a4 a5 24 24) <| zl (sB p15_.2 (105 + (Int32.toNatClampNeg a3) + 4) (va_cpy (p15_.2.2 (105 + (Int32.toNatClampNeg a1) + 4)) (p15_.2.2 (105 + (Int32.toNatClampNeg a3) + 4)) (Int32.toNatClampNeg a2) (Int32.toNatClampNeg a4) (Int32.toNatClampNeg a5))) fun μ19_ => some (a5, μ19_))) else some ((-12), p4_.2))))))
set_option maxHeartbeats 4000000 in
set_option maxRecDepth 100000 in
theorem w_X7_copy {Γ : jG} (C : jC Γ 8 cX7_copy RX7 rmX7_copy) {a1 : Int32} {a2 : Int32} {a3 : Int32} {a4 : Int32} {a5 : Int32} {ρ : Int32 × Mem} (E : jEI Γ cX7_copy ρ.1 ρ.2) (μ : Mem) (h : f_X7_copy a1 a2 a3 a4 a5 μ = some ρ) : jJ Γ 8 0 [(0, .ref 0), (1, .int a1), (2, .int a2), (3, .int a3), (4, .int a4), (5, .int a5)] [] μ := by
  unfold f_X7_copy at h
  refine j_iload_n C dX7_copy_0 rfl 1 rfl ?_
  refine j_iconst (v := (nI 0)) C dX7_copy_1 rfl (by decide) ?_
  refine j_iconst (v := (nI 3)) C dX7_copy_2 rfl (by decide) ?_
  replace h := bd_e h
  obtain ⟨p1_, h2_, h⟩ := h
  refine j_cSI (av := [.int a1, .int (nI 0), .int (nI 3)]) (rest := []) C dX7_copy_3 rfl (c_X7_within _ _ _ _ μ p1_ h2_) gsX7_54 ⟨⟨rfl, rfl⟩, Nat.le_of_ble_eq_true rfl, Nat.le_of_ble_eq_true rfl⟩ rfl rfl (Nat.le_of_ble_eq_true rfl) ?_
  refine j_if_eq (tgt := 18) C dX7_copy_6 rfl (by decide) (fun c3_ => ?_) (fun c3_ => ?_)
  · replace h := if_t h c3_
    refine j_iconst (v := (-1)) C dX7_copy_18 rfl (by decide) ?_
    obtain rfl := Option.some.inj h
    exact j_iret E dX7_copy_19
  · replace h := if_f h c3_
    refine j_iload_n C dX7_copy_9 rfl 3 rfl ?_
    refine j_iconst (v := (nI 0)) C dX7_copy_10 rfl (by decide) ?_
    refine j_iconst (v := (nI 3)) C dX7_copy_11 rfl (by decide) ?_
    replace h := bd_e h
    obtain ⟨p4_, h5_, h⟩ := h
    refine j_cSI (av := [.int a3, .int (nI 0), .int (nI 3)]) (rest := []) C dX7_copy_12 rfl (c_X7_within _ _ _ _ p1_.2 p4_ h5_) gsX7_54 ⟨⟨rfl, rfl⟩, Nat.le_of_ble_eq_true rfl, Nat.le_of_ble_eq_true rfl⟩ rfl rfl (Nat.le_of_ble_eq_true rfl) ?_
    refine j_if_ne (tgt := 20) C dX7_copy_15 rfl (by decide) (fun c6_ => ?_) (fun c6_ => ?_)
    · replace h := if_f h c6_
      refine j_aload_n C dX7_copy_20 rfl 0 rfl ?_
      refine j_getR (c := 104) C dX7_copy_21 rfl lkX7_32 is_0 rfl ?_
      refine j_iload_n C dX7_copy_24 rfl 1 rfl ?_
      replace h := gd_e h
      obtain ⟨g7_, h⟩ := h
      refine j_aald C dX7_copy_25 rfl (Or.inr rfl) is_104 g7_ ?_
      refine j_astore (lv' := [(6, .ref (105 + (Int32.toNatClampNeg a1))), (0, .ref 0), (1, .int a1), (2, .int a2), (3, .int a3), (4, .int a4), (5, .int a5)]) C dX7_copy_26 rfl (by decide) rfl ?_
      refine j_aload_n C dX7_copy_28 rfl 1 rfl ?_
      refine j_getR (c := 104) C dX7_copy_29 rfl lkX7_32 is_0 rfl ?_
      refine j_iload_n C dX7_copy_32 rfl 4 rfl ?_
      replace h := gd_e h
      obtain ⟨g8_, h⟩ := h
      refine j_aald C dX7_copy_33 rfl (Or.inr rfl) is_104 g8_ ?_
      refine j_astore (lv' := [(7, .ref (105 + (Int32.toNatClampNeg a3))), (6, .ref (105 + (Int32.toNatClampNeg a1))), (0, .ref 0), (1, .int a1), (2, .int a2), (3, .int a3), (4, .int a4), (5, .int a5)]) C dX7_copy_34 rfl (by decide) rfl ?_
      refine j_aload C dX7_copy_36 rfl 1 rfl ?_
      refine j_getI C dX7_copy_38 rfl lkX7_272 (isS_0 (isS_of g7_)) rfl ?_
      refine j_if_eq (tgt := 52) C dX7_copy_41 rfl (by decide) (fun c9_ => ?_) (fun c9_ => ?_)
      · replace h := if_t h c9_
        refine j_bipush (v := (-11)) C dX7_copy_52 rfl (by decide) ?_
        obtain rfl := Option.some.inj h
        exact j_iret E dX7_copy_54
      · replace h := if_f h c9_
        refine j_aload C dX7_copy_44 rfl 0 rfl ?_
        refine j_getI C dX7_copy_46 rfl lkX7_272 (isS_0 (isS_of g8_)) rfl ?_
        refine j_if_ne (tgt := 55) C dX7_copy_49 rfl (by decide) (fun c10_ => ?_) (fun c10_ => ?_)
        · replace h := if_f h c10_
          refine j_aload C dX7_copy_55 rfl 1 rfl ?_
          refine j_getI C dX7_copy_57 rfl lkX7_280 (isS_0 (isS_of g7_)) rfl ?_
          refine j_aload C dX7_copy_60 rfl 0 rfl ?_
          refine j_getI C dX7_copy_62 rfl lkX7_280 (isS_0 (isS_of g8_)) rfl ?_
          refine j_icmp_eq (tgt := 71) C dX7_copy_65 rfl (by decide) (fun c11_ => ?_) (fun c11_ => ?_)
          · replace h := if_t h c11_
            refine j_aload C dX7_copy_71 rfl 1 rfl ?_
            refine j_iload_n C dX7_copy_73 rfl 4 rfl ?_
            refine j_iload C dX7_copy_74 rfl 7 rfl ?_
            replace h := bd_e h
            obtain ⟨p12_, h13_, h⟩ := h
            refine j_cVI (av := [.int a2, .int a5]) (rest := []) C dX7_copy_76 rfl (c_X3_hasRow _ _ _ _ (isS_of g7_) p4_.2 p12_ h13_) gvX7_283 ⟨⟨rfl, rfl⟩, Nat.le_of_ble_eq_true rfl, Nat.le_of_ble_eq_true rfl⟩ rfl (isS_0 (isS_of g7_)) rfl rfl (Nat.le_of_ble_eq_true rfl) ?_
            refine j_if_eq (tgt := 94) C dX7_copy_79 rfl (by decide) (fun c14_ => ?_) (fun c14_ => ?_)
            · replace h := if_t h c14_
              refine j_bipush (v := (-13)) C dX7_copy_94 rfl (by decide) ?_
              obtain rfl := Option.some.inj h
              exact j_iret E dX7_copy_96
            · replace h := if_f h c14_
              refine j_aload C dX7_copy_82 rfl 0 rfl ?_
              refine j_iload C dX7_copy_84 rfl 6 rfl ?_
              refine j_iload C dX7_copy_86 rfl 7 rfl ?_
              replace h := bd_e h
              obtain ⟨p15_, h16_, h⟩ := h
              refine j_cVI (av := [.int a4, .int a5]) (rest := []) C dX7_copy_88 rfl (c_X3_hasRow _ _ _ _ (isS_of g8_) p12_.2 p15_ h16_) gvX7_283 ⟨⟨rfl, rfl⟩, Nat.le_of_ble_eq_true rfl, Nat.le_of_ble_eq_true rfl⟩ rfl (isS_0 (isS_of g8_)) rfl rfl (Nat.le_of_ble_eq_true rfl) ?_
              refine j_if_ne (tgt := 97) C dX7_copy_91 rfl (by decide) (fun c17_ => ?_) (fun c17_ => ?_)
              · replace h := if_f h c17_
                refine j_aload C dX7_copy_97 rfl 1 rfl ?_
                refine j_getR (c := 105 + (Int32.toNatClampNeg a1) + 4) C dX7_copy_99 rfl lkX7_258 (isS_0 (isS_of g7_)) rfl ?_
                refine j_iload_n C dX7_copy_102 rfl 4 rfl ?_
                refine j_aload C dX7_copy_103 rfl 0 rfl ?_
                refine j_getR (c := 105 + (Int32.toNatClampNeg a3) + 4) C dX7_copy_105 rfl lkX7_258 (isS_0 (isS_of g8_)) rfl ?_
                refine j_iload C dX7_copy_108 rfl 6 rfl ?_
                refine j_iload C dX7_copy_110 rfl 7 rfl ?_
                replace h := gd_e h
                obtain ⟨g18_, h⟩ := h
                refine j_copyl C dX7_copy_112 rfl qcX7_286 (isS_it (isS_of g7_)) (isS_it (isS_of g8_)) g18_ ⟨Nat.le_of_ble_eq_true rfl, Nat.le_of_ble_eq_true rfl⟩ ?_
                refine j_mem (fun μ19_ e20_ => ?_)
                replace h := zl_u h e20_
                refine j_iload C dX7_copy_115 rfl 7 rfl ?_
                obtain rfl := Option.some.inj h
                exact j_iret E dX7_copy_117
              · replace h := if_t h c17_
                refine j_bipush (v := (-13)) C dX7_copy_94 rfl (by decide) ?_
                obtain rfl := Option.some.inj h
                exact j_iret E dX7_copy_96
          · replace h := if_f h c11_
            refine j_bipush (v := (-12)) C dX7_copy_68 rfl (by decide) ?_
            obtain rfl := Option.some.inj h
            exact j_iret E dX7_copy_70
        · replace h := if_t h c10_
          refine j_bipush (v := (-11)) C dX7_copy_52 rfl (by decide) ?_
          obtain rfl := Option.some.inj h
          exact j_iret E dX7_copy_54
    · replace h := if_t h c6_
      refine j_iconst (v := (-1)) C dX7_copy_18 rfl (by decide) ?_
      obtain rfl := Option.some.inj h
      exact j_iret E dX7_copy_19
set_option maxRecDepth 100000 in
theorem c_X7_copy (l : Launch) (D : va_G) (ad : Nat → Nat) (cl : Nat → ClassId) {a1 : Int32} {a2 : Int32} {a3 : Int32} {a4 : Int32} {a5 : Int32} (μ : Mem) (ρ : Int32 × Mem) (h : f_X7_copy a1 a2 a3 a4 a5 μ = some ρ) : CI l D ad cl yX7_copy wsX7_copy rmX7_copy [.ref 0, .int a1, .int a2, .int a3, .int a4, .int a5] μ ρ.1 ρ.2 := c_ofI (cc := cX7_copy) (nL := 8) rfl (by decide) (Nat.le_of_ble_eq_true rfl) (fun Γ C E => w_X7_copy C E μ h)
