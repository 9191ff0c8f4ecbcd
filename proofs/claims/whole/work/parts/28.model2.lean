theorem gvX8_135 : jm_gv RX8 135 RX8 yX8_readsRock wsX8_readsRock 4 0 := ⟨_, _, gi_V gwt5_132 gwt5_134 gwp3_6 gwt1_9 gwt5_135, rfl, by decide +kernel⟩
theorem gvX8_132 : jm_gv RX8 132 RX8 yX8_readsRule wsX8_readsRule 3 0 := ⟨_, _, gi_V gwt5_118 gwt5_120 gwp3_3 gwt1_9 gwt5_121, rfl, by decide +kernel⟩
/-! X8_reads -/
def wsX8_reads : List Cond := .code yX8_reads cX8_reads 3 none :: G0
def rmX8_reads : Room := { frames := 3, cells := 0, slots := 0, locals := 72 }
def f_X8_reads_152 (a1 : Int32) (μ : Mem) : Option (Mem) := zl (sI μ 113 7 (nI 0)) fun μ1_ => some μ1_
set_option maxHeartbeats 4000000 in
set_option maxRecDepth 100000 in
theorem w_X8_reads_152 {Γ : jG} (C : jC Γ 3 cX8_reads RX8 rmX8_reads) {a1 : Int32} {ρ : Mem} (E : jEV Γ cX8_reads ρ) (μ : Mem) (h : f_X8_reads_152 a1 μ = some ρ) : jJ Γ 3 152 [(0, .ref 113)] [] μ := by
  unfold f_X8_reads_152 at h
  refine j_aload_n C dX8_reads_152 rfl 0 rfl ?_
  refine j_iconst (v := (nI 0)) C dX8_reads_153 rfl (by decide) ?_
  refine j_putI C dX8_reads_154 rfl lpX8_101 is_113 rfl ?_
  refine j_mem (fun μ1_ e2_ => ?_)
  replace h := zl_u h e2_
  obtain rfl := Option.some.inj h
  exact j_vret E dX8_reads_157
def f_X8_reads_148 (a1 : Int32) (kb32 : Int32 → Mem → Option (Mem)) (kx152 : Mem → Option (Mem)) (t0 : Int32) (μ : Mem) : Option (Mem) := kb32 t0 μ
set_option maxHeartbeats 4000000 in
set_option maxRecDepth 100000 in
theorem w_X8_reads_148 {Γ : jG} (C : jC Γ 3 cX8_reads RX8 rmX8_reads) {a1 : Int32} {kb32 : Int32 → Mem → Option (Mem)} {kx152 : Mem → Option (Mem)} {ρ : Mem} (E : jEV Γ cX8_reads ρ) (Hkb32 : ∀ (x2 : Int32) (μ : Mem), kb32 x2 μ = some ρ → jJ Γ 3 32 [(0, .ref 113), (1, .int a1), (2, .int x2)] [] μ) (Hkx152 : ∀ (μ : Mem), kx152 μ = some ρ → jJ Γ 3 152 [(0, .ref 113)] [] μ) (t0 : Int32) (μ : Mem) (h : f_X8_reads_148 a1 kb32 kx152 t0 μ = some ρ) : jJ Γ 3 148 [(0, .ref 113), (1, .int a1)] [.int t0] μ := by
  unfold f_X8_reads_148 at h
  refine j_istore_n (lv' := [(2, .int t0), (0, .ref 113), (1, .int a1)]) C dX8_reads_148 rfl (by decide) rfl ?_
  refine j_goto (pc' := 32) C dX8_reads_149 (by decide) ?_
  refine j_lv [1, 2, 0] rfl ?_
  exact (Hkb32) t0 μ h
def f_X8_reads_132 (a1 : Int32) (kb32 : Int32 → Mem → Option (Mem)) (kx152 : Mem → Option (Mem)) (t1 : Int32) (μ : Mem) : Option (Mem) := Option.bind (f_X8_passes t1 μ) fun p1_ => (if 0 ≤ (p1_.2.1 113 10) then f_X8_reads_148 a1 kb32 kx152 (nI 0) p1_.2 else f_X8_reads_148 a1 kb32 kx152 (nI 1) p1_.2)
set_option maxHeartbeats 4000000 in
set_option maxRecDepth 100000 in
theorem w_X8_reads_132 {Γ : jG} (C : jC Γ 3 cX8_reads RX8 rmX8_reads) {a1 : Int32} {kb32 : Int32 → Mem → Option (Mem)} {kx152 : Mem → Option (Mem)} {ρ : Mem} (E : jEV Γ cX8_reads ρ) (Hkb32 : ∀ (x2 : Int32) (μ : Mem), kb32 x2 μ = some ρ → jJ Γ 3 32 [(0, .ref 113), (1, .int a1), (2, .int x2)] [] μ) (Hkx152 : ∀ (μ : Mem), kx152 μ = some ρ → jJ Γ 3 152 [(0, .ref 113)] [] μ) (t1 : Int32) (μ : Mem) (h : f_X8_reads_132 a1 kb32 kx152 t1 μ = some ρ) : jJ Γ 3 132 [(0, .ref 113), (1, .int a1)] [.int t1, .ref 113] μ := by
  unfold f_X8_reads_132 at h
  replace h := bd_e h
  obtain ⟨p1_, h2_, h⟩ := h
  refine j_cVI (av := [.int t1]) (rest := []) C dX8_reads_132 rfl (c_X8_passes _ _ _ _ μ p1_ h2_) gvX8_114 ⟨⟨rfl, rfl⟩, Nat.le_of_ble_eq_true rfl, Nat.le_of_ble_eq_true rfl⟩ rfl is_113 rfl rfl (Nat.le_of_ble_eq_true rfl) ?_
  refine j_pop C dX8_reads_135 rfl rfl ?_
  refine j_aload_n C dX8_reads_136 rfl 0 rfl ?_
  refine j_getI C dX8_reads_137 rfl lkX8_118 is_113 rfl ?_
  refine j_if_ge (tgt := 147) C dX8_reads_140 rfl (by decide) (fun c3_ => ?_) (fun c3_ => ?_)
  · replace h := if_t h c3_
    refine j_iconst (v := (nI 0)) C dX8_reads_147 rfl (by decide) ?_
    refine j_lv [0, 1] rfl ?_
    exact w_X8_reads_148 C E Hkb32 Hkx152 (nI 0) p1_.2 h
  · replace h := if_f h c3_
    refine j_iconst (v := (nI 1)) C dX8_reads_143 rfl (by decide) ?_
    refine j_goto (pc' := 148) C dX8_reads_144 (by decide) ?_
    refine j_lv [0, 1] rfl ?_
    exact w_X8_reads_148 C E Hkb32 Hkx152 (nI 1) p1_.2 h
def f_X8_reads_131 (a1 : Int32) (kb32 : Int32 → Mem → Option (Mem)) (kx152 : Mem → Option (Mem)) (μ : Mem) : Option (Mem) := f_X8_reads_132 a1 kb32 kx152 (-1) μ
set_option maxHeartbeats 4000000 in
set_option maxRecDepth 100000 in
theorem w_X8_reads_131 {Γ : jG} (C : jC Γ 3 cX8_reads RX8 rmX8_reads) {a1 : Int32} {kb32 : Int32 → Mem → Option (Mem)} {kx152 : Mem → Option (Mem)} {ρ : Mem} (E : jEV Γ cX8_reads ρ) (Hkb32 : ∀ (x2 : Int32) (μ : Mem), kb32 x2 μ = some ρ → jJ Γ 3 32 [(0, .ref 113), (1, .int a1), (2, .int x2)] [] μ) (Hkx152 : ∀ (μ : Mem), kx152 μ = some ρ → jJ Γ 3 152 [(0, .ref 113)] [] μ) (μ : Mem) (h : f_X8_reads_131 a1 kb32 kx152 μ = some ρ) : jJ Γ 3 131 [(0, .ref 113), (1, .int a1)] [.ref 113] μ := by
  unfold f_X8_reads_131 at h
  refine j_iconst (v := (-1)) C dX8_reads_131 rfl (by decide) ?_
  refine j_lv [0, 1] rfl ?_
  exact w_X8_reads_132 C E Hkb32 Hkx152 (-1) μ h
def f_X8_reads_124 (a1 : Int32) (kb32 : Int32 → Mem → Option (Mem)) (kx152 : Mem → Option (Mem)) (t1 : Int32) (t2 : Int32) (μ : Mem) : Option (Mem) := (if t2 ≤ t1 then f_X8_reads_131 a1 kb32 kx152 μ else f_X8_reads_132 a1 kb32 kx152 (nI 0) μ)
set_option maxHeartbeats 4000000 in
set_option maxRecDepth 100000 in
theorem w_X8_reads_124 {Γ : jG} (C : jC Γ 3 cX8_reads RX8 rmX8_reads) {a1 : Int32} {kb32 : Int32 → Mem → Option (Mem)} {kx152 : Mem → Option (Mem)} {ρ : Mem} (E : jEV Γ cX8_reads ρ) (Hkb32 : ∀ (x2 : Int32) (μ : Mem), kb32 x2 μ = some ρ → jJ Γ 3 32 [(0, .ref 113), (1, .int a1), (2, .int x2)] [] μ) (Hkx152 : ∀ (μ : Mem), kx152 μ = some ρ → jJ Γ 3 152 [(0, .ref 113)] [] μ) (t1 : Int32) (t2 : Int32) (μ : Mem) (h : f_X8_reads_124 a1 kb32 kx152 t1 t2 μ = some ρ) : jJ Γ 3 124 [(0, .ref 113), (1, .int a1)] [.int t2, .int t1, .ref 113] μ := by
  unfold f_X8_reads_124 at h
  refine j_icmp_ge (tgt := 131) C dX8_reads_124 rfl (by decide) (fun c1_ => ?_) (fun c1_ => ?_)
  · replace h := if_t h c1_
    refine j_lv [0, 1] rfl ?_
    exact w_X8_reads_131 C E Hkb32 Hkx152 μ h
  · replace h := if_f h c1_
    refine j_iconst (v := (nI 0)) C dX8_reads_127 rfl (by decide) ?_
    refine j_goto (pc' := 132) C dX8_reads_128 (by decide) ?_
    refine j_lv [0, 1] rfl ?_
    exact w_X8_reads_132 C E Hkb32 Hkx152 (nI 0) μ h
def f_X8_reads_106 (a1 : Int32) (kb32 : Int32 → Mem → Option (Mem)) (kx152 : Mem → Option (Mem)) (t1 : Int32) (t2 : Int32) (μ : Mem) : Option (Mem) := (if t1 = t2 then (if a1 = 0 then f_X8_reads_124 a1 kb32 kx152 (μ.1 113 12) (nI 9) μ else f_X8_reads_124 a1 kb32 kx152 (μ.1 113 12) (nI 8) μ) else f_X8_reads_131 a1 kb32 kx152 μ)
set_option maxHeartbeats 4000000 in
set_option maxRecDepth 100000 in
theorem w_X8_reads_106 {Γ : jG} (C : jC Γ 3 cX8_reads RX8 rmX8_reads) {a1 : Int32} {kb32 : Int32 → Mem → Option (Mem)} {kx152 : Mem → Option (Mem)} {ρ : Mem} (E : jEV Γ cX8_reads ρ) (Hkb32 : ∀ (x2 : Int32) (μ : Mem), kb32 x2 μ = some ρ → jJ Γ 3 32 [(0, .ref 113), (1, .int a1), (2, .int x2)] [] μ) (Hkx152 : ∀ (μ : Mem), kx152 μ = some ρ → jJ Γ 3 152 [(0, .ref 113)] [] μ) (t1 : Int32) (t2 : Int32) (μ : Mem) (h : f_X8_reads_106 a1 kb32 kx152 t1 t2 μ = some ρ) : jJ Γ 3 106 [(0, .ref 113), (1, .int a1)] [.int t2, .int t1, .ref 113] μ := by
  unfold f_X8_reads_106 at h
  refine j_icmp_ne (tgt := 131) C dX8_reads_106 rfl (by decide) (fun c1_ => ?_) (fun c1_ => ?_)
  · replace h := if_f h c1_
    refine j_lv [0, 1] rfl ?_
    exact w_X8_reads_131 C E Hkb32 Hkx152 μ h
  · replace h := if_t h c1_
    refine j_aload_n C dX8_reads_109 rfl 0 rfl ?_
    refine j_getI C dX8_reads_110 rfl lkX8_121 is_113 rfl ?_
    refine j_iload_n C dX8_reads_113 rfl 1 rfl ?_
    refine j_if_eq (tgt := 122) C dX8_reads_114 rfl (by decide) (fun c2_ => ?_) (fun c2_ => ?_)
    · replace h := if_t h c2_
      refine j_bipush (v := (nI 9)) C dX8_reads_122 rfl (by decide) ?_
      refine j_lv [0, 1] rfl ?_
      exact w_X8_reads_124 C E Hkb32 Hkx152 (μ.1 113 12) (nI 9) μ h
    · replace h := if_f h c2_
      refine j_bipush (v := (nI 8)) C dX8_reads_117 rfl (by decide) ?_
      refine j_goto (pc' := 124) C dX8_reads_119 (by decide) ?_
      refine j_lv [0, 1] rfl ?_
      exact w_X8_reads_124 C E Hkb32 Hkx152 (μ.1 113 12) (nI 8) μ h
def f_X8_reads_80 (a1 : Int32) (kb32 : Int32 → Mem → Option (Mem)) (kx152 : Mem → Option (Mem)) (t0 : Int32) (μ : Mem) : Option (Mem) := (if t0 = 0 then kb32 t0 μ else gd (inb (μ.1 113 8) 160) <| (if a1 = 0 then f_X8_reads_106 a1 kb32 kx152 (μ.1 118 (Int32.toNatClampNeg (μ.1 113 8))) (nI 44) μ else f_X8_reads_106 a1 kb32 kx152 (μ.1 118 (Int32.toNatClampNeg (μ.1 113 8))) (nI 59) μ))
set_option maxHeartbeats 4000000 in
set_option maxRecDepth 100000 in
theorem w_X8_reads_80 {Γ : jG} (C : jC Γ 3 cX8_reads RX8 rmX8_reads) {a1 : Int32} {kb32 : Int32 → Mem → Option (Mem)} {kx152 : Mem → Option (Mem)} {ρ : Mem} (E : jEV Γ cX8_reads ρ) (Hkb32 : ∀ (x2 : Int32) (μ : Mem), kb32 x2 μ = some ρ → jJ Γ 3 32 [(0, .ref 113), (1, .int a1), (2, .int x2)] [] μ) (Hkx152 : ∀ (μ : Mem), kx152 μ = some ρ → jJ Γ 3 152 [(0, .ref 113)] [] μ) (t0 : Int32) (μ : Mem) (h : f_X8_reads_80 a1 kb32 kx152 t0 μ = some ρ) : jJ Γ 3 80 [(0, .ref 113), (1, .int a1)] [.int t0] μ := by
  unfold f_X8_reads_80 at h
  refine j_istore_n (lv' := [(2, .int t0), (0, .ref 113), (1, .int a1)]) C dX8_reads_80 rfl (by decide) rfl ?_
  refine j_iload_n C dX8_reads_81 rfl 0 rfl ?_
  refine j_if_eq (tgt := 32) C dX8_reads_82 rfl (by decide) (fun c1_ => ?_) (fun c1_ => ?_)
  · replace h := if_t h c1_
    refine j_lv [1, 2, 0] rfl ?_
    exact (Hkb32) t0 μ h
  · replace h := if_f h c1_
    refine j_aload_n C dX8_reads_85 rfl 1 rfl ?_
    refine j_aload_n C dX8_reads_86 rfl 1 rfl ?_
    refine j_getR (c := 118) C dX8_reads_87 rfl lkX8_22 is_113 rfl ?_
    refine j_aload_n C dX8_reads_90 rfl 1 rfl ?_
    refine j_getI C dX8_reads_91 rfl lkX8_104 is_113 rfl ?_
    replace h := gd_e h
    obtain ⟨g2_, h⟩ := h
    refine j_iald C dX8_reads_94 rfl is_118 g2_ ?_
    refine j_iload_n C dX8_reads_95 rfl 2 rfl ?_
    refine j_if_eq (tgt := 104) C dX8_reads_96 rfl (by decide) (fun c3_ => ?_) (fun c3_ => ?_)
    · replace h := if_t h c3_
      refine j_bipush (v := (nI 44)) C dX8_reads_104 rfl (by decide) ?_
      refine j_lv [1, 2] rfl ?_
      exact w_X8_reads_106 C E Hkb32 Hkx152 (μ.1 118 (Int32.toNatClampNeg (μ.1 113 8))) (nI 44) μ h
    · replace h := if_f h c3_
      refine j_bipush (v := (nI 59)) C dX8_reads_99 rfl (by decide) ?_
      refine j_goto (pc' := 106) C dX8_reads_101 (by decide) ?_
      refine j_lv [1, 2] rfl ?_
      exact w_X8_reads_106 C E Hkb32 Hkx152 (μ.1 118 (Int32.toNatClampNeg (μ.1 113 8))) (nI 59) μ h
def f_X8_reads_79 (a1 : Int32) (kb32 : Int32 → Mem → Option (Mem)) (kx152 : Mem → Option (Mem)) (μ : Mem) : Option (Mem) := f_X8_reads_80 a1 kb32 kx152 (nI 0) μ
set_option maxHeartbeats 4000000 in
set_option maxRecDepth 100000 in
theorem w_X8_reads_79 {Γ : jG} (C : jC Γ 3 cX8_reads RX8 rmX8_reads) {a1 : Int32} {kb32 : Int32 → Mem → Option (Mem)} {kx152 : Mem → Option (Mem)} {ρ : Mem} (E : jEV Γ cX8_reads ρ) (Hkb32 : ∀ (x2 : Int32) (μ : Mem), kb32 x2 μ = some ρ → jJ Γ 3 32 [(0, .ref 113), (1, .int a1), (2, .int x2)] [] μ) (Hkx152 : ∀ (μ : Mem), kx152 μ = some ρ → jJ Γ 3 152 [(0, .ref 113)] [] μ) (μ : Mem) (h : f_X8_reads_79 a1 kb32 kx152 μ = some ρ) : jJ Γ 3 79 [(0, .ref 113), (1, .int a1)] [] μ := by
  unfold f_X8_reads_79 at h
  refine j_iconst (v := (nI 0)) C dX8_reads_79 rfl (by decide) ?_
  refine j_lv [0, 1] rfl ?_
  exact w_X8_reads_80 C E Hkb32 Hkx152 (nI 0) μ h
def f_X8_reads_51 (a1 : Int32) (kb32 : Int32 → Mem → Option (Mem)) (kx152 : Mem → Option (Mem)) (μ : Mem) : Option (Mem) := zl (sI μ 113 12 ((μ.1 113 12) + (nI 1))) fun μ1_ => (if 0 ≤ (μ1_.1 113 10) then f_X8_reads_79 a1 kb32 kx152 μ1_ else Option.bind (f_X8_letter μ1_) fun p4_ => (if p4_.1 < 0 then f_X8_reads_79 a1 kb32 kx152 p4_.2 else f_X8_reads_80 a1 kb32 kx152 (nI 1) p4_.2))
set_option maxHeartbeats 4000000 in
set_option maxRecDepth 100000 in
theorem w_X8_reads_51 {Γ : jG} (C : jC Γ 3 cX8_reads RX8 rmX8_reads) {a1 : Int32} {kb32 : Int32 → Mem → Option (Mem)} {kx152 : Mem → Option (Mem)} {ρ : Mem} (E : jEV Γ cX8_reads ρ) (Hkb32 : ∀ (x2 : Int32) (μ : Mem), kb32 x2 μ = some ρ → jJ Γ 3 32 [(0, .ref 113), (1, .int a1), (2, .int x2)] [] μ) (Hkx152 : ∀ (μ : Mem), kx152 μ = some ρ → jJ Γ 3 152 [(0, .ref 113)] [] μ) (μ : Mem) (h : f_X8_reads_51 a1 kb32 kx152 μ = some ρ) : jJ Γ 3 51 [(0, .ref 113), (1, .int a1)] [] μ := by
  unfold f_X8_reads_51 at h
  refine j_aload_n C dX8_reads_51 rfl 0 rfl ?_
  refine j_dup C dX8_reads_52 rfl rfl ?_
  refine j_getI C dX8_reads_53 rfl lkX8_121 is_113 rfl ?_
  refine j_iconst (v := (nI 1)) C dX8_reads_56 rfl (by decide) ?_
  refine j_iadd C dX8_reads_57 rfl ?_
  refine j_putI C dX8_reads_58 rfl lpX8_121 is_113 rfl ?_
  refine j_mem (fun μ1_ e2_ => ?_)
  replace h := zl_u h e2_
  refine j_aload_n C dX8_reads_61 rfl 0 rfl ?_
  refine j_getI C dX8_reads_62 rfl lkX8_118 is_113 rfl ?_
  refine j_if_ge (tgt := 79) C dX8_reads_65 rfl (by decide) (fun c3_ => ?_) (fun c3_ => ?_)
  · replace h := if_t h c3_
    refine j_lv [0, 1] rfl ?_
    exact w_X8_reads_79 C E Hkb32 Hkx152 μ1_ h
  · replace h := if_f h c3_
    refine j_aload_n C dX8_reads_68 rfl 0 rfl ?_
    replace h := bd_e h
    obtain ⟨p4_, h5_, h⟩ := h
    refine j_cVI (av := []) (rest := []) C dX8_reads_69 rfl (c_X8_letter _ _ _ _ μ1_ p4_ h5_) gvX8_110 ⟨⟨rfl, rfl⟩, Nat.le_of_ble_eq_true rfl, Nat.le_of_ble_eq_true rfl⟩ rfl is_113 rfl rfl (Nat.le_of_ble_eq_true rfl) ?_
    refine j_if_lt (tgt := 79) C dX8_reads_72 rfl (by decide) (fun c6_ => ?_) (fun c6_ => ?_)
    · replace h := if_t h c6_
      refine j_lv [0, 1] rfl ?_
      exact w_X8_reads_79 C E Hkb32 Hkx152 p4_.2 h
    · replace h := if_f h c6_
      refine j_iconst (v := (nI 1)) C dX8_reads_75 rfl (by decide) ?_
      refine j_goto (pc' := 80) C dX8_reads_76 (by decide) ?_
      refine j_lv [0, 1] rfl ?_
      exact w_X8_reads_80 C E Hkb32 Hkx152 (nI 1) p4_.2 h
def f_X8_reads_32 (a1 : Int32) (kx152 : Mem → Option (Mem)) : Nat → Int32 → Mem → Option (Mem)
  | 0, _, _ => none
  | n + 1, x2, μ => (if x2 = 0 then kx152 μ else (if a1 = 0 then Option.bind (f_X8_readsRock μ) fun p3_ => f_X8_reads_51 a1 (fun x2 μ => f_X8_reads_32 a1 kx152 n x2 μ) kx152 p3_ else Option.bind (f_X8_readsRule μ) fun p5_ => f_X8_reads_51 a1 (fun x2 μ => f_X8_reads_32 a1 kx152 n x2 μ) kx152 p5_))
set_option maxHeartbeats 4000000 in
set_option maxRecDepth 100000 in
theorem w_X8_reads_32 {Γ : jG} (C : jC Γ 3 cX8_reads RX8 rmX8_reads) {a1 : Int32} {kx152 : Mem → Option (Mem)} {ρ : Mem} (E : jEV Γ cX8_reads ρ) (Hkx152 : ∀ (μ : Mem), kx152 μ = some ρ → jJ Γ 3 152 [(0, .ref 113)] [] μ) : ∀ (n : Nat) (x2 : Int32) (μ : Mem), f_X8_reads_32 a1 kx152 n x2 μ = some ρ → jJ Γ 3 32 [(0, .ref 113), (1, .int a1), (2, .int x2)] [] μ := by
  intro n
  induction n with
  | zero => intro x2 μ h; rw [f_X8_reads_32] at h; cases h
  | succ n ih =>
    intro x2 μ h
    rw [f_X8_reads_32] at h
    refine j_iload_n C dX8_reads_32 rfl 2 rfl ?_
    refine j_if_eq (tgt := 152) C dX8_reads_33 rfl (by decide) (fun c1_ => ?_) (fun c1_ => ?_)
    · replace h := if_t h c1_
      refine j_lv [0] rfl ?_
      exact (Hkx152) μ h
    · replace h := if_f h c1_
      refine j_iload_n C dX8_reads_36 rfl 1 rfl ?_
      refine j_if_eq (tgt := 47) C dX8_reads_37 rfl (by decide) (fun c2_ => ?_) (fun c2_ => ?_)
      · replace h := if_t h c2_
        refine j_aload_n C dX8_reads_47 rfl 0 rfl ?_
        replace h := bd_e h
        obtain ⟨p3_, h4_, h⟩ := h
        refine j_cVV (av := []) (rest := []) C dX8_reads_48 rfl (c_X8_readsRock _ _ _ _ μ p3_ h4_) gvX8_135 ⟨⟨rfl, rfl⟩, Nat.le_of_ble_eq_true rfl, Nat.le_of_ble_eq_true rfl⟩ rfl is_113 rfl rfl (Nat.le_of_ble_eq_true rfl) ?_
        refine j_lv [0, 1] rfl ?_
        exact w_X8_reads_51 C E ih Hkx152 p3_ h
      · replace h := if_f h c2_
        refine j_aload_n C dX8_reads_40 rfl 0 rfl ?_
        replace h := bd_e h
        obtain ⟨p5_, h6_, h⟩ := h
        refine j_cVV (av := []) (rest := []) C dX8_reads_41 rfl (c_X8_readsRule _ _ _ _ μ p5_ h6_) gvX8_132 ⟨⟨rfl, rfl⟩, Nat.le_of_ble_eq_true rfl, Nat.le_of_ble_eq_true rfl⟩ rfl is_113 rfl rfl (Nat.le_of_ble_eq_true rfl) ?_
        refine j_goto (pc' := 51) C dX8_reads_44 (by decide) ?_
        refine j_lv [0, 1] rfl ?_
        exact w_X8_reads_51 C E ih Hkx152 p5_ h
def f_X8_reads_31 (a1 : Int32) (t0 : Int32) (μ : Mem) : Option (Mem) := f_X8_reads_32 a1 (fun μ => f_X8_reads_152 a1 μ) zfu t0 μ
set_option maxHeartbeats 4000000 in
set_option maxRecDepth 100000 in
theorem w_X8_reads_31 {Γ : jG} (C : jC Γ 3 cX8_reads RX8 rmX8_reads) {a1 : Int32} {ρ : Mem} (E : jEV Γ cX8_reads ρ) (t0 : Int32) (μ : Mem) (h : f_X8_reads_31 a1 t0 μ = some ρ) : jJ Γ 3 31 [(0, .ref 113), (1, .int a1)] [.int t0] μ := by
  unfold f_X8_reads_31 at h
  refine j_istore_n (lv' := [(2, .int t0), (0, .ref 113), (1, .int a1)]) C dX8_reads_31 rfl (by decide) rfl ?_
  refine j_lv [1, 2, 0] rfl ?_
  exact w_X8_reads_32 C E (fun μ h => w_X8_reads_152 C E μ h) zfu t0 μ h
def f_X8_reads_26 (a1 : Int32) (μ : Mem) : Option (Mem) := f_X8_reads_31 a1 (nI 1) μ
set_option maxHeartbeats 4000000 in
set_option maxRecDepth 100000 in
theorem w_X8_reads_26 {Γ : jG} (C : jC Γ 3 cX8_reads RX8 rmX8_reads) {a1 : Int32} {ρ : Mem} (E : jEV Γ cX8_reads ρ) (μ : Mem) (h : f_X8_reads_26 a1 μ = some ρ) : jJ Γ 3 26 [(0, .ref 113), (1, .int a1)] [] μ := by
  unfold f_X8_reads_26 at h
  refine j_iconst (v := (nI 1)) C dX8_reads_26 rfl (by decide) ?_
  refine j_goto (pc' := 31) C dX8_reads_27 (by decide) ?_
  refine j_lv [0, 1] rfl ?_
  exact w_X8_reads_31 C E (nI 1) μ h
def f_X8_reads (a1 : Int32) (μ : Mem) : Option (Mem) := zl (sI μ 113 10 (-1)) fun μ1_ => zl (sI μ1_ 113 8 (nI 0)) fun μ3_ => zl (sI μ3_ 113 12 (nI 0)) fun μ5_ => (if a1 = 0 then f_X8_reads_26 a1 μ5_ else Option.bind (f_X8_letter μ5_) fun p8_ => (if p8_.1 < 0 then f_X8_reads_31 a1 (nI 0) p8_.2 else f_X8_reads_26 a1 p8_.2))
set_option maxHeartbeats 4000000 in
set_option maxRecDepth 100000 in
theorem w_X8_reads {Γ : jG} (C : jC Γ 3 cX8_reads RX8 rmX8_reads) {a1 : Int32} {ρ : Mem} (E : jEV Γ cX8_reads ρ) (μ : Mem) (h : f_X8_reads a1 μ = some ρ) : jJ Γ 3 0 [(0, .ref 113), (1, .int a1)] [] μ := by
  unfold f_X8_reads at h
  refine j_aload_n C dX8_reads_0 rfl 0 rfl ?_
  refine j_iconst (v := (-1)) C dX8_reads_1 rfl (by decide) ?_
  refine j_putI C dX8_reads_2 rfl lpX8_118 is_113 rfl ?_
  refine j_mem (fun μ1_ e2_ => ?_)
  replace h := zl_u h e2_
  refine j_aload_n C dX8_reads_5 rfl 0 rfl ?_
  refine j_iconst (v := (nI 0)) C dX8_reads_6 rfl (by decide) ?_
  refine j_putI C dX8_reads_7 rfl lpX8_104 is_113 rfl ?_
  refine j_mem (fun μ3_ e4_ => ?_)
  replace h := zl_u h e4_
  refine j_aload_n C dX8_reads_10 rfl 0 rfl ?_
  refine j_iconst (v := (nI 0)) C dX8_reads_11 rfl (by decide) ?_
  refine j_putI C dX8_reads_12 rfl lpX8_121 is_113 rfl ?_
  refine j_mem (fun μ5_ e6_ => ?_)
  replace h := zl_u h e6_
  refine j_iload_n C dX8_reads_15 rfl 1 rfl ?_
  refine j_if_eq (tgt := 26) C dX8_reads_16 rfl (by decide) (fun c7_ => ?_) (fun c7_ => ?_)
  · replace h := if_t h c7_
    refine j_lv [0, 1] rfl ?_
    exact w_X8_reads_26 C E μ5_ h
  · replace h := if_f h c7_
    refine j_aload_n C dX8_reads_19 rfl 0 rfl ?_
    replace h := bd_e h
    obtain ⟨p8_, h9_, h⟩ := h
    refine j_cVI (av := []) (rest := []) C dX8_reads_20 rfl (c_X8_letter _ _ _ _ μ5_ p8_ h9_) gvX8_110 ⟨⟨rfl, rfl⟩, Nat.le_of_ble_eq_true rfl, Nat.le_of_ble_eq_true rfl⟩ rfl is_113 rfl rfl (Nat.le_of_ble_eq_true rfl) ?_
    refine j_if_lt (tgt := 30) C dX8_reads_23 rfl (by decide) (fun c10_ => ?_) (fun c10_ => ?_)
    · replace h := if_t h c10_
      refine j_iconst (v := (nI 0)) C dX8_reads_30 rfl (by decide) ?_
      refine j_lv [0, 1] rfl ?_
      exact w_X8_reads_31 C E (nI 0) p8_.2 h
    · replace h := if_f h c10_
      refine j_lv [0, 1] rfl ?_
      exact w_X8_reads_26 C E p8_.2 h
set_option maxRecDepth 100000 in
theorem c_X8_reads (l : Launch) (D : va_G) (ad : Nat → Nat) (cl : Nat → ClassId) {a1 : Int32} (μ : Mem) (ρ : Mem) (h : f_X8_reads a1 μ = some ρ) : CV l D ad cl yX8_reads wsX8_reads rmX8_reads [.ref 113, .int a1] μ ρ := c_ofV (cc := cX8_reads) (nL := 3) rfl (by decide) (Nat.le_of_ble_eq_true rfl) (fun Γ C E => w_X8_reads C E μ h)
theorem gvX8_138 : jm_gv RX8 138 RX8 yX8_reads wsX8_reads 3 1 := ⟨_, _, gi_V gwt5_110 gwt5_112 gwp3_1 gwt1_9 gwt5_113, rfl, by decide +kernel⟩
/-! X8_laws -/
def wsX8_laws : List Cond := .code yX8_laws cX8_laws 2 (some .int) :: G0
def rmX8_laws : Room := { frames := 4, cells := 0, slots := 0, locals := 94 }
def f_X8_laws_69 (μ : Mem) : Option (Int32 × Mem) := some (μ.1 113 12, μ)
set_option maxHeartbeats 4000000 in
set_option maxRecDepth 100000 in
theorem w_X8_laws_69 {Γ : jG} (C : jC Γ 2 cX8_laws RX8 rmX8_laws) {ρ : Int32 × Mem} (E : jEI Γ cX8_laws ρ.1 ρ.2) (μ : Mem) (h : f_X8_laws_69 μ = some ρ) : jJ Γ 2 69 [(0, .ref 113)] [] μ := by
  unfold f_X8_laws_69 at h
  refine j_aload_n C dX8_laws_69 rfl 0 rfl ?_
  refine j_getI C dX8_laws_70 rfl lkX8_121 is_113 rfl ?_
  obtain rfl := Option.some.inj h
  exact j_iret E dX8_laws_73
def f_X8_laws_37 (kx69 : Mem → Option (Int32 × Mem)) : Nat → Int32 → Mem → Option (Int32 × Mem)
  | 0, _, _ => none
  | n + 1, x1, μ => (if ((nI 4) * (μ.1 113 12)) ≤ x1 then kx69 μ else gd (inb x1 36) <| gd (inb ((nI 1761) + x1) 1829) <| zl (sI μ 114 (Int32.toNatClampNeg ((nI 1761) + x1)) (μ.1 119 (Int32.toNatClampNeg x1))) fun μ4_ => f_X8_laws_37 kx69 n (x1 + (nI 1)) μ4_)
set_option maxHeartbeats 4000000 in
set_option maxRecDepth 100000 in
theorem w_X8_laws_37 {Γ : jG} (C : jC Γ 2 cX8_laws RX8 rmX8_laws) {kx69 : Mem → Option (Int32 × Mem)} {ρ : Int32 × Mem} (E : jEI Γ cX8_laws ρ.1 ρ.2) (Hkx69 : ∀ (μ : Mem), kx69 μ = some ρ → jJ Γ 2 69 [(0, .ref 113)] [] μ) : ∀ (n : Nat) (x1 : Int32) (μ : Mem), f_X8_laws_37 kx69 n x1 μ = some ρ → jJ Γ 2 37 [(0, .ref 113), (1, .int x1)] [] μ := by
  intro n
  induction n with
  | zero => intro x1 μ h; rw [f_X8_laws_37] at h; cases h
  | succ n ih =>
    intro x1 μ h
    rw [f_X8_laws_37] at h
    refine j_iload_n C dX8_laws_37 rfl 1 rfl ?_
    refine j_iconst (v := (nI 4)) C dX8_laws_38 rfl (by decide) ?_
    refine j_aload_n C dX8_laws_39 rfl 0 rfl ?_
    refine j_getI C dX8_laws_40 rfl lkX8_121 is_113 rfl ?_
    refine j_imul C dX8_laws_43 rfl ?_
    refine j_icmp_ge (tgt := 69) C dX8_laws_44 rfl (by decide) (fun c1_ => ?_) (fun c1_ => ?_)
    · replace h := if_t h c1_
      refine j_lv [0] rfl ?_
      exact (Hkx69) μ h
    · replace h := if_f h c1_
      refine j_aload_n C dX8_laws_47 rfl 0 rfl ?_
      refine j_getR (c := 114) C dX8_laws_48 rfl lkX8_7 is_113 rfl ?_
      refine j_sipush (v := (nI 1761)) C dX8_laws_51 rfl (by decide) ?_
      refine j_iload_n C dX8_laws_54 rfl 1 rfl ?_
      refine j_iadd C dX8_laws_55 rfl ?_
      refine j_aload_n C dX8_laws_56 rfl 0 rfl ?_
      refine j_getR (c := 119) C dX8_laws_57 rfl lkX8_25 is_113 rfl ?_
      refine j_iload_n C dX8_laws_60 rfl 1 rfl ?_
      replace h := gd_e h
      obtain ⟨g2_, h⟩ := h
      refine j_iald C dX8_laws_61 rfl is_119 g2_ ?_
      replace h := gd_e h
      obtain ⟨g3_, h⟩ := h
      refine j_iast C dX8_laws_62 rfl is_114 g3_ ?_
      refine j_mem (fun μ4_ e5_ => ?_)
      replace h := zl_u h e5_
      refine j_iinc (d := (nI 1)) (v := x1 + (nI 1)) (lv' := [(1, .int (x1 + (nI 1))), (0, .ref 113)]) C dX8_laws_63 rfl (by decide) 1 rfl (by decide) rfl rfl ?_
      refine j_goto (pc' := 37) C dX8_laws_66 (by decide) ?_
      refine j_lv [1, 0] rfl ?_
      exact (ih) (x1 + (nI 1)) μ4_ h
def f_X8_laws (μ : Mem) : Option (Int32 × Mem) := zl (sI μ 113 0 (nI 0)) fun μ1_ => Option.bind (f_X8_reads (nI 1) μ1_) fun p3_ => (if (p3_.1 113 10) < 0 then gd (inb (nI 3) 1829) <| zl (sI p3_ 114 (Int32.toNatClampNeg (nI 3)) (p3_.1 113 12)) fun μ7_ => f_X8_laws_37 (fun μ => f_X8_laws_69 μ) zfu (nI 0) μ7_ else some ((-20) - (p3_.1 113 10), p3_))
set_option maxHeartbeats 4000000 in
set_option maxRecDepth 100000 in
theorem w_X8_laws {Γ : jG} (C : jC Γ 2 cX8_laws RX8 rmX8_laws) {ρ : Int32 × Mem} (E : jEI Γ cX8_laws ρ.1 ρ.2) (μ : Mem) (h : f_X8_laws μ = some ρ) : jJ Γ 2 0 [(0, .ref 113)] [] μ := by
  unfold f_X8_laws at h
  refine j_aload_n C dX8_laws_0 rfl 0 rfl ?_
  refine j_iconst (v := (nI 0)) C dX8_laws_1 rfl (by decide) ?_
  refine j_putI C dX8_laws_2 rfl lpX8_48 is_113 rfl ?_
  refine j_mem (fun μ1_ e2_ => ?_)
  replace h := zl_u h e2_
  refine j_aload_n C dX8_laws_5 rfl 0 rfl ?_
  refine j_iconst (v := (nI 1)) C dX8_laws_6 rfl (by decide) ?_
  replace h := bd_e h
  obtain ⟨p3_, h4_, h⟩ := h
  refine j_cVV (av := [.int (nI 1)]) (rest := []) C dX8_laws_7 rfl (c_X8_reads _ _ _ _ μ1_ p3_ h4_) gvX8_138 ⟨⟨rfl, rfl⟩, Nat.le_of_ble_eq_true rfl, Nat.le_of_ble_eq_true rfl⟩ rfl is_113 rfl rfl (Nat.le_of_ble_eq_true rfl) ?_
  refine j_aload_n C dX8_laws_10 rfl 0 rfl ?_
  refine j_getI C dX8_laws_11 rfl lkX8_118 is_113 rfl ?_
  refine j_if_lt (tgt := 25) C dX8_laws_14 rfl (by decide) (fun c5_ => ?_) (fun c5_ => ?_)
  · replace h := if_t h c5_
    refine j_aload_n C dX8_laws_25 rfl 0 rfl ?_
    refine j_getR (c := 114) C dX8_laws_26 rfl lkX8_7 is_113 rfl ?_
    refine j_iconst (v := (nI 3)) C dX8_laws_29 rfl (by decide) ?_
    refine j_aload_n C dX8_laws_30 rfl 0 rfl ?_
    refine j_getI C dX8_laws_31 rfl lkX8_121 is_113 rfl ?_
    replace h := gd_e h
    obtain ⟨g6_, h⟩ := h
    refine j_iast C dX8_laws_34 rfl is_114 g6_ ?_
    refine j_mem (fun μ7_ e8_ => ?_)
    replace h := zl_u h e8_
    refine j_iconst (v := (nI 0)) C dX8_laws_35 rfl (by decide) ?_
    refine j_istore_n (lv' := [(1, .int (nI 0)), (0, .ref 113)]) C dX8_laws_36 rfl (by decide) rfl ?_
    refine j_lv [1, 0] rfl ?_
    exact w_X8_laws_37 C E (fun μ h => w_X8_laws_69 C E μ h) zfu (nI 0) μ7_ h
  · replace h := if_f h c5_
    refine j_bipush (v := (-20)) C dX8_laws_17 rfl (by decide) ?_
    refine j_aload_n C dX8_laws_19 rfl 0 rfl ?_
    refine j_getI C dX8_laws_20 rfl lkX8_118 is_113 rfl ?_
    refine j_isub C dX8_laws_23 rfl ?_
    obtain rfl := Option.some.inj h
    exact j_iret E dX8_laws_24
set_option maxRecDepth 100000 in
theorem c_X8_laws (l : Launch) (D : va_G) (ad : Nat → Nat) (cl : Nat → ClassId) (μ : Mem) (ρ : Int32 × Mem) (h : f_X8_laws μ = some ρ) : CI l D ad cl yX8_laws wsX8_laws rmX8_laws [.ref 113] μ ρ.1 ρ.2 := c_ofI (cc := cX8_laws) (nL := 2) rfl (by decide) (Nat.le_of_ble_eq_true rfl) (fun Γ C E => w_X8_laws C E μ h)
/-! X8_rocks -/
def wsX8_rocks : List Cond := .code yX8_rocks cX8_rocks 2 (some .int) :: G0
def rmX8_rocks : Room := { frames := 4, cells := 0, slots := 0, locals := 94 }
def f_X8_rocks_150 (μ : Mem) : Option (Int32 × Mem) := some (μ.1 113 12, μ)
set_option maxHeartbeats 4000000 in
set_option maxRecDepth 100000 in
theorem w_X8_rocks_150 {Γ : jG} (C : jC Γ 2 cX8_rocks RX8 rmX8_rocks) {ρ : Int32 × Mem} (E : jEI Γ cX8_rocks ρ.1 ρ.2) (μ : Mem) (h : f_X8_rocks_150 μ = some ρ) : jJ Γ 2 150 [(0, .ref 113)] [] μ := by
  unfold f_X8_rocks_150 at h
  refine j_aload_n C dX8_rocks_150 rfl 0 rfl ?_
  refine j_getI C dX8_rocks_151 rfl lkX8_121 is_113 rfl ?_
  obtain rfl := Option.some.inj h
  exact j_iret E dX8_rocks_154
def f_X8_rocks_91 (kx150 : Mem → Option (Int32 × Mem)) : Nat → Int32 → Mem → Option (Int32 × Mem)
  | 0, _, _ => none
  | n + 1, x1, μ => (if (μ.1 113 12) ≤ x1 then kx150 μ else gd (inb ((nI 4) * x1) 36) <| gd (inb (((nI 4) * x1) + (nI 1)) 36) <| gd (inb (((nI 4) * x1) + (nI 2)) 36) <| gd (inb (((nI 4) * x1) + (nI 3)) 36) <| Option.bind (f_X8_letsIn 114 (μ.1 119 (Int32.toNatClampNeg ((nI 4) * x1))) (μ.1 119 (Int32.toNatClampNeg (((nI 4) * x1) + (nI 1)))) (μ.1 119 (Int32.toNatClampNeg (((nI 4) * x1) + (nI 2)))) (μ.1 119 (Int32.toNatClampNeg (((nI 4) * x1) + (nI 3)))) μ) fun p6_ => f_X8_rocks_91 kx150 n (x1 + (nI 1)) p6_)
set_option maxHeartbeats 4000000 in
set_option maxRecDepth 100000 in
theorem w_X8_rocks_91 {Γ : jG} (C : jC Γ 2 cX8_rocks RX8 rmX8_rocks) {kx150 : Mem → Option (Int32 × Mem)} {ρ : Int32 × Mem} (E : jEI Γ cX8_rocks ρ.1 ρ.2) (Hkx150 : ∀ (μ : Mem), kx150 μ = some ρ → jJ Γ 2 150 [(0, .ref 113)] [] μ) : ∀ (n : Nat) (x1 : Int32) (μ : Mem), f_X8_rocks_91 kx150 n x1 μ = some ρ → jJ Γ 2 91 [(0, .ref 113), (1, .int x1)] [] μ := by
  intro n
  induction n with
  | zero => intro x1 μ h; rw [f_X8_rocks_91] at h; cases h
  | succ n ih =>
    intro x1 μ h
    rw [f_X8_rocks_91] at h
    refine j_iload_n C dX8_rocks_91 rfl 1 rfl ?_
    refine j_aload_n C dX8_rocks_92 rfl 0 rfl ?_
    refine j_getI C dX8_rocks_93 rfl lkX8_121 is_113 rfl ?_
    refine j_icmp_ge (tgt := 150) C dX8_rocks_96 rfl (by decide) (fun c1_ => ?_) (fun c1_ => ?_)
    · replace h := if_t h c1_
      refine j_lv [0] rfl ?_
      exact (Hkx150) μ h
    · replace h := if_f h c1_
      refine j_aload_n C dX8_rocks_99 rfl 0 rfl ?_
      refine j_getR (c := 114) C dX8_rocks_100 rfl lkX8_7 is_113 rfl ?_
      refine j_aload_n C dX8_rocks_103 rfl 0 rfl ?_
      refine j_getR (c := 119) C dX8_rocks_104 rfl lkX8_25 is_113 rfl ?_
      refine j_iconst (v := (nI 4)) C dX8_rocks_107 rfl (by decide) ?_
      refine j_iload_n C dX8_rocks_108 rfl 1 rfl ?_
      refine j_imul C dX8_rocks_109 rfl ?_
      replace h := gd_e h
      obtain ⟨g2_, h⟩ := h
      refine j_iald C dX8_rocks_110 rfl is_119 g2_ ?_
      refine j_aload_n C dX8_rocks_111 rfl 0 rfl ?_
      refine j_getR (c := 119) C dX8_rocks_112 rfl lkX8_25 is_113 rfl ?_
      refine j_iconst (v := (nI 4)) C dX8_rocks_115 rfl (by decide) ?_
      refine j_iload_n C dX8_rocks_116 rfl 1 rfl ?_
      refine j_imul C dX8_rocks_117 rfl ?_
      refine j_iconst (v := (nI 1)) C dX8_rocks_118 rfl (by decide) ?_
      refine j_iadd C dX8_rocks_119 rfl ?_
      replace h := gd_e h
      obtain ⟨g3_, h⟩ := h
      refine j_iald C dX8_rocks_120 rfl is_119 g3_ ?_
      refine j_aload_n C dX8_rocks_121 rfl 0 rfl ?_
      refine j_getR (c := 119) C dX8_rocks_122 rfl lkX8_25 is_113 rfl ?_
      refine j_iconst (v := (nI 4)) C dX8_rocks_125 rfl (by decide) ?_
      refine j_iload_n C dX8_rocks_126 rfl 1 rfl ?_
      refine j_imul C dX8_rocks_127 rfl ?_
      refine j_iconst (v := (nI 2)) C dX8_rocks_128 rfl (by decide) ?_
      refine j_iadd C dX8_rocks_129 rfl ?_
      replace h := gd_e h
      obtain ⟨g4_, h⟩ := h
      refine j_iald C dX8_rocks_130 rfl is_119 g4_ ?_
      refine j_aload_n C dX8_rocks_131 rfl 0 rfl ?_
      refine j_getR (c := 119) C dX8_rocks_132 rfl lkX8_25 is_113 rfl ?_
      refine j_iconst (v := (nI 4)) C dX8_rocks_135 rfl (by decide) ?_
      refine j_iload_n C dX8_rocks_136 rfl 1 rfl ?_
      refine j_imul C dX8_rocks_137 rfl ?_
      refine j_iconst (v := (nI 3)) C dX8_rocks_138 rfl (by decide) ?_
      refine j_iadd C dX8_rocks_139 rfl ?_
      replace h := gd_e h
      obtain ⟨g5_, h⟩ := h
      refine j_iald C dX8_rocks_140 rfl is_119 g5_ ?_
      replace h := bd_e h
      obtain ⟨p6_, h7_, h⟩ := h
      refine j_cSV (av := [.ref 114, .int (μ.1 119 (Int32.toNatClampNeg ((nI 4) * x1))), .int (μ.1 119 (Int32.toNatClampNeg (((nI 4) * x1) + (nI 1)))), .int (μ.1 119 (Int32.toNatClampNeg (((nI 4) * x1) + (nI 2)))), .int (μ.1 119 (Int32.toNatClampNeg (((nI 4) * x1) + (nI 3))))]) (rest := []) C dX8_rocks_141 rfl (c_X8_letsIn _ _ _ _ isRow114 μ p6_ h7_) gsX8_61 ⟨⟨rfl, rfl⟩, Nat.le_of_ble_eq_true rfl, Nat.le_of_ble_eq_true rfl⟩ rfl rfl (Nat.le_of_ble_eq_true rfl) ?_
      refine j_iinc (d := (nI 1)) (v := x1 + (nI 1)) (lv' := [(1, .int (x1 + (nI 1))), (0, .ref 113)]) C dX8_rocks_144 rfl (by decide) 1 rfl (by decide) rfl rfl ?_
      refine j_goto (pc' := 91) C dX8_rocks_147 (by decide) ?_
      refine j_lv [1, 0] rfl ?_
      exact (ih) (x1 + (nI 1)) p6_ h
def f_X8_rocks_89 (μ : Mem) : Option (Int32 × Mem) := f_X8_rocks_91 (fun μ => f_X8_rocks_150 μ) zfu (nI 0) μ
set_option maxHeartbeats 4000000 in
set_option maxRecDepth 100000 in
theorem w_X8_rocks_89 {Γ : jG} (C : jC Γ 2 cX8_rocks RX8 rmX8_rocks) {ρ : Int32 × Mem} (E : jEI Γ cX8_rocks ρ.1 ρ.2) (μ : Mem) (h : f_X8_rocks_89 μ = some ρ) : jJ Γ 2 89 [(0, .ref 113)] [] μ := by
  unfold f_X8_rocks_89 at h
  refine j_iconst (v := (nI 0)) C dX8_rocks_89 rfl (by decide) ?_
  refine j_istore_n (lv' := [(1, .int (nI 0)), (0, .ref 113)]) C dX8_rocks_90 rfl (by decide) rfl ?_
  refine j_lv [1, 0] rfl ?_
  exact w_X8_rocks_91 C E (fun μ h => w_X8_rocks_150 C E μ h) zfu (nI 0) μ h
def f_X8_rocks_48 (kx89 : Mem → Option (Int32 × Mem)) : Nat → Int32 → Mem → Option (Int32 × Mem)
  | 0, _, _ => none
  | n + 1, x1, μ => (if (nI 81) ≤ x1 then kx89 μ else gd (inb ((nI 60) + x1) 1829) <| zl (sI μ 114 (Int32.toNatClampNeg ((nI 60) + x1)) (nI 1)) fun μ3_ => gd (inb ((nI 141) + x1) 1829) <| zl (sI μ3_ 114 (Int32.toNatClampNeg ((nI 141) + x1)) (nI 2)) fun μ6_ => Option.bind (f_X8_clears 114 x1 μ6_) fun p8_ => f_X8_rocks_48 kx89 n (x1 + (nI 1)) p8_)
set_option maxHeartbeats 4000000 in
set_option maxRecDepth 100000 in
theorem w_X8_rocks_48 {Γ : jG} (C : jC Γ 2 cX8_rocks RX8 rmX8_rocks) {kx89 : Mem → Option (Int32 × Mem)} {ρ : Int32 × Mem} (E : jEI Γ cX8_rocks ρ.1 ρ.2) (Hkx89 : ∀ (μ : Mem), kx89 μ = some ρ → jJ Γ 2 89 [(0, .ref 113)] [] μ) : ∀ (n : Nat) (x1 : Int32) (μ : Mem), f_X8_rocks_48 kx89 n x1 μ = some ρ → jJ Γ 2 48 [(0, .ref 113), (1, .int x1)] [] μ := by
  intro n
  induction n with
  | zero => intro x1 μ h; rw [f_X8_rocks_48] at h; cases h
  | succ n ih =>
    intro x1 μ h
    rw [f_X8_rocks_48] at h
    refine j_iload_n C dX8_rocks_48 rfl 1 rfl ?_
    refine j_bipush (v := (nI 81)) C dX8_rocks_49 rfl (by decide) ?_
    refine j_icmp_ge (tgt := 89) C dX8_rocks_51 rfl (by decide) (fun c1_ => ?_) (fun c1_ => ?_)
    · replace h := if_t h c1_
      refine j_lv [0] rfl ?_
      exact (Hkx89) μ h
    · replace h := if_f h c1_
      refine j_aload_n C dX8_rocks_54 rfl 0 rfl ?_
      refine j_getR (c := 114) C dX8_rocks_55 rfl lkX8_7 is_113 rfl ?_
      refine j_bipush (v := (nI 60)) C dX8_rocks_58 rfl (by decide) ?_
      refine j_iload_n C dX8_rocks_60 rfl 1 rfl ?_
      refine j_iadd C dX8_rocks_61 rfl ?_
      refine j_iconst (v := (nI 1)) C dX8_rocks_62 rfl (by decide) ?_
      replace h := gd_e h
      obtain ⟨g2_, h⟩ := h
      refine j_iast C dX8_rocks_63 rfl is_114 g2_ ?_
      refine j_mem (fun μ3_ e4_ => ?_)
      replace h := zl_u h e4_
      refine j_aload_n C dX8_rocks_64 rfl 0 rfl ?_
      refine j_getR (c := 114) C dX8_rocks_65 rfl lkX8_7 is_113 rfl ?_
      refine j_sipush (v := (nI 141)) C dX8_rocks_68 rfl (by decide) ?_
      refine j_iload_n C dX8_rocks_71 rfl 1 rfl ?_
      refine j_iadd C dX8_rocks_72 rfl ?_
      refine j_iconst (v := (nI 2)) C dX8_rocks_73 rfl (by decide) ?_
      replace h := gd_e h
      obtain ⟨g5_, h⟩ := h
      refine j_iast C dX8_rocks_74 rfl is_114 g5_ ?_
      refine j_mem (fun μ6_ e7_ => ?_)
      replace h := zl_u h e7_
      refine j_aload_n C dX8_rocks_75 rfl 0 rfl ?_
      refine j_getR (c := 114) C dX8_rocks_76 rfl lkX8_7 is_113 rfl ?_
      refine j_iload_n C dX8_rocks_79 rfl 1 rfl ?_
      replace h := bd_e h
      obtain ⟨p8_, h9_, h⟩ := h
      refine j_cSV (av := [.ref 114, .int x1]) (rest := []) C dX8_rocks_80 rfl (c_X8_clears _ _ _ _ isRow114 μ6_ p8_ h9_) gsX8_55 ⟨⟨rfl, rfl⟩, Nat.le_of_ble_eq_true rfl, Nat.le_of_ble_eq_true rfl⟩ rfl rfl (Nat.le_of_ble_eq_true rfl) ?_
      refine j_iinc (d := (nI 1)) (v := x1 + (nI 1)) (lv' := [(1, .int (x1 + (nI 1))), (0, .ref 113)]) C dX8_rocks_83 rfl (by decide) 1 rfl (by decide) rfl rfl ?_
      refine j_goto (pc' := 48) C dX8_rocks_86 (by decide) ?_
      refine j_lv [1, 0] rfl ?_
      exact (ih) (x1 + (nI 1)) p8_ h
def f_X8_rocks (μ : Mem) : Option (Int32 × Mem) := zl (sI μ 113 0 (nI 0)) fun μ1_ => Option.bind (f_X8_reads (nI 0) μ1_) fun p3_ => (if (p3_.1 113 10) < 0 then gd (inb (nI 0) 1829) <| zl (sI p3_ 114 (Int32.toNatClampNeg (nI 0)) (nI 0)) fun μ7_ => gd (inb (nI 1) 1829) <| zl (sI μ7_ 114 (Int32.toNatClampNeg (nI 1)) (nI 0)) fun μ10_ => gd (inb (nI 2) 1829) <| zl (sI μ10_ 114 (Int32.toNatClampNeg (nI 2)) (nI 0)) fun μ13_ => f_X8_rocks_48 (fun μ => f_X8_rocks_89 μ) zfu (nI 0) μ13_ else some ((-20) - (p3_.1 113 10), p3_))
set_option maxHeartbeats 4000000 in
set_option maxRecDepth 100000 in
theorem w_X8_rocks {Γ : jG} (C : jC Γ 2 cX8_rocks RX8 rmX8_rocks) {ρ : Int32 × Mem} (E : jEI Γ cX8_rocks ρ.1 ρ.2) (μ : Mem) (h : f_X8_rocks μ = some ρ) : jJ Γ 2 0 [(0, .ref 113)] [] μ := by
  unfold f_X8_rocks at h
  refine j_aload_n C dX8_rocks_0 rfl 0 rfl ?_
  refine j_iconst (v := (nI 0)) C dX8_rocks_1 rfl (by decide) ?_
  refine j_putI C dX8_rocks_2 rfl lpX8_48 is_113 rfl ?_
  refine j_mem (fun μ1_ e2_ => ?_)
  replace h := zl_u h e2_
  refine j_aload_n C dX8_rocks_5 rfl 0 rfl ?_
  refine j_iconst (v := (nI 0)) C dX8_rocks_6 rfl (by decide) ?_
  replace h := bd_e h
  obtain ⟨p3_, h4_, h⟩ := h
  refine j_cVV (av := [.int (nI 0)]) (rest := []) C dX8_rocks_7 rfl (c_X8_reads _ _ _ _ μ1_ p3_ h4_) gvX8_138 ⟨⟨rfl, rfl⟩, Nat.le_of_ble_eq_true rfl, Nat.le_of_ble_eq_true rfl⟩ rfl is_113 rfl rfl (Nat.le_of_ble_eq_true rfl) ?_
  refine j_aload_n C dX8_rocks_10 rfl 0 rfl ?_
  refine j_getI C dX8_rocks_11 rfl lkX8_118 is_113 rfl ?_
  refine j_if_lt (tgt := 25) C dX8_rocks_14 rfl (by decide) (fun c5_ => ?_) (fun c5_ => ?_)
  · replace h := if_t h c5_
    refine j_aload_n C dX8_rocks_25 rfl 0 rfl ?_
    refine j_getR (c := 114) C dX8_rocks_26 rfl lkX8_7 is_113 rfl ?_
    refine j_iconst (v := (nI 0)) C dX8_rocks_29 rfl (by decide) ?_
    refine j_iconst (v := (nI 0)) C dX8_rocks_30 rfl (by decide) ?_
    replace h := gd_e h
    obtain ⟨g6_, h⟩ := h
    refine j_iast C dX8_rocks_31 rfl is_114 g6_ ?_
    refine j_mem (fun μ7_ e8_ => ?_)
    replace h := zl_u h e8_
    refine j_aload_n C dX8_rocks_32 rfl 0 rfl ?_
    refine j_getR (c := 114) C dX8_rocks_33 rfl lkX8_7 is_113 rfl ?_
    refine j_iconst (v := (nI 1)) C dX8_rocks_36 rfl (by decide) ?_
    refine j_iconst (v := (nI 0)) C dX8_rocks_37 rfl (by decide) ?_
    replace h := gd_e h
    obtain ⟨g9_, h⟩ := h
    refine j_iast C dX8_rocks_38 rfl is_114 g9_ ?_
    refine j_mem (fun μ10_ e11_ => ?_)
    replace h := zl_u h e11_
    refine j_aload_n C dX8_rocks_39 rfl 0 rfl ?_
    refine j_getR (c := 114) C dX8_rocks_40 rfl lkX8_7 is_113 rfl ?_
    refine j_iconst (v := (nI 2)) C dX8_rocks_43 rfl (by decide) ?_
    refine j_iconst (v := (nI 0)) C dX8_rocks_44 rfl (by decide) ?_
    replace h := gd_e h
    obtain ⟨g12_, h⟩ := h
    refine j_iast C dX8_rocks_45 rfl is_114 g12_ ?_
    refine j_mem (fun μ13_ e14_ => ?_)
    replace h := zl_u h e14_
    refine j_iconst (v := (nI 0)) C dX8_rocks_46 rfl (by decide) ?_
    refine j_istore_n (lv' := [(1, .int (nI 0)), (0, .ref 113)]) C dX8_rocks_47 rfl (by decide) rfl ?_
    refine j_lv [1, 0] rfl ?_
    exact w_X8_rocks_48 C E (fun μ h => w_X8_rocks_89 C E μ h) zfu (nI 0) μ13_ h
  · replace h := if_f h c5_
    refine j_bipush (v := (-20)) C dX8_rocks_17 rfl (by decide) ?_
    refine j_aload_n C dX8_rocks_19 rfl 0 rfl ?_
    refine j_getI C dX8_rocks_20 rfl lkX8_118 is_113 rfl ?_
    refine j_isub C dX8_rocks_23 rfl ?_
    obtain rfl := Option.some.inj h
    exact j_iret E dX8_rocks_24
set_option maxRecDepth 100000 in
theorem c_X8_rocks (l : Launch) (D : va_G) (ad : Nat → Nat) (cl : Nat → ClassId) (μ : Mem) (ρ : Int32 × Mem) (h : f_X8_rocks μ = some ρ) : CI l D ad cl yX8_rocks wsX8_rocks rmX8_rocks [.ref 113] μ ρ.1 ρ.2 := c_ofI (cc := cX8_rocks) (nL := 2) rfl (by decide) (Nat.le_of_ble_eq_true rfl) (fun Γ C E => w_X8_rocks C E μ h)
/-! X8_isDone -/
def wsX8_isDone : List Cond := .code yX8_isDone cX8_isDone 4 (some .boolean) :: G0
def rmX8_isDone : Room := { frames := 1, cells := 0, slots := 0, locals := 22 }
def f_X8_isDone_48 (k0 : Nat) (a1 : Int32) (kb4 : Int32 → Int32 → Mem → Option (Int32 × Mem)) (x3 : Int32) (t0 : Int32) (μ : Mem) : Option (Int32 × Mem) := kb4 t0 (x3 + (nI 1)) μ
set_option maxHeartbeats 4000000 in
set_option maxRecDepth 100000 in
theorem w_X8_isDone_48 {Γ : jG} (C : jC Γ 4 cX8_isDone RX8 rmX8_isDone) {k0 : Nat} {a1 : Int32} (hk0 : isRow k0) {kb4 : Int32 → Int32 → Mem → Option (Int32 × Mem)} {ρ : Int32 × Mem} (E : (isB ρ.1 = true → jEI Γ cX8_isDone ρ.1 ρ.2)) (Hkb4 : ∀ (x2 : Int32) (x3 : Int32) (μ : Mem), kb4 x2 x3 μ = some ρ → jJ Γ 4 4 [(0, .ref k0), (1, .int a1), (2, .int x2), (3, .int x3)] [] μ) (x3 : Int32) (t0 : Int32) (μ : Mem) (h : f_X8_isDone_48 k0 a1 kb4 x3 t0 μ = some ρ) : jJ Γ 4 48 [(0, .ref k0), (1, .int a1), (3, .int x3)] [.int t0] μ := by
  unfold f_X8_isDone_48 at h
  refine j_istore_n (lv' := [(2, .int t0), (0, .ref k0), (1, .int a1), (3, .int x3)]) C dX8_isDone_48 rfl (by decide) rfl ?_
  refine j_iinc (d := (nI 1)) (v := x3 + (nI 1)) (lv' := [(3, .int (x3 + (nI 1))), (2, .int t0), (0, .ref k0), (1, .int a1)]) C dX8_isDone_49 rfl (by decide) 3 rfl (by decide) rfl rfl ?_
  refine j_goto (pc' := 4) C dX8_isDone_52 (by decide) ?_
  refine j_lv [2, 3, 1, 0] rfl ?_
  exact (Hkb4) t0 (x3 + (nI 1)) μ h
def f_X8_isDone_47 (k0 : Nat) (a1 : Int32) (kb4 : Int32 → Int32 → Mem → Option (Int32 × Mem)) (x3 : Int32) (μ : Mem) : Option (Int32 × Mem) := f_X8_isDone_48 k0 a1 kb4 x3 (nI 0) μ
set_option maxHeartbeats 4000000 in
set_option maxRecDepth 100000 in
theorem w_X8_isDone_47 {Γ : jG} (C : jC Γ 4 cX8_isDone RX8 rmX8_isDone) {k0 : Nat} {a1 : Int32} (hk0 : isRow k0) {kb4 : Int32 → Int32 → Mem → Option (Int32 × Mem)} {ρ : Int32 × Mem} (E : (isB ρ.1 = true → jEI Γ cX8_isDone ρ.1 ρ.2)) (Hkb4 : ∀ (x2 : Int32) (x3 : Int32) (μ : Mem), kb4 x2 x3 μ = some ρ → jJ Γ 4 4 [(0, .ref k0), (1, .int a1), (2, .int x2), (3, .int x3)] [] μ) (x3 : Int32) (μ : Mem) (h : f_X8_isDone_47 k0 a1 kb4 x3 μ = some ρ) : jJ Γ 4 47 [(0, .ref k0), (1, .int a1), (3, .int x3)] [] μ := by
  unfold f_X8_isDone_47 at h
  refine j_iconst (v := (nI 0)) C dX8_isDone_47 rfl (by decide) ?_
  refine j_lv [0, 1, 2] rfl ?_
  exact w_X8_isDone_48 C hk0 E Hkb4 x3 (nI 0) μ h
def f_X8_isDone_43 (k0 : Nat) (a1 : Int32) (kb4 : Int32 → Int32 → Mem → Option (Int32 × Mem)) (x3 : Int32) (μ : Mem) : Option (Int32 × Mem) := f_X8_isDone_48 k0 a1 kb4 x3 (nI 1) μ
set_option maxHeartbeats 4000000 in
set_option maxRecDepth 100000 in
theorem w_X8_isDone_43 {Γ : jG} (C : jC Γ 4 cX8_isDone RX8 rmX8_isDone) {k0 : Nat} {a1 : Int32} (hk0 : isRow k0) {kb4 : Int32 → Int32 → Mem → Option (Int32 × Mem)} {ρ : Int32 × Mem} (E : (isB ρ.1 = true → jEI Γ cX8_isDone ρ.1 ρ.2)) (Hkb4 : ∀ (x2 : Int32) (x3 : Int32) (μ : Mem), kb4 x2 x3 μ = some ρ → jJ Γ 4 4 [(0, .ref k0), (1, .int a1), (2, .int x2), (3, .int x3)] [] μ) (x3 : Int32) (μ : Mem) (h : f_X8_isDone_43 k0 a1 kb4 x3 μ = some ρ) : jJ Γ 4 43 [(0, .ref k0), (1, .int a1), (3, .int x3)] [] μ := by
  unfold f_X8_isDone_43 at h
  refine j_iconst (v := (nI 1)) C dX8_isDone_43 rfl (by decide) ?_
  refine j_goto (pc' := 48) C dX8_isDone_44 (by decide) ?_
  refine j_lv [0, 1, 2] rfl ?_
  exact w_X8_isDone_48 C hk0 E Hkb4 x3 (nI 1) μ h
def f_X8_isDone_4 (k0 : Nat) (a1 : Int32) : Nat → Int32 → Int32 → Mem → Option (Int32 × Mem)
  | 0, _, _, _ => none
  | n + 1, x2, x3, μ => gd (inb (nI 0) 1829) <| (if (μ.1 k0 (Int32.toNatClampNeg (nI 0))) ≤ x3 then gd (isB x2) <| some (x2, μ) else (if x2 = 0 then f_X8_isDone_47 k0 a1 (fun x2 x3 μ => f_X8_isDone_4 k0 a1 n x2 x3 μ) x3 μ else (if x3 = a1 then f_X8_isDone_43 k0 a1 (fun x2 x3 μ => f_X8_isDone_4 k0 a1 n x2 x3 μ) x3 μ else Option.bind (f_X8_isTrue k0 x3 μ) fun p6_ => (if p6_.1 = 0 then f_X8_isDone_43 k0 a1 (fun x2 x3 μ => f_X8_isDone_4 k0 a1 n x2 x3 μ) x3 p6_.2 else gd (inb (((nI 6) + ((nI 6) * x3)) + (nI 2)) 1829) <| (if (nI 2) ≤ (p6_.2.1 k0 (Int32.toNatClampNeg (((nI 6) + ((nI 6) * x3)) + (nI 2)))) then f_X8_isDone_47 k0 a1 (fun x2 x3 μ => f_X8_isDone_4 k0 a1 n x2 x3 μ) x3 p6_.2 else f_X8_isDone_43 k0 a1 (fun x2 x3 μ => f_X8_isDone_4 k0 a1 n x2 x3 μ) x3 p6_.2)))))
set_option maxHeartbeats 4000000 in
set_option maxRecDepth 100000 in
theorem w_X8_isDone_4 {Γ : jG} (C : jC Γ 4 cX8_isDone RX8 rmX8_isDone) {k0 : Nat} {a1 : Int32} (hk0 : isRow k0) {ρ : Int32 × Mem} (E : (isB ρ.1 = true → jEI Γ cX8_isDone ρ.1 ρ.2)) : ∀ (n : Nat) (x2 : Int32) (x3 : Int32) (μ : Mem), f_X8_isDone_4 k0 a1 n x2 x3 μ = some ρ → jJ Γ 4 4 [(0, .ref k0), (1, .int a1), (2, .int x2), (3, .int x3)] [] μ := by
  intro n
  induction n with
  | zero => intro x2 x3 μ h; rw [f_X8_isDone_4] at h; cases h
  | succ n ih =>
    intro x2 x3 μ h
    rw [f_X8_isDone_4] at h
    refine j_iload_n C dX8_isDone_4 rfl 3 rfl ?_
    refine j_aload_n C dX8_isDone_5 rfl 0 rfl ?_
    refine j_iconst (v := (nI 0)) C dX8_isDone_6 rfl (by decide) ?_
    replace h := gd_e h
    obtain ⟨g1_, h⟩ := h
    refine j_iald C dX8_isDone_7 rfl (isRow_is hk0) g1_ ?_
    refine j_icmp_ge (tgt := 55) C dX8_isDone_8 rfl (by decide) (fun c2_ => ?_) (fun c2_ => ?_)
    · replace h := if_t h c2_
      refine j_iload_n C dX8_isDone_55 rfl 2 rfl ?_
      replace h := gd_e h
      obtain ⟨g3_, h⟩ := h
      obtain rfl := Option.some.inj h
      exact j_iret (E g3_) dX8_isDone_56
    · replace h := if_f h c2_
      refine j_iload_n C dX8_isDone_11 rfl 2 rfl ?_
      refine j_if_eq (tgt := 47) C dX8_isDone_12 rfl (by decide) (fun c4_ => ?_) (fun c4_ => ?_)
      · replace h := if_t h c4_
        refine j_lv [0, 1, 3] rfl ?_
        exact w_X8_isDone_47 C hk0 E ih x3 μ h
      · replace h := if_f h c4_
        refine j_iload_n C dX8_isDone_15 rfl 3 rfl ?_
        refine j_iload_n C dX8_isDone_16 rfl 1 rfl ?_
        refine j_icmp_eq (tgt := 43) C dX8_isDone_17 rfl (by decide) (fun c5_ => ?_) (fun c5_ => ?_)
        · replace h := if_t h c5_
          refine j_lv [0, 1, 3] rfl ?_
          exact w_X8_isDone_43 C hk0 E ih x3 μ h
        · replace h := if_f h c5_
          refine j_aload_n C dX8_isDone_20 rfl 0 rfl ?_
          refine j_iload_n C dX8_isDone_21 rfl 3 rfl ?_
          replace h := bd_e h
          obtain ⟨p6_, h7_, h⟩ := h
          refine j_cSI (av := [.ref k0, .int x3]) (rest := []) C dX8_isDone_22 rfl (c_X8_isTrue _ _ _ _ hk0 μ p6_ h7_) gsX8_81 ⟨⟨rfl, rfl⟩, Nat.le_of_ble_eq_true rfl, Nat.le_of_ble_eq_true rfl⟩ rfl rfl (Nat.le_of_ble_eq_true rfl) ?_
          refine j_if_eq (tgt := 43) C dX8_isDone_25 rfl (by decide) (fun c8_ => ?_) (fun c8_ => ?_)
          · replace h := if_t h c8_
            refine j_lv [0, 1, 3] rfl ?_
            exact w_X8_isDone_43 C hk0 E ih x3 p6_.2 h
          · replace h := if_f h c8_
            refine j_aload_n C dX8_isDone_28 rfl 0 rfl ?_
            refine j_bipush (v := (nI 6)) C dX8_isDone_29 rfl (by decide) ?_
            refine j_bipush (v := (nI 6)) C dX8_isDone_31 rfl (by decide) ?_
            refine j_iload_n C dX8_isDone_33 rfl 3 rfl ?_
            refine j_imul C dX8_isDone_34 rfl ?_
            refine j_iadd C dX8_isDone_35 rfl ?_
            refine j_iconst (v := (nI 2)) C dX8_isDone_36 rfl (by decide) ?_
            refine j_iadd C dX8_isDone_37 rfl ?_
            replace h := gd_e h
            obtain ⟨g9_, h⟩ := h
            refine j_iald C dX8_isDone_38 rfl (isRow_is hk0) g9_ ?_
            refine j_iconst (v := (nI 2)) C dX8_isDone_39 rfl (by decide) ?_
            refine j_icmp_ge (tgt := 47) C dX8_isDone_40 rfl (by decide) (fun c10_ => ?_) (fun c10_ => ?_)
            · replace h := if_t h c10_
              refine j_lv [0, 1, 3] rfl ?_
              exact w_X8_isDone_47 C hk0 E ih x3 p6_.2 h
            · replace h := if_f h c10_
              refine j_lv [0, 1, 3] rfl ?_
              exact w_X8_isDone_43 C hk0 E ih x3 p6_.2 h
def f_X8_isDone (k0 : Nat) (a1 : Int32) (μ : Mem) : Option (Int32 × Mem) := f_X8_isDone_4 k0 a1 zfu (nI 1) (nI 0) μ
set_option maxHeartbeats 4000000 in
set_option maxRecDepth 100000 in
theorem w_X8_isDone {Γ : jG} (C : jC Γ 4 cX8_isDone RX8 rmX8_isDone) {k0 : Nat} {a1 : Int32} (hk0 : isRow k0) {ρ : Int32 × Mem} (E : (isB ρ.1 = true → jEI Γ cX8_isDone ρ.1 ρ.2)) (μ : Mem) (h : f_X8_isDone k0 a1 μ = some ρ) : jJ Γ 4 0 [(0, .ref k0), (1, .int a1)] [] μ := by
  unfold f_X8_isDone at h
  refine j_iconst (v := (nI 1)) C dX8_isDone_0 rfl (by decide) ?_
  refine j_istore_n (lv' := [(2, .int (nI 1)), (0, .ref k0), (1, .int a1)]) C dX8_isDone_1 rfl (by decide) rfl ?_
  refine j_iconst (v := (nI 0)) C dX8_isDone_2 rfl (by decide) ?_
  refine j_istore_n (lv' := [(3, .int (nI 0)), (2, .int (nI 1)), (0, .ref k0), (1, .int a1)]) C dX8_isDone_3 rfl (by decide) rfl ?_
  refine j_lv [2, 3, 1, 0] rfl ?_
  exact w_X8_isDone_4 C hk0 E zfu (nI 1) (nI 0) μ h
set_option maxRecDepth 100000 in
theorem c_X8_isDone (l : Launch) (D : va_G) (ad : Nat → Nat) (cl : Nat → ClassId) {k0 : Nat} {a1 : Int32} (hk0 : isRow k0) (μ : Mem) (ρ : Int32 × Mem) (h : f_X8_isDone k0 a1 μ = some ρ) : CI l D ad cl yX8_isDone wsX8_isDone rmX8_isDone [.ref k0, .int a1] μ ρ.1 ρ.2 := c_ofZ (cc := cX8_isDone) (nL := 4) rfl (by decide) (Nat.le_of_ble_eq_true rfl) (fun Γ C E => w_X8_isDone C hk0 E μ h)
/-! X8_isUnlike -/
def wsX8_isUnlike : List Cond := .code yX8_isUnlike cX8_isUnlike 3 (some .boolean) :: G0
def rmX8_isUnlike : Room := { frames := 1, cells := 0, slots := 0, locals := 22 }
def f_X8_isUnlike_45 (k0 : Nat) (x1 : Int32) (μ : Mem) : Option (Int32 × Mem) := (if (x1 &&& (nI 3)) = (nI 3) then some ((nI 1), μ) else some ((nI 0), μ))
set_option maxHeartbeats 4000000 in
set_option maxRecDepth 100000 in
theorem w_X8_isUnlike_45 {Γ : jG} (C : jC Γ 3 cX8_isUnlike RX8 rmX8_isUnlike) {k0 : Nat} (hk0 : isRow k0) {ρ : Int32 × Mem} (E : (isB ρ.1 = true → jEI Γ cX8_isUnlike ρ.1 ρ.2)) (x1 : Int32) (μ : Mem) (h : f_X8_isUnlike_45 k0 x1 μ = some ρ) : jJ Γ 3 45 [(1, .int x1)] [] μ := by
  unfold f_X8_isUnlike_45 at h
  refine j_iload_n C dX8_isUnlike_45 rfl 0 rfl ?_
  refine j_iconst (v := (nI 3)) C dX8_isUnlike_46 rfl (by decide) ?_
  refine j_iand C dX8_isUnlike_47 rfl ?_
  refine j_iconst (v := (nI 3)) C dX8_isUnlike_48 rfl (by decide) ?_
  refine j_icmp_ne (tgt := 56) C dX8_isUnlike_49 rfl (by decide) (fun c1_ => ?_) (fun c1_ => ?_)
  · replace h := if_f h c1_
    refine j_iconst (v := (nI 0)) C dX8_isUnlike_56 rfl (by decide) ?_
    obtain rfl := Option.some.inj h
    exact j_iret (E isB_0) dX8_isUnlike_57
  · replace h := if_t h c1_
    refine j_iconst (v := (nI 1)) C dX8_isUnlike_52 rfl (by decide) ?_
    refine j_goto (pc' := 57) C dX8_isUnlike_53 (by decide) ?_
    obtain rfl := Option.some.inj h
    exact j_iret (E isB_1) dX8_isUnlike_57
def f_X8_isUnlike_37 (k0 : Nat) (kb4 : Int32 → Int32 → Mem → Option (Int32 × Mem)) (kx45 : Int32 → Mem → Option (Int32 × Mem)) (x2 : Int32) (t0 : Int32) (t1 : Int32) (μ : Mem) : Option (Int32 × Mem) := zl (t0 ||| t1) fun x1_ => kb4 x1_ (x2 + (nI 1)) μ
set_option maxHeartbeats 4000000 in
set_option maxRecDepth 100000 in
theorem w_X8_isUnlike_37 {Γ : jG} (C : jC Γ 3 cX8_isUnlike RX8 rmX8_isUnlike) {k0 : Nat} (hk0 : isRow k0) {kb4 : Int32 → Int32 → Mem → Option (Int32 × Mem)} {kx45 : Int32 → Mem → Option (Int32 × Mem)} {ρ : Int32 × Mem} (E : (isB ρ.1 = true → jEI Γ cX8_isUnlike ρ.1 ρ.2)) (Hkb4 : ∀ (x1 : Int32) (x2 : Int32) (μ : Mem), kb4 x1 x2 μ = some ρ → jJ Γ 3 4 [(0, .ref k0), (1, .int x1), (2, .int x2)] [] μ) (Hkx45 : ∀ (x1 : Int32) (μ : Mem), kx45 x1 μ = some ρ → jJ Γ 3 45 [(1, .int x1)] [] μ) (x2 : Int32) (t0 : Int32) (t1 : Int32) (μ : Mem) (h : f_X8_isUnlike_37 k0 kb4 kx45 x2 t0 t1 μ = some ρ) : jJ Γ 3 37 [(0, .ref k0), (2, .int x2)] [.int t1, .int t0] μ := by
  unfold f_X8_isUnlike_37 at h
  refine j_ior C dX8_isUnlike_37 rfl ?_
  refine j_topi (fun x1_ e2_ => ?_)
  replace h := zl_u h e2_
  refine j_istore_n (lv' := [(1, .int x1_), (0, .ref k0), (2, .int x2)]) C dX8_isUnlike_38 rfl (by decide) rfl ?_
  refine j_iinc (d := (nI 1)) (v := x2 + (nI 1)) (lv' := [(2, .int (x2 + (nI 1))), (1, .int x1_), (0, .ref k0)]) C dX8_isUnlike_39 rfl (by decide) 2 rfl (by decide) rfl rfl ?_
  refine j_goto (pc' := 4) C dX8_isUnlike_42 (by decide) ?_
  refine j_lv [2, 1, 0] rfl ?_
  exact (Hkb4) x1_ (x2 + (nI 1)) μ h
def f_X8_isUnlike_4 (k0 : Nat) (kx45 : Int32 → Mem → Option (Int32 × Mem)) : Nat → Int32 → Int32 → Mem → Option (Int32 × Mem)
  | 0, _, _, _ => none
  | n + 1, x1, x2, μ => gd (inb (nI 0) 1829) <| (if (μ.1 k0 (Int32.toNatClampNeg (nI 0))) ≤ x2 then kx45 x1 μ else Option.bind (f_X8_isTrue k0 x2 μ) fun p3_ => (if p3_.1 = 0 then f_X8_isUnlike_37 k0 (fun x1 x2 μ => f_X8_isUnlike_4 k0 kx45 n x1 x2 μ) kx45 x2 x1 (nI 0) p3_.2 else gd (inb (((nI 6) + ((nI 6) * x2)) + (nI 2)) 1829) <| f_X8_isUnlike_37 k0 (fun x1 x2 μ => f_X8_isUnlike_4 k0 kx45 n x1 x2 μ) kx45 x2 x1 ((nI 1) <<< ((p3_.2.1 k0 (Int32.toNatClampNeg (((nI 6) + ((nI 6) * x2)) + (nI 2)))) &&& 31)) p3_.2))
set_option maxHeartbeats 4000000 in
set_option maxRecDepth 100000 in
theorem w_X8_isUnlike_4 {Γ : jG} (C : jC Γ 3 cX8_isUnlike RX8 rmX8_isUnlike) {k0 : Nat} (hk0 : isRow k0) {kx45 : Int32 → Mem → Option (Int32 × Mem)} {ρ : Int32 × Mem} (E : (isB ρ.1 = true → jEI Γ cX8_isUnlike ρ.1 ρ.2)) (Hkx45 : ∀ (x1 : Int32) (μ : Mem), kx45 x1 μ = some ρ → jJ Γ 3 45 [(1, .int x1)] [] μ) : ∀ (n : Nat) (x1 : Int32) (x2 : Int32) (μ : Mem), f_X8_isUnlike_4 k0 kx45 n x1 x2 μ = some ρ → jJ Γ 3 4 [(0, .ref k0), (1, .int x1), (2, .int x2)] [] μ := by
  intro n
  induction n with
  | zero => intro x1 x2 μ h; rw [f_X8_isUnlike_4] at h; cases h
  | succ n ih =>
    intro x1 x2 μ h
    rw [f_X8_isUnlike_4] at h
    refine j_iload_n C dX8_isUnlike_4 rfl 2 rfl ?_
    refine j_aload_n C dX8_isUnlike_5 rfl 0 rfl ?_
    refine j_iconst (v := (nI 0)) C dX8_isUnlike_6 rfl (by decide) ?_
    replace h := gd_e h
    obtain ⟨g1_, h⟩ := h
    refine j_iald C dX8_isUnlike_7 rfl (isRow_is hk0) g1_ ?_
    refine j_icmp_ge (tgt := 45) C dX8_isUnlike_8 rfl (by decide) (fun c2_ => ?_) (fun c2_ => ?_)
    · replace h := if_t h c2_
      refine j_lv [1] rfl ?_
      exact (Hkx45) x1 μ h
    · replace h := if_f h c2_
      refine j_iload_n C dX8_isUnlike_11 rfl 1 rfl ?_
      refine j_aload_n C dX8_isUnlike_12 rfl 0 rfl ?_
      refine j_iload_n C dX8_isUnlike_13 rfl 2 rfl ?_
      replace h := bd_e h
      obtain ⟨p3_, h4_, h⟩ := h
      refine j_cSI (av := [.ref k0, .int x2]) (rest := [.int x1]) C dX8_isUnlike_14 rfl (c_X8_isTrue _ _ _ _ hk0 μ p3_ h4_) gsX8_81 ⟨⟨rfl, rfl⟩, Nat.le_of_ble_eq_true rfl, Nat.le_of_ble_eq_true rfl⟩ rfl rfl (Nat.le_of_ble_eq_true rfl) ?_
      refine j_if_eq (tgt := 36) C dX8_isUnlike_17 rfl (by decide) (fun c5_ => ?_) (fun c5_ => ?_)
      · replace h := if_t h c5_
        refine j_iconst (v := (nI 0)) C dX8_isUnlike_36 rfl (by decide) ?_
        refine j_lv [0, 2] rfl ?_
        exact w_X8_isUnlike_37 C hk0 E ih Hkx45 x2 x1 (nI 0) p3_.2 h
      · replace h := if_f h c5_
        refine j_iconst (v := (nI 1)) C dX8_isUnlike_20 rfl (by decide) ?_
        refine j_aload_n C dX8_isUnlike_21 rfl 0 rfl ?_
        refine j_bipush (v := (nI 6)) C dX8_isUnlike_22 rfl (by decide) ?_
        refine j_bipush (v := (nI 6)) C dX8_isUnlike_24 rfl (by decide) ?_
        refine j_iload_n C dX8_isUnlike_26 rfl 2 rfl ?_
        refine j_imul C dX8_isUnlike_27 rfl ?_
        refine j_iadd C dX8_isUnlike_28 rfl ?_
        refine j_iconst (v := (nI 2)) C dX8_isUnlike_29 rfl (by decide) ?_
        refine j_iadd C dX8_isUnlike_30 rfl ?_
        replace h := gd_e h
        obtain ⟨g6_, h⟩ := h
        refine j_iald C dX8_isUnlike_31 rfl (isRow_is hk0) g6_ ?_
        refine j_ishl C dX8_isUnlike_32 rfl ?_
        refine j_goto (pc' := 37) C dX8_isUnlike_33 (by decide) ?_
        refine j_lv [0, 2] rfl ?_
        exact w_X8_isUnlike_37 C hk0 E ih Hkx45 x2 x1 ((nI 1) <<< ((p3_.2.1 k0 (Int32.toNatClampNeg (((nI 6) + ((nI 6) * x2)) + (nI 2)))) &&& 31)) p3_.2 h
def f_X8_isUnlike (k0 : Nat) (μ : Mem) : Option (Int32 × Mem) := f_X8_isUnlike_4 k0 (fun x1 μ => f_X8_isUnlike_45 k0 x1 μ) zfu (nI 0) (nI 0) μ
set_option maxHeartbeats 4000000 in
set_option maxRecDepth 100000 in
theorem w_X8_isUnlike {Γ : jG} (C : jC Γ 3 cX8_isUnlike RX8 rmX8_isUnlike) {k0 : Nat} (hk0 : isRow k0) {ρ : Int32 × Mem} (E : (isB ρ.1 = true → jEI Γ cX8_isUnlike ρ.1 ρ.2)) (μ : Mem) (h : f_X8_isUnlike k0 μ = some ρ) : jJ Γ 3 0 [(0, .ref k0)] [] μ := by
  unfold f_X8_isUnlike at h
  refine j_iconst (v := (nI 0)) C dX8_isUnlike_0 rfl (by decide) ?_
  refine j_istore_n (lv' := [(1, .int (nI 0)), (0, .ref k0)]) C dX8_isUnlike_1 rfl (by decide) rfl ?_
  refine j_iconst (v := (nI 0)) C dX8_isUnlike_2 rfl (by decide) ?_
  refine j_istore_n (lv' := [(2, .int (nI 0)), (1, .int (nI 0)), (0, .ref k0)]) C dX8_isUnlike_3 rfl (by decide) rfl ?_
  refine j_lv [2, 1, 0] rfl ?_
  exact w_X8_isUnlike_4 C hk0 E (fun x1 μ h => w_X8_isUnlike_45 C hk0 E x1 μ h) zfu (nI 0) (nI 0) μ h
set_option maxRecDepth 100000 in
theorem c_X8_isUnlike (l : Launch) (D : va_G) (ad : Nat → Nat) (cl : Nat → ClassId) {k0 : Nat} (hk0 : isRow k0) (μ : Mem) (ρ : Int32 × Mem) (h : f_X8_isUnlike k0 μ = some ρ) : CI l D ad cl yX8_isUnlike wsX8_isUnlike rmX8_isUnlike [.ref k0] μ ρ.1 ρ.2 := c_ofZ (cc := cX8_isUnlike) (nL := 3) rfl (by decide) (Nat.le_of_ble_eq_true rfl) (fun Γ C E => w_X8_isUnlike C hk0 E μ h)
/-! X8_dueMany -/
def wsX8_dueMany : List Cond := .code yX8_dueMany cX8_dueMany 3 (some .int) :: G0
def rmX8_dueMany : Room := { frames := 0, cells := 0, slots := 0, locals := 0 }
def f_X8_dueMany_28 (kb6 : Int32 → Int32 → Mem → Option (Int32 × Mem)) (x2 : Int32) (t0 : Int32) (t1 : Int32) (μ : Mem) : Option (Int32 × Mem) := zl (t0 + t1) fun x1_ => kb6 x1_ (x2 + (nI 1)) μ
set_option maxHeartbeats 4000000 in
set_option maxRecDepth 100000 in
theorem w_X8_dueMany_28 {Γ : jG} (C : jC Γ 3 cX8_dueMany RX8 rmX8_dueMany) {kb6 : Int32 → Int32 → Mem → Option (Int32 × Mem)} {ρ : Int32 × Mem} (E : jEI Γ cX8_dueMany ρ.1 ρ.2) (Hkb6 : ∀ (x1 : Int32) (x2 : Int32) (μ : Mem), kb6 x1 x2 μ = some ρ → jJ Γ 3 6 [(0, .ref 113), (1, .int x1), (2, .int x2)] [] μ) (x2 : Int32) (t0 : Int32) (t1 : Int32) (μ : Mem) (h : f_X8_dueMany_28 kb6 x2 t0 t1 μ = some ρ) : jJ Γ 3 28 [(0, .ref 113), (2, .int x2)] [.int t1, .int t0] μ := by
  unfold f_X8_dueMany_28 at h
  refine j_iadd C dX8_dueMany_28 rfl ?_
  refine j_topi (fun x1_ e2_ => ?_)
  replace h := zl_u h e2_
  refine j_istore_n (lv' := [(1, .int x1_), (0, .ref 113), (2, .int x2)]) C dX8_dueMany_29 rfl (by decide) rfl ?_
  refine j_iinc (d := (nI 1)) (v := x2 + (nI 1)) (lv' := [(2, .int (x2 + (nI 1))), (1, .int x1_), (0, .ref 113)]) C dX8_dueMany_30 rfl (by decide) 2 rfl (by decide) rfl rfl ?_
  refine j_goto (pc' := 6) C dX8_dueMany_33 (by decide) ?_
  refine j_lv [2, 1, 0] rfl ?_
  exact (Hkb6) x1_ (x2 + (nI 1)) μ h
def f_X8_dueMany_6 : Nat → Int32 → Int32 → Mem → Option (Int32 × Mem)
  | 0, _, _, _ => none
  | n + 1, x1, x2, μ => (if (nI 1761) ≤ x2 then some (x1, μ) else gd (inb x2 1829) <| (if (μ.1 114 (Int32.toNatClampNeg x2)) ≤ 0 then f_X8_dueMany_28 (fun x1 x2 μ => f_X8_dueMany_6 n x1 x2 μ) x2 x1 (nI 0) μ else f_X8_dueMany_28 (fun x1 x2 μ => f_X8_dueMany_6 n x1 x2 μ) x2 x1 (nI 1) μ))
set_option maxHeartbeats 4000000 in
set_option maxRecDepth 100000 in
theorem w_X8_dueMany_6 {Γ : jG} (C : jC Γ 3 cX8_dueMany RX8 rmX8_dueMany) {ρ : Int32 × Mem} (E : jEI Γ cX8_dueMany ρ.1 ρ.2) : ∀ (n : Nat) (x1 : Int32) (x2 : Int32) (μ : Mem), f_X8_dueMany_6 n x1 x2 μ = some ρ → jJ Γ 3 6 [(0, .ref 113), (1, .int x1), (2, .int x2)] [] μ := by
  intro n
  induction n with
  | zero => intro x1 x2 μ h; rw [f_X8_dueMany_6] at h; cases h
  | succ n ih =>
    intro x1 x2 μ h
    rw [f_X8_dueMany_6] at h
    refine j_iload_n C dX8_dueMany_6 rfl 2 rfl ?_
    refine j_sipush (v := (nI 1761)) C dX8_dueMany_7 rfl (by decide) ?_
    refine j_icmp_ge (tgt := 36) C dX8_dueMany_10 rfl (by decide) (fun c1_ => ?_) (fun c1_ => ?_)
    · replace h := if_t h c1_
      refine j_iload_n C dX8_dueMany_36 rfl 1 rfl ?_
      obtain rfl := Option.some.inj h
      exact j_iret E dX8_dueMany_37
    · replace h := if_f h c1_
      refine j_iload_n C dX8_dueMany_13 rfl 1 rfl ?_
      refine j_aload_n C dX8_dueMany_14 rfl 0 rfl ?_
      refine j_getR (c := 114) C dX8_dueMany_15 rfl lkX8_7 is_113 rfl ?_
      refine j_iload_n C dX8_dueMany_18 rfl 2 rfl ?_
      replace h := gd_e h
      obtain ⟨g2_, h⟩ := h
      refine j_iald C dX8_dueMany_19 rfl is_114 g2_ ?_
      refine j_if_le (tgt := 27) C dX8_dueMany_20 rfl (by decide) (fun c3_ => ?_) (fun c3_ => ?_)
      · replace h := if_t h c3_
        refine j_iconst (v := (nI 0)) C dX8_dueMany_27 rfl (by decide) ?_
        refine j_lv [0, 2] rfl ?_
        exact w_X8_dueMany_28 C E ih x2 x1 (nI 0) μ h
      · replace h := if_f h c3_
        refine j_iconst (v := (nI 1)) C dX8_dueMany_23 rfl (by decide) ?_
        refine j_goto (pc' := 28) C dX8_dueMany_24 (by decide) ?_
        refine j_lv [0, 2] rfl ?_
        exact w_X8_dueMany_28 C E ih x2 x1 (nI 1) μ h
def f_X8_dueMany (μ : Mem) : Option (Int32 × Mem) := f_X8_dueMany_6 zfu (nI 0) (nI 222) μ
set_option maxHeartbeats 4000000 in
set_option maxRecDepth 100000 in
theorem w_X8_dueMany {Γ : jG} (C : jC Γ 3 cX8_dueMany RX8 rmX8_dueMany) {ρ : Int32 × Mem} (E : jEI Γ cX8_dueMany ρ.1 ρ.2) (μ : Mem) (h : f_X8_dueMany μ = some ρ) : jJ Γ 3 0 [(0, .ref 113)] [] μ := by
  unfold f_X8_dueMany at h
  refine j_iconst (v := (nI 0)) C dX8_dueMany_0 rfl (by decide) ?_
  refine j_istore_n (lv' := [(1, .int (nI 0)), (0, .ref 113)]) C dX8_dueMany_1 rfl (by decide) rfl ?_
  refine j_sipush (v := (nI 222)) C dX8_dueMany_2 rfl (by decide) ?_
  refine j_istore_n (lv' := [(2, .int (nI 222)), (1, .int (nI 0)), (0, .ref 113)]) C dX8_dueMany_5 rfl (by decide) rfl ?_
  refine j_lv [2, 1, 0] rfl ?_
  exact w_X8_dueMany_6 C E zfu (nI 0) (nI 222) μ h
set_option maxRecDepth 100000 in
theorem c_X8_dueMany (l : Launch) (D : va_G) (ad : Nat → Nat) (cl : Nat → ClassId) (μ : Mem) (ρ : Int32 × Mem) (h : f_X8_dueMany μ = some ρ) : CI l D ad cl yX8_dueMany wsX8_dueMany rmX8_dueMany [.ref 113] μ ρ.1 ρ.2 := c_ofI (cc := cX8_dueMany) (nL := 3) rfl (by decide) (Nat.le_of_ble_eq_true rfl) (fun Γ C E => w_X8_dueMany C E μ h)
theorem gvX8_155 : jm_gv RX8 155 RX8 yX8_dueMany wsX8_dueMany 3 0 := ⟨_, _, gi_V gwt5_158 gwt5_160 gwp3_9 gwt1_9 gwt5_161, rfl, by decide +kernel⟩
theorem gsX8_148 : jm_gs RX8 148 yX8_isDone wsX8_isDone 4 2 := ⟨_, _, gi_S gwt5_152 gwt5_153 gwt1_9 gwt5_154, rfl, by decide +kernel⟩
theorem gsX8_151 : jm_gs RX8 151 yX8_isUnlike wsX8_isUnlike 3 1 := ⟨_, _, gi_S gwt5_155 gwt5_156 gwt1_9 gwt5_157, rfl, by decide +kernel⟩
/-! X8_count -/
def wsX8_count : List Cond := .code yX8_count cX8_count 2 (some .int) :: G0
def rmX8_count : Room := { frames := 2, cells := 0, slots := 0, locals := 45 }
def f_X8_count (a1 : Int32) (μ : Mem) : Option (Int32 × Mem) := zl (sI μ 113 0 (nI 0)) fun μ1_ => Option.bind (f_X8_in (Int32.toInt64 a1) 0 7 μ1_) fun p3_ => (if p3_.1 = 0 then some ((-1), p3_.2) else (if (nI 5) ≤ a1 then (if a1 = (nI 5) then Option.bind (f_X8_isDone 114 (-1) p3_.2) fun p14_ => (if p14_.1 = 0 then some ((nI 0), p14_.2) else some ((nI 1), p14_.2)) else (if a1 = (nI 6) then Option.bind (f_X8_isUnlike 114 p3_.2) fun p11_ => (if p11_.1 = 0 then some ((nI 0), p11_.2) else some ((nI 1), p11_.2)) else Option.bind (f_X8_dueMany p3_.2) fun p9_ => some (p9_.1, p9_.2))) else (if a1 = 0 then gd (inb (nI 0) 1829) <| some (p3_.2.1 114 (Int32.toNatClampNeg (nI 0)), p3_.2) else (if a1 = (nI 1) then gd (inb (nI 3) 1829) <| some (p3_.2.1 114 (Int32.toNatClampNeg (nI 3)), p3_.2) else (if a1 = (nI 2) then gd (inb (nI 1) 1829) <| some (p3_.2.1 114 (Int32.toNatClampNeg (nI 1)), p3_.2) else (if a1 = (nI 3) then gd (inb (nI 2) 1829) <| some (p3_.2.1 114 (Int32.toNatClampNeg (nI 2)), p3_.2) else gd (inb (nI 4) 1829) <| some (p3_.2.1 114 (Int32.toNatClampNeg (nI 4)), p3_.2)))))))
set_option maxHeartbeats 4000000 in
set_option maxRecDepth 100000 in
theorem w_X8_count {Γ : jG} (C : jC Γ 2 cX8_count RX8 rmX8_count) {a1 : Int32} {ρ : Int32 × Mem} (E : jEI Γ cX8_count ρ.1 ρ.2) (μ : Mem) (h : f_X8_count a1 μ = some ρ) : jJ Γ 2 0 [(0, .ref 113), (1, .int a1)] [] μ := by
  unfold f_X8_count at h
  refine j_aload_n C dX8_count_0 rfl 0 rfl ?_
  refine j_iconst (v := (nI 0)) C dX8_count_1 rfl (by decide) ?_
  refine j_putI C dX8_count_2 rfl lpX8_48 is_113 rfl ?_
  refine j_mem (fun μ1_ e2_ => ?_)
  replace h := zl_u h e2_
  refine j_iload_n C dX8_count_5 rfl 1 rfl ?_
  refine j_i2l C dX8_count_6 rfl ?_
  refine j_lconst (v := 0) C dX8_count_7 rfl (by decide) ?_
  refine j_ldc2 (v := 7) C dX8_count_8 rfl gwt5_67 ?_
  replace h := bd_e h
  obtain ⟨p3_, h4_, h⟩ := h
  refine j_cSI (av := [.long (Int32.toInt64 a1), .long 0, .long 7]) (rest := []) C dX8_count_11 rfl (c_X8_in _ _ _ _ μ1_ p3_ h4_) gsX8_51 ⟨⟨rfl, rfl⟩, Nat.le_of_ble_eq_true rfl, Nat.le_of_ble_eq_true rfl⟩ rfl rfl (Nat.le_of_ble_eq_true rfl) ?_
  refine j_if_ne (tgt := 19) C dX8_count_14 rfl (by decide) (fun c5_ => ?_) (fun c5_ => ?_)
  · replace h := if_f h c5_
    refine j_iload_n C dX8_count_19 rfl 1 rfl ?_
    refine j_iconst (v := (nI 5)) C dX8_count_20 rfl (by decide) ?_
    refine j_icmp_ge (tgt := 86) C dX8_count_21 rfl (by decide) (fun c6_ => ?_) (fun c6_ => ?_)
    · replace h := if_t h c6_
      refine j_iload_n C dX8_count_86 rfl 1 rfl ?_
      refine j_iconst (v := (nI 5)) C dX8_count_87 rfl (by decide) ?_
      refine j_icmp_ne (tgt := 110) C dX8_count_88 rfl (by decide) (fun c7_ => ?_) (fun c7_ => ?_)
      · replace h := if_f h c7_
        refine j_iload_n C dX8_count_110 rfl 1 rfl ?_
        refine j_bipush (v := (nI 6)) C dX8_count_111 rfl (by decide) ?_
        refine j_icmp_ne (tgt := 134) C dX8_count_113 rfl (by decide) (fun c8_ => ?_) (fun c8_ => ?_)
        · replace h := if_f h c8_
          refine j_aload_n C dX8_count_134 rfl 0 rfl ?_
          replace h := bd_e h
          obtain ⟨p9_, h10_, h⟩ := h
          refine j_cVI (av := []) (rest := []) C dX8_count_135 rfl (c_X8_dueMany _ _ _ _ p3_.2 p9_ h10_) gvX8_155 ⟨⟨rfl, rfl⟩, Nat.le_of_ble_eq_true rfl, Nat.le_of_ble_eq_true rfl⟩ rfl is_113 rfl rfl (Nat.le_of_ble_eq_true rfl) ?_
          obtain rfl := Option.some.inj h
          exact j_iret E dX8_count_138
        · replace h := if_t h c8_
          refine j_aload_n C dX8_count_116 rfl 0 rfl ?_
          refine j_getR (c := 114) C dX8_count_117 rfl lkX8_7 is_113 rfl ?_
          replace h := bd_e h
          obtain ⟨p11_, h12_, h⟩ := h
          refine j_cSI (av := [.ref 114]) (rest := []) C dX8_count_120 rfl (c_X8_isUnlike _ _ _ _ isRow114 p3_.2 p11_ h12_) gsX8_151 ⟨⟨rfl, rfl⟩, Nat.le_of_ble_eq_true rfl, Nat.le_of_ble_eq_true rfl⟩ rfl rfl (Nat.le_of_ble_eq_true rfl) ?_
          refine j_if_eq (tgt := 130) C dX8_count_123 rfl (by decide) (fun c13_ => ?_) (fun c13_ => ?_)
          · replace h := if_t h c13_
            refine j_iconst (v := (nI 0)) C dX8_count_130 rfl (by decide) ?_
            refine j_goto (pc' := 138) C dX8_count_131 (by decide) ?_
            obtain rfl := Option.some.inj h
            exact j_iret E dX8_count_138
          · replace h := if_f h c13_
            refine j_iconst (v := (nI 1)) C dX8_count_126 rfl (by decide) ?_
            refine j_goto (pc' := 138) C dX8_count_127 (by decide) ?_
            obtain rfl := Option.some.inj h
            exact j_iret E dX8_count_138
      · replace h := if_t h c7_
        refine j_aload_n C dX8_count_91 rfl 0 rfl ?_
        refine j_getR (c := 114) C dX8_count_92 rfl lkX8_7 is_113 rfl ?_
        refine j_iconst (v := (-1)) C dX8_count_95 rfl (by decide) ?_
        replace h := bd_e h
        obtain ⟨p14_, h15_, h⟩ := h
        refine j_cSI (av := [.ref 114, .int (-1)]) (rest := []) C dX8_count_96 rfl (c_X8_isDone _ _ _ _ isRow114 p3_.2 p14_ h15_) gsX8_148 ⟨⟨rfl, rfl⟩, Nat.le_of_ble_eq_true rfl, Nat.le_of_ble_eq_true rfl⟩ rfl rfl (Nat.le_of_ble_eq_true rfl) ?_
        refine j_if_eq (tgt := 106) C dX8_count_99 rfl (by decide) (fun c16_ => ?_) (fun c16_ => ?_)
        · replace h := if_t h c16_
          refine j_iconst (v := (nI 0)) C dX8_count_106 rfl (by decide) ?_
          refine j_goto (pc' := 138) C dX8_count_107 (by decide) ?_
          obtain rfl := Option.some.inj h
          exact j_iret E dX8_count_138
        · replace h := if_f h c16_
          refine j_iconst (v := (nI 1)) C dX8_count_102 rfl (by decide) ?_
          refine j_goto (pc' := 138) C dX8_count_103 (by decide) ?_
          obtain rfl := Option.some.inj h
          exact j_iret E dX8_count_138
    · replace h := if_f h c6_
      refine j_iload_n C dX8_count_24 rfl 1 rfl ?_
      refine j_if_ne (tgt := 37) C dX8_count_25 rfl (by decide) (fun c17_ => ?_) (fun c17_ => ?_)
      · replace h := if_f h c17_
        refine j_iload_n C dX8_count_37 rfl 1 rfl ?_
        refine j_iconst (v := (nI 1)) C dX8_count_38 rfl (by decide) ?_
        refine j_icmp_ne (tgt := 51) C dX8_count_39 rfl (by decide) (fun c18_ => ?_) (fun c18_ => ?_)
        · replace h := if_f h c18_
          refine j_iload_n C dX8_count_51 rfl 1 rfl ?_
          refine j_iconst (v := (nI 2)) C dX8_count_52 rfl (by decide) ?_
          refine j_icmp_ne (tgt := 65) C dX8_count_53 rfl (by decide) (fun c19_ => ?_) (fun c19_ => ?_)
          · replace h := if_f h c19_
            refine j_iload_n C dX8_count_65 rfl 1 rfl ?_
            refine j_iconst (v := (nI 3)) C dX8_count_66 rfl (by decide) ?_
            refine j_icmp_ne (tgt := 79) C dX8_count_67 rfl (by decide) (fun c20_ => ?_) (fun c20_ => ?_)
            · replace h := if_f h c20_
              refine j_aload_n C dX8_count_79 rfl 0 rfl ?_
              refine j_getR (c := 114) C dX8_count_80 rfl lkX8_7 is_113 rfl ?_
              refine j_iconst (v := (nI 4)) C dX8_count_83 rfl (by decide) ?_
              replace h := gd_e h
              obtain ⟨g21_, h⟩ := h
              refine j_iald C dX8_count_84 rfl is_114 g21_ ?_
              obtain rfl := Option.some.inj h
              exact j_iret E dX8_count_85
            · replace h := if_t h c20_
              refine j_aload_n C dX8_count_70 rfl 0 rfl ?_
              refine j_getR (c := 114) C dX8_count_71 rfl lkX8_7 is_113 rfl ?_
              refine j_iconst (v := (nI 2)) C dX8_count_74 rfl (by decide) ?_
              replace h := gd_e h
              obtain ⟨g22_, h⟩ := h
              refine j_iald C dX8_count_75 rfl is_114 g22_ ?_
              refine j_goto (pc' := 85) C dX8_count_76 (by decide) ?_
              obtain rfl := Option.some.inj h
              exact j_iret E dX8_count_85
          · replace h := if_t h c19_
            refine j_aload_n C dX8_count_56 rfl 0 rfl ?_
            refine j_getR (c := 114) C dX8_count_57 rfl lkX8_7 is_113 rfl ?_
            refine j_iconst (v := (nI 1)) C dX8_count_60 rfl (by decide) ?_
            replace h := gd_e h
            obtain ⟨g23_, h⟩ := h
            refine j_iald C dX8_count_61 rfl is_114 g23_ ?_
            refine j_goto (pc' := 85) C dX8_count_62 (by decide) ?_
            obtain rfl := Option.some.inj h
            exact j_iret E dX8_count_85
        · replace h := if_t h c18_
          refine j_aload_n C dX8_count_42 rfl 0 rfl ?_
          refine j_getR (c := 114) C dX8_count_43 rfl lkX8_7 is_113 rfl ?_
          refine j_iconst (v := (nI 3)) C dX8_count_46 rfl (by decide) ?_
          replace h := gd_e h
          obtain ⟨g24_, h⟩ := h
          refine j_iald C dX8_count_47 rfl is_114 g24_ ?_
          refine j_goto (pc' := 85) C dX8_count_48 (by decide) ?_
          obtain rfl := Option.some.inj h
          exact j_iret E dX8_count_85
      · replace h := if_t h c17_
        refine j_aload_n C dX8_count_28 rfl 0 rfl ?_
        refine j_getR (c := 114) C dX8_count_29 rfl lkX8_7 is_113 rfl ?_
        refine j_iconst (v := (nI 0)) C dX8_count_32 rfl (by decide) ?_
        replace h := gd_e h
        obtain ⟨g25_, h⟩ := h
        refine j_iald C dX8_count_33 rfl is_114 g25_ ?_
        refine j_goto (pc' := 85) C dX8_count_34 (by decide) ?_
        obtain rfl := Option.some.inj h
        exact j_iret E dX8_count_85
  · replace h := if_t h c5_
    refine j_iconst (v := (-1)) C dX8_count_17 rfl (by decide) ?_
    obtain rfl := Option.some.inj h
    exact j_iret E dX8_count_18
set_option maxRecDepth 100000 in
theorem c_X8_count (l : Launch) (D : va_G) (ad : Nat → Nat) (cl : Nat → ClassId) {a1 : Int32} (μ : Mem) (ρ : Int32 × Mem) (h : f_X8_count a1 μ = some ρ) : CI l D ad cl yX8_count wsX8_count rmX8_count [.ref 113, .int a1] μ ρ.1 ρ.2 := c_ofI (cc := cX8_count) (nL := 2) rfl (by decide) (Nat.le_of_ble_eq_true rfl) (fun Γ C E => w_X8_count C E μ h)
/-! X8_sentBy -/
def wsX8_sentBy : List Cond := .code yX8_sentBy cX8_sentBy 6 (some .int) :: G0
def rmX8_sentBy : Room := { frames := 0, cells := 0, slots := 0, locals := 0 }
def f_X8_sentBy_38 (a0 : Int32) (a1 : Int32) (a2 : Int32) (a3 : Int32) (a4 : Int32) (t0 : Int32) (μ : Mem) : Option (Int32 × Mem) := (if t0 = 0 then some (a3, μ) else some ((nI 1) - a3, μ))
set_option maxHeartbeats 4000000 in
set_option maxRecDepth 100000 in
theorem w_X8_sentBy_38 {Γ : jG} (C : jC Γ 6 cX8_sentBy RX8 rmX8_sentBy) {a0 : Int32} {a1 : Int32} {a2 : Int32} {a3 : Int32} {a4 : Int32} {ρ : Int32 × Mem} (E : jEI Γ cX8_sentBy ρ.1 ρ.2) (t0 : Int32) (μ : Mem) (h : f_X8_sentBy_38 a0 a1 a2 a3 a4 t0 μ = some ρ) : jJ Γ 6 38 [(3, .int a3)] [.int t0] μ := by
  unfold f_X8_sentBy_38 at h
  refine j_istore (lv' := [(5, .int t0), (3, .int a3)]) C dX8_sentBy_38 rfl (by decide) rfl ?_
  refine j_iload C dX8_sentBy_40 rfl 0 rfl ?_
  refine j_if_eq (tgt := 51) C dX8_sentBy_42 rfl (by decide) (fun c1_ => ?_) (fun c1_ => ?_)
  · replace h := if_t h c1_
    refine j_iload_n C dX8_sentBy_51 rfl 1 rfl ?_
    obtain rfl := Option.some.inj h
    exact j_iret E dX8_sentBy_52
  · replace h := if_f h c1_
    refine j_iconst (v := (nI 1)) C dX8_sentBy_45 rfl (by decide) ?_
    refine j_iload_n C dX8_sentBy_46 rfl 1 rfl ?_
    refine j_isub C dX8_sentBy_47 rfl ?_
    refine j_goto (pc' := 52) C dX8_sentBy_48 (by decide) ?_
    obtain rfl := Option.some.inj h
    exact j_iret E dX8_sentBy_52
def f_X8_sentBy_10 (a0 : Int32) (a1 : Int32) (a2 : Int32) (a3 : Int32) (a4 : Int32) (μ : Mem) : Option (Int32 × Mem) := (if a0 = (nI 1) then (if a2 ≤ a1 then f_X8_sentBy_38 a0 a1 a2 a3 a4 (nI 0) μ else f_X8_sentBy_38 a0 a1 a2 a3 a4 (nI 1) μ) else (if a1 ≤ a2 then f_X8_sentBy_38 a0 a1 a2 a3 a4 (nI 0) μ else f_X8_sentBy_38 a0 a1 a2 a3 a4 (nI 1) μ))
set_option maxHeartbeats 4000000 in
set_option maxRecDepth 100000 in
theorem w_X8_sentBy_10 {Γ : jG} (C : jC Γ 6 cX8_sentBy RX8 rmX8_sentBy) {a0 : Int32} {a1 : Int32} {a2 : Int32} {a3 : Int32} {a4 : Int32} {ρ : Int32 × Mem} (E : jEI Γ cX8_sentBy ρ.1 ρ.2) (μ : Mem) (h : f_X8_sentBy_10 a0 a1 a2 a3 a4 μ = some ρ) : jJ Γ 6 10 [(0, .int a0), (1, .int a1), (2, .int a2), (3, .int a3)] [] μ := by
  unfold f_X8_sentBy_10 at h
  refine j_iload_n C dX8_sentBy_10 rfl 0 rfl ?_
  refine j_iconst (v := (nI 1)) C dX8_sentBy_11 rfl (by decide) ?_
  refine j_icmp_ne (tgt := 28) C dX8_sentBy_12 rfl (by decide) (fun c1_ => ?_) (fun c1_ => ?_)
  · replace h := if_f h c1_
    refine j_iload_n C dX8_sentBy_28 rfl 2 rfl ?_
    refine j_iload_n C dX8_sentBy_29 rfl 1 rfl ?_
    refine j_icmp_ge (tgt := 37) C dX8_sentBy_30 rfl (by decide) (fun c2_ => ?_) (fun c2_ => ?_)
    · replace h := if_t h c2_
      refine j_iconst (v := (nI 0)) C dX8_sentBy_37 rfl (by decide) ?_
      refine j_lv [3] rfl ?_
      exact w_X8_sentBy_38 C E (nI 0) μ h
    · replace h := if_f h c2_
      refine j_iconst (v := (nI 1)) C dX8_sentBy_33 rfl (by decide) ?_
      refine j_goto (pc' := 38) C dX8_sentBy_34 (by decide) ?_
      refine j_lv [3] rfl ?_
      exact w_X8_sentBy_38 C E (nI 1) μ h
  · replace h := if_t h c1_
    refine j_iload_n C dX8_sentBy_15 rfl 2 rfl ?_
    refine j_iload_n C dX8_sentBy_16 rfl 1 rfl ?_
    refine j_icmp_le (tgt := 24) C dX8_sentBy_17 rfl (by decide) (fun c3_ => ?_) (fun c3_ => ?_)
    · replace h := if_t h c3_
      refine j_iconst (v := (nI 0)) C dX8_sentBy_24 rfl (by decide) ?_
      refine j_goto (pc' := 38) C dX8_sentBy_25 (by decide) ?_
      refine j_lv [3] rfl ?_
      exact w_X8_sentBy_38 C E (nI 0) μ h
    · replace h := if_f h c3_
      refine j_iconst (v := (nI 1)) C dX8_sentBy_20 rfl (by decide) ?_
      refine j_goto (pc' := 38) C dX8_sentBy_21 (by decide) ?_
      refine j_lv [3] rfl ?_
      exact w_X8_sentBy_38 C E (nI 1) μ h
def f_X8_sentBy (a0 : Int32) (a1 : Int32) (a2 : Int32) (a3 : Int32) (a4 : Int32) (μ : Mem) : Option (Int32 × Mem) := (if a0 = (nI 1) then f_X8_sentBy_10 a0 a1 a2 a3 a4 μ else (if a0 = (nI 4) then f_X8_sentBy_10 a0 a1 a2 a3 a4 μ else (if a0 = (nI 5) then some ((-1), μ) else (if a0 = (nI 2) then (if (nI 2) ≤ a4 then some (a3, μ) else some (a4, μ)) else some (a3, μ)))))
set_option maxHeartbeats 4000000 in
set_option maxRecDepth 100000 in
theorem w_X8_sentBy {Γ : jG} (C : jC Γ 6 cX8_sentBy RX8 rmX8_sentBy) {a0 : Int32} {a1 : Int32} {a2 : Int32} {a3 : Int32} {a4 : Int32} {ρ : Int32 × Mem} (E : jEI Γ cX8_sentBy ρ.1 ρ.2) (μ : Mem) (h : f_X8_sentBy a0 a1 a2 a3 a4 μ = some ρ) : jJ Γ 6 0 [(0, .int a0), (1, .int a1), (2, .int a2), (3, .int a3), (4, .int a4)] [] μ := by
  unfold f_X8_sentBy at h
  refine j_iload_n C dX8_sentBy_0 rfl 0 rfl ?_
  refine j_iconst (v := (nI 1)) C dX8_sentBy_1 rfl (by decide) ?_
  refine j_icmp_eq (tgt := 10) C dX8_sentBy_2 rfl (by decide) (fun c1_ => ?_) (fun c1_ => ?_)
  · replace h := if_t h c1_
    refine j_lv [0, 1, 2, 3] rfl ?_
    exact w_X8_sentBy_10 C E μ h
  · replace h := if_f h c1_
    refine j_iload_n C dX8_sentBy_5 rfl 0 rfl ?_
    refine j_iconst (v := (nI 4)) C dX8_sentBy_6 rfl (by decide) ?_
    refine j_icmp_ne (tgt := 53) C dX8_sentBy_7 rfl (by decide) (fun c2_ => ?_) (fun c2_ => ?_)
    · replace h := if_f h c2_
      refine j_iload_n C dX8_sentBy_53 rfl 0 rfl ?_
      refine j_iconst (v := (nI 5)) C dX8_sentBy_54 rfl (by decide) ?_
      refine j_icmp_ne (tgt := 62) C dX8_sentBy_55 rfl (by decide) (fun c3_ => ?_) (fun c3_ => ?_)
      · replace h := if_f h c3_
        refine j_iload_n C dX8_sentBy_62 rfl 0 rfl ?_
        refine j_iconst (v := (nI 2)) C dX8_sentBy_63 rfl (by decide) ?_
        refine j_icmp_ne (tgt := 78) C dX8_sentBy_64 rfl (by decide) (fun c4_ => ?_) (fun c4_ => ?_)
        · replace h := if_f h c4_
          refine j_iload_n C dX8_sentBy_78 rfl 3 rfl ?_
          obtain rfl := Option.some.inj h
          exact j_iret E dX8_sentBy_79
        · replace h := if_t h c4_
          refine j_iload C dX8_sentBy_67 rfl 4 rfl ?_
          refine j_iconst (v := (nI 2)) C dX8_sentBy_69 rfl (by decide) ?_
          refine j_icmp_ge (tgt := 78) C dX8_sentBy_70 rfl (by decide) (fun c5_ => ?_) (fun c5_ => ?_)
          · replace h := if_t h c5_
            refine j_iload_n C dX8_sentBy_78 rfl 3 rfl ?_
            obtain rfl := Option.some.inj h
            exact j_iret E dX8_sentBy_79
          · replace h := if_f h c5_
            refine j_iload C dX8_sentBy_73 rfl 4 rfl ?_
            refine j_goto (pc' := 79) C dX8_sentBy_75 (by decide) ?_
            obtain rfl := Option.some.inj h
            exact j_iret E dX8_sentBy_79
      · replace h := if_t h c3_
        refine j_iconst (v := (-1)) C dX8_sentBy_58 rfl (by decide) ?_
        refine j_goto (pc' := 79) C dX8_sentBy_59 (by decide) ?_
        obtain rfl := Option.some.inj h
        exact j_iret E dX8_sentBy_79
    · replace h := if_t h c2_
      refine j_lv [0, 1, 2, 3] rfl ?_
      exact w_X8_sentBy_10 C E μ h
set_option maxRecDepth 100000 in
theorem c_X8_sentBy (l : Launch) (D : va_G) (ad : Nat → Nat) (cl : Nat → ClassId) {a0 : Int32} {a1 : Int32} {a2 : Int32} {a3 : Int32} {a4 : Int32} (μ : Mem) (ρ : Int32 × Mem) (h : f_X8_sentBy a0 a1 a2 a3 a4 μ = some ρ) : CI l D ad cl yX8_sentBy wsX8_sentBy rmX8_sentBy [.int a0, .int a1, .int a2, .int a3, .int a4] μ ρ.1 ρ.2 := c_ofI (cc := cX8_sentBy) (nL := 6) rfl (by decide) (Nat.le_of_ble_eq_true rfl) (fun Γ C E => w_X8_sentBy C E μ h)
/-! X8_drawn -/
def wsX8_drawn : List Cond := .code yX8_drawn cX8_drawn 2 (some .int) :: G0
def rmX8_drawn : Room := { frames := 0, cells := 0, slots := 0, locals := 0 }
def f_X8_drawn (k1 : Nat) (μ : Mem) : Option (Int32 × Mem) := gd (inb (nI 5) 1829) <| zl (sI μ k1 (Int32.toNatClampNeg (nI 5)) ((((μ.1 k1 (Int32.toNatClampNeg (nI 5))) * (nI 1103515245)) + (nI 12345)) &&& (nI 2147483647))) fun μ2_ => some ((((μ2_.1 k1 (Int32.toNatClampNeg (nI 5))) / (nI 65536)) - ((μ2_.1 k1 (Int32.toNatClampNeg (nI 5))) / (nI 65536)) / (nI 9) * (nI 9)) + (nI 1), μ2_)
set_option maxHeartbeats 4000000 in
set_option maxRecDepth 100000 in
theorem w_X8_drawn {Γ : jG} (C : jC Γ 2 cX8_drawn RX8 rmX8_drawn) {k1 : Nat} (hk1 : isRow k1) {ρ : Int32 × Mem} (E : jEI Γ cX8_drawn ρ.1 ρ.2) (μ : Mem) (h : f_X8_drawn k1 μ = some ρ) : jJ Γ 2 0 [(0, .ref 113), (1, .ref k1)] [] μ := by
  unfold f_X8_drawn at h
  refine j_aload_n C dX8_drawn_0 rfl 1 rfl ?_
  refine j_iconst (v := (nI 5)) C dX8_drawn_1 rfl (by decide) ?_
  refine j_aload_n C dX8_drawn_2 rfl 1 rfl ?_
  refine j_iconst (v := (nI 5)) C dX8_drawn_3 rfl (by decide) ?_
  replace h := gd_e h
  obtain ⟨g1_, h⟩ := h
  refine j_iald C dX8_drawn_4 rfl (isRow_is hk1) g1_ ?_
  refine j_ldc (v := (nI 1103515245)) C dX8_drawn_5 rfl gwt5_189 ?_
  refine j_imul C dX8_drawn_7 rfl ?_
  refine j_sipush (v := (nI 12345)) C dX8_drawn_8 rfl (by decide) ?_
  refine j_iadd C dX8_drawn_11 rfl ?_
  refine j_ldc (v := (nI 2147483647)) C dX8_drawn_12 rfl gwt5_190 ?_
  refine j_iand C dX8_drawn_14 rfl ?_
  refine j_iast C dX8_drawn_15 rfl (isRow_is hk1) g1_ ?_
  refine j_mem (fun μ2_ e3_ => ?_)
  replace h := zl_u h e3_
  refine j_aload_n C dX8_drawn_16 rfl 1 rfl ?_
  refine j_iconst (v := (nI 5)) C dX8_drawn_17 rfl (by decide) ?_
  refine j_iald C dX8_drawn_18 rfl (isRow_is hk1) g1_ ?_
  refine j_ldc (v := (nI 65536)) C dX8_drawn_19 rfl gwt5_191 ?_
  refine j_idiv C dX8_drawn_21 rfl (by decide) ?_
  refine j_bipush (v := (nI 9)) C dX8_drawn_22 rfl (by decide) ?_
  refine j_irem C dX8_drawn_24 rfl (by decide) ?_
  refine j_iconst (v := (nI 1)) C dX8_drawn_25 rfl (by decide) ?_
  refine j_iadd C dX8_drawn_26 rfl ?_
  obtain rfl := Option.some.inj h
  exact j_iret E dX8_drawn_27
set_option maxRecDepth 100000 in
theorem c_X8_drawn (l : Launch) (D : va_G) (ad : Nat → Nat) (cl : Nat → ClassId) {k1 : Nat} (hk1 : isRow k1) (μ : Mem) (ρ : Int32 × Mem) (h : f_X8_drawn k1 μ = some ρ) : CI l D ad cl yX8_drawn wsX8_drawn rmX8_drawn [.ref 113, .ref k1] μ ρ.1 ρ.2 := c_ofI (cc := cX8_drawn) (nL := 2) rfl (by decide) (Nat.le_of_ble_eq_true rfl) (fun Γ C E => w_X8_drawn C hk1 E μ h)
