/-! X8_doneBy -/
def wsX8_doneBy : List Cond := .code yX8_doneBy cX8_doneBy 4 (some .int) :: G0
def rmX8_doneBy : Room := { frames := 4, cells := 0, slots := 0, locals := 104 }
def f_X8_doneBy_10 (k1 : Nat) (a2 : Int32) : Nat → Int32 → Mem → Option (Int32 × Mem)
  | 0, _, _ => none
  | n + 1, x3, μ => (if (nI 61) ≤ x3 then some (x3, μ) else Option.bind (f_X8_isDone 116 a2 μ) fun p2_ => (if p2_.1 = 0 then Option.bind (f_X8_goes 116 p2_.2) fun p5_ => f_X8_doneBy_10 k1 a2 n (x3 + (nI 1)) p5_ else some (x3, p2_.2)))
set_option maxHeartbeats 4000000 in
set_option maxRecDepth 100000 in
theorem w_X8_doneBy_10 {Γ : jG} (C : jC Γ 4 cX8_doneBy RX8 rmX8_doneBy) {k1 : Nat} {a2 : Int32} (hk1 : isRow k1) {ρ : Int32 × Mem} (E : jEI Γ cX8_doneBy ρ.1 ρ.2) : ∀ (n : Nat) (x3 : Int32) (μ : Mem), f_X8_doneBy_10 k1 a2 n x3 μ = some ρ → jJ Γ 4 10 [(0, .ref 113), (2, .int a2), (3, .int x3)] [] μ := by
  intro n
  induction n with
  | zero => intro x3 μ h; rw [f_X8_doneBy_10] at h; cases h
  | succ n ih =>
    intro x3 μ h
    rw [f_X8_doneBy_10] at h
    refine j_iload_n C dX8_doneBy_10 rfl 2 rfl ?_
    refine j_bipush (v := (nI 61)) C dX8_doneBy_11 rfl (by decide) ?_
    refine j_icmp_ge (tgt := 41) C dX8_doneBy_13 rfl (by decide) (fun c1_ => ?_) (fun c1_ => ?_)
    · replace h := if_t h c1_
      refine j_iload_n C dX8_doneBy_41 rfl 2 rfl ?_
      obtain rfl := Option.some.inj h
      exact j_iret E dX8_doneBy_42
    · replace h := if_f h c1_
      refine j_aload_n C dX8_doneBy_16 rfl 0 rfl ?_
      refine j_getR (c := 116) C dX8_doneBy_17 rfl lkX8_16 is_113 rfl ?_
      refine j_iload_n C dX8_doneBy_20 rfl 1 rfl ?_
      replace h := bd_e h
      obtain ⟨p2_, h3_, h⟩ := h
      refine j_cSI (av := [.ref 116, .int a2]) (rest := []) C dX8_doneBy_21 rfl (c_X8_isDone _ _ _ _ isRow116 μ p2_ h3_) gsX8_148 ⟨⟨rfl, rfl⟩, Nat.le_of_ble_eq_true rfl, Nat.le_of_ble_eq_true rfl⟩ rfl rfl (Nat.le_of_ble_eq_true rfl) ?_
      refine j_if_ne (tgt := 41) C dX8_doneBy_24 rfl (by decide) (fun c4_ => ?_) (fun c4_ => ?_)
      · replace h := if_f h c4_
        refine j_iload_n C dX8_doneBy_41 rfl 2 rfl ?_
        obtain rfl := Option.some.inj h
        exact j_iret E dX8_doneBy_42
      · replace h := if_t h c4_
        refine j_aload_n C dX8_doneBy_27 rfl 0 rfl ?_
        refine j_aload_n C dX8_doneBy_28 rfl 0 rfl ?_
        refine j_getR (c := 116) C dX8_doneBy_29 rfl lkX8_16 is_113 rfl ?_
        replace h := bd_e h
        obtain ⟨p5_, h6_, h⟩ := h
        refine j_cVV (av := [.ref 116]) (rest := []) C dX8_doneBy_32 rfl (c_X8_goes _ _ _ _ isRow116 p2_.2 p5_ h6_) gvX8_187 ⟨⟨rfl, rfl⟩, Nat.le_of_ble_eq_true rfl, Nat.le_of_ble_eq_true rfl⟩ rfl is_113 rfl rfl (Nat.le_of_ble_eq_true rfl) ?_
        refine j_iinc (d := (nI 1)) (v := x3 + (nI 1)) (lv' := [(3, .int (x3 + (nI 1))), (0, .ref 113), (2, .int a2)]) C dX8_doneBy_35 rfl (by decide) 2 rfl (by decide) rfl rfl ?_
        refine j_goto (pc' := 10) C dX8_doneBy_38 (by decide) ?_
        refine j_lv [1, 2, 0] rfl ?_
        exact (ih) (x3 + (nI 1)) p5_ h
def f_X8_doneBy (k1 : Nat) (a2 : Int32) (μ : Mem) : Option (Int32 × Mem) := Option.bind (f_X8_copies k1 116 μ) fun p1_ => f_X8_doneBy_10 k1 a2 zfu (nI 0) p1_
set_option maxHeartbeats 4000000 in
set_option maxRecDepth 100000 in
theorem w_X8_doneBy {Γ : jG} (C : jC Γ 4 cX8_doneBy RX8 rmX8_doneBy) {k1 : Nat} {a2 : Int32} (hk1 : isRow k1) {ρ : Int32 × Mem} (E : jEI Γ cX8_doneBy ρ.1 ρ.2) (μ : Mem) (h : f_X8_doneBy k1 a2 μ = some ρ) : jJ Γ 4 0 [(0, .ref 113), (1, .ref k1), (2, .int a2)] [] μ := by
  unfold f_X8_doneBy at h
  refine j_aload_n C dX8_doneBy_0 rfl 1 rfl ?_
  refine j_aload_n C dX8_doneBy_1 rfl 0 rfl ?_
  refine j_getR (c := 116) C dX8_doneBy_2 rfl lkX8_16 is_113 rfl ?_
  replace h := bd_e h
  obtain ⟨p1_, h2_, h⟩ := h
  refine j_cSV (av := [.ref k1, .ref 116]) (rest := []) C dX8_doneBy_5 rfl (c_X8_copies _ _ _ _ hk1 isRow116 μ p1_ h2_) gsX8_196 ⟨⟨rfl, rfl⟩, Nat.le_of_ble_eq_true rfl, Nat.le_of_ble_eq_true rfl⟩ rfl rfl (Nat.le_of_ble_eq_true rfl) ?_
  refine j_iconst (v := (nI 0)) C dX8_doneBy_8 rfl (by decide) ?_
  refine j_istore_n (lv' := [(3, .int (nI 0)), (0, .ref 113), (1, .ref k1), (2, .int a2)]) C dX8_doneBy_9 rfl (by decide) rfl ?_
  refine j_lv [1, 3, 0] rfl ?_
  exact w_X8_doneBy_10 C hk1 E zfu (nI 0) p1_ h
set_option maxRecDepth 100000 in
theorem c_X8_doneBy (l : Launch) (D : va_G) (ad : Nat → Nat) (cl : Nat → ClassId) {k1 : Nat} {a2 : Int32} (hk1 : isRow k1) (μ : Mem) (ρ : Int32 × Mem) (h : f_X8_doneBy k1 a2 μ = some ρ) : CI l D ad cl yX8_doneBy wsX8_doneBy rmX8_doneBy [.ref 113, .ref k1, .int a2] μ ρ.1 ρ.2 := c_ofI (cc := cX8_doneBy) (nL := 4) rfl (by decide) (Nat.le_of_ble_eq_true rfl) (fun Γ C E => w_X8_doneBy C hk1 E μ h)
theorem gvX8_203 : jm_gv RX8 203 RX8 yX8_doneBy wsX8_doneBy 4 2 := ⟨_, _, gi_V gwt5_225 gwt5_227 gwp4_1 gwt1_9 gwt5_228, rfl, by decide +kernel⟩
/-! X8_when -/
def wsX8_when : List Cond := .code yX8_when cX8_when 3 (some .int) :: G0
def rmX8_when : Room := { frames := 5, cells := 0, slots := 0, locals := 127 }
def f_X8_when_57 (a1 : Int32) : Nat → Int32 → Mem → Option (Int32 × Mem)
  | 0, _, _ => none
  | n + 1, x2, μ => (if (nI 61) ≤ x2 then some ((-4), μ) else Option.bind (f_X8_isUnlike 116 μ) fun p2_ => (if p2_.1 = 0 then Option.bind (f_X8_goes 116 p2_.2) fun p5_ => f_X8_when_57 a1 n (x2 + (nI 1)) p5_ else some (x2, p2_.2)))
set_option maxHeartbeats 4000000 in
set_option maxRecDepth 100000 in
theorem w_X8_when_57 {Γ : jG} (C : jC Γ 3 cX8_when RX8 rmX8_when) {a1 : Int32} {ρ : Int32 × Mem} (E : jEI Γ cX8_when ρ.1 ρ.2) : ∀ (n : Nat) (x2 : Int32) (μ : Mem), f_X8_when_57 a1 n x2 μ = some ρ → jJ Γ 3 57 [(0, .ref 113), (2, .int x2)] [] μ := by
  intro n
  induction n with
  | zero => intro x2 μ h; rw [f_X8_when_57] at h; cases h
  | succ n ih =>
    intro x2 μ h
    rw [f_X8_when_57] at h
    refine j_iload_n C dX8_when_57 rfl 1 rfl ?_
    refine j_bipush (v := (nI 61)) C dX8_when_58 rfl (by decide) ?_
    refine j_icmp_ge (tgt := 89) C dX8_when_60 rfl (by decide) (fun c1_ => ?_) (fun c1_ => ?_)
    · replace h := if_t h c1_
      refine j_bipush (v := (-4)) C dX8_when_89 rfl (by decide) ?_
      obtain rfl := Option.some.inj h
      exact j_iret E dX8_when_91
    · replace h := if_f h c1_
      refine j_aload_n C dX8_when_63 rfl 0 rfl ?_
      refine j_getR (c := 116) C dX8_when_64 rfl lkX8_16 is_113 rfl ?_
      replace h := bd_e h
      obtain ⟨p2_, h3_, h⟩ := h
      refine j_cSI (av := [.ref 116]) (rest := []) C dX8_when_67 rfl (c_X8_isUnlike _ _ _ _ isRow116 μ p2_ h3_) gsX8_151 ⟨⟨rfl, rfl⟩, Nat.le_of_ble_eq_true rfl, Nat.le_of_ble_eq_true rfl⟩ rfl rfl (Nat.le_of_ble_eq_true rfl) ?_
      refine j_if_eq (tgt := 75) C dX8_when_70 rfl (by decide) (fun c4_ => ?_) (fun c4_ => ?_)
      · replace h := if_t h c4_
        refine j_aload_n C dX8_when_75 rfl 0 rfl ?_
        refine j_aload_n C dX8_when_76 rfl 0 rfl ?_
        refine j_getR (c := 116) C dX8_when_77 rfl lkX8_16 is_113 rfl ?_
        replace h := bd_e h
        obtain ⟨p5_, h6_, h⟩ := h
        refine j_cVV (av := [.ref 116]) (rest := []) C dX8_when_80 rfl (c_X8_goes _ _ _ _ isRow116 p2_.2 p5_ h6_) gvX8_187 ⟨⟨rfl, rfl⟩, Nat.le_of_ble_eq_true rfl, Nat.le_of_ble_eq_true rfl⟩ rfl is_113 rfl rfl (Nat.le_of_ble_eq_true rfl) ?_
        refine j_iinc (d := (nI 1)) (v := x2 + (nI 1)) (lv' := [(2, .int (x2 + (nI 1))), (0, .ref 113)]) C dX8_when_83 rfl (by decide) 1 rfl (by decide) rfl rfl ?_
        refine j_goto (pc' := 57) C dX8_when_86 (by decide) ?_
        refine j_lv [1, 0] rfl ?_
        exact (ih) (x2 + (nI 1)) p5_ h
      · replace h := if_f h c4_
        refine j_iload_n C dX8_when_73 rfl 1 rfl ?_
        obtain rfl := Option.some.inj h
        exact j_iret E dX8_when_74
def f_X8_when (a1 : Int32) (μ : Mem) : Option (Int32 × Mem) := zl (sI μ 113 0 (nI 0)) fun μ1_ => Option.bind (f_X8_in (Int32.toInt64 a1) 0 1 μ1_) fun p3_ => (if p3_.1 = 0 then some ((-1), p3_.2) else (if a1 = 0 then Option.bind (f_X8_doneBy 114 (-1) p3_.2) fun p9_ => (if p9_.1 = (nI 61) then some ((-4), p9_.2) else some (p9_.1, p9_.2)) else Option.bind (f_X8_copies 114 116 p3_.2) fun p7_ => f_X8_when_57 a1 zfu (nI 0) p7_))
set_option maxHeartbeats 4000000 in
set_option maxRecDepth 100000 in
theorem w_X8_when {Γ : jG} (C : jC Γ 3 cX8_when RX8 rmX8_when) {a1 : Int32} {ρ : Int32 × Mem} (E : jEI Γ cX8_when ρ.1 ρ.2) (μ : Mem) (h : f_X8_when a1 μ = some ρ) : jJ Γ 3 0 [(0, .ref 113), (1, .int a1)] [] μ := by
  unfold f_X8_when at h
  refine j_aload_n C dX8_when_0 rfl 0 rfl ?_
  refine j_iconst (v := (nI 0)) C dX8_when_1 rfl (by decide) ?_
  refine j_putI C dX8_when_2 rfl lpX8_48 is_113 rfl ?_
  refine j_mem (fun μ1_ e2_ => ?_)
  replace h := zl_u h e2_
  refine j_iload_n C dX8_when_5 rfl 1 rfl ?_
  refine j_i2l C dX8_when_6 rfl ?_
  refine j_lconst (v := 0) C dX8_when_7 rfl (by decide) ?_
  refine j_lconst (v := 1) C dX8_when_8 rfl (by decide) ?_
  replace h := bd_e h
  obtain ⟨p3_, h4_, h⟩ := h
  refine j_cSI (av := [.long (Int32.toInt64 a1), .long 0, .long 1]) (rest := []) C dX8_when_9 rfl (c_X8_in _ _ _ _ μ1_ p3_ h4_) gsX8_51 ⟨⟨rfl, rfl⟩, Nat.le_of_ble_eq_true rfl, Nat.le_of_ble_eq_true rfl⟩ rfl rfl (Nat.le_of_ble_eq_true rfl) ?_
  refine j_if_ne (tgt := 17) C dX8_when_12 rfl (by decide) (fun c5_ => ?_) (fun c5_ => ?_)
  · replace h := if_f h c5_
    refine j_iload_n C dX8_when_17 rfl 1 rfl ?_
    refine j_if_ne (tgt := 44) C dX8_when_18 rfl (by decide) (fun c6_ => ?_) (fun c6_ => ?_)
    · replace h := if_f h c6_
      refine j_aload_n C dX8_when_44 rfl 0 rfl ?_
      refine j_getR (c := 114) C dX8_when_45 rfl lkX8_7 is_113 rfl ?_
      refine j_aload_n C dX8_when_48 rfl 0 rfl ?_
      refine j_getR (c := 116) C dX8_when_49 rfl lkX8_16 is_113 rfl ?_
      replace h := bd_e h
      obtain ⟨p7_, h8_, h⟩ := h
      refine j_cSV (av := [.ref 114, .ref 116]) (rest := []) C dX8_when_52 rfl (c_X8_copies _ _ _ _ isRow114 isRow116 p3_.2 p7_ h8_) gsX8_196 ⟨⟨rfl, rfl⟩, Nat.le_of_ble_eq_true rfl, Nat.le_of_ble_eq_true rfl⟩ rfl rfl (Nat.le_of_ble_eq_true rfl) ?_
      refine j_iconst (v := (nI 0)) C dX8_when_55 rfl (by decide) ?_
      refine j_istore_n (lv' := [(2, .int (nI 0)), (0, .ref 113), (1, .int a1)]) C dX8_when_56 rfl (by decide) rfl ?_
      refine j_lv [1, 0] rfl ?_
      exact w_X8_when_57 C E zfu (nI 0) p7_ h
    · replace h := if_t h c6_
      refine j_aload_n C dX8_when_21 rfl 0 rfl ?_
      refine j_aload_n C dX8_when_22 rfl 0 rfl ?_
      refine j_getR (c := 114) C dX8_when_23 rfl lkX8_7 is_113 rfl ?_
      refine j_iconst (v := (-1)) C dX8_when_26 rfl (by decide) ?_
      replace h := bd_e h
      obtain ⟨p9_, h10_, h⟩ := h
      refine j_cVI (av := [.ref 114, .int (-1)]) (rest := []) C dX8_when_27 rfl (c_X8_doneBy _ _ _ _ isRow114 p3_.2 p9_ h10_) gvX8_203 ⟨⟨rfl, rfl⟩, Nat.le_of_ble_eq_true rfl, Nat.le_of_ble_eq_true rfl⟩ rfl is_113 rfl rfl (Nat.le_of_ble_eq_true rfl) ?_
      refine j_istore_n (lv' := [(2, .int p9_.1), (0, .ref 113), (1, .int a1)]) C dX8_when_30 rfl (by decide) rfl ?_
      refine j_iload_n C dX8_when_31 rfl 0 rfl ?_
      refine j_bipush (v := (nI 61)) C dX8_when_32 rfl (by decide) ?_
      refine j_icmp_ne (tgt := 42) C dX8_when_34 rfl (by decide) (fun c11_ => ?_) (fun c11_ => ?_)
      · replace h := if_f h c11_
        refine j_iload_n C dX8_when_42 rfl 0 rfl ?_
        obtain rfl := Option.some.inj h
        exact j_iret E dX8_when_43
      · replace h := if_t h c11_
        refine j_bipush (v := (-4)) C dX8_when_37 rfl (by decide) ?_
        refine j_goto (pc' := 43) C dX8_when_39 (by decide) ?_
        obtain rfl := Option.some.inj h
        exact j_iret E dX8_when_43
  · replace h := if_t h c5_
    refine j_iconst (v := (-1)) C dX8_when_15 rfl (by decide) ?_
    obtain rfl := Option.some.inj h
    exact j_iret E dX8_when_16
set_option maxRecDepth 100000 in
theorem c_X8_when (l : Launch) (D : va_G) (ad : Nat → Nat) (cl : Nat → ClassId) {a1 : Int32} (μ : Mem) (ρ : Int32 × Mem) (h : f_X8_when a1 μ = some ρ) : CI l D ad cl yX8_when wsX8_when rmX8_when [.ref 113, .int a1] μ ρ.1 ρ.2 := c_ofI (cc := cX8_when) (nL := 3) rfl (by decide) (Nat.le_of_ble_eq_true rfl) (fun Γ C E => w_X8_when C E μ h)
/-! X8_darkest -/
def wsX8_darkest : List Cond := .code yX8_darkest cX8_darkest 6 (some .int) :: G0
def rmX8_darkest : Room := { frames := 5, cells := 0, slots := 0, locals := 127 }
def f_X8_darkest_101 (a1 : Int32) (x2 : Int32) (μ : Mem) : Option (Int32 × Mem) := some (x2, μ)
set_option maxHeartbeats 4000000 in
set_option maxRecDepth 100000 in
theorem w_X8_darkest_101 {Γ : jG} (C : jC Γ 6 cX8_darkest RX8 rmX8_darkest) {a1 : Int32} {ρ : Int32 × Mem} (E : jEI Γ cX8_darkest ρ.1 ρ.2) (x2 : Int32) (μ : Mem) (h : f_X8_darkest_101 a1 x2 μ = some ρ) : jJ Γ 6 101 [(2, .int x2)] [] μ := by
  unfold f_X8_darkest_101 at h
  refine j_iload_n C dX8_darkest_101 rfl 0 rfl ?_
  refine j_goto (pc' := 106) C dX8_darkest_102 (by decide) ?_
  obtain rfl := Option.some.inj h
  exact j_iret E dX8_darkest_106
def f_X8_darkest_86 (a1 : Int32) (x2 : Int32) (x3 : Int32) (μ : Mem) : Option (Int32 × Mem) := zl (sI μ 113 17 (-1)) fun μ1_ => (if a1 = 0 then f_X8_darkest_101 a1 x2 μ1_ else (if x2 = (-4) then f_X8_darkest_101 a1 x2 μ1_ else some (x3, μ1_)))
set_option maxHeartbeats 4000000 in
set_option maxRecDepth 100000 in
theorem w_X8_darkest_86 {Γ : jG} (C : jC Γ 6 cX8_darkest RX8 rmX8_darkest) {a1 : Int32} {ρ : Int32 × Mem} (E : jEI Γ cX8_darkest ρ.1 ρ.2) (x2 : Int32) (x3 : Int32) (μ : Mem) (h : f_X8_darkest_86 a1 x2 x3 μ = some ρ) : jJ Γ 6 86 [(0, .ref 113), (1, .int a1), (2, .int x2), (3, .int x3)] [] μ := by
  unfold f_X8_darkest_86 at h
  refine j_aload_n C dX8_darkest_86 rfl 0 rfl ?_
  refine j_iconst (v := (-1)) C dX8_darkest_87 rfl (by decide) ?_
  refine j_putI C dX8_darkest_88 rfl lpX8_38 is_113 rfl ?_
  refine j_mem (fun μ1_ e2_ => ?_)
  replace h := zl_u h e2_
  refine j_iload_n C dX8_darkest_91 rfl 1 rfl ?_
  refine j_if_eq (tgt := 101) C dX8_darkest_92 rfl (by decide) (fun c3_ => ?_) (fun c3_ => ?_)
  · replace h := if_t h c3_
    refine j_lv [2] rfl ?_
    exact w_X8_darkest_101 C E x2 μ1_ h
  · replace h := if_f h c3_
    refine j_iload_n C dX8_darkest_95 rfl 2 rfl ?_
    refine j_bipush (v := (-4)) C dX8_darkest_96 rfl (by decide) ?_
    refine j_icmp_ne (tgt := 105) C dX8_darkest_98 rfl (by decide) (fun c4_ => ?_) (fun c4_ => ?_)
    · replace h := if_f h c4_
      refine j_iload_n C dX8_darkest_105 rfl 3 rfl ?_
      obtain rfl := Option.some.inj h
      exact j_iret E dX8_darkest_106
    · replace h := if_t h c4_
      refine j_lv [2] rfl ?_
      exact w_X8_darkest_101 C E x2 μ1_ h
def f_X8_darkest_79 (a1 : Int32) (kb25 : Int32 → Int32 → Int32 → Mem → Option (Int32 × Mem)) (kx86 : Int32 → Int32 → Mem → Option (Int32 × Mem)) (x2 : Int32) (x4 : Int32) (t0 : Int32) (μ : Mem) : Option (Int32 × Mem) := kb25 x2 t0 (x4 + (nI 1)) μ
set_option maxHeartbeats 4000000 in
set_option maxRecDepth 100000 in
theorem w_X8_darkest_79 {Γ : jG} (C : jC Γ 6 cX8_darkest RX8 rmX8_darkest) {a1 : Int32} {kb25 : Int32 → Int32 → Int32 → Mem → Option (Int32 × Mem)} {kx86 : Int32 → Int32 → Mem → Option (Int32 × Mem)} {ρ : Int32 × Mem} (E : jEI Γ cX8_darkest ρ.1 ρ.2) (Hkb25 : ∀ (x2 : Int32) (x3 : Int32) (x4 : Int32) (μ : Mem), kb25 x2 x3 x4 μ = some ρ → jJ Γ 6 25 [(0, .ref 113), (1, .int a1), (2, .int x2), (3, .int x3), (4, .int x4)] [] μ) (Hkx86 : ∀ (x2 : Int32) (x3 : Int32) (μ : Mem), kx86 x2 x3 μ = some ρ → jJ Γ 6 86 [(0, .ref 113), (1, .int a1), (2, .int x2), (3, .int x3)] [] μ) (x2 : Int32) (x4 : Int32) (t0 : Int32) (μ : Mem) (h : f_X8_darkest_79 a1 kb25 kx86 x2 x4 t0 μ = some ρ) : jJ Γ 6 79 [(0, .ref 113), (1, .int a1), (2, .int x2), (4, .int x4)] [.int t0] μ := by
  unfold f_X8_darkest_79 at h
  refine j_istore_n (lv' := [(3, .int t0), (0, .ref 113), (1, .int a1), (2, .int x2), (4, .int x4)]) C dX8_darkest_79 rfl (by decide) rfl ?_
  refine j_iinc (d := (nI 1)) (v := x4 + (nI 1)) (lv' := [(4, .int (x4 + (nI 1))), (3, .int t0), (0, .ref 113), (1, .int a1), (2, .int x2)]) C dX8_darkest_80 rfl (by decide) 4 rfl (by decide) rfl rfl ?_
  refine j_goto (pc' := 25) C dX8_darkest_83 (by decide) ?_
  refine j_lv [2, 3, 4, 1, 0] rfl ?_
  exact (Hkb25) x2 t0 (x4 + (nI 1)) μ h
def f_X8_darkest_66 (a1 : Int32) (kb25 : Int32 → Int32 → Int32 → Mem → Option (Int32 × Mem)) (kx86 : Int32 → Int32 → Mem → Option (Int32 × Mem)) (x3 : Int32) (x4 : Int32) (x5 : Int32) (t0 : Int32) (μ : Mem) : Option (Int32 × Mem) := (if x5 ≤ x3 then f_X8_darkest_79 a1 kb25 kx86 t0 x4 x3 μ else f_X8_darkest_79 a1 kb25 kx86 t0 x4 x5 μ)
set_option maxHeartbeats 4000000 in
set_option maxRecDepth 100000 in
theorem w_X8_darkest_66 {Γ : jG} (C : jC Γ 6 cX8_darkest RX8 rmX8_darkest) {a1 : Int32} {kb25 : Int32 → Int32 → Int32 → Mem → Option (Int32 × Mem)} {kx86 : Int32 → Int32 → Mem → Option (Int32 × Mem)} {ρ : Int32 × Mem} (E : jEI Γ cX8_darkest ρ.1 ρ.2) (Hkb25 : ∀ (x2 : Int32) (x3 : Int32) (x4 : Int32) (μ : Mem), kb25 x2 x3 x4 μ = some ρ → jJ Γ 6 25 [(0, .ref 113), (1, .int a1), (2, .int x2), (3, .int x3), (4, .int x4)] [] μ) (Hkx86 : ∀ (x2 : Int32) (x3 : Int32) (μ : Mem), kx86 x2 x3 μ = some ρ → jJ Γ 6 86 [(0, .ref 113), (1, .int a1), (2, .int x2), (3, .int x3)] [] μ) (x3 : Int32) (x4 : Int32) (x5 : Int32) (t0 : Int32) (μ : Mem) (h : f_X8_darkest_66 a1 kb25 kx86 x3 x4 x5 t0 μ = some ρ) : jJ Γ 6 66 [(0, .ref 113), (1, .int a1), (3, .int x3), (4, .int x4), (5, .int x5)] [.int t0] μ := by
  unfold f_X8_darkest_66 at h
  refine j_istore_n (lv' := [(2, .int t0), (0, .ref 113), (1, .int a1), (3, .int x3), (4, .int x4), (5, .int x5)]) C dX8_darkest_66 rfl (by decide) rfl ?_
  refine j_iload C dX8_darkest_67 rfl 5 rfl ?_
  refine j_iload_n C dX8_darkest_69 rfl 3 rfl ?_
  refine j_icmp_le (tgt := 78) C dX8_darkest_70 rfl (by decide) (fun c1_ => ?_) (fun c1_ => ?_)
  · replace h := if_t h c1_
    refine j_iload_n C dX8_darkest_78 rfl 3 rfl ?_
    refine j_lv [1, 2, 0, 4] rfl ?_
    exact w_X8_darkest_79 C E Hkb25 Hkx86 t0 x4 x3 μ h
  · replace h := if_f h c1_
    refine j_iload C dX8_darkest_73 rfl 5 rfl ?_
    refine j_goto (pc' := 79) C dX8_darkest_75 (by decide) ?_
    refine j_lv [1, 2, 0, 4] rfl ?_
    exact w_X8_darkest_79 C E Hkb25 Hkx86 t0 x4 x5 μ h
def f_X8_darkest_25 (a1 : Int32) (kx86 : Int32 → Int32 → Mem → Option (Int32 × Mem)) : Nat → Int32 → Int32 → Int32 → Mem → Option (Int32 × Mem)
  | 0, _, _, _, _ => none
  | n + 1, x2, x3, x4, μ => gd (inb (nI 0) 1829) <| (if (μ.1 114 (Int32.toNatClampNeg (nI 0))) ≤ x4 then kx86 x2 x3 μ else zl (sI μ 113 17 x4) fun μ3_ => Option.bind (f_X8_doneBy 114 x4 μ3_) fun p5_ => (if p5_.1 ≤ x3 then f_X8_darkest_66 a1 (fun x2 x3 x4 μ => f_X8_darkest_25 a1 kx86 n x2 x3 x4 μ) kx86 x3 x4 p5_.1 x2 p5_.2 else f_X8_darkest_66 a1 (fun x2 x3 x4 μ => f_X8_darkest_25 a1 kx86 n x2 x3 x4 μ) kx86 x3 x4 p5_.1 x4 p5_.2))
set_option maxHeartbeats 4000000 in
set_option maxRecDepth 100000 in
theorem w_X8_darkest_25 {Γ : jG} (C : jC Γ 6 cX8_darkest RX8 rmX8_darkest) {a1 : Int32} {kx86 : Int32 → Int32 → Mem → Option (Int32 × Mem)} {ρ : Int32 × Mem} (E : jEI Γ cX8_darkest ρ.1 ρ.2) (Hkx86 : ∀ (x2 : Int32) (x3 : Int32) (μ : Mem), kx86 x2 x3 μ = some ρ → jJ Γ 6 86 [(0, .ref 113), (1, .int a1), (2, .int x2), (3, .int x3)] [] μ) : ∀ (n : Nat) (x2 : Int32) (x3 : Int32) (x4 : Int32) (μ : Mem), f_X8_darkest_25 a1 kx86 n x2 x3 x4 μ = some ρ → jJ Γ 6 25 [(0, .ref 113), (1, .int a1), (2, .int x2), (3, .int x3), (4, .int x4)] [] μ := by
  intro n
  induction n with
  | zero => intro x2 x3 x4 μ h; rw [f_X8_darkest_25] at h; cases h
  | succ n ih =>
    intro x2 x3 x4 μ h
    rw [f_X8_darkest_25] at h
    refine j_iload C dX8_darkest_25 rfl 4 rfl ?_
    refine j_aload_n C dX8_darkest_27 rfl 0 rfl ?_
    refine j_getR (c := 114) C dX8_darkest_28 rfl lkX8_7 is_113 rfl ?_
    refine j_iconst (v := (nI 0)) C dX8_darkest_31 rfl (by decide) ?_
    replace h := gd_e h
    obtain ⟨g1_, h⟩ := h
    refine j_iald C dX8_darkest_32 rfl is_114 g1_ ?_
    refine j_icmp_ge (tgt := 86) C dX8_darkest_33 rfl (by decide) (fun c2_ => ?_) (fun c2_ => ?_)
    · replace h := if_t h c2_
      refine j_lv [0, 1, 2, 3] rfl ?_
      exact (Hkx86) x2 x3 μ h
    · replace h := if_f h c2_
      refine j_aload_n C dX8_darkest_36 rfl 0 rfl ?_
      refine j_iload C dX8_darkest_37 rfl 4 rfl ?_
      refine j_putI C dX8_darkest_39 rfl lpX8_38 is_113 rfl ?_
      refine j_mem (fun μ3_ e4_ => ?_)
      replace h := zl_u h e4_
      refine j_aload_n C dX8_darkest_42 rfl 0 rfl ?_
      refine j_aload_n C dX8_darkest_43 rfl 0 rfl ?_
      refine j_getR (c := 114) C dX8_darkest_44 rfl lkX8_7 is_113 rfl ?_
      refine j_iload C dX8_darkest_47 rfl 4 rfl ?_
      replace h := bd_e h
      obtain ⟨p5_, h6_, h⟩ := h
      refine j_cVI (av := [.ref 114, .int x4]) (rest := []) C dX8_darkest_49 rfl (c_X8_doneBy _ _ _ _ isRow114 μ3_ p5_ h6_) gvX8_203 ⟨⟨rfl, rfl⟩, Nat.le_of_ble_eq_true rfl, Nat.le_of_ble_eq_true rfl⟩ rfl is_113 rfl rfl (Nat.le_of_ble_eq_true rfl) ?_
      refine j_istore (lv' := [(5, .int p5_.1), (0, .ref 113), (1, .int a1), (2, .int x2), (3, .int x3), (4, .int x4)]) C dX8_darkest_52 rfl (by decide) rfl ?_
      refine j_iload C dX8_darkest_54 rfl 0 rfl ?_
      refine j_iload_n C dX8_darkest_56 rfl 4 rfl ?_
      refine j_icmp_le (tgt := 65) C dX8_darkest_57 rfl (by decide) (fun c7_ => ?_) (fun c7_ => ?_)
      · replace h := if_t h c7_
        refine j_iload_n C dX8_darkest_65 rfl 3 rfl ?_
        refine j_lv [1, 2, 4, 5, 0] rfl ?_
        exact w_X8_darkest_66 C E ih Hkx86 x3 x4 p5_.1 x2 p5_.2 h
      · replace h := if_f h c7_
        refine j_iload C dX8_darkest_60 rfl 5 rfl ?_
        refine j_goto (pc' := 66) C dX8_darkest_62 (by decide) ?_
        refine j_lv [1, 2, 4, 5, 0] rfl ?_
        exact w_X8_darkest_66 C E ih Hkx86 x3 x4 p5_.1 x4 p5_.2 h
def f_X8_darkest (a1 : Int32) (μ : Mem) : Option (Int32 × Mem) := zl (sI μ 113 0 (nI 0)) fun μ1_ => Option.bind (f_X8_in (Int32.toInt64 a1) 0 1 μ1_) fun p3_ => (if p3_.1 = 0 then some ((-1), p3_.2) else f_X8_darkest_25 a1 (fun x2 x3 μ => f_X8_darkest_86 a1 x2 x3 μ) zfu (-4) (-1) (nI 0) p3_.2)
set_option maxHeartbeats 4000000 in
set_option maxRecDepth 100000 in
theorem w_X8_darkest {Γ : jG} (C : jC Γ 6 cX8_darkest RX8 rmX8_darkest) {a1 : Int32} {ρ : Int32 × Mem} (E : jEI Γ cX8_darkest ρ.1 ρ.2) (μ : Mem) (h : f_X8_darkest a1 μ = some ρ) : jJ Γ 6 0 [(0, .ref 113), (1, .int a1)] [] μ := by
  unfold f_X8_darkest at h
  refine j_aload_n C dX8_darkest_0 rfl 0 rfl ?_
  refine j_iconst (v := (nI 0)) C dX8_darkest_1 rfl (by decide) ?_
  refine j_putI C dX8_darkest_2 rfl lpX8_48 is_113 rfl ?_
  refine j_mem (fun μ1_ e2_ => ?_)
  replace h := zl_u h e2_
  refine j_iload_n C dX8_darkest_5 rfl 1 rfl ?_
  refine j_i2l C dX8_darkest_6 rfl ?_
  refine j_lconst (v := 0) C dX8_darkest_7 rfl (by decide) ?_
  refine j_lconst (v := 1) C dX8_darkest_8 rfl (by decide) ?_
  replace h := bd_e h
  obtain ⟨p3_, h4_, h⟩ := h
  refine j_cSI (av := [.long (Int32.toInt64 a1), .long 0, .long 1]) (rest := []) C dX8_darkest_9 rfl (c_X8_in _ _ _ _ μ1_ p3_ h4_) gsX8_51 ⟨⟨rfl, rfl⟩, Nat.le_of_ble_eq_true rfl, Nat.le_of_ble_eq_true rfl⟩ rfl rfl (Nat.le_of_ble_eq_true rfl) ?_
  refine j_if_ne (tgt := 17) C dX8_darkest_12 rfl (by decide) (fun c5_ => ?_) (fun c5_ => ?_)
  · replace h := if_f h c5_
    refine j_bipush (v := (-4)) C dX8_darkest_17 rfl (by decide) ?_
    refine j_istore_n (lv' := [(2, .int (-4)), (0, .ref 113), (1, .int a1)]) C dX8_darkest_19 rfl (by decide) rfl ?_
    refine j_iconst (v := (-1)) C dX8_darkest_20 rfl (by decide) ?_
    refine j_istore_n (lv' := [(3, .int (-1)), (2, .int (-4)), (0, .ref 113), (1, .int a1)]) C dX8_darkest_21 rfl (by decide) rfl ?_
    refine j_iconst (v := (nI 0)) C dX8_darkest_22 rfl (by decide) ?_
    refine j_istore (lv' := [(4, .int (nI 0)), (3, .int (-1)), (2, .int (-4)), (0, .ref 113), (1, .int a1)]) C dX8_darkest_23 rfl (by decide) rfl ?_
    refine j_lv [3, 4, 2, 1, 0] rfl ?_
    exact w_X8_darkest_25 C E (fun x2 x3 μ h => w_X8_darkest_86 C E x2 x3 μ h) zfu (-4) (-1) (nI 0) p3_.2 h
  · replace h := if_t h c5_
    refine j_iconst (v := (-1)) C dX8_darkest_15 rfl (by decide) ?_
    obtain rfl := Option.some.inj h
    exact j_iret E dX8_darkest_16
set_option maxRecDepth 100000 in
theorem c_X8_darkest (l : Launch) (D : va_G) (ad : Nat → Nat) (cl : Nat → ClassId) {a1 : Int32} (μ : Mem) (ρ : Int32 × Mem) (h : f_X8_darkest a1 μ = some ρ) : CI l D ad cl yX8_darkest wsX8_darkest rmX8_darkest [.ref 113, .int a1] μ ρ.1 ρ.2 := c_ofI (cc := cX8_darkest) (nL := 6) rfl (by decide) (Nat.le_of_ble_eq_true rfl) (fun Γ C E => w_X8_darkest C E μ h)
/-! X8_holdsBy -/
def wsX8_holdsBy : List Cond := .code yX8_holdsBy cX8_holdsBy 4 (some .boolean) :: G0
def rmX8_holdsBy : Room := { frames := 4, cells := 0, slots := 0, locals := 104 }
def f_X8_holdsBy_85 (k1 : Nat) (a2 : Int32) (μ : Mem) : Option (Int32 × Mem) := Option.bind (f_X8_isUnlike 116 μ) fun p1_ => (if p1_.1 = 0 then some ((nI 1), p1_.2) else some ((nI 0), p1_.2))
set_option maxHeartbeats 4000000 in
set_option maxRecDepth 100000 in
theorem w_X8_holdsBy_85 {Γ : jG} (C : jC Γ 4 cX8_holdsBy RX8 rmX8_holdsBy) {k1 : Nat} {a2 : Int32} (hk1 : isRow k1) {ρ : Int32 × Mem} (E : (isB ρ.1 = true → jEI Γ cX8_holdsBy ρ.1 ρ.2)) (μ : Mem) (h : f_X8_holdsBy_85 k1 a2 μ = some ρ) : jJ Γ 4 85 [(0, .ref 113)] [] μ := by
  unfold f_X8_holdsBy_85 at h
  refine j_aload_n C dX8_holdsBy_85 rfl 0 rfl ?_
  refine j_getR (c := 116) C dX8_holdsBy_86 rfl lkX8_16 is_113 rfl ?_
  replace h := bd_e h
  obtain ⟨p1_, h2_, h⟩ := h
  refine j_cSI (av := [.ref 116]) (rest := []) C dX8_holdsBy_89 rfl (c_X8_isUnlike _ _ _ _ isRow116 μ p1_ h2_) gsX8_151 ⟨⟨rfl, rfl⟩, Nat.le_of_ble_eq_true rfl, Nat.le_of_ble_eq_true rfl⟩ rfl rfl (Nat.le_of_ble_eq_true rfl) ?_
  refine j_if_ne (tgt := 99) C dX8_holdsBy_92 rfl (by decide) (fun c3_ => ?_) (fun c3_ => ?_)
  · replace h := if_f h c3_
    refine j_iconst (v := (nI 0)) C dX8_holdsBy_99 rfl (by decide) ?_
    obtain rfl := Option.some.inj h
    exact j_iret (E isB_0) dX8_holdsBy_100
  · replace h := if_t h c3_
    refine j_iconst (v := (nI 1)) C dX8_holdsBy_95 rfl (by decide) ?_
    refine j_goto (pc' := 100) C dX8_holdsBy_96 (by decide) ?_
    obtain rfl := Option.some.inj h
    exact j_iret (E isB_1) dX8_holdsBy_100
def f_X8_holdsBy_65 (k1 : Nat) (a2 : Int32) (kx85 : Mem → Option (Int32 × Mem)) : Nat → Int32 → Mem → Option (Int32 × Mem)
  | 0, _, _ => none
  | n + 1, x3, μ => (if (nI 60) ≤ x3 then kx85 μ else Option.bind (f_X8_goes 116 μ) fun p2_ => f_X8_holdsBy_65 k1 a2 kx85 n (x3 + (nI 1)) p2_)
set_option maxHeartbeats 4000000 in
set_option maxRecDepth 100000 in
theorem w_X8_holdsBy_65 {Γ : jG} (C : jC Γ 4 cX8_holdsBy RX8 rmX8_holdsBy) {k1 : Nat} {a2 : Int32} (hk1 : isRow k1) {kx85 : Mem → Option (Int32 × Mem)} {ρ : Int32 × Mem} (E : (isB ρ.1 = true → jEI Γ cX8_holdsBy ρ.1 ρ.2)) (Hkx85 : ∀ (μ : Mem), kx85 μ = some ρ → jJ Γ 4 85 [(0, .ref 113)] [] μ) : ∀ (n : Nat) (x3 : Int32) (μ : Mem), f_X8_holdsBy_65 k1 a2 kx85 n x3 μ = some ρ → jJ Γ 4 65 [(0, .ref 113), (3, .int x3)] [] μ := by
  intro n
  induction n with
  | zero => intro x3 μ h; rw [f_X8_holdsBy_65] at h; cases h
  | succ n ih =>
    intro x3 μ h
    rw [f_X8_holdsBy_65] at h
    refine j_iload_n C dX8_holdsBy_65 rfl 1 rfl ?_
    refine j_bipush (v := (nI 60)) C dX8_holdsBy_66 rfl (by decide) ?_
    refine j_icmp_ge (tgt := 85) C dX8_holdsBy_68 rfl (by decide) (fun c1_ => ?_) (fun c1_ => ?_)
    · replace h := if_t h c1_
      refine j_lv [0] rfl ?_
      exact (Hkx85) μ h
    · replace h := if_f h c1_
      refine j_aload_n C dX8_holdsBy_71 rfl 0 rfl ?_
      refine j_aload_n C dX8_holdsBy_72 rfl 0 rfl ?_
      refine j_getR (c := 116) C dX8_holdsBy_73 rfl lkX8_16 is_113 rfl ?_
      replace h := bd_e h
      obtain ⟨p2_, h3_, h⟩ := h
      refine j_cVV (av := [.ref 116]) (rest := []) C dX8_holdsBy_76 rfl (c_X8_goes _ _ _ _ isRow116 μ p2_ h3_) gvX8_187 ⟨⟨rfl, rfl⟩, Nat.le_of_ble_eq_true rfl, Nat.le_of_ble_eq_true rfl⟩ rfl is_113 rfl rfl (Nat.le_of_ble_eq_true rfl) ?_
      refine j_iinc (d := (nI 1)) (v := x3 + (nI 1)) (lv' := [(3, .int (x3 + (nI 1))), (0, .ref 113)]) C dX8_holdsBy_79 rfl (by decide) 1 rfl (by decide) rfl rfl ?_
      refine j_goto (pc' := 65) C dX8_holdsBy_82 (by decide) ?_
      refine j_lv [1, 0] rfl ?_
      exact (ih) (x3 + (nI 1)) p2_ h
def f_X8_holdsBy_63 (k1 : Nat) (a2 : Int32) (μ : Mem) : Option (Int32 × Mem) := f_X8_holdsBy_65 k1 a2 (fun μ => f_X8_holdsBy_85 k1 a2 μ) zfu (nI 0) μ
set_option maxHeartbeats 4000000 in
set_option maxRecDepth 100000 in
theorem w_X8_holdsBy_63 {Γ : jG} (C : jC Γ 4 cX8_holdsBy RX8 rmX8_holdsBy) {k1 : Nat} {a2 : Int32} (hk1 : isRow k1) {ρ : Int32 × Mem} (E : (isB ρ.1 = true → jEI Γ cX8_holdsBy ρ.1 ρ.2)) (μ : Mem) (h : f_X8_holdsBy_63 k1 a2 μ = some ρ) : jJ Γ 4 63 [(0, .ref 113)] [] μ := by
  unfold f_X8_holdsBy_63 at h
  refine j_iconst (v := (nI 0)) C dX8_holdsBy_63 rfl (by decide) ?_
  refine j_istore_n (lv' := [(3, .int (nI 0)), (0, .ref 113)]) C dX8_holdsBy_64 rfl (by decide) rfl ?_
  refine j_lv [1, 0] rfl ?_
  exact w_X8_holdsBy_65 C hk1 E (fun μ h => w_X8_holdsBy_85 C hk1 E μ h) zfu (nI 0) μ h
def f_X8_holdsBy_56 (k1 : Nat) (a2 : Int32) (kb10 : Int32 → Mem → Option (Int32 × Mem)) (kx63 : Mem → Option (Int32 × Mem)) (x3 : Int32) (t1 : Int32) (t2 : Int32) (μ : Mem) : Option (Int32 × Mem) := gd (inb t1 1829) <| zl (sI μ 116 (Int32.toNatClampNeg t1) t2) fun μ2_ => kb10 (x3 + (nI 1)) μ2_
set_option maxHeartbeats 4000000 in
set_option maxRecDepth 100000 in
theorem w_X8_holdsBy_56 {Γ : jG} (C : jC Γ 4 cX8_holdsBy RX8 rmX8_holdsBy) {k1 : Nat} {a2 : Int32} (hk1 : isRow k1) {kb10 : Int32 → Mem → Option (Int32 × Mem)} {kx63 : Mem → Option (Int32 × Mem)} {ρ : Int32 × Mem} (E : (isB ρ.1 = true → jEI Γ cX8_holdsBy ρ.1 ρ.2)) (Hkb10 : ∀ (x3 : Int32) (μ : Mem), kb10 x3 μ = some ρ → jJ Γ 4 10 [(0, .ref 113), (2, .int a2), (3, .int x3)] [] μ) (Hkx63 : ∀ (μ : Mem), kx63 μ = some ρ → jJ Γ 4 63 [(0, .ref 113)] [] μ) (x3 : Int32) (t1 : Int32) (t2 : Int32) (μ : Mem) (h : f_X8_holdsBy_56 k1 a2 kb10 kx63 x3 t1 t2 μ = some ρ) : jJ Γ 4 56 [(0, .ref 113), (2, .int a2), (3, .int x3)] [.int t2, .int t1, .ref 116] μ := by
  unfold f_X8_holdsBy_56 at h
  replace h := gd_e h
  obtain ⟨g1_, h⟩ := h
  refine j_iast C dX8_holdsBy_56 rfl is_116 g1_ ?_
  refine j_mem (fun μ2_ e3_ => ?_)
  replace h := zl_u h e3_
  refine j_iinc (d := (nI 1)) (v := x3 + (nI 1)) (lv' := [(3, .int (x3 + (nI 1))), (0, .ref 113), (2, .int a2)]) C dX8_holdsBy_57 rfl (by decide) 2 rfl (by decide) rfl rfl ?_
  refine j_goto (pc' := 10) C dX8_holdsBy_60 (by decide) ?_
  refine j_lv [1, 2, 0] rfl ?_
  exact (Hkb10) (x3 + (nI 1)) μ2_ h
def f_X8_holdsBy_10 (k1 : Nat) (a2 : Int32) (kx63 : Mem → Option (Int32 × Mem)) : Nat → Int32 → Mem → Option (Int32 × Mem)
  | 0, _, _ => none
  | n + 1, x3, μ => gd (inb (nI 0) 1829) <| (if (μ.1 116 (Int32.toNatClampNeg (nI 0))) ≤ x3 then kx63 μ else (if ((a2 >>> (x3 &&& 31)) &&& (nI 1)) = (nI 1) then f_X8_holdsBy_56 k1 a2 (fun x3 μ => f_X8_holdsBy_10 k1 a2 kx63 n x3 μ) kx63 x3 ((nI 6) + ((nI 6) * x3)) (nI 1) μ else gd (inb ((nI 6) + ((nI 6) * x3)) 1829) <| f_X8_holdsBy_56 k1 a2 (fun x3 μ => f_X8_holdsBy_10 k1 a2 kx63 n x3 μ) kx63 x3 ((nI 6) + ((nI 6) * x3)) (μ.1 116 (Int32.toNatClampNeg ((nI 6) + ((nI 6) * x3)))) μ))
set_option maxHeartbeats 4000000 in
set_option maxRecDepth 100000 in
theorem w_X8_holdsBy_10 {Γ : jG} (C : jC Γ 4 cX8_holdsBy RX8 rmX8_holdsBy) {k1 : Nat} {a2 : Int32} (hk1 : isRow k1) {kx63 : Mem → Option (Int32 × Mem)} {ρ : Int32 × Mem} (E : (isB ρ.1 = true → jEI Γ cX8_holdsBy ρ.1 ρ.2)) (Hkx63 : ∀ (μ : Mem), kx63 μ = some ρ → jJ Γ 4 63 [(0, .ref 113)] [] μ) : ∀ (n : Nat) (x3 : Int32) (μ : Mem), f_X8_holdsBy_10 k1 a2 kx63 n x3 μ = some ρ → jJ Γ 4 10 [(0, .ref 113), (2, .int a2), (3, .int x3)] [] μ := by
  intro n
  induction n with
  | zero => intro x3 μ h; rw [f_X8_holdsBy_10] at h; cases h
  | succ n ih =>
    intro x3 μ h
    rw [f_X8_holdsBy_10] at h
    refine j_iload_n C dX8_holdsBy_10 rfl 2 rfl ?_
    refine j_aload_n C dX8_holdsBy_11 rfl 0 rfl ?_
    refine j_getR (c := 116) C dX8_holdsBy_12 rfl lkX8_16 is_113 rfl ?_
    refine j_iconst (v := (nI 0)) C dX8_holdsBy_15 rfl (by decide) ?_
    replace h := gd_e h
    obtain ⟨g1_, h⟩ := h
    refine j_iald C dX8_holdsBy_16 rfl is_116 g1_ ?_
    refine j_icmp_ge (tgt := 63) C dX8_holdsBy_17 rfl (by decide) (fun c2_ => ?_) (fun c2_ => ?_)
    · replace h := if_t h c2_
      refine j_lv [0] rfl ?_
      exact (Hkx63) μ h
    · replace h := if_f h c2_
      refine j_aload_n C dX8_holdsBy_20 rfl 0 rfl ?_
      refine j_getR (c := 116) C dX8_holdsBy_21 rfl lkX8_16 is_113 rfl ?_
      refine j_bipush (v := (nI 6)) C dX8_holdsBy_24 rfl (by decide) ?_
      refine j_bipush (v := (nI 6)) C dX8_holdsBy_26 rfl (by decide) ?_
      refine j_iload_n C dX8_holdsBy_28 rfl 2 rfl ?_
      refine j_imul C dX8_holdsBy_29 rfl ?_
      refine j_iadd C dX8_holdsBy_30 rfl ?_
      refine j_iload_n C dX8_holdsBy_31 rfl 1 rfl ?_
      refine j_iload_n C dX8_holdsBy_32 rfl 2 rfl ?_
      refine j_ishr C dX8_holdsBy_33 rfl ?_
      refine j_iconst (v := (nI 1)) C dX8_holdsBy_34 rfl (by decide) ?_
      refine j_iand C dX8_holdsBy_35 rfl ?_
      refine j_iconst (v := (nI 1)) C dX8_holdsBy_36 rfl (by decide) ?_
      refine j_icmp_ne (tgt := 44) C dX8_holdsBy_37 rfl (by decide) (fun c3_ => ?_) (fun c3_ => ?_)
      · replace h := if_f h c3_
        refine j_aload_n C dX8_holdsBy_44 rfl 0 rfl ?_
        refine j_getR (c := 116) C dX8_holdsBy_45 rfl lkX8_16 is_113 rfl ?_
        refine j_bipush (v := (nI 6)) C dX8_holdsBy_48 rfl (by decide) ?_
        refine j_bipush (v := (nI 6)) C dX8_holdsBy_50 rfl (by decide) ?_
        refine j_iload_n C dX8_holdsBy_52 rfl 2 rfl ?_
        refine j_imul C dX8_holdsBy_53 rfl ?_
        refine j_iadd C dX8_holdsBy_54 rfl ?_
        replace h := gd_e h
        obtain ⟨g4_, h⟩ := h
        refine j_iald C dX8_holdsBy_55 rfl is_116 g4_ ?_
        refine j_lv [0, 1, 2] rfl ?_
        exact w_X8_holdsBy_56 C hk1 E ih Hkx63 x3 ((nI 6) + ((nI 6) * x3)) (μ.1 116 (Int32.toNatClampNeg ((nI 6) + ((nI 6) * x3)))) μ h
      · replace h := if_t h c3_
        refine j_iconst (v := (nI 1)) C dX8_holdsBy_40 rfl (by decide) ?_
        refine j_goto (pc' := 56) C dX8_holdsBy_41 (by decide) ?_
        refine j_lv [0, 1, 2] rfl ?_
        exact w_X8_holdsBy_56 C hk1 E ih Hkx63 x3 ((nI 6) + ((nI 6) * x3)) (nI 1) μ h
def f_X8_holdsBy (k1 : Nat) (a2 : Int32) (μ : Mem) : Option (Int32 × Mem) := Option.bind (f_X8_copies k1 116 μ) fun p1_ => f_X8_holdsBy_10 k1 a2 (fun μ => f_X8_holdsBy_63 k1 a2 μ) zfu (nI 0) p1_
set_option maxHeartbeats 4000000 in
set_option maxRecDepth 100000 in
theorem w_X8_holdsBy {Γ : jG} (C : jC Γ 4 cX8_holdsBy RX8 rmX8_holdsBy) {k1 : Nat} {a2 : Int32} (hk1 : isRow k1) {ρ : Int32 × Mem} (E : (isB ρ.1 = true → jEI Γ cX8_holdsBy ρ.1 ρ.2)) (μ : Mem) (h : f_X8_holdsBy k1 a2 μ = some ρ) : jJ Γ 4 0 [(0, .ref 113), (1, .ref k1), (2, .int a2)] [] μ := by
  unfold f_X8_holdsBy at h
  refine j_aload_n C dX8_holdsBy_0 rfl 1 rfl ?_
  refine j_aload_n C dX8_holdsBy_1 rfl 0 rfl ?_
  refine j_getR (c := 116) C dX8_holdsBy_2 rfl lkX8_16 is_113 rfl ?_
  replace h := bd_e h
  obtain ⟨p1_, h2_, h⟩ := h
  refine j_cSV (av := [.ref k1, .ref 116]) (rest := []) C dX8_holdsBy_5 rfl (c_X8_copies _ _ _ _ hk1 isRow116 μ p1_ h2_) gsX8_196 ⟨⟨rfl, rfl⟩, Nat.le_of_ble_eq_true rfl, Nat.le_of_ble_eq_true rfl⟩ rfl rfl (Nat.le_of_ble_eq_true rfl) ?_
  refine j_iconst (v := (nI 0)) C dX8_holdsBy_8 rfl (by decide) ?_
  refine j_istore_n (lv' := [(3, .int (nI 0)), (0, .ref 113), (1, .ref k1), (2, .int a2)]) C dX8_holdsBy_9 rfl (by decide) rfl ?_
  refine j_lv [1, 3, 0] rfl ?_
  exact w_X8_holdsBy_10 C hk1 E (fun μ h => w_X8_holdsBy_63 C hk1 E μ h) zfu (nI 0) p1_ h
set_option maxRecDepth 100000 in
theorem c_X8_holdsBy (l : Launch) (D : va_G) (ad : Nat → Nat) (cl : Nat → ClassId) {k1 : Nat} {a2 : Int32} (hk1 : isRow k1) (μ : Mem) (ρ : Int32 × Mem) (h : f_X8_holdsBy k1 a2 μ = some ρ) : CI l D ad cl yX8_holdsBy wsX8_holdsBy rmX8_holdsBy [.ref 113, .ref k1, .int a2] μ ρ.1 ρ.2 := c_ofZ (cc := cX8_holdsBy) (nL := 4) rfl (by decide) (Nat.le_of_ble_eq_true rfl) (fun Γ C E => w_X8_holdsBy C hk1 E μ h)
theorem gvX8_207 : jm_gv RX8 207 RX8 yX8_holdsBy wsX8_holdsBy 4 2 := ⟨_, _, gi_V gwt5_237 gwt5_239 gwp4_2 gwt1_9 gwt6_0, rfl, by decide +kernel⟩
/-! X8_holds -/
def wsX8_holds : List Cond := .code yX8_holds cX8_holds 2 (some .int) :: G0
def rmX8_holds : Room := { frames := 5, cells := 0, slots := 0, locals := 127 }
def f_X8_holds (a1 : Int32) (μ : Mem) : Option (Int32 × Mem) := zl (sI μ 113 0 (nI 0)) fun μ1_ => gd (inb (nI 0) 1829) <| Option.bind (f_X8_in (Int32.toInt64 a1) 0 (Int32.toInt64 (((nI 1) <<< ((μ1_.1 114 (Int32.toNatClampNeg (nI 0))) &&& 31)) - (nI 1))) μ1_) fun p4_ => (if p4_.1 = 0 then some ((-1), p4_.2) else Option.bind (f_X8_holdsBy 114 a1 p4_.2) fun p7_ => (if p7_.1 = 0 then some ((nI 0), p7_.2) else some ((nI 1), p7_.2)))
set_option maxHeartbeats 4000000 in
set_option maxRecDepth 100000 in
theorem w_X8_holds {Γ : jG} (C : jC Γ 2 cX8_holds RX8 rmX8_holds) {a1 : Int32} {ρ : Int32 × Mem} (E : jEI Γ cX8_holds ρ.1 ρ.2) (μ : Mem) (h : f_X8_holds a1 μ = some ρ) : jJ Γ 2 0 [(0, .ref 113), (1, .int a1)] [] μ := by
  unfold f_X8_holds at h
  refine j_aload_n C dX8_holds_0 rfl 0 rfl ?_
  refine j_iconst (v := (nI 0)) C dX8_holds_1 rfl (by decide) ?_
  refine j_putI C dX8_holds_2 rfl lpX8_48 is_113 rfl ?_
  refine j_mem (fun μ1_ e2_ => ?_)
  replace h := zl_u h e2_
  refine j_iload_n C dX8_holds_5 rfl 1 rfl ?_
  refine j_i2l C dX8_holds_6 rfl ?_
  refine j_lconst (v := 0) C dX8_holds_7 rfl (by decide) ?_
  refine j_iconst (v := (nI 1)) C dX8_holds_8 rfl (by decide) ?_
  refine j_aload_n C dX8_holds_9 rfl 0 rfl ?_
  refine j_getR (c := 114) C dX8_holds_10 rfl lkX8_7 is_113 rfl ?_
  refine j_iconst (v := (nI 0)) C dX8_holds_13 rfl (by decide) ?_
  replace h := gd_e h
  obtain ⟨g3_, h⟩ := h
  refine j_iald C dX8_holds_14 rfl is_114 g3_ ?_
  refine j_ishl C dX8_holds_15 rfl ?_
  refine j_iconst (v := (nI 1)) C dX8_holds_16 rfl (by decide) ?_
  refine j_isub C dX8_holds_17 rfl ?_
  refine j_i2l C dX8_holds_18 rfl ?_
  replace h := bd_e h
  obtain ⟨p4_, h5_, h⟩ := h
  refine j_cSI (av := [.long (Int32.toInt64 a1), .long 0, .long (Int32.toInt64 (((nI 1) <<< ((μ1_.1 114 (Int32.toNatClampNeg (nI 0))) &&& 31)) - (nI 1)))]) (rest := []) C dX8_holds_19 rfl (c_X8_in _ _ _ _ μ1_ p4_ h5_) gsX8_51 ⟨⟨rfl, rfl⟩, Nat.le_of_ble_eq_true rfl, Nat.le_of_ble_eq_true rfl⟩ rfl rfl (Nat.le_of_ble_eq_true rfl) ?_
  refine j_if_ne (tgt := 27) C dX8_holds_22 rfl (by decide) (fun c6_ => ?_) (fun c6_ => ?_)
  · replace h := if_f h c6_
    refine j_aload_n C dX8_holds_27 rfl 0 rfl ?_
    refine j_aload_n C dX8_holds_28 rfl 0 rfl ?_
    refine j_getR (c := 114) C dX8_holds_29 rfl lkX8_7 is_113 rfl ?_
    refine j_iload_n C dX8_holds_32 rfl 1 rfl ?_
    replace h := bd_e h
    obtain ⟨p7_, h8_, h⟩ := h
    refine j_cVI (av := [.ref 114, .int a1]) (rest := []) C dX8_holds_33 rfl (c_X8_holdsBy _ _ _ _ isRow114 p4_.2 p7_ h8_) gvX8_207 ⟨⟨rfl, rfl⟩, Nat.le_of_ble_eq_true rfl, Nat.le_of_ble_eq_true rfl⟩ rfl is_113 rfl rfl (Nat.le_of_ble_eq_true rfl) ?_
    refine j_if_eq (tgt := 43) C dX8_holds_36 rfl (by decide) (fun c9_ => ?_) (fun c9_ => ?_)
    · replace h := if_t h c9_
      refine j_iconst (v := (nI 0)) C dX8_holds_43 rfl (by decide) ?_
      obtain rfl := Option.some.inj h
      exact j_iret E dX8_holds_44
    · replace h := if_f h c9_
      refine j_iconst (v := (nI 1)) C dX8_holds_39 rfl (by decide) ?_
      refine j_goto (pc' := 44) C dX8_holds_40 (by decide) ?_
      obtain rfl := Option.some.inj h
      exact j_iret E dX8_holds_44
  · replace h := if_t h c6_
    refine j_iconst (v := (-1)) C dX8_holds_25 rfl (by decide) ?_
    obtain rfl := Option.some.inj h
    exact j_iret E dX8_holds_26
set_option maxRecDepth 100000 in
theorem c_X8_holds (l : Launch) (D : va_G) (ad : Nat → Nat) (cl : Nat → ClassId) {a1 : Int32} (μ : Mem) (ρ : Int32 × Mem) (h : f_X8_holds a1 μ = some ρ) : CI l D ad cl yX8_holds wsX8_holds rmX8_holds [.ref 113, .int a1] μ ρ.1 ρ.2 := c_ofI (cc := cX8_holds) (nL := 2) rfl (by decide) (Nat.le_of_ble_eq_true rfl) (fun Γ C E => w_X8_holds C E μ h)
theorem gsX8_210 : jm_gs RX8 210 yX8_ones wsX8_ones 3 1 := ⟨_, _, gi_S gwt6_9 gwt6_10 gwt1_9 gwt6_11, rfl, by decide +kernel⟩
/-! X8_holdsAll -/
def wsX8_holdsAll : List Cond := .code yX8_holdsAll cX8_holdsAll 5 (some .boolean) :: G0
def rmX8_holdsAll : Room := { frames := 5, cells := 0, slots := 0, locals := 127 }
def f_X8_holdsAll_43 (k1 : Nat) (a2 : Int32) (kb5 : Int32 → Int32 → Mem → Option (Int32 × Mem)) (x4 : Int32) (t0 : Int32) (μ : Mem) : Option (Int32 × Mem) := kb5 t0 (x4 + (nI 1)) μ
set_option maxHeartbeats 4000000 in
set_option maxRecDepth 100000 in
theorem w_X8_holdsAll_43 {Γ : jG} (C : jC Γ 5 cX8_holdsAll RX8 rmX8_holdsAll) {k1 : Nat} {a2 : Int32} (hk1 : isRow k1) {kb5 : Int32 → Int32 → Mem → Option (Int32 × Mem)} {ρ : Int32 × Mem} (E : (isB ρ.1 = true → jEI Γ cX8_holdsAll ρ.1 ρ.2)) (Hkb5 : ∀ (x3 : Int32) (x4 : Int32) (μ : Mem), kb5 x3 x4 μ = some ρ → jJ Γ 5 5 [(0, .ref 113), (1, .ref k1), (2, .int a2), (3, .int x3), (4, .int x4)] [] μ) (x4 : Int32) (t0 : Int32) (μ : Mem) (h : f_X8_holdsAll_43 k1 a2 kb5 x4 t0 μ = some ρ) : jJ Γ 5 43 [(0, .ref 113), (1, .ref k1), (2, .int a2), (4, .int x4)] [.int t0] μ := by
  unfold f_X8_holdsAll_43 at h
  refine j_istore_n (lv' := [(3, .int t0), (0, .ref 113), (1, .ref k1), (2, .int a2), (4, .int x4)]) C dX8_holdsAll_43 rfl (by decide) rfl ?_
  refine j_iinc (d := (nI 1)) (v := x4 + (nI 1)) (lv' := [(4, .int (x4 + (nI 1))), (3, .int t0), (0, .ref 113), (1, .ref k1), (2, .int a2)]) C dX8_holdsAll_44 rfl (by decide) 4 rfl (by decide) rfl rfl ?_
  refine j_goto (pc' := 5) C dX8_holdsAll_47 (by decide) ?_
  refine j_lv [2, 3, 4, 1, 0] rfl ?_
  exact (Hkb5) t0 (x4 + (nI 1)) μ h
def f_X8_holdsAll_38 (k1 : Nat) (a2 : Int32) (kb5 : Int32 → Int32 → Mem → Option (Int32 × Mem)) (x4 : Int32) (μ : Mem) : Option (Int32 × Mem) := f_X8_holdsAll_43 k1 a2 kb5 x4 (nI 1) μ
set_option maxHeartbeats 4000000 in
set_option maxRecDepth 100000 in
theorem w_X8_holdsAll_38 {Γ : jG} (C : jC Γ 5 cX8_holdsAll RX8 rmX8_holdsAll) {k1 : Nat} {a2 : Int32} (hk1 : isRow k1) {kb5 : Int32 → Int32 → Mem → Option (Int32 × Mem)} {ρ : Int32 × Mem} (E : (isB ρ.1 = true → jEI Γ cX8_holdsAll ρ.1 ρ.2)) (Hkb5 : ∀ (x3 : Int32) (x4 : Int32) (μ : Mem), kb5 x3 x4 μ = some ρ → jJ Γ 5 5 [(0, .ref 113), (1, .ref k1), (2, .int a2), (3, .int x3), (4, .int x4)] [] μ) (x4 : Int32) (μ : Mem) (h : f_X8_holdsAll_38 k1 a2 kb5 x4 μ = some ρ) : jJ Γ 5 38 [(0, .ref 113), (1, .ref k1), (2, .int a2), (4, .int x4)] [] μ := by
  unfold f_X8_holdsAll_38 at h
  refine j_iconst (v := (nI 1)) C dX8_holdsAll_38 rfl (by decide) ?_
  refine j_goto (pc' := 43) C dX8_holdsAll_39 (by decide) ?_
  refine j_lv [0, 1, 2, 3] rfl ?_
  exact w_X8_holdsAll_43 C hk1 E Hkb5 x4 (nI 1) μ h
def f_X8_holdsAll_5 (k1 : Nat) (a2 : Int32) : Nat → Int32 → Int32 → Mem → Option (Int32 × Mem)
  | 0, _, _, _ => none
  | n + 1, x3, x4, μ => gd (inb (nI 0) 1829) <| (if ((nI 1) <<< ((μ.1 k1 (Int32.toNatClampNeg (nI 0))) &&& 31)) ≤ x4 then gd (isB x3) <| some (x3, μ) else (if x3 = 0 then gd (isB x3) <| some (x3, μ) else Option.bind (f_X8_ones x4 μ) fun p6_ => (if p6_.1 = a2 then Option.bind (f_X8_holdsBy k1 x4 p6_.2) fun p9_ => (if p9_.1 = 0 then f_X8_holdsAll_43 k1 a2 (fun x3 x4 μ => f_X8_holdsAll_5 k1 a2 n x3 x4 μ) x4 (nI 0) p9_.2 else f_X8_holdsAll_38 k1 a2 (fun x3 x4 μ => f_X8_holdsAll_5 k1 a2 n x3 x4 μ) x4 p9_.2) else f_X8_holdsAll_38 k1 a2 (fun x3 x4 μ => f_X8_holdsAll_5 k1 a2 n x3 x4 μ) x4 p6_.2)))
set_option maxHeartbeats 4000000 in
set_option maxRecDepth 100000 in
theorem w_X8_holdsAll_5 {Γ : jG} (C : jC Γ 5 cX8_holdsAll RX8 rmX8_holdsAll) {k1 : Nat} {a2 : Int32} (hk1 : isRow k1) {ρ : Int32 × Mem} (E : (isB ρ.1 = true → jEI Γ cX8_holdsAll ρ.1 ρ.2)) : ∀ (n : Nat) (x3 : Int32) (x4 : Int32) (μ : Mem), f_X8_holdsAll_5 k1 a2 n x3 x4 μ = some ρ → jJ Γ 5 5 [(0, .ref 113), (1, .ref k1), (2, .int a2), (3, .int x3), (4, .int x4)] [] μ := by
  intro n
  induction n with
  | zero => intro x3 x4 μ h; rw [f_X8_holdsAll_5] at h; cases h
  | succ n ih =>
    intro x3 x4 μ h
    rw [f_X8_holdsAll_5] at h
    refine j_iload C dX8_holdsAll_5 rfl 4 rfl ?_
    refine j_iconst (v := (nI 1)) C dX8_holdsAll_7 rfl (by decide) ?_
    refine j_aload_n C dX8_holdsAll_8 rfl 1 rfl ?_
    refine j_iconst (v := (nI 0)) C dX8_holdsAll_9 rfl (by decide) ?_
    replace h := gd_e h
    obtain ⟨g1_, h⟩ := h
    refine j_iald C dX8_holdsAll_10 rfl (isRow_is hk1) g1_ ?_
    refine j_ishl C dX8_holdsAll_11 rfl ?_
    refine j_icmp_ge (tgt := 50) C dX8_holdsAll_12 rfl (by decide) (fun c2_ => ?_) (fun c2_ => ?_)
    · replace h := if_t h c2_
      refine j_iload_n C dX8_holdsAll_50 rfl 3 rfl ?_
      replace h := gd_e h
      obtain ⟨g3_, h⟩ := h
      obtain rfl := Option.some.inj h
      exact j_iret (E g3_) dX8_holdsAll_51
    · replace h := if_f h c2_
      refine j_iload_n C dX8_holdsAll_15 rfl 3 rfl ?_
      refine j_if_eq (tgt := 50) C dX8_holdsAll_16 rfl (by decide) (fun c4_ => ?_) (fun c4_ => ?_)
      · replace h := if_t h c4_
        refine j_iload_n C dX8_holdsAll_50 rfl 3 rfl ?_
        replace h := gd_e h
        obtain ⟨g5_, h⟩ := h
        obtain rfl := Option.some.inj h
        exact j_iret (E g5_) dX8_holdsAll_51
      · replace h := if_f h c4_
        refine j_iload C dX8_holdsAll_19 rfl 4 rfl ?_
        replace h := bd_e h
        obtain ⟨p6_, h7_, h⟩ := h
        refine j_cSI (av := [.int x4]) (rest := []) C dX8_holdsAll_21 rfl (c_X8_ones _ _ _ _ μ p6_ h7_) gsX8_210 ⟨⟨rfl, rfl⟩, Nat.le_of_ble_eq_true rfl, Nat.le_of_ble_eq_true rfl⟩ rfl rfl (Nat.le_of_ble_eq_true rfl) ?_
        refine j_iload_n C dX8_holdsAll_24 rfl 2 rfl ?_
        refine j_icmp_ne (tgt := 38) C dX8_holdsAll_25 rfl (by decide) (fun c8_ => ?_) (fun c8_ => ?_)
        · replace h := if_f h c8_
          refine j_lv [0, 1, 2, 4] rfl ?_
          exact w_X8_holdsAll_38 C hk1 E ih x4 p6_.2 h
        · replace h := if_t h c8_
          refine j_aload_n C dX8_holdsAll_28 rfl 0 rfl ?_
          refine j_aload_n C dX8_holdsAll_29 rfl 1 rfl ?_
          refine j_iload C dX8_holdsAll_30 rfl 4 rfl ?_
          replace h := bd_e h
          obtain ⟨p9_, h10_, h⟩ := h
          refine j_cVI (av := [.ref k1, .int x4]) (rest := []) C dX8_holdsAll_32 rfl (c_X8_holdsBy _ _ _ _ hk1 p6_.2 p9_ h10_) gvX8_207 ⟨⟨rfl, rfl⟩, Nat.le_of_ble_eq_true rfl, Nat.le_of_ble_eq_true rfl⟩ rfl is_113 rfl rfl (Nat.le_of_ble_eq_true rfl) ?_
          refine j_if_eq (tgt := 42) C dX8_holdsAll_35 rfl (by decide) (fun c11_ => ?_) (fun c11_ => ?_)
          · replace h := if_t h c11_
            refine j_iconst (v := (nI 0)) C dX8_holdsAll_42 rfl (by decide) ?_
            refine j_lv [0, 1, 2, 4] rfl ?_
            exact w_X8_holdsAll_43 C hk1 E ih x4 (nI 0) p9_.2 h
          · replace h := if_f h c11_
            refine j_lv [0, 1, 2, 4] rfl ?_
            exact w_X8_holdsAll_38 C hk1 E ih x4 p9_.2 h
def f_X8_holdsAll (k1 : Nat) (a2 : Int32) (μ : Mem) : Option (Int32 × Mem) := f_X8_holdsAll_5 k1 a2 zfu (nI 1) (nI 0) μ
set_option maxHeartbeats 4000000 in
set_option maxRecDepth 100000 in
theorem w_X8_holdsAll {Γ : jG} (C : jC Γ 5 cX8_holdsAll RX8 rmX8_holdsAll) {k1 : Nat} {a2 : Int32} (hk1 : isRow k1) {ρ : Int32 × Mem} (E : (isB ρ.1 = true → jEI Γ cX8_holdsAll ρ.1 ρ.2)) (μ : Mem) (h : f_X8_holdsAll k1 a2 μ = some ρ) : jJ Γ 5 0 [(0, .ref 113), (1, .ref k1), (2, .int a2)] [] μ := by
  unfold f_X8_holdsAll at h
  refine j_iconst (v := (nI 1)) C dX8_holdsAll_0 rfl (by decide) ?_
  refine j_istore_n (lv' := [(3, .int (nI 1)), (0, .ref 113), (1, .ref k1), (2, .int a2)]) C dX8_holdsAll_1 rfl (by decide) rfl ?_
  refine j_iconst (v := (nI 0)) C dX8_holdsAll_2 rfl (by decide) ?_
  refine j_istore (lv' := [(4, .int (nI 0)), (3, .int (nI 1)), (0, .ref 113), (1, .ref k1), (2, .int a2)]) C dX8_holdsAll_3 rfl (by decide) rfl ?_
  refine j_lv [2, 3, 4, 1, 0] rfl ?_
  exact w_X8_holdsAll_5 C hk1 E zfu (nI 1) (nI 0) μ h
set_option maxRecDepth 100000 in
theorem c_X8_holdsAll (l : Launch) (D : va_G) (ad : Nat → Nat) (cl : Nat → ClassId) {k1 : Nat} {a2 : Int32} (hk1 : isRow k1) (μ : Mem) (ρ : Int32 × Mem) (h : f_X8_holdsAll k1 a2 μ = some ρ) : CI l D ad cl yX8_holdsAll wsX8_holdsAll rmX8_holdsAll [.ref 113, .ref k1, .int a2] μ ρ.1 ρ.2 := c_ofZ (cc := cX8_holdsAll) (nL := 5) rfl (by decide) (Nat.le_of_ble_eq_true rfl) (fun Γ C E => w_X8_holdsAll C hk1 E μ h)
theorem gvX8_213 : jm_gv RX8 213 RX8 yX8_holdsAll wsX8_holdsAll 5 2 := ⟨_, _, gi_V gwt6_5 gwt6_7 gwp4_3 gwt1_9 gwt6_8, rfl, by decide +kernel⟩
/-! X8_bears -/
def wsX8_bears : List Cond := .code yX8_bears cX8_bears 2 (some .int) :: G0
def rmX8_bears : Room := { frames := 6, cells := 0, slots := 0, locals := 151 }
def f_X8_bears_30 (x1 : Int32) (μ : Mem) : Option (Int32 × Mem) := (if x1 = 0 then some ((-4), μ) else some (x1 - (nI 1), μ))
set_option maxHeartbeats 4000000 in
set_option maxRecDepth 100000 in
theorem w_X8_bears_30 {Γ : jG} (C : jC Γ 2 cX8_bears RX8 rmX8_bears) {ρ : Int32 × Mem} (E : jEI Γ cX8_bears ρ.1 ρ.2) (x1 : Int32) (μ : Mem) (h : f_X8_bears_30 x1 μ = some ρ) : jJ Γ 2 30 [(1, .int x1)] [] μ := by
  unfold f_X8_bears_30 at h
  refine j_iload_n C dX8_bears_30 rfl 0 rfl ?_
  refine j_if_ne (tgt := 39) C dX8_bears_31 rfl (by decide) (fun c1_ => ?_) (fun c1_ => ?_)
  · replace h := if_f h c1_
    refine j_iload_n C dX8_bears_39 rfl 0 rfl ?_
    refine j_iconst (v := (nI 1)) C dX8_bears_40 rfl (by decide) ?_
    refine j_isub C dX8_bears_41 rfl ?_
    obtain rfl := Option.some.inj h
    exact j_iret E dX8_bears_42
  · replace h := if_t h c1_
    refine j_bipush (v := (-4)) C dX8_bears_34 rfl (by decide) ?_
    refine j_goto (pc' := 42) C dX8_bears_36 (by decide) ?_
    obtain rfl := Option.some.inj h
    exact j_iret E dX8_bears_42
def f_X8_bears_7 (kx30 : Int32 → Mem → Option (Int32 × Mem)) : Nat → Int32 → Mem → Option (Int32 × Mem)
  | 0, _, _ => none
  | n + 1, x1, μ => (if (nI 3) ≤ x1 then kx30 x1 μ else Option.bind (f_X8_holdsAll 114 x1 μ) fun p2_ => (if p2_.1 = 0 then kx30 x1 p2_.2 else f_X8_bears_7 kx30 n (x1 + (nI 1)) p2_.2))
set_option maxHeartbeats 4000000 in
set_option maxRecDepth 100000 in
theorem w_X8_bears_7 {Γ : jG} (C : jC Γ 2 cX8_bears RX8 rmX8_bears) {kx30 : Int32 → Mem → Option (Int32 × Mem)} {ρ : Int32 × Mem} (E : jEI Γ cX8_bears ρ.1 ρ.2) (Hkx30 : ∀ (x1 : Int32) (μ : Mem), kx30 x1 μ = some ρ → jJ Γ 2 30 [(1, .int x1)] [] μ) : ∀ (n : Nat) (x1 : Int32) (μ : Mem), f_X8_bears_7 kx30 n x1 μ = some ρ → jJ Γ 2 7 [(0, .ref 113), (1, .int x1)] [] μ := by
  intro n
  induction n with
  | zero => intro x1 μ h; rw [f_X8_bears_7] at h; cases h
  | succ n ih =>
    intro x1 μ h
    rw [f_X8_bears_7] at h
    refine j_iload_n C dX8_bears_7 rfl 1 rfl ?_
    refine j_iconst (v := (nI 3)) C dX8_bears_8 rfl (by decide) ?_
    refine j_icmp_ge (tgt := 30) C dX8_bears_9 rfl (by decide) (fun c1_ => ?_) (fun c1_ => ?_)
    · replace h := if_t h c1_
      refine j_lv [1] rfl ?_
      exact (Hkx30) x1 μ h
    · replace h := if_f h c1_
      refine j_aload_n C dX8_bears_12 rfl 0 rfl ?_
      refine j_aload_n C dX8_bears_13 rfl 0 rfl ?_
      refine j_getR (c := 114) C dX8_bears_14 rfl lkX8_7 is_113 rfl ?_
      refine j_iload_n C dX8_bears_17 rfl 1 rfl ?_
      replace h := bd_e h
      obtain ⟨p2_, h3_, h⟩ := h
      refine j_cVI (av := [.ref 114, .int x1]) (rest := []) C dX8_bears_18 rfl (c_X8_holdsAll _ _ _ _ isRow114 μ p2_ h3_) gvX8_213 ⟨⟨rfl, rfl⟩, Nat.le_of_ble_eq_true rfl, Nat.le_of_ble_eq_true rfl⟩ rfl is_113 rfl rfl (Nat.le_of_ble_eq_true rfl) ?_
      refine j_if_eq (tgt := 30) C dX8_bears_21 rfl (by decide) (fun c4_ => ?_) (fun c4_ => ?_)
      · replace h := if_t h c4_
        refine j_lv [1] rfl ?_
        exact (Hkx30) x1 p2_.2 h
      · replace h := if_f h c4_
        refine j_iinc (d := (nI 1)) (v := x1 + (nI 1)) (lv' := [(1, .int (x1 + (nI 1))), (0, .ref 113)]) C dX8_bears_24 rfl (by decide) 1 rfl (by decide) rfl rfl ?_
        refine j_goto (pc' := 7) C dX8_bears_27 (by decide) ?_
        refine j_lv [1, 0] rfl ?_
        exact (ih) (x1 + (nI 1)) p2_.2 h
def f_X8_bears (μ : Mem) : Option (Int32 × Mem) := zl (sI μ 113 0 (nI 0)) fun μ1_ => f_X8_bears_7 (fun x1 μ => f_X8_bears_30 x1 μ) zfu (nI 0) μ1_
set_option maxHeartbeats 4000000 in
set_option maxRecDepth 100000 in
theorem w_X8_bears {Γ : jG} (C : jC Γ 2 cX8_bears RX8 rmX8_bears) {ρ : Int32 × Mem} (E : jEI Γ cX8_bears ρ.1 ρ.2) (μ : Mem) (h : f_X8_bears μ = some ρ) : jJ Γ 2 0 [(0, .ref 113)] [] μ := by
  unfold f_X8_bears at h
  refine j_aload_n C dX8_bears_0 rfl 0 rfl ?_
  refine j_iconst (v := (nI 0)) C dX8_bears_1 rfl (by decide) ?_
  refine j_putI C dX8_bears_2 rfl lpX8_48 is_113 rfl ?_
  refine j_mem (fun μ1_ e2_ => ?_)
  replace h := zl_u h e2_
  refine j_iconst (v := (nI 0)) C dX8_bears_5 rfl (by decide) ?_
  refine j_istore_n (lv' := [(1, .int (nI 0)), (0, .ref 113)]) C dX8_bears_6 rfl (by decide) rfl ?_
  refine j_lv [1, 0] rfl ?_
  exact w_X8_bears_7 C E (fun x1 μ h => w_X8_bears_30 C E x1 μ h) zfu (nI 0) μ1_ h
set_option maxRecDepth 100000 in
theorem c_X8_bears (l : Launch) (D : va_G) (ad : Nat → Nat) (cl : Nat → ClassId) (μ : Mem) (ρ : Int32 × Mem) (h : f_X8_bears μ = some ρ) : CI l D ad cl yX8_bears wsX8_bears rmX8_bears [.ref 113] μ ρ.1 ρ.2 := c_ofI (cc := cX8_bears) (nL := 2) rfl (by decide) (Nat.le_of_ble_eq_true rfl) (fun Γ C E => w_X8_bears C E μ h)
/-! X8_worst -/
def wsX8_worst : List Cond := .code yX8_worst cX8_worst 7 (some .int) :: G0
def rmX8_worst : Room := { frames := 5, cells := 0, slots := 0, locals := 127 }
def f_X8_worst_151 (a1 : Int32) (x2 : Int32) (μ : Mem) : Option (Int32 × Mem) := some (x2, μ)
set_option maxHeartbeats 4000000 in
set_option maxRecDepth 100000 in
theorem w_X8_worst_151 {Γ : jG} (C : jC Γ 7 cX8_worst RX8 rmX8_worst) {a1 : Int32} {ρ : Int32 × Mem} (E : jEI Γ cX8_worst ρ.1 ρ.2) (x2 : Int32) (μ : Mem) (h : f_X8_worst_151 a1 x2 μ = some ρ) : jJ Γ 7 151 [(2, .int x2)] [] μ := by
  unfold f_X8_worst_151 at h
  refine j_iload_n C dX8_worst_151 rfl 0 rfl ?_
  refine j_goto (pc' := 156) C dX8_worst_152 (by decide) ?_
  obtain rfl := Option.some.inj h
  exact j_iret E dX8_worst_156
def f_X8_worst_141 (a1 : Int32) (x2 : Int32) (x3 : Int32) (μ : Mem) : Option (Int32 × Mem) := (if a1 = 0 then f_X8_worst_151 a1 x2 μ else (if x2 = (-4) then f_X8_worst_151 a1 x2 μ else some (x3, μ)))
set_option maxHeartbeats 4000000 in
set_option maxRecDepth 100000 in
theorem w_X8_worst_141 {Γ : jG} (C : jC Γ 7 cX8_worst RX8 rmX8_worst) {a1 : Int32} {ρ : Int32 × Mem} (E : jEI Γ cX8_worst ρ.1 ρ.2) (x2 : Int32) (x3 : Int32) (μ : Mem) (h : f_X8_worst_141 a1 x2 x3 μ = some ρ) : jJ Γ 7 141 [(1, .int a1), (2, .int x2), (3, .int x3)] [] μ := by
  unfold f_X8_worst_141 at h
  refine j_iload_n C dX8_worst_141 rfl 0 rfl ?_
  refine j_if_eq (tgt := 151) C dX8_worst_142 rfl (by decide) (fun c1_ => ?_) (fun c1_ => ?_)
  · replace h := if_t h c1_
    refine j_lv [1] rfl ?_
    exact w_X8_worst_151 C E x2 μ h
  · replace h := if_f h c1_
    refine j_iload_n C dX8_worst_145 rfl 1 rfl ?_
    refine j_bipush (v := (-4)) C dX8_worst_146 rfl (by decide) ?_
    refine j_icmp_ne (tgt := 155) C dX8_worst_148 rfl (by decide) (fun c2_ => ?_) (fun c2_ => ?_)
    · replace h := if_f h c2_
      refine j_iload_n C dX8_worst_155 rfl 2 rfl ?_
      obtain rfl := Option.some.inj h
      exact j_iret E dX8_worst_156
    · replace h := if_t h c2_
      refine j_lv [1] rfl ?_
      exact w_X8_worst_151 C E x2 μ h
def f_X8_worst_135 (a1 : Int32) (kb25 : Int32 → Int32 → Int32 → Mem → Option (Int32 × Mem)) (kx141 : Int32 → Int32 → Mem → Option (Int32 × Mem)) (x2 : Int32) (x3 : Int32) (x4 : Int32) (μ : Mem) : Option (Int32 × Mem) := kb25 x2 x3 (x4 + (nI 1)) μ
set_option maxHeartbeats 4000000 in
set_option maxRecDepth 100000 in
theorem w_X8_worst_135 {Γ : jG} (C : jC Γ 7 cX8_worst RX8 rmX8_worst) {a1 : Int32} {kb25 : Int32 → Int32 → Int32 → Mem → Option (Int32 × Mem)} {kx141 : Int32 → Int32 → Mem → Option (Int32 × Mem)} {ρ : Int32 × Mem} (E : jEI Γ cX8_worst ρ.1 ρ.2) (Hkb25 : ∀ (x2 : Int32) (x3 : Int32) (x4 : Int32) (μ : Mem), kb25 x2 x3 x4 μ = some ρ → jJ Γ 7 25 [(0, .ref 113), (1, .int a1), (2, .int x2), (3, .int x3), (4, .int x4)] [] μ) (Hkx141 : ∀ (x2 : Int32) (x3 : Int32) (μ : Mem), kx141 x2 x3 μ = some ρ → jJ Γ 7 141 [(1, .int a1), (2, .int x2), (3, .int x3)] [] μ) (x2 : Int32) (x3 : Int32) (x4 : Int32) (μ : Mem) (h : f_X8_worst_135 a1 kb25 kx141 x2 x3 x4 μ = some ρ) : jJ Γ 7 135 [(0, .ref 113), (1, .int a1), (2, .int x2), (3, .int x3), (4, .int x4)] [] μ := by
  unfold f_X8_worst_135 at h
  refine j_iinc (d := (nI 1)) (v := x4 + (nI 1)) (lv' := [(4, .int (x4 + (nI 1))), (0, .ref 113), (1, .int a1), (2, .int x2), (3, .int x3)]) C dX8_worst_135 rfl (by decide) 4 rfl (by decide) rfl rfl ?_
  refine j_goto (pc' := 25) C dX8_worst_138 (by decide) ?_
  refine j_lv [1, 2, 3, 4, 0] rfl ?_
  exact (Hkb25) x2 x3 (x4 + (nI 1)) μ h
def f_X8_worst_129 (a1 : Int32) (kb39 : Int32 → Int32 → Int32 → Int32 → Mem → Option (Int32 × Mem)) (kx135 : Int32 → Int32 → Int32 → Mem → Option (Int32 × Mem)) (x2 : Int32) (x3 : Int32) (x4 : Int32) (x5 : Int32) (μ : Mem) : Option (Int32 × Mem) := kb39 x2 x3 x4 (x5 + (nI 1)) μ
set_option maxHeartbeats 4000000 in
set_option maxRecDepth 100000 in
theorem w_X8_worst_129 {Γ : jG} (C : jC Γ 7 cX8_worst RX8 rmX8_worst) {a1 : Int32} {kb39 : Int32 → Int32 → Int32 → Int32 → Mem → Option (Int32 × Mem)} {kx135 : Int32 → Int32 → Int32 → Mem → Option (Int32 × Mem)} {ρ : Int32 × Mem} (E : jEI Γ cX8_worst ρ.1 ρ.2) (Hkb39 : ∀ (x2 : Int32) (x3 : Int32) (x4 : Int32) (x5 : Int32) (μ : Mem), kb39 x2 x3 x4 x5 μ = some ρ → jJ Γ 7 39 [(0, .ref 113), (1, .int a1), (2, .int x2), (3, .int x3), (4, .int x4), (5, .int x5)] [] μ) (Hkx135 : ∀ (x2 : Int32) (x3 : Int32) (x4 : Int32) (μ : Mem), kx135 x2 x3 x4 μ = some ρ → jJ Γ 7 135 [(0, .ref 113), (1, .int a1), (2, .int x2), (3, .int x3), (4, .int x4)] [] μ) (x2 : Int32) (x3 : Int32) (x4 : Int32) (x5 : Int32) (μ : Mem) (h : f_X8_worst_129 a1 kb39 kx135 x2 x3 x4 x5 μ = some ρ) : jJ Γ 7 129 [(0, .ref 113), (1, .int a1), (2, .int x2), (3, .int x3), (4, .int x4), (5, .int x5)] [] μ := by
  unfold f_X8_worst_129 at h
  refine j_iinc (d := (nI 1)) (v := x5 + (nI 1)) (lv' := [(5, .int (x5 + (nI 1))), (0, .ref 113), (1, .int a1), (2, .int x2), (3, .int x3), (4, .int x4)]) C dX8_worst_129 rfl (by decide) 5 rfl (by decide) rfl rfl ?_
  refine j_goto (pc' := 39) C dX8_worst_132 (by decide) ?_
  refine j_lv [1, 2, 3, 4, 5, 0] rfl ?_
  exact (Hkb39) x2 x3 x4 (x5 + (nI 1)) μ h
def f_X8_worst_128 (a1 : Int32) (kb39 : Int32 → Int32 → Int32 → Int32 → Mem → Option (Int32 × Mem)) (kx135 : Int32 → Int32 → Int32 → Mem → Option (Int32 × Mem)) (x2 : Int32) (x4 : Int32) (x5 : Int32) (t0 : Int32) (μ : Mem) : Option (Int32 × Mem) := f_X8_worst_129 a1 kb39 kx135 x2 t0 x4 x5 μ
set_option maxHeartbeats 4000000 in
set_option maxRecDepth 100000 in
theorem w_X8_worst_128 {Γ : jG} (C : jC Γ 7 cX8_worst RX8 rmX8_worst) {a1 : Int32} {kb39 : Int32 → Int32 → Int32 → Int32 → Mem → Option (Int32 × Mem)} {kx135 : Int32 → Int32 → Int32 → Mem → Option (Int32 × Mem)} {ρ : Int32 × Mem} (E : jEI Γ cX8_worst ρ.1 ρ.2) (Hkb39 : ∀ (x2 : Int32) (x3 : Int32) (x4 : Int32) (x5 : Int32) (μ : Mem), kb39 x2 x3 x4 x5 μ = some ρ → jJ Γ 7 39 [(0, .ref 113), (1, .int a1), (2, .int x2), (3, .int x3), (4, .int x4), (5, .int x5)] [] μ) (Hkx135 : ∀ (x2 : Int32) (x3 : Int32) (x4 : Int32) (μ : Mem), kx135 x2 x3 x4 μ = some ρ → jJ Γ 7 135 [(0, .ref 113), (1, .int a1), (2, .int x2), (3, .int x3), (4, .int x4)] [] μ) (x2 : Int32) (x4 : Int32) (x5 : Int32) (t0 : Int32) (μ : Mem) (h : f_X8_worst_128 a1 kb39 kx135 x2 x4 x5 t0 μ = some ρ) : jJ Γ 7 128 [(0, .ref 113), (1, .int a1), (2, .int x2), (4, .int x4), (5, .int x5)] [.int t0] μ := by
  unfold f_X8_worst_128 at h
  refine j_istore_n (lv' := [(3, .int t0), (0, .ref 113), (1, .int a1), (2, .int x2), (4, .int x4), (5, .int x5)]) C dX8_worst_128 rfl (by decide) rfl ?_
  refine j_lv [1, 2, 3, 0, 4, 5] rfl ?_
  exact w_X8_worst_129 C E Hkb39 Hkx135 x2 t0 x4 x5 μ h
def f_X8_worst_115 (a1 : Int32) (kb39 : Int32 → Int32 → Int32 → Int32 → Mem → Option (Int32 × Mem)) (kx135 : Int32 → Int32 → Int32 → Mem → Option (Int32 × Mem)) (x3 : Int32) (x4 : Int32) (x5 : Int32) (x6 : Int32) (t0 : Int32) (μ : Mem) : Option (Int32 × Mem) := (if x6 ≤ x3 then f_X8_worst_128 a1 kb39 kx135 t0 x4 x5 x3 μ else f_X8_worst_128 a1 kb39 kx135 t0 x4 x5 x6 μ)
set_option maxHeartbeats 4000000 in
set_option maxRecDepth 100000 in
theorem w_X8_worst_115 {Γ : jG} (C : jC Γ 7 cX8_worst RX8 rmX8_worst) {a1 : Int32} {kb39 : Int32 → Int32 → Int32 → Int32 → Mem → Option (Int32 × Mem)} {kx135 : Int32 → Int32 → Int32 → Mem → Option (Int32 × Mem)} {ρ : Int32 × Mem} (E : jEI Γ cX8_worst ρ.1 ρ.2) (Hkb39 : ∀ (x2 : Int32) (x3 : Int32) (x4 : Int32) (x5 : Int32) (μ : Mem), kb39 x2 x3 x4 x5 μ = some ρ → jJ Γ 7 39 [(0, .ref 113), (1, .int a1), (2, .int x2), (3, .int x3), (4, .int x4), (5, .int x5)] [] μ) (Hkx135 : ∀ (x2 : Int32) (x3 : Int32) (x4 : Int32) (μ : Mem), kx135 x2 x3 x4 μ = some ρ → jJ Γ 7 135 [(0, .ref 113), (1, .int a1), (2, .int x2), (3, .int x3), (4, .int x4)] [] μ) (x3 : Int32) (x4 : Int32) (x5 : Int32) (x6 : Int32) (t0 : Int32) (μ : Mem) (h : f_X8_worst_115 a1 kb39 kx135 x3 x4 x5 x6 t0 μ = some ρ) : jJ Γ 7 115 [(0, .ref 113), (1, .int a1), (3, .int x3), (4, .int x4), (5, .int x5), (6, .int x6)] [.int t0] μ := by
  unfold f_X8_worst_115 at h
  refine j_istore_n (lv' := [(2, .int t0), (0, .ref 113), (1, .int a1), (3, .int x3), (4, .int x4), (5, .int x5), (6, .int x6)]) C dX8_worst_115 rfl (by decide) rfl ?_
  refine j_iload C dX8_worst_116 rfl 6 rfl ?_
  refine j_iload_n C dX8_worst_118 rfl 3 rfl ?_
  refine j_icmp_le (tgt := 127) C dX8_worst_119 rfl (by decide) (fun c1_ => ?_) (fun c1_ => ?_)
  · replace h := if_t h c1_
    refine j_iload_n C dX8_worst_127 rfl 3 rfl ?_
    refine j_lv [1, 2, 0, 4, 5] rfl ?_
    exact w_X8_worst_128 C E Hkb39 Hkx135 t0 x4 x5 x3 μ h
  · replace h := if_f h c1_
    refine j_iload C dX8_worst_122 rfl 6 rfl ?_
    refine j_goto (pc' := 128) C dX8_worst_124 (by decide) ?_
    refine j_lv [1, 2, 0, 4, 5] rfl ?_
    exact w_X8_worst_128 C E Hkb39 Hkx135 t0 x4 x5 x6 μ h
def f_X8_worst_39 (a1 : Int32) (kx135 : Int32 → Int32 → Int32 → Mem → Option (Int32 × Mem)) : Nat → Int32 → Int32 → Int32 → Int32 → Mem → Option (Int32 × Mem)
  | 0, _, _, _, _, _ => none
  | n + 1, x2, x3, x4, x5, μ => gd (inb (nI 0) 1829) <| (if (μ.1 114 (Int32.toNatClampNeg (nI 0))) ≤ x5 then kx135 x2 x3 x4 μ else (if x4 = x5 then f_X8_worst_129 a1 (fun x2 x3 x4 x5 μ => f_X8_worst_39 a1 kx135 n x2 x3 x4 x5 μ) kx135 x2 x3 x4 x5 μ else Option.bind (f_X8_copies 114 115 μ) fun p4_ => gd (inb (((nI 60) + ((nI 9) * x4)) + x5) 1829) <| zl (sI p4_ 115 (Int32.toNatClampNeg (((nI 60) + ((nI 9) * x4)) + x5)) (nI 9)) fun μ7_ => Option.bind (f_X8_doneBy 115 (-1) μ7_) fun p9_ => (if p9_.1 ≤ x3 then f_X8_worst_115 a1 (fun x2 x3 x4 x5 μ => f_X8_worst_39 a1 kx135 n x2 x3 x4 x5 μ) kx135 x3 x4 x5 p9_.1 x2 p9_.2 else f_X8_worst_115 a1 (fun x2 x3 x4 x5 μ => f_X8_worst_39 a1 kx135 n x2 x3 x4 x5 μ) kx135 x3 x4 x5 p9_.1 (((nI 10) * x4) + x5) p9_.2)))
set_option maxHeartbeats 4000000 in
set_option maxRecDepth 100000 in
theorem w_X8_worst_39 {Γ : jG} (C : jC Γ 7 cX8_worst RX8 rmX8_worst) {a1 : Int32} {kx135 : Int32 → Int32 → Int32 → Mem → Option (Int32 × Mem)} {ρ : Int32 × Mem} (E : jEI Γ cX8_worst ρ.1 ρ.2) (Hkx135 : ∀ (x2 : Int32) (x3 : Int32) (x4 : Int32) (μ : Mem), kx135 x2 x3 x4 μ = some ρ → jJ Γ 7 135 [(0, .ref 113), (1, .int a1), (2, .int x2), (3, .int x3), (4, .int x4)] [] μ) : ∀ (n : Nat) (x2 : Int32) (x3 : Int32) (x4 : Int32) (x5 : Int32) (μ : Mem), f_X8_worst_39 a1 kx135 n x2 x3 x4 x5 μ = some ρ → jJ Γ 7 39 [(0, .ref 113), (1, .int a1), (2, .int x2), (3, .int x3), (4, .int x4), (5, .int x5)] [] μ := by
  intro n
  induction n with
  | zero => intro x2 x3 x4 x5 μ h; rw [f_X8_worst_39] at h; cases h
  | succ n ih =>
    intro x2 x3 x4 x5 μ h
    rw [f_X8_worst_39] at h
    refine j_iload C dX8_worst_39 rfl 5 rfl ?_
    refine j_aload_n C dX8_worst_41 rfl 0 rfl ?_
    refine j_getR (c := 114) C dX8_worst_42 rfl lkX8_7 is_113 rfl ?_
    refine j_iconst (v := (nI 0)) C dX8_worst_45 rfl (by decide) ?_
    replace h := gd_e h
    obtain ⟨g1_, h⟩ := h
    refine j_iald C dX8_worst_46 rfl is_114 g1_ ?_
    refine j_icmp_ge (tgt := 135) C dX8_worst_47 rfl (by decide) (fun c2_ => ?_) (fun c2_ => ?_)
    · replace h := if_t h c2_
      refine j_lv [0, 1, 2, 3, 4] rfl ?_
      exact (Hkx135) x2 x3 x4 μ h
    · replace h := if_f h c2_
      refine j_iload C dX8_worst_50 rfl 4 rfl ?_
      refine j_iload C dX8_worst_52 rfl 5 rfl ?_
      refine j_icmp_eq (tgt := 129) C dX8_worst_54 rfl (by decide) (fun c3_ => ?_) (fun c3_ => ?_)
      · replace h := if_t h c3_
        refine j_lv [0, 1, 2, 3, 4, 5] rfl ?_
        exact w_X8_worst_129 C E ih Hkx135 x2 x3 x4 x5 μ h
      · replace h := if_f h c3_
        refine j_aload_n C dX8_worst_57 rfl 0 rfl ?_
        refine j_getR (c := 114) C dX8_worst_58 rfl lkX8_7 is_113 rfl ?_
        refine j_aload_n C dX8_worst_61 rfl 0 rfl ?_
        refine j_getR (c := 115) C dX8_worst_62 rfl lkX8_13 is_113 rfl ?_
        replace h := bd_e h
        obtain ⟨p4_, h5_, h⟩ := h
        refine j_cSV (av := [.ref 114, .ref 115]) (rest := []) C dX8_worst_65 rfl (c_X8_copies _ _ _ _ isRow114 isRow115 μ p4_ h5_) gsX8_196 ⟨⟨rfl, rfl⟩, Nat.le_of_ble_eq_true rfl, Nat.le_of_ble_eq_true rfl⟩ rfl rfl (Nat.le_of_ble_eq_true rfl) ?_
        refine j_aload_n C dX8_worst_68 rfl 0 rfl ?_
        refine j_getR (c := 115) C dX8_worst_69 rfl lkX8_13 is_113 rfl ?_
        refine j_bipush (v := (nI 60)) C dX8_worst_72 rfl (by decide) ?_
        refine j_bipush (v := (nI 9)) C dX8_worst_74 rfl (by decide) ?_
        refine j_iload C dX8_worst_76 rfl 4 rfl ?_
        refine j_imul C dX8_worst_78 rfl ?_
        refine j_iadd C dX8_worst_79 rfl ?_
        refine j_iload C dX8_worst_80 rfl 5 rfl ?_
        refine j_iadd C dX8_worst_82 rfl ?_
        refine j_bipush (v := (nI 9)) C dX8_worst_83 rfl (by decide) ?_
        replace h := gd_e h
        obtain ⟨g6_, h⟩ := h
        refine j_iast C dX8_worst_85 rfl is_115 g6_ ?_
        refine j_mem (fun μ7_ e8_ => ?_)
        replace h := zl_u h e8_
        refine j_aload_n C dX8_worst_86 rfl 0 rfl ?_
        refine j_aload_n C dX8_worst_87 rfl 0 rfl ?_
        refine j_getR (c := 115) C dX8_worst_88 rfl lkX8_13 is_113 rfl ?_
        refine j_iconst (v := (-1)) C dX8_worst_91 rfl (by decide) ?_
        replace h := bd_e h
        obtain ⟨p9_, h10_, h⟩ := h
        refine j_cVI (av := [.ref 115, .int (-1)]) (rest := []) C dX8_worst_92 rfl (c_X8_doneBy _ _ _ _ isRow115 μ7_ p9_ h10_) gvX8_203 ⟨⟨rfl, rfl⟩, Nat.le_of_ble_eq_true rfl, Nat.le_of_ble_eq_true rfl⟩ rfl is_113 rfl rfl (Nat.le_of_ble_eq_true rfl) ?_
        refine j_istore (lv' := [(6, .int p9_.1), (0, .ref 113), (1, .int a1), (2, .int x2), (3, .int x3), (4, .int x4), (5, .int x5)]) C dX8_worst_95 rfl (by decide) rfl ?_
        refine j_iload C dX8_worst_97 rfl 0 rfl ?_
        refine j_iload_n C dX8_worst_99 rfl 4 rfl ?_
        refine j_icmp_le (tgt := 114) C dX8_worst_100 rfl (by decide) (fun c11_ => ?_) (fun c11_ => ?_)
        · replace h := if_t h c11_
          refine j_iload_n C dX8_worst_114 rfl 3 rfl ?_
          refine j_lv [1, 2, 4, 5, 6, 0] rfl ?_
          exact w_X8_worst_115 C E ih Hkx135 x3 x4 x5 p9_.1 x2 p9_.2 h
        · replace h := if_f h c11_
          refine j_bipush (v := (nI 10)) C dX8_worst_103 rfl (by decide) ?_
          refine j_iload C dX8_worst_105 rfl 5 rfl ?_
          refine j_imul C dX8_worst_107 rfl ?_
          refine j_iload C dX8_worst_108 rfl 6 rfl ?_
          refine j_iadd C dX8_worst_110 rfl ?_
          refine j_goto (pc' := 115) C dX8_worst_111 (by decide) ?_
          refine j_lv [1, 2, 4, 5, 6, 0] rfl ?_
          exact w_X8_worst_115 C E ih Hkx135 x3 x4 x5 p9_.1 (((nI 10) * x4) + x5) p9_.2 h
def f_X8_worst_25 (a1 : Int32) (kx141 : Int32 → Int32 → Mem → Option (Int32 × Mem)) : Nat → Int32 → Int32 → Int32 → Mem → Option (Int32 × Mem)
  | 0, _, _, _, _ => none
  | n + 1, x2, x3, x4, μ => gd (inb (nI 0) 1829) <| (if (μ.1 114 (Int32.toNatClampNeg (nI 0))) ≤ x4 then kx141 x2 x3 μ else f_X8_worst_39 a1 (fun x2 x3 x4 μ => f_X8_worst_135 a1 (fun x2 x3 x4 μ => f_X8_worst_25 a1 kx141 n x2 x3 x4 μ) kx141 x2 x3 x4 μ) zfu x2 x3 x4 (nI 0) μ)
set_option maxHeartbeats 4000000 in
set_option maxRecDepth 100000 in
theorem w_X8_worst_25 {Γ : jG} (C : jC Γ 7 cX8_worst RX8 rmX8_worst) {a1 : Int32} {kx141 : Int32 → Int32 → Mem → Option (Int32 × Mem)} {ρ : Int32 × Mem} (E : jEI Γ cX8_worst ρ.1 ρ.2) (Hkx141 : ∀ (x2 : Int32) (x3 : Int32) (μ : Mem), kx141 x2 x3 μ = some ρ → jJ Γ 7 141 [(1, .int a1), (2, .int x2), (3, .int x3)] [] μ) : ∀ (n : Nat) (x2 : Int32) (x3 : Int32) (x4 : Int32) (μ : Mem), f_X8_worst_25 a1 kx141 n x2 x3 x4 μ = some ρ → jJ Γ 7 25 [(0, .ref 113), (1, .int a1), (2, .int x2), (3, .int x3), (4, .int x4)] [] μ := by
  intro n
  induction n with
  | zero => intro x2 x3 x4 μ h; rw [f_X8_worst_25] at h; cases h
  | succ n ih =>
    intro x2 x3 x4 μ h
    rw [f_X8_worst_25] at h
    refine j_iload C dX8_worst_25 rfl 4 rfl ?_
    refine j_aload_n C dX8_worst_27 rfl 0 rfl ?_
    refine j_getR (c := 114) C dX8_worst_28 rfl lkX8_7 is_113 rfl ?_
    refine j_iconst (v := (nI 0)) C dX8_worst_31 rfl (by decide) ?_
    replace h := gd_e h
    obtain ⟨g1_, h⟩ := h
    refine j_iald C dX8_worst_32 rfl is_114 g1_ ?_
    refine j_icmp_ge (tgt := 141) C dX8_worst_33 rfl (by decide) (fun c2_ => ?_) (fun c2_ => ?_)
    · replace h := if_t h c2_
      refine j_lv [1, 2, 3] rfl ?_
      exact (Hkx141) x2 x3 μ h
    · replace h := if_f h c2_
      refine j_iconst (v := (nI 0)) C dX8_worst_36 rfl (by decide) ?_
      refine j_istore (lv' := [(5, .int (nI 0)), (0, .ref 113), (1, .int a1), (2, .int x2), (3, .int x3), (4, .int x4)]) C dX8_worst_37 rfl (by decide) rfl ?_
      refine j_lv [1, 2, 3, 4, 5, 0] rfl ?_
      exact w_X8_worst_39 C E (fun x2 x3 x4 μ h => w_X8_worst_135 C E ih Hkx141 x2 x3 x4 μ h) zfu x2 x3 x4 (nI 0) μ h
def f_X8_worst (a1 : Int32) (μ : Mem) : Option (Int32 × Mem) := zl (sI μ 113 0 (nI 0)) fun μ1_ => Option.bind (f_X8_in (Int32.toInt64 a1) 0 1 μ1_) fun p3_ => (if p3_.1 = 0 then some ((-1), p3_.2) else f_X8_worst_25 a1 (fun x2 x3 μ => f_X8_worst_141 a1 x2 x3 μ) zfu (-4) (-1) (nI 0) p3_.2)
set_option maxHeartbeats 4000000 in
set_option maxRecDepth 100000 in
theorem w_X8_worst {Γ : jG} (C : jC Γ 7 cX8_worst RX8 rmX8_worst) {a1 : Int32} {ρ : Int32 × Mem} (E : jEI Γ cX8_worst ρ.1 ρ.2) (μ : Mem) (h : f_X8_worst a1 μ = some ρ) : jJ Γ 7 0 [(0, .ref 113), (1, .int a1)] [] μ := by
  unfold f_X8_worst at h
  refine j_aload_n C dX8_worst_0 rfl 0 rfl ?_
  refine j_iconst (v := (nI 0)) C dX8_worst_1 rfl (by decide) ?_
  refine j_putI C dX8_worst_2 rfl lpX8_48 is_113 rfl ?_
  refine j_mem (fun μ1_ e2_ => ?_)
  replace h := zl_u h e2_
  refine j_iload_n C dX8_worst_5 rfl 1 rfl ?_
  refine j_i2l C dX8_worst_6 rfl ?_
  refine j_lconst (v := 0) C dX8_worst_7 rfl (by decide) ?_
  refine j_lconst (v := 1) C dX8_worst_8 rfl (by decide) ?_
  replace h := bd_e h
  obtain ⟨p3_, h4_, h⟩ := h
  refine j_cSI (av := [.long (Int32.toInt64 a1), .long 0, .long 1]) (rest := []) C dX8_worst_9 rfl (c_X8_in _ _ _ _ μ1_ p3_ h4_) gsX8_51 ⟨⟨rfl, rfl⟩, Nat.le_of_ble_eq_true rfl, Nat.le_of_ble_eq_true rfl⟩ rfl rfl (Nat.le_of_ble_eq_true rfl) ?_
  refine j_if_ne (tgt := 17) C dX8_worst_12 rfl (by decide) (fun c5_ => ?_) (fun c5_ => ?_)
  · replace h := if_f h c5_
    refine j_bipush (v := (-4)) C dX8_worst_17 rfl (by decide) ?_
    refine j_istore_n (lv' := [(2, .int (-4)), (0, .ref 113), (1, .int a1)]) C dX8_worst_19 rfl (by decide) rfl ?_
    refine j_iconst (v := (-1)) C dX8_worst_20 rfl (by decide) ?_
    refine j_istore_n (lv' := [(3, .int (-1)), (2, .int (-4)), (0, .ref 113), (1, .int a1)]) C dX8_worst_21 rfl (by decide) rfl ?_
    refine j_iconst (v := (nI 0)) C dX8_worst_22 rfl (by decide) ?_
    refine j_istore (lv' := [(4, .int (nI 0)), (3, .int (-1)), (2, .int (-4)), (0, .ref 113), (1, .int a1)]) C dX8_worst_23 rfl (by decide) rfl ?_
    refine j_lv [3, 4, 2, 1, 0] rfl ?_
    exact w_X8_worst_25 C E (fun x2 x3 μ h => w_X8_worst_141 C E x2 x3 μ h) zfu (-4) (-1) (nI 0) p3_.2 h
  · replace h := if_t h c5_
    refine j_iconst (v := (-1)) C dX8_worst_15 rfl (by decide) ?_
    obtain rfl := Option.some.inj h
    exact j_iret E dX8_worst_16
set_option maxRecDepth 100000 in
theorem c_X8_worst (l : Launch) (D : va_G) (ad : Nat → Nat) (cl : Nat → ClassId) {a1 : Int32} (μ : Mem) (ρ : Int32 × Mem) (h : f_X8_worst a1 μ = some ρ) : CI l D ad cl yX8_worst wsX8_worst rmX8_worst [.ref 113, .int a1] μ ρ.1 ρ.2 := c_ofI (cc := cX8_worst) (nL := 7) rfl (by decide) (Nat.le_of_ble_eq_true rfl) (fun Γ C E => w_X8_worst C E μ h)
/-! X8_least -/
def wsX8_least : List Cond := .code yX8_least cX8_least 6 (some .int) :: G0
def rmX8_least : Room := { frames := 6, cells := 0, slots := 0, locals := 151 }
def f_X8_least_138 (a1 : Int32) (a2 : Int32) (kb33 : Int32 → Mem → Option (Int32 × Mem)) (x3 : Int32) (x4 : Int32) (μ : Mem) : Option (Int32 × Mem) := (if x4 = 0 then kb33 (x3 + (nI 1)) μ else some (x3, μ))
set_option maxHeartbeats 4000000 in
set_option maxRecDepth 100000 in
theorem w_X8_least_138 {Γ : jG} (C : jC Γ 6 cX8_least RX8 rmX8_least) {a1 : Int32} {a2 : Int32} {kb33 : Int32 → Mem → Option (Int32 × Mem)} {ρ : Int32 × Mem} (E : jEI Γ cX8_least ρ.1 ρ.2) (Hkb33 : ∀ (x3 : Int32) (μ : Mem), kb33 x3 μ = some ρ → jJ Γ 6 33 [(0, .ref 113), (1, .int a1), (2, .int a2), (3, .int x3)] [] μ) (x3 : Int32) (x4 : Int32) (μ : Mem) (h : f_X8_least_138 a1 a2 kb33 x3 x4 μ = some ρ) : jJ Γ 6 138 [(0, .ref 113), (1, .int a1), (2, .int a2), (3, .int x3), (4, .int x4)] [] μ := by
  unfold f_X8_least_138 at h
  refine j_iload C dX8_least_138 rfl 4 rfl ?_
  refine j_if_eq (tgt := 145) C dX8_least_140 rfl (by decide) (fun c1_ => ?_) (fun c1_ => ?_)
  · replace h := if_t h c1_
    refine j_iinc (d := (nI 1)) (v := x3 + (nI 1)) (lv' := [(3, .int (x3 + (nI 1))), (0, .ref 113), (1, .int a1), (2, .int a2), (4, .int x4)]) C dX8_least_145 rfl (by decide) 3 rfl (by decide) rfl rfl ?_
    refine j_goto (pc' := 33) C dX8_least_148 (by decide) ?_
    refine j_lv [1, 2, 3, 0] rfl ?_
    exact (Hkb33) (x3 + (nI 1)) μ h
  · replace h := if_f h c1_
    refine j_iload_n C dX8_least_143 rfl 3 rfl ?_
    obtain rfl := Option.some.inj h
    exact j_iret E dX8_least_144
def f_X8_least_109 (a1 : Int32) (a2 : Int32) (kx138 : Int32 → Int32 → Mem → Option (Int32 × Mem)) : Nat → Int32 → Int32 → Int32 → Mem → Option (Int32 × Mem)
  | 0, _, _, _, _ => none
  | n + 1, x3, x4, x5, μ => (if a1 < x5 then kx138 x3 x4 μ else (if x4 = 0 then kx138 x3 x4 μ else Option.bind (f_X8_holdsAll 115 x5 μ) fun p3_ => f_X8_least_109 a1 a2 kx138 n x3 p3_.1 (x5 + (nI 1)) p3_.2))
set_option maxHeartbeats 4000000 in
set_option maxRecDepth 100000 in
theorem w_X8_least_109 {Γ : jG} (C : jC Γ 6 cX8_least RX8 rmX8_least) {a1 : Int32} {a2 : Int32} {kx138 : Int32 → Int32 → Mem → Option (Int32 × Mem)} {ρ : Int32 × Mem} (E : jEI Γ cX8_least ρ.1 ρ.2) (Hkx138 : ∀ (x3 : Int32) (x4 : Int32) (μ : Mem), kx138 x3 x4 μ = some ρ → jJ Γ 6 138 [(0, .ref 113), (1, .int a1), (2, .int a2), (3, .int x3), (4, .int x4)] [] μ) : ∀ (n : Nat) (x3 : Int32) (x4 : Int32) (x5 : Int32) (μ : Mem), f_X8_least_109 a1 a2 kx138 n x3 x4 x5 μ = some ρ → jJ Γ 6 109 [(0, .ref 113), (1, .int a1), (2, .int a2), (3, .int x3), (4, .int x4), (5, .int x5)] [] μ := by
  intro n
  induction n with
  | zero => intro x3 x4 x5 μ h; rw [f_X8_least_109] at h; cases h
  | succ n ih =>
    intro x3 x4 x5 μ h
    rw [f_X8_least_109] at h
    refine j_iload C dX8_least_109 rfl 5 rfl ?_
    refine j_iload_n C dX8_least_111 rfl 1 rfl ?_
    refine j_icmp_gt (tgt := 138) C dX8_least_112 rfl (by decide) (fun c1_ => ?_) (fun c1_ => ?_)
    · replace h := if_t h c1_
      refine j_lv [0, 1, 2, 3, 4] rfl ?_
      exact (Hkx138) x3 x4 μ h
    · replace h := if_f h c1_
      refine j_iload C dX8_least_115 rfl 4 rfl ?_
      refine j_if_eq (tgt := 138) C dX8_least_117 rfl (by decide) (fun c2_ => ?_) (fun c2_ => ?_)
      · replace h := if_t h c2_
        refine j_lv [0, 1, 2, 3, 4] rfl ?_
        exact (Hkx138) x3 x4 μ h
      · replace h := if_f h c2_
        refine j_aload_n C dX8_least_120 rfl 0 rfl ?_
        refine j_aload_n C dX8_least_121 rfl 0 rfl ?_
        refine j_getR (c := 115) C dX8_least_122 rfl lkX8_13 is_113 rfl ?_
        refine j_iload C dX8_least_125 rfl 5 rfl ?_
        replace h := bd_e h
        obtain ⟨p3_, h4_, h⟩ := h
        refine j_cVI (av := [.ref 115, .int x5]) (rest := []) C dX8_least_127 rfl (c_X8_holdsAll _ _ _ _ isRow115 μ p3_ h4_) gvX8_213 ⟨⟨rfl, rfl⟩, Nat.le_of_ble_eq_true rfl, Nat.le_of_ble_eq_true rfl⟩ rfl is_113 rfl rfl (Nat.le_of_ble_eq_true rfl) ?_
        refine j_istore (lv' := [(4, .int p3_.1), (0, .ref 113), (1, .int a1), (2, .int a2), (3, .int x3), (5, .int x5)]) C dX8_least_130 rfl (by decide) rfl ?_
        refine j_iinc (d := (nI 1)) (v := x5 + (nI 1)) (lv' := [(5, .int (x5 + (nI 1))), (4, .int p3_.1), (0, .ref 113), (1, .int a1), (2, .int a2), (3, .int x3)]) C dX8_least_132 rfl (by decide) 5 rfl (by decide) rfl rfl ?_
        refine j_goto (pc' := 109) C dX8_least_135 (by decide) ?_
        refine j_lv [2, 3, 4, 5, 1, 0] rfl ?_
        exact (ih) x3 p3_.1 (x5 + (nI 1)) p3_.2 h
def f_X8_least_104 (a1 : Int32) (a2 : Int32) (kb33 : Int32 → Mem → Option (Int32 × Mem)) (x3 : Int32) (t0 : Int32) (μ : Mem) : Option (Int32 × Mem) := f_X8_least_109 a1 a2 (fun x3 x4 μ => f_X8_least_138 a1 a2 kb33 x3 x4 μ) zfu x3 t0 (nI 0) μ
set_option maxHeartbeats 4000000 in
set_option maxRecDepth 100000 in
theorem w_X8_least_104 {Γ : jG} (C : jC Γ 6 cX8_least RX8 rmX8_least) {a1 : Int32} {a2 : Int32} {kb33 : Int32 → Mem → Option (Int32 × Mem)} {ρ : Int32 × Mem} (E : jEI Γ cX8_least ρ.1 ρ.2) (Hkb33 : ∀ (x3 : Int32) (μ : Mem), kb33 x3 μ = some ρ → jJ Γ 6 33 [(0, .ref 113), (1, .int a1), (2, .int a2), (3, .int x3)] [] μ) (x3 : Int32) (t0 : Int32) (μ : Mem) (h : f_X8_least_104 a1 a2 kb33 x3 t0 μ = some ρ) : jJ Γ 6 104 [(0, .ref 113), (1, .int a1), (2, .int a2), (3, .int x3)] [.int t0] μ := by
  unfold f_X8_least_104 at h
  refine j_istore (lv' := [(4, .int t0), (0, .ref 113), (1, .int a1), (2, .int a2), (3, .int x3)]) C dX8_least_104 rfl (by decide) rfl ?_
  refine j_iconst (v := (nI 0)) C dX8_least_106 rfl (by decide) ?_
  refine j_istore (lv' := [(5, .int (nI 0)), (4, .int t0), (0, .ref 113), (1, .int a1), (2, .int a2), (3, .int x3)]) C dX8_least_107 rfl (by decide) rfl ?_
  refine j_lv [2, 3, 4, 5, 1, 0] rfl ?_
  exact w_X8_least_109 C E (fun x3 x4 μ h => w_X8_least_138 C E Hkb33 x3 x4 μ h) zfu x3 t0 (nI 0) μ h
def f_X8_least_86 (a1 : Int32) (a2 : Int32) (kb33 : Int32 → Mem → Option (Int32 × Mem)) (x3 : Int32) (μ : Mem) : Option (Int32 × Mem) := Option.bind (f_X8_doneBy 115 (-1) μ) fun p1_ => (if a2 < p1_.1 then f_X8_least_104 a1 a2 kb33 x3 (nI 0) p1_.2 else f_X8_least_104 a1 a2 kb33 x3 (nI 1) p1_.2)
set_option maxHeartbeats 4000000 in
set_option maxRecDepth 100000 in
theorem w_X8_least_86 {Γ : jG} (C : jC Γ 6 cX8_least RX8 rmX8_least) {a1 : Int32} {a2 : Int32} {kb33 : Int32 → Mem → Option (Int32 × Mem)} {ρ : Int32 × Mem} (E : jEI Γ cX8_least ρ.1 ρ.2) (Hkb33 : ∀ (x3 : Int32) (μ : Mem), kb33 x3 μ = some ρ → jJ Γ 6 33 [(0, .ref 113), (1, .int a1), (2, .int a2), (3, .int x3)] [] μ) (x3 : Int32) (μ : Mem) (h : f_X8_least_86 a1 a2 kb33 x3 μ = some ρ) : jJ Γ 6 86 [(0, .ref 113), (1, .int a1), (2, .int a2), (3, .int x3)] [] μ := by
  unfold f_X8_least_86 at h
  refine j_aload_n C dX8_least_86 rfl 0 rfl ?_
  refine j_aload_n C dX8_least_87 rfl 0 rfl ?_
  refine j_getR (c := 115) C dX8_least_88 rfl lkX8_13 is_113 rfl ?_
  refine j_iconst (v := (-1)) C dX8_least_91 rfl (by decide) ?_
  replace h := bd_e h
  obtain ⟨p1_, h2_, h⟩ := h
  refine j_cVI (av := [.ref 115, .int (-1)]) (rest := []) C dX8_least_92 rfl (c_X8_doneBy _ _ _ _ isRow115 μ p1_ h2_) gvX8_203 ⟨⟨rfl, rfl⟩, Nat.le_of_ble_eq_true rfl, Nat.le_of_ble_eq_true rfl⟩ rfl is_113 rfl rfl (Nat.le_of_ble_eq_true rfl) ?_
  refine j_iload_n C dX8_least_95 rfl 2 rfl ?_
  refine j_icmp_gt (tgt := 103) C dX8_least_96 rfl (by decide) (fun c3_ => ?_) (fun c3_ => ?_)
  · replace h := if_t h c3_
    refine j_iconst (v := (nI 0)) C dX8_least_103 rfl (by decide) ?_
    refine j_lv [0, 1, 2, 3] rfl ?_
    exact w_X8_least_104 C E Hkb33 x3 (nI 0) p1_.2 h
  · replace h := if_f h c3_
    refine j_iconst (v := (nI 1)) C dX8_least_99 rfl (by decide) ?_
    refine j_goto (pc' := 104) C dX8_least_100 (by decide) ?_
    refine j_lv [0, 1, 2, 3] rfl ?_
    exact w_X8_least_104 C E Hkb33 x3 (nI 1) p1_.2 h
def f_X8_least_53 (a1 : Int32) (a2 : Int32) (kx86 : Int32 → Mem → Option (Int32 × Mem)) : Nat → Int32 → Int32 → Mem → Option (Int32 × Mem)
  | 0, _, _, _ => none
  | n + 1, x3, x4, μ => gd (inb (nI 3) 1829) <| (if (μ.1 114 (Int32.toNatClampNeg (nI 3))) ≤ x4 then kx86 x3 μ else gd (inb (((nI 1761) + ((nI 4) * x4)) + (nI 1)) 1829) <| zl (sI μ 115 (Int32.toNatClampNeg (((nI 1761) + ((nI 4) * x4)) + (nI 1))) x3) fun μ4_ => f_X8_least_53 a1 a2 kx86 n x3 (x4 + (nI 1)) μ4_)
set_option maxHeartbeats 4000000 in
set_option maxRecDepth 100000 in
theorem w_X8_least_53 {Γ : jG} (C : jC Γ 6 cX8_least RX8 rmX8_least) {a1 : Int32} {a2 : Int32} {kx86 : Int32 → Mem → Option (Int32 × Mem)} {ρ : Int32 × Mem} (E : jEI Γ cX8_least ρ.1 ρ.2) (Hkx86 : ∀ (x3 : Int32) (μ : Mem), kx86 x3 μ = some ρ → jJ Γ 6 86 [(0, .ref 113), (1, .int a1), (2, .int a2), (3, .int x3)] [] μ) : ∀ (n : Nat) (x3 : Int32) (x4 : Int32) (μ : Mem), f_X8_least_53 a1 a2 kx86 n x3 x4 μ = some ρ → jJ Γ 6 53 [(0, .ref 113), (1, .int a1), (2, .int a2), (3, .int x3), (4, .int x4)] [] μ := by
  intro n
  induction n with
  | zero => intro x3 x4 μ h; rw [f_X8_least_53] at h; cases h
  | succ n ih =>
    intro x3 x4 μ h
    rw [f_X8_least_53] at h
    refine j_iload C dX8_least_53 rfl 4 rfl ?_
    refine j_aload_n C dX8_least_55 rfl 0 rfl ?_
    refine j_getR (c := 114) C dX8_least_56 rfl lkX8_7 is_113 rfl ?_
    refine j_iconst (v := (nI 3)) C dX8_least_59 rfl (by decide) ?_
    replace h := gd_e h
    obtain ⟨g1_, h⟩ := h
    refine j_iald C dX8_least_60 rfl is_114 g1_ ?_
    refine j_icmp_ge (tgt := 86) C dX8_least_61 rfl (by decide) (fun c2_ => ?_) (fun c2_ => ?_)
    · replace h := if_t h c2_
      refine j_lv [0, 1, 2, 3] rfl ?_
      exact (Hkx86) x3 μ h
    · replace h := if_f h c2_
      refine j_aload_n C dX8_least_64 rfl 0 rfl ?_
      refine j_getR (c := 115) C dX8_least_65 rfl lkX8_13 is_113 rfl ?_
      refine j_sipush (v := (nI 1761)) C dX8_least_68 rfl (by decide) ?_
      refine j_iconst (v := (nI 4)) C dX8_least_71 rfl (by decide) ?_
      refine j_iload C dX8_least_72 rfl 4 rfl ?_
      refine j_imul C dX8_least_74 rfl ?_
      refine j_iadd C dX8_least_75 rfl ?_
      refine j_iconst (v := (nI 1)) C dX8_least_76 rfl (by decide) ?_
      refine j_iadd C dX8_least_77 rfl ?_
      refine j_iload_n C dX8_least_78 rfl 3 rfl ?_
      replace h := gd_e h
      obtain ⟨g3_, h⟩ := h
      refine j_iast C dX8_least_79 rfl is_115 g3_ ?_
      refine j_mem (fun μ4_ e5_ => ?_)
      replace h := zl_u h e5_
      refine j_iinc (d := (nI 1)) (v := x4 + (nI 1)) (lv' := [(4, .int (x4 + (nI 1))), (0, .ref 113), (1, .int a1), (2, .int a2), (3, .int x3)]) C dX8_least_80 rfl (by decide) 4 rfl (by decide) rfl rfl ?_
      refine j_goto (pc' := 53) C dX8_least_83 (by decide) ?_
      refine j_lv [1, 2, 3, 4, 0] rfl ?_
      exact (ih) x3 (x4 + (nI 1)) μ4_ h
def f_X8_least_33 (a1 : Int32) (a2 : Int32) : Nat → Int32 → Mem → Option (Int32 × Mem)
  | 0, _, _ => none
  | n + 1, x3, μ => (if (nI 10) ≤ x3 then some ((-4), μ) else Option.bind (f_X8_copies 114 115 μ) fun p2_ => f_X8_least_53 a1 a2 (fun x3 μ => f_X8_least_86 a1 a2 (fun x3 μ => f_X8_least_33 a1 a2 n x3 μ) x3 μ) zfu x3 (nI 0) p2_)
set_option maxHeartbeats 4000000 in
set_option maxRecDepth 100000 in
theorem w_X8_least_33 {Γ : jG} (C : jC Γ 6 cX8_least RX8 rmX8_least) {a1 : Int32} {a2 : Int32} {ρ : Int32 × Mem} (E : jEI Γ cX8_least ρ.1 ρ.2) : ∀ (n : Nat) (x3 : Int32) (μ : Mem), f_X8_least_33 a1 a2 n x3 μ = some ρ → jJ Γ 6 33 [(0, .ref 113), (1, .int a1), (2, .int a2), (3, .int x3)] [] μ := by
  intro n
  induction n with
  | zero => intro x3 μ h; rw [f_X8_least_33] at h; cases h
  | succ n ih =>
    intro x3 μ h
    rw [f_X8_least_33] at h
    refine j_iload_n C dX8_least_33 rfl 3 rfl ?_
    refine j_bipush (v := (nI 10)) C dX8_least_34 rfl (by decide) ?_
    refine j_icmp_ge (tgt := 151) C dX8_least_36 rfl (by decide) (fun c1_ => ?_) (fun c1_ => ?_)
    · replace h := if_t h c1_
      refine j_bipush (v := (-4)) C dX8_least_151 rfl (by decide) ?_
      obtain rfl := Option.some.inj h
      exact j_iret E dX8_least_153
    · replace h := if_f h c1_
      refine j_aload_n C dX8_least_39 rfl 0 rfl ?_
      refine j_getR (c := 114) C dX8_least_40 rfl lkX8_7 is_113 rfl ?_
      refine j_aload_n C dX8_least_43 rfl 0 rfl ?_
      refine j_getR (c := 115) C dX8_least_44 rfl lkX8_13 is_113 rfl ?_
      replace h := bd_e h
      obtain ⟨p2_, h3_, h⟩ := h
      refine j_cSV (av := [.ref 114, .ref 115]) (rest := []) C dX8_least_47 rfl (c_X8_copies _ _ _ _ isRow114 isRow115 μ p2_ h3_) gsX8_196 ⟨⟨rfl, rfl⟩, Nat.le_of_ble_eq_true rfl, Nat.le_of_ble_eq_true rfl⟩ rfl rfl (Nat.le_of_ble_eq_true rfl) ?_
      refine j_iconst (v := (nI 0)) C dX8_least_50 rfl (by decide) ?_
      refine j_istore (lv' := [(4, .int (nI 0)), (0, .ref 113), (1, .int a1), (2, .int a2), (3, .int x3)]) C dX8_least_51 rfl (by decide) rfl ?_
      refine j_lv [1, 2, 3, 4, 0] rfl ?_
      exact w_X8_least_53 C E (fun x3 μ h => w_X8_least_86 C E ih x3 μ h) zfu x3 (nI 0) p2_ h
def f_X8_least (a1 : Int32) (a2 : Int32) (μ : Mem) : Option (Int32 × Mem) := zl (sI μ 113 0 (nI 0)) fun μ1_ => Option.bind (f_X8_in (Int32.toInt64 a1) 0 2 μ1_) fun p3_ => (if p3_.1 = 0 then some ((-1), p3_.2) else Option.bind (f_X8_in (Int32.toInt64 a2) 0 60 p3_.2) fun p6_ => (if p6_.1 = 0 then some ((-1), p6_.2) else f_X8_least_33 a1 a2 zfu (nI 0) p6_.2))
set_option maxHeartbeats 4000000 in
set_option maxRecDepth 100000 in
theorem w_X8_least {Γ : jG} (C : jC Γ 6 cX8_least RX8 rmX8_least) {a1 : Int32} {a2 : Int32} {ρ : Int32 × Mem} (E : jEI Γ cX8_least ρ.1 ρ.2) (μ : Mem) (h : f_X8_least a1 a2 μ = some ρ) : jJ Γ 6 0 [(0, .ref 113), (1, .int a1), (2, .int a2)] [] μ := by
  unfold f_X8_least at h
  refine j_aload_n C dX8_least_0 rfl 0 rfl ?_
  refine j_iconst (v := (nI 0)) C dX8_least_1 rfl (by decide) ?_
  refine j_putI C dX8_least_2 rfl lpX8_48 is_113 rfl ?_
  refine j_mem (fun μ1_ e2_ => ?_)
  replace h := zl_u h e2_
  refine j_iload_n C dX8_least_5 rfl 1 rfl ?_
  refine j_i2l C dX8_least_6 rfl ?_
  refine j_lconst (v := 0) C dX8_least_7 rfl (by decide) ?_
  refine j_ldc2 (v := 2) C dX8_least_8 rfl gwt5_82 ?_
  replace h := bd_e h
  obtain ⟨p3_, h4_, h⟩ := h
  refine j_cSI (av := [.long (Int32.toInt64 a1), .long 0, .long 2]) (rest := []) C dX8_least_11 rfl (c_X8_in _ _ _ _ μ1_ p3_ h4_) gsX8_51 ⟨⟨rfl, rfl⟩, Nat.le_of_ble_eq_true rfl, Nat.le_of_ble_eq_true rfl⟩ rfl rfl (Nat.le_of_ble_eq_true rfl) ?_
  refine j_if_eq (tgt := 29) C dX8_least_14 rfl (by decide) (fun c5_ => ?_) (fun c5_ => ?_)
  · replace h := if_t h c5_
    refine j_iconst (v := (-1)) C dX8_least_29 rfl (by decide) ?_
    obtain rfl := Option.some.inj h
    exact j_iret E dX8_least_30
  · replace h := if_f h c5_
    refine j_iload_n C dX8_least_17 rfl 2 rfl ?_
    refine j_i2l C dX8_least_18 rfl ?_
    refine j_lconst (v := 0) C dX8_least_19 rfl (by decide) ?_
    refine j_ldc2 (v := 60) C dX8_least_20 rfl gwt5_197 ?_
    replace h := bd_e h
    obtain ⟨p6_, h7_, h⟩ := h
    refine j_cSI (av := [.long (Int32.toInt64 a2), .long 0, .long 60]) (rest := []) C dX8_least_23 rfl (c_X8_in _ _ _ _ p3_.2 p6_ h7_) gsX8_51 ⟨⟨rfl, rfl⟩, Nat.le_of_ble_eq_true rfl, Nat.le_of_ble_eq_true rfl⟩ rfl rfl (Nat.le_of_ble_eq_true rfl) ?_
    refine j_if_ne (tgt := 31) C dX8_least_26 rfl (by decide) (fun c8_ => ?_) (fun c8_ => ?_)
    · replace h := if_f h c8_
      refine j_iconst (v := (nI 0)) C dX8_least_31 rfl (by decide) ?_
      refine j_istore_n (lv' := [(3, .int (nI 0)), (0, .ref 113), (1, .int a1), (2, .int a2)]) C dX8_least_32 rfl (by decide) rfl ?_
      refine j_lv [1, 2, 3, 0] rfl ?_
      exact w_X8_least_33 C E zfu (nI 0) p6_.2 h
    · replace h := if_t h c8_
      refine j_iconst (v := (-1)) C dX8_least_29 rfl (by decide) ?_
      obtain rfl := Option.some.inj h
      exact j_iret E dX8_least_30
set_option maxRecDepth 100000 in
theorem c_X8_least (l : Launch) (D : va_G) (ad : Nat → Nat) (cl : Nat → ClassId) {a1 : Int32} {a2 : Int32} (μ : Mem) (ρ : Int32 × Mem) (h : f_X8_least a1 a2 μ = some ρ) : CI l D ad cl yX8_least wsX8_least rmX8_least [.ref 113, .int a1, .int a2] μ ρ.1 ρ.2 := c_ofI (cc := cX8_least) (nL := 6) rfl (by decide) (Nat.le_of_ble_eq_true rfl) (fun Γ C E => w_X8_least C E μ h)
