/-! X2_isUnlike -/
def wsX2_isUnlike : List Cond := .code yX2_isUnlike cX2_isUnlike 2 (some .boolean) :: G0
def rmX2_isUnlike : Room := { frames := 2, cells := 0, slots := 0, locals := 43 }
def f_X2_isUnlike (b0 : Nat) (μ : Mem) : Option (Int32 × Mem) := Option.bind (f_X2_trueOnes b0 μ) fun p1_ => Option.bind (f_X2_howManyShow b0 p1_.1 (nI 0) p1_.2) fun p3_ => (if p3_.1 ≤ 0 then some ((nI 0), p3_.2) else Option.bind (f_X2_howManyShow b0 p1_.1 (nI 1) p3_.2) fun p6_ => (if p6_.1 ≤ 0 then some ((nI 0), p6_.2) else some ((nI 1), p6_.2)))
set_option maxHeartbeats 4000000 in
set_option maxRecDepth 100000 in
theorem w_X2_isUnlike {Γ : jG} (C : jC Γ 2 cX2_isUnlike RX2 rmX2_isUnlike) {b0 : Nat} (hb0 : isNight b0) {ρ : Int32 × Mem} (E : (isB ρ.1 = true → jEI Γ cX2_isUnlike ρ.1 ρ.2)) (μ : Mem) (h : f_X2_isUnlike b0 μ = some ρ) : jJ Γ 2 0 [(0, .ref b0)] [] μ := by
  unfold f_X2_isUnlike at h
  refine j_aload_n C dX2_isUnlike_0 rfl 0 rfl ?_
  replace h := bd_e h
  obtain ⟨p1_, h2_, h⟩ := h
  refine j_cVI (av := []) (rest := []) C dX2_isUnlike_1 rfl (c_X2_trueOnes _ _ _ _ hb0 μ p1_ h2_) gvX2_91 ⟨⟨rfl, rfl⟩, Nat.le_of_ble_eq_true rfl, Nat.le_of_ble_eq_true rfl⟩ rfl (isN_0 hb0) rfl rfl (Nat.le_of_ble_eq_true rfl) ?_
  refine j_istore_n (lv' := [(1, .int p1_.1), (0, .ref b0)]) C dX2_isUnlike_4 rfl (by decide) rfl ?_
  refine j_aload_n C dX2_isUnlike_5 rfl 1 rfl ?_
  refine j_iload_n C dX2_isUnlike_6 rfl 0 rfl ?_
  refine j_iconst (v := (nI 0)) C dX2_isUnlike_7 rfl (by decide) ?_
  replace h := bd_e h
  obtain ⟨p3_, h4_, h⟩ := h
  refine j_cVI (av := [.int p1_.1, .int (nI 0)]) (rest := []) C dX2_isUnlike_8 rfl (c_X2_howManyShow _ _ _ _ hb0 p1_.2 p3_ h4_) gvX2_95 ⟨⟨rfl, rfl⟩, Nat.le_of_ble_eq_true rfl, Nat.le_of_ble_eq_true rfl⟩ rfl (isN_0 hb0) rfl rfl (Nat.le_of_ble_eq_true rfl) ?_
  refine j_if_le (tgt := 27) C dX2_isUnlike_11 rfl (by decide) (fun c5_ => ?_) (fun c5_ => ?_)
  · replace h := if_t h c5_
    refine j_iconst (v := (nI 0)) C dX2_isUnlike_27 rfl (by decide) ?_
    obtain rfl := Option.some.inj h
    exact j_iret (E isB_0) dX2_isUnlike_28
  · replace h := if_f h c5_
    refine j_aload_n C dX2_isUnlike_14 rfl 1 rfl ?_
    refine j_iload_n C dX2_isUnlike_15 rfl 0 rfl ?_
    refine j_iconst (v := (nI 1)) C dX2_isUnlike_16 rfl (by decide) ?_
    replace h := bd_e h
    obtain ⟨p6_, h7_, h⟩ := h
    refine j_cVI (av := [.int p1_.1, .int (nI 1)]) (rest := []) C dX2_isUnlike_17 rfl (c_X2_howManyShow _ _ _ _ hb0 p3_.2 p6_ h7_) gvX2_95 ⟨⟨rfl, rfl⟩, Nat.le_of_ble_eq_true rfl, Nat.le_of_ble_eq_true rfl⟩ rfl (isN_0 hb0) rfl rfl (Nat.le_of_ble_eq_true rfl) ?_
    refine j_if_le (tgt := 27) C dX2_isUnlike_20 rfl (by decide) (fun c8_ => ?_) (fun c8_ => ?_)
    · replace h := if_t h c8_
      refine j_iconst (v := (nI 0)) C dX2_isUnlike_27 rfl (by decide) ?_
      obtain rfl := Option.some.inj h
      exact j_iret (E isB_0) dX2_isUnlike_28
    · replace h := if_f h c8_
      refine j_iconst (v := (nI 1)) C dX2_isUnlike_23 rfl (by decide) ?_
      refine j_goto (pc' := 28) C dX2_isUnlike_24 (by decide) ?_
      obtain rfl := Option.some.inj h
      exact j_iret (E isB_1) dX2_isUnlike_28
set_option maxRecDepth 100000 in
theorem c_X2_isUnlike (l : Launch) (D : va_G) (ad : Nat → Nat) (cl : Nat → ClassId) {b0 : Nat} (hb0 : isNight b0) (μ : Mem) (ρ : Int32 × Mem) (h : f_X2_isUnlike b0 μ = some ρ) : CI l D ad cl yX2_isUnlike wsX2_isUnlike rmX2_isUnlike [.ref b0] μ ρ.1 ρ.2 := c_ofZ (cc := cX2_isUnlike) (nL := 2) rfl (by decide) (Nat.le_of_ble_eq_true rfl) (fun Γ C E => w_X2_isUnlike C hb0 E μ h)
/-! X2_showsAs -/
def wsX2_showsAs : List Cond := .code yX2_showsAs cX2_showsAs 4 (some .boolean) :: G0
def rmX2_showsAs : Room := { frames := 0, cells := 0, slots := 0, locals := 0 }
def f_X2_showsAs_2 (b0 : Nat) (k1 : Nat) (a2 : Int32) : Nat → Int32 → Mem → Option (Int32 × Mem)
  | 0, _, _ => none
  | n + 1, x3, μ => (if (μ.1 b0 0) ≤ x3 then some ((nI 1), μ) else gd (inb (a2 + x3) 24) <| gd (inb x3 9) <| (if (lg_cmp (μ.2 k1 (Int32.toNatClampNeg (a2 + x3))) (Int32.toInt64 (μ.1 (b0 + 2) (Int32.toNatClampNeg x3)))) = 0 then f_X2_showsAs_2 b0 k1 a2 n (x3 + (nI 1)) μ else some ((nI 0), μ)))
set_option maxHeartbeats 4000000 in
set_option maxRecDepth 100000 in
theorem w_X2_showsAs_2 {Γ : jG} (C : jC Γ 4 cX2_showsAs RX2 rmX2_showsAs) {b0 : Nat} {k1 : Nat} {a2 : Int32} (hb0 : isNight b0) (hk1 : isItems k1) {ρ : Int32 × Mem} (E : (isB ρ.1 = true → jEI Γ cX2_showsAs ρ.1 ρ.2)) : ∀ (n : Nat) (x3 : Int32) (μ : Mem), f_X2_showsAs_2 b0 k1 a2 n x3 μ = some ρ → jJ Γ 4 2 [(0, .ref b0), (1, .ref k1), (2, .int a2), (3, .int x3)] [] μ := by
  intro n
  induction n with
  | zero => intro x3 μ h; rw [f_X2_showsAs_2] at h; cases h
  | succ n ih =>
    intro x3 μ h
    rw [f_X2_showsAs_2] at h
    refine j_iload_n C dX2_showsAs_2 rfl 3 rfl ?_
    refine j_aload_n C dX2_showsAs_3 rfl 0 rfl ?_
    refine j_getI C dX2_showsAs_4 rfl lkX2_9 (isN_0 hb0) rfl ?_
    refine j_icmp_ge (tgt := 34) C dX2_showsAs_7 rfl (by decide) (fun c1_ => ?_) (fun c1_ => ?_)
    · replace h := if_t h c1_
      refine j_iconst (v := (nI 1)) C dX2_showsAs_34 rfl (by decide) ?_
      obtain rfl := Option.some.inj h
      exact j_iret (E isB_1) dX2_showsAs_35
    · replace h := if_f h c1_
      refine j_aload_n C dX2_showsAs_10 rfl 1 rfl ?_
      refine j_iload_n C dX2_showsAs_11 rfl 2 rfl ?_
      refine j_iload_n C dX2_showsAs_12 rfl 3 rfl ?_
      refine j_iadd C dX2_showsAs_13 rfl ?_
      replace h := gd_e h
      obtain ⟨g2_, h⟩ := h
      refine j_lald C dX2_showsAs_14 rfl (isItems_is hk1) g2_ ?_
      refine j_aload_n C dX2_showsAs_15 rfl 0 rfl ?_
      refine j_getR (c := b0 + 2) C dX2_showsAs_16 rfl lkX2_38 (isN_0 hb0) rfl ?_
      refine j_iload_n C dX2_showsAs_19 rfl 3 rfl ?_
      replace h := gd_e h
      obtain ⟨g3_, h⟩ := h
      refine j_iald C dX2_showsAs_20 rfl (isN_a2 hb0) g3_ ?_
      refine j_i2l C dX2_showsAs_21 rfl ?_
      refine j_lcmp C dX2_showsAs_22 rfl ?_
      refine j_if_eq (tgt := 28) C dX2_showsAs_23 rfl (by decide) (fun c4_ => ?_) (fun c4_ => ?_)
      · replace h := if_t h c4_
        refine j_iinc (d := (nI 1)) (v := x3 + (nI 1)) (lv' := [(3, .int (x3 + (nI 1))), (0, .ref b0), (1, .ref k1), (2, .int a2)]) C dX2_showsAs_28 rfl (by decide) 3 rfl (by decide) rfl rfl ?_
        refine j_goto (pc' := 2) C dX2_showsAs_31 (by decide) ?_
        refine j_lv [1, 2, 3, 0] rfl ?_
        exact (ih) (x3 + (nI 1)) μ h
      · replace h := if_f h c4_
        refine j_iconst (v := (nI 0)) C dX2_showsAs_26 rfl (by decide) ?_
        obtain rfl := Option.some.inj h
        exact j_iret (E isB_0) dX2_showsAs_27
def f_X2_showsAs (b0 : Nat) (k1 : Nat) (a2 : Int32) (μ : Mem) : Option (Int32 × Mem) := f_X2_showsAs_2 b0 k1 a2 zfu (nI 0) μ
set_option maxHeartbeats 4000000 in
set_option maxRecDepth 100000 in
theorem w_X2_showsAs {Γ : jG} (C : jC Γ 4 cX2_showsAs RX2 rmX2_showsAs) {b0 : Nat} {k1 : Nat} {a2 : Int32} (hb0 : isNight b0) (hk1 : isItems k1) {ρ : Int32 × Mem} (E : (isB ρ.1 = true → jEI Γ cX2_showsAs ρ.1 ρ.2)) (μ : Mem) (h : f_X2_showsAs b0 k1 a2 μ = some ρ) : jJ Γ 4 0 [(0, .ref b0), (1, .ref k1), (2, .int a2)] [] μ := by
  unfold f_X2_showsAs at h
  refine j_iconst (v := (nI 0)) C dX2_showsAs_0 rfl (by decide) ?_
  refine j_istore_n (lv' := [(3, .int (nI 0)), (0, .ref b0), (1, .ref k1), (2, .int a2)]) C dX2_showsAs_1 rfl (by decide) rfl ?_
  refine j_lv [1, 2, 3, 0] rfl ?_
  exact w_X2_showsAs_2 C hb0 hk1 E zfu (nI 0) μ h
set_option maxRecDepth 100000 in
theorem c_X2_showsAs (l : Launch) (D : va_G) (ad : Nat → Nat) (cl : Nat → ClassId) {b0 : Nat} {k1 : Nat} {a2 : Int32} (hb0 : isNight b0) (hk1 : isItems k1) (μ : Mem) (ρ : Int32 × Mem) (h : f_X2_showsAs b0 k1 a2 μ = some ρ) : CI l D ad cl yX2_showsAs wsX2_showsAs rmX2_showsAs [.ref b0, .ref k1, .int a2] μ ρ.1 ρ.2 := c_ofZ (cc := cX2_showsAs) (nL := 4) rfl (by decide) (Nat.le_of_ble_eq_true rfl) (fun Γ C E => w_X2_showsAs C hb0 hk1 E μ h)
theorem gvX2_98 : jm_gv RX2 98 RX2 yX2_believed wsX2_believed 2 1 := ⟨_, _, gi_V gwt3_144 gwt2_107 gwt2_108 gwt1_3 gwt2_109, rfl, by decide +kernel⟩
/-! X2_outcome -/
def wsX2_outcome : List Cond := .code yX2_outcome cX2_outcome 3 (some .int) :: G0
def rmX2_outcome : Room := { frames := 1, cells := 0, slots := 0, locals := 21 }
def f_X2_outcome_41 (b0 : Nat) (kb4 : Int32 → Int32 → Mem → Option (Int32 × Mem)) (x1 : Int32) (x2 : Int32) (μ : Mem) : Option (Int32 × Mem) := kb4 x1 (x2 + (nI 1)) μ
set_option maxHeartbeats 4000000 in
set_option maxRecDepth 100000 in
theorem w_X2_outcome_41 {Γ : jG} (C : jC Γ 3 cX2_outcome RX2 rmX2_outcome) {b0 : Nat} (hb0 : isNight b0) {kb4 : Int32 → Int32 → Mem → Option (Int32 × Mem)} {ρ : Int32 × Mem} (E : jEI Γ cX2_outcome ρ.1 ρ.2) (Hkb4 : ∀ (x1 : Int32) (x2 : Int32) (μ : Mem), kb4 x1 x2 μ = some ρ → jJ Γ 3 4 [(0, .ref b0), (1, .int x1), (2, .int x2)] [] μ) (x1 : Int32) (x2 : Int32) (μ : Mem) (h : f_X2_outcome_41 b0 kb4 x1 x2 μ = some ρ) : jJ Γ 3 41 [(0, .ref b0), (1, .int x1), (2, .int x2)] [] μ := by
  unfold f_X2_outcome_41 at h
  refine j_iinc (d := (nI 1)) (v := x2 + (nI 1)) (lv' := [(2, .int (x2 + (nI 1))), (0, .ref b0), (1, .int x1)]) C dX2_outcome_41 rfl (by decide) 2 rfl (by decide) rfl rfl ?_
  refine j_goto (pc' := 4) C dX2_outcome_44 (by decide) ?_
  refine j_lv [1, 2, 0] rfl ?_
  exact (Hkb4) x1 (x2 + (nI 1)) μ h
def f_X2_outcome_4 (b0 : Nat) : Nat → Int32 → Int32 → Mem → Option (Int32 × Mem)
  | 0, _, _, _ => none
  | n + 1, x1, x2, μ => (if (μ.1 b0 0) ≤ x2 then some (x1, μ) else Option.bind (f_X2_isTrue b0 x2 μ) fun p2_ => (if p2_.1 = 0 then f_X2_outcome_41 b0 (fun x1 x2 μ => f_X2_outcome_4 b0 n x1 x2 μ) x1 x2 p2_.2 else gd (inb x2 9) <| Option.bind (f_X2_believed b0 x2 p2_.2) fun p6_ => zl (x1 ||| ((((p2_.2.1 (b0 + 2) (Int32.toNatClampNeg x2)) * (nI 2)) + p6_.1) <<< (((nI 3) * x2) &&& 31))) fun x8_ => f_X2_outcome_41 b0 (fun x1 x2 μ => f_X2_outcome_4 b0 n x1 x2 μ) x8_ x2 p6_.2))
set_option maxHeartbeats 4000000 in
set_option maxRecDepth 100000 in
theorem w_X2_outcome_4 {Γ : jG} (C : jC Γ 3 cX2_outcome RX2 rmX2_outcome) {b0 : Nat} (hb0 : isNight b0) {ρ : Int32 × Mem} (E : jEI Γ cX2_outcome ρ.1 ρ.2) : ∀ (n : Nat) (x1 : Int32) (x2 : Int32) (μ : Mem), f_X2_outcome_4 b0 n x1 x2 μ = some ρ → jJ Γ 3 4 [(0, .ref b0), (1, .int x1), (2, .int x2)] [] μ := by
  intro n
  induction n with
  | zero => intro x1 x2 μ h; rw [f_X2_outcome_4] at h; cases h
  | succ n ih =>
    intro x1 x2 μ h
    rw [f_X2_outcome_4] at h
    refine j_iload_n C dX2_outcome_4 rfl 2 rfl ?_
    refine j_aload_n C dX2_outcome_5 rfl 0 rfl ?_
    refine j_getI C dX2_outcome_6 rfl lkX2_9 (isN_0 hb0) rfl ?_
    refine j_icmp_ge (tgt := 47) C dX2_outcome_9 rfl (by decide) (fun c1_ => ?_) (fun c1_ => ?_)
    · replace h := if_t h c1_
      refine j_iload_n C dX2_outcome_47 rfl 1 rfl ?_
      obtain rfl := Option.some.inj h
      exact j_iret E dX2_outcome_48
    · replace h := if_f h c1_
      refine j_aload_n C dX2_outcome_12 rfl 0 rfl ?_
      refine j_iload_n C dX2_outcome_13 rfl 2 rfl ?_
      replace h := bd_e h
      obtain ⟨p2_, h3_, h⟩ := h
      refine j_cVI (av := [.int x2]) (rest := []) C dX2_outcome_14 rfl (c_X2_isTrue _ _ _ _ hb0 μ p2_ h3_) gvX2_87 ⟨⟨rfl, rfl⟩, Nat.le_of_ble_eq_true rfl, Nat.le_of_ble_eq_true rfl⟩ rfl (isN_0 hb0) rfl rfl (Nat.le_of_ble_eq_true rfl) ?_
      refine j_if_eq (tgt := 41) C dX2_outcome_17 rfl (by decide) (fun c4_ => ?_) (fun c4_ => ?_)
      · replace h := if_t h c4_
        refine j_lv [0, 1, 2] rfl ?_
        exact w_X2_outcome_41 C hb0 E ih x1 x2 p2_.2 h
      · replace h := if_f h c4_
        refine j_iload_n C dX2_outcome_20 rfl 1 rfl ?_
        refine j_aload_n C dX2_outcome_21 rfl 0 rfl ?_
        refine j_getR (c := b0 + 2) C dX2_outcome_22 rfl lkX2_38 (isN_0 hb0) rfl ?_
        refine j_iload_n C dX2_outcome_25 rfl 2 rfl ?_
        replace h := gd_e h
        obtain ⟨g5_, h⟩ := h
        refine j_iald C dX2_outcome_26 rfl (isN_a2 hb0) g5_ ?_
        refine j_iconst (v := (nI 2)) C dX2_outcome_27 rfl (by decide) ?_
        refine j_imul C dX2_outcome_28 rfl ?_
        refine j_aload_n C dX2_outcome_29 rfl 0 rfl ?_
        refine j_iload_n C dX2_outcome_30 rfl 2 rfl ?_
        replace h := bd_e h
        obtain ⟨p6_, h7_, h⟩ := h
        refine j_cVI (av := [.int x2]) (rest := [.int ((p2_.2.1 (b0 + 2) (Int32.toNatClampNeg x2)) * (nI 2)), .int x1]) C dX2_outcome_31 rfl (c_X2_believed _ _ _ _ hb0 p2_.2 p6_ h7_) gvX2_98 ⟨⟨rfl, rfl⟩, Nat.le_of_ble_eq_true rfl, Nat.le_of_ble_eq_true rfl⟩ rfl (isN_0 hb0) rfl rfl (Nat.le_of_ble_eq_true rfl) ?_
        refine j_iadd C dX2_outcome_34 rfl ?_
        refine j_iconst (v := (nI 3)) C dX2_outcome_35 rfl (by decide) ?_
        refine j_iload_n C dX2_outcome_36 rfl 2 rfl ?_
        refine j_imul C dX2_outcome_37 rfl ?_
        refine j_ishl C dX2_outcome_38 rfl ?_
        refine j_ior C dX2_outcome_39 rfl ?_
        refine j_topi (fun x8_ e9_ => ?_)
        replace h := zl_u h e9_
        refine j_istore_n (lv' := [(1, .int x8_), (0, .ref b0), (2, .int x2)]) C dX2_outcome_40 rfl (by decide) rfl ?_
        refine j_lv [1, 0, 2] rfl ?_
        exact w_X2_outcome_41 C hb0 E ih x8_ x2 p6_.2 h
def f_X2_outcome (b0 : Nat) (μ : Mem) : Option (Int32 × Mem) := f_X2_outcome_4 b0 zfu (nI 0) (nI 0) μ
set_option maxHeartbeats 4000000 in
set_option maxRecDepth 100000 in
theorem w_X2_outcome {Γ : jG} (C : jC Γ 3 cX2_outcome RX2 rmX2_outcome) {b0 : Nat} (hb0 : isNight b0) {ρ : Int32 × Mem} (E : jEI Γ cX2_outcome ρ.1 ρ.2) (μ : Mem) (h : f_X2_outcome b0 μ = some ρ) : jJ Γ 3 0 [(0, .ref b0)] [] μ := by
  unfold f_X2_outcome at h
  refine j_iconst (v := (nI 0)) C dX2_outcome_0 rfl (by decide) ?_
  refine j_istore_n (lv' := [(1, .int (nI 0)), (0, .ref b0)]) C dX2_outcome_1 rfl (by decide) rfl ?_
  refine j_iconst (v := (nI 0)) C dX2_outcome_2 rfl (by decide) ?_
  refine j_istore_n (lv' := [(2, .int (nI 0)), (1, .int (nI 0)), (0, .ref b0)]) C dX2_outcome_3 rfl (by decide) rfl ?_
  refine j_lv [2, 1, 0] rfl ?_
  exact w_X2_outcome_4 C hb0 E zfu (nI 0) (nI 0) μ h
set_option maxRecDepth 100000 in
theorem c_X2_outcome (l : Launch) (D : va_G) (ad : Nat → Nat) (cl : Nat → ClassId) {b0 : Nat} (hb0 : isNight b0) (μ : Mem) (ρ : Int32 × Mem) (h : f_X2_outcome b0 μ = some ρ) : CI l D ad cl yX2_outcome wsX2_outcome rmX2_outcome [.ref b0] μ ρ.1 ρ.2 := c_ofI (cc := cX2_outcome) (nL := 3) rfl (by decide) (Nat.le_of_ble_eq_true rfl) (fun Γ C E => w_X2_outcome C hb0 E μ h)
theorem gvX2_101 : jm_gv RX2 101 RX2 yX2_allWaiting wsX2_allWaiting 3 0 := ⟨_, _, gi_V gwt3_212 gwt3_123 gwt3_124 gwt1_3 gwt3_125, rfl, by decide +kernel⟩
/-! X2_isStill -/
def wsX2_isStill : List Cond := .code yX2_isStill cX2_isStill 2 (some .boolean) :: G0
def rmX2_isStill : Room := { frames := 2, cells := 0, slots := 0, locals := 42 }
def f_X2_isStill_55 (b0 : Nat) (μ : Mem) : Option (Int32 × Mem) := Option.bind (f_X2_allWaiting b0 μ) fun p1_ => (if p1_.1 = 0 then some ((nI 1), p1_.2) else some ((nI 0), p1_.2))
set_option maxHeartbeats 4000000 in
set_option maxRecDepth 100000 in
theorem w_X2_isStill_55 {Γ : jG} (C : jC Γ 2 cX2_isStill RX2 rmX2_isStill) {b0 : Nat} (hb0 : isNight b0) {ρ : Int32 × Mem} (E : (isB ρ.1 = true → jEI Γ cX2_isStill ρ.1 ρ.2)) (μ : Mem) (h : f_X2_isStill_55 b0 μ = some ρ) : jJ Γ 2 55 [(0, .ref b0)] [] μ := by
  unfold f_X2_isStill_55 at h
  refine j_aload_n C dX2_isStill_55 rfl 0 rfl ?_
  replace h := bd_e h
  obtain ⟨p1_, h2_, h⟩ := h
  refine j_cVI (av := []) (rest := []) C dX2_isStill_56 rfl (c_X2_allWaiting _ _ _ _ hb0 μ p1_ h2_) gvX2_101 ⟨⟨rfl, rfl⟩, Nat.le_of_ble_eq_true rfl, Nat.le_of_ble_eq_true rfl⟩ rfl (isN_0 hb0) rfl rfl (Nat.le_of_ble_eq_true rfl) ?_
  refine j_if_ne (tgt := 66) C dX2_isStill_59 rfl (by decide) (fun c3_ => ?_) (fun c3_ => ?_)
  · replace h := if_f h c3_
    refine j_iconst (v := (nI 0)) C dX2_isStill_66 rfl (by decide) ?_
    obtain rfl := Option.some.inj h
    exact j_iret (E isB_0) dX2_isStill_67
  · replace h := if_t h c3_
    refine j_iconst (v := (nI 1)) C dX2_isStill_62 rfl (by decide) ?_
    refine j_goto (pc' := 67) C dX2_isStill_63 (by decide) ?_
    obtain rfl := Option.some.inj h
    exact j_iret (E isB_1) dX2_isStill_67
def f_X2_isStill_49 (b0 : Nat) (kb11 : Int32 → Mem → Option (Int32 × Mem)) (kx55 : Mem → Option (Int32 × Mem)) (x1 : Int32) (μ : Mem) : Option (Int32 × Mem) := kb11 (x1 + (nI 1)) μ
set_option maxHeartbeats 4000000 in
set_option maxRecDepth 100000 in
theorem w_X2_isStill_49 {Γ : jG} (C : jC Γ 2 cX2_isStill RX2 rmX2_isStill) {b0 : Nat} (hb0 : isNight b0) {kb11 : Int32 → Mem → Option (Int32 × Mem)} {kx55 : Mem → Option (Int32 × Mem)} {ρ : Int32 × Mem} (E : (isB ρ.1 = true → jEI Γ cX2_isStill ρ.1 ρ.2)) (Hkb11 : ∀ (x1 : Int32) (μ : Mem), kb11 x1 μ = some ρ → jJ Γ 2 11 [(0, .ref b0), (1, .int x1)] [] μ) (Hkx55 : ∀ (μ : Mem), kx55 μ = some ρ → jJ Γ 2 55 [(0, .ref b0)] [] μ) (x1 : Int32) (μ : Mem) (h : f_X2_isStill_49 b0 kb11 kx55 x1 μ = some ρ) : jJ Γ 2 49 [(0, .ref b0), (1, .int x1)] [] μ := by
  unfold f_X2_isStill_49 at h
  refine j_iinc (d := (nI 1)) (v := x1 + (nI 1)) (lv' := [(1, .int (x1 + (nI 1))), (0, .ref b0)]) C dX2_isStill_49 rfl (by decide) 1 rfl (by decide) rfl rfl ?_
  refine j_goto (pc' := 11) C dX2_isStill_52 (by decide) ?_
  refine j_lv [1, 0] rfl ?_
  exact (Hkb11) (x1 + (nI 1)) μ h
def f_X2_isStill_11 (b0 : Nat) (kx55 : Mem → Option (Int32 × Mem)) : Nat → Int32 → Mem → Option (Int32 × Mem)
  | 0, _, _ => none
  | n + 1, x1, μ => (if (μ.1 b0 0) ≤ x1 then kx55 μ else gd (inb x1 9) <| (if (μ.1 (b0 + 5) (Int32.toNatClampNeg x1)) ≤ (μ.1 (b0 + 4) (Int32.toNatClampNeg x1)) then f_X2_isStill_49 b0 (fun x1 μ => f_X2_isStill_11 b0 kx55 n x1 μ) kx55 x1 μ else (if (μ.1 (b0 + 5) (Int32.toNatClampNeg x1)) < (μ.1 b0 1) then f_X2_isStill_49 b0 (fun x1 μ => f_X2_isStill_11 b0 kx55 n x1 μ) kx55 x1 μ else some ((nI 0), μ))))
set_option maxHeartbeats 4000000 in
set_option maxRecDepth 100000 in
theorem w_X2_isStill_11 {Γ : jG} (C : jC Γ 2 cX2_isStill RX2 rmX2_isStill) {b0 : Nat} (hb0 : isNight b0) {kx55 : Mem → Option (Int32 × Mem)} {ρ : Int32 × Mem} (E : (isB ρ.1 = true → jEI Γ cX2_isStill ρ.1 ρ.2)) (Hkx55 : ∀ (μ : Mem), kx55 μ = some ρ → jJ Γ 2 55 [(0, .ref b0)] [] μ) : ∀ (n : Nat) (x1 : Int32) (μ : Mem), f_X2_isStill_11 b0 kx55 n x1 μ = some ρ → jJ Γ 2 11 [(0, .ref b0), (1, .int x1)] [] μ := by
  intro n
  induction n with
  | zero => intro x1 μ h; rw [f_X2_isStill_11] at h; cases h
  | succ n ih =>
    intro x1 μ h
    rw [f_X2_isStill_11] at h
    refine j_iload_n C dX2_isStill_11 rfl 1 rfl ?_
    refine j_aload_n C dX2_isStill_12 rfl 0 rfl ?_
    refine j_getI C dX2_isStill_13 rfl lkX2_9 (isN_0 hb0) rfl ?_
    refine j_icmp_ge (tgt := 55) C dX2_isStill_16 rfl (by decide) (fun c1_ => ?_) (fun c1_ => ?_)
    · replace h := if_t h c1_
      refine j_lv [0] rfl ?_
      exact (Hkx55) μ h
    · replace h := if_f h c1_
      refine j_aload_n C dX2_isStill_19 rfl 0 rfl ?_
      refine j_getR (c := b0 + 4) C dX2_isStill_20 rfl lkX2_44 (isN_0 hb0) rfl ?_
      refine j_iload_n C dX2_isStill_23 rfl 1 rfl ?_
      replace h := gd_e h
      obtain ⟨g2_, h⟩ := h
      refine j_iald C dX2_isStill_24 rfl (isN_a4 hb0) g2_ ?_
      refine j_aload_n C dX2_isStill_25 rfl 0 rfl ?_
      refine j_getR (c := b0 + 5) C dX2_isStill_26 rfl lkX2_47 (isN_0 hb0) rfl ?_
      refine j_iload_n C dX2_isStill_29 rfl 1 rfl ?_
      refine j_iald C dX2_isStill_30 rfl (isN_a5 hb0) g2_ ?_
      refine j_icmp_ge (tgt := 49) C dX2_isStill_31 rfl (by decide) (fun c3_ => ?_) (fun c3_ => ?_)
      · replace h := if_t h c3_
        refine j_lv [0, 1] rfl ?_
        exact w_X2_isStill_49 C hb0 E ih Hkx55 x1 μ h
      · replace h := if_f h c3_
        refine j_aload_n C dX2_isStill_34 rfl 0 rfl ?_
        refine j_getR (c := b0 + 5) C dX2_isStill_35 rfl lkX2_47 (isN_0 hb0) rfl ?_
        refine j_iload_n C dX2_isStill_38 rfl 1 rfl ?_
        refine j_iald C dX2_isStill_39 rfl (isN_a5 hb0) g2_ ?_
        refine j_aload_n C dX2_isStill_40 rfl 0 rfl ?_
        refine j_getI C dX2_isStill_41 rfl lkX2_15 (isN_0 hb0) rfl ?_
        refine j_icmp_lt (tgt := 49) C dX2_isStill_44 rfl (by decide) (fun c4_ => ?_) (fun c4_ => ?_)
        · replace h := if_t h c4_
          refine j_lv [0, 1] rfl ?_
          exact w_X2_isStill_49 C hb0 E ih Hkx55 x1 μ h
        · replace h := if_f h c4_
          refine j_iconst (v := (nI 0)) C dX2_isStill_47 rfl (by decide) ?_
          obtain rfl := Option.some.inj h
          exact j_iret (E isB_0) dX2_isStill_48
def f_X2_isStill (b0 : Nat) (μ : Mem) : Option (Int32 × Mem) := (if (μ.1 b0 6) = 0 then f_X2_isStill_11 b0 (fun μ => f_X2_isStill_55 b0 μ) zfu (nI 0) μ else some ((nI 0), μ))
set_option maxHeartbeats 4000000 in
set_option maxRecDepth 100000 in
theorem w_X2_isStill {Γ : jG} (C : jC Γ 2 cX2_isStill RX2 rmX2_isStill) {b0 : Nat} (hb0 : isNight b0) {ρ : Int32 × Mem} (E : (isB ρ.1 = true → jEI Γ cX2_isStill ρ.1 ρ.2)) (μ : Mem) (h : f_X2_isStill b0 μ = some ρ) : jJ Γ 2 0 [(0, .ref b0)] [] μ := by
  unfold f_X2_isStill at h
  refine j_aload_n C dX2_isStill_0 rfl 0 rfl ?_
  refine j_getI C dX2_isStill_1 rfl lkX2_30 (isN_0 hb0) rfl ?_
  refine j_if_eq (tgt := 9) C dX2_isStill_4 rfl (by decide) (fun c1_ => ?_) (fun c1_ => ?_)
  · replace h := if_t h c1_
    refine j_iconst (v := (nI 0)) C dX2_isStill_9 rfl (by decide) ?_
    refine j_istore_n (lv' := [(1, .int (nI 0)), (0, .ref b0)]) C dX2_isStill_10 rfl (by decide) rfl ?_
    refine j_lv [1, 0] rfl ?_
    exact w_X2_isStill_11 C hb0 E (fun μ h => w_X2_isStill_55 C hb0 E μ h) zfu (nI 0) μ h
  · replace h := if_f h c1_
    refine j_iconst (v := (nI 0)) C dX2_isStill_7 rfl (by decide) ?_
    obtain rfl := Option.some.inj h
    exact j_iret (E isB_0) dX2_isStill_8
set_option maxRecDepth 100000 in
theorem c_X2_isStill (l : Launch) (D : va_G) (ad : Nat → Nat) (cl : Nat → ClassId) {b0 : Nat} (hb0 : isNight b0) (μ : Mem) (ρ : Int32 × Mem) (h : f_X2_isStill b0 μ = some ρ) : CI l D ad cl yX2_isStill wsX2_isStill rmX2_isStill [.ref b0] μ ρ.1 ρ.2 := c_ofZ (cc := cX2_isStill) (nL := 2) rfl (by decide) (Nat.le_of_ble_eq_true rfl) (fun Γ C E => w_X2_isStill C hb0 E μ h)
theorem gvX2_108 : jm_gv RX2 108 RX2 yX2_isDark wsX2_isDark 2 1 := ⟨_, _, gi_V gwt3_138 gwt2_88 gwt2_89 gwt1_3 gwt2_90, rfl, by decide +kernel⟩
/-! X2_hear -/
def wsX2_hear : List Cond := .code yX2_hear cX2_hear 5 none :: G0
def rmX2_hear : Room := { frames := 1, cells := 0, slots := 0, locals := 21 }
def f_X2_hear (b0 : Nat) (a1 : Int32) (μ : Mem) : Option (Mem) := Option.bind (f_X2_ringPlace (μ.1 b0 4) a1 μ) fun p1_ => gd (inb (nI 0) 2) <| gd (inb p1_.1 171) <| zl (p1_.2.1 (b0 + 20 + (Int32.toNatClampNeg (nI 0))) (Int32.toNatClampNeg p1_.1)) fun x5_ => gd (inb (nI 1) 2) <| zl (p1_.2.1 (b0 + 20 + (Int32.toNatClampNeg (nI 1))) (Int32.toNatClampNeg p1_.1)) fun x8_ => zl (sI p1_.2 (b0 + 20 + (Int32.toNatClampNeg (nI 0))) (Int32.toNatClampNeg p1_.1) (nI 0)) fun μ10_ => zl (sI μ10_ (b0 + 20 + (Int32.toNatClampNeg (nI 1))) (Int32.toNatClampNeg p1_.1) (nI 0)) fun μ12_ => Option.bind (f_X2_isDark b0 a1 μ12_) fun p14_ => (if p14_.1 = 0 then gd (inb a1 9) <| zl (sI p14_.2 (b0 + 17 + (Int32.toNatClampNeg (nI 0))) (Int32.toNatClampNeg a1) (((p14_.2.1 (b0 + 17 + (Int32.toNatClampNeg (nI 0))) (Int32.toNatClampNeg a1)) &&& (x8_ ^^^ (-1))) ||| x5_)) fun μ18_ => zl (sI μ18_ (b0 + 17 + (Int32.toNatClampNeg (nI 1))) (Int32.toNatClampNeg a1) (((μ18_.1 (b0 + 17 + (Int32.toNatClampNeg (nI 1))) (Int32.toNatClampNeg a1)) &&& (x5_ ^^^ (-1))) ||| x8_)) fun μ20_ => some μ20_ else some p14_.2)
set_option maxHeartbeats 4000000 in
set_option maxRecDepth 100000 in
theorem w_X2_hear {Γ : jG} (C : jC Γ 5 cX2_hear RX2 rmX2_hear) {b0 : Nat} {a1 : Int32} (hb0 : isNight b0) {ρ : Mem} (E : jEV Γ cX2_hear ρ) (μ : Mem) (h : f_X2_hear b0 a1 μ = some ρ) : jJ Γ 5 0 [(0, .ref b0), (1, .int a1)] [] μ := by
  unfold f_X2_hear at h
  refine j_aload_n C dX2_hear_0 rfl 0 rfl ?_
  refine j_getI C dX2_hear_1 rfl lkX2_24 (isN_0 hb0) rfl ?_
  refine j_iload_n C dX2_hear_4 rfl 1 rfl ?_
  replace h := bd_e h
  obtain ⟨p1_, h2_, h⟩ := h
  refine j_cSI (av := [.int (μ.1 b0 4), .int a1]) (rest := []) C dX2_hear_5 rfl (c_X2_ringPlace _ _ _ _ μ p1_ h2_) gsX2_73 ⟨⟨rfl, rfl⟩, Nat.le_of_ble_eq_true rfl, Nat.le_of_ble_eq_true rfl⟩ rfl rfl (Nat.le_of_ble_eq_true rfl) ?_
  refine j_istore_n (lv' := [(2, .int p1_.1), (0, .ref b0), (1, .int a1)]) C dX2_hear_8 rfl (by decide) rfl ?_
  refine j_aload_n C dX2_hear_9 rfl 1 rfl ?_
  refine j_getR (c := b0 + 19) C dX2_hear_10 rfl lkX2_58 (isN_0 hb0) rfl ?_
  refine j_iconst (v := (nI 0)) C dX2_hear_13 rfl (by decide) ?_
  replace h := gd_e h
  obtain ⟨g3_, h⟩ := h
  refine j_aald C dX2_hear_14 rfl (Or.inl rfl) (isN_a19 hb0) g3_ ?_
  refine j_iload_n C dX2_hear_15 rfl 0 rfl ?_
  replace h := gd_e h
  obtain ⟨g4_, h⟩ := h
  refine j_iald C dX2_hear_16 rfl (isN_rg hb0 g3_) g4_ ?_
  refine j_topi (fun x5_ e6_ => ?_)
  replace h := zl_u h e6_
  refine j_istore_n (lv' := [(3, .int x5_), (2, .int p1_.1), (0, .ref b0), (1, .int a1)]) C dX2_hear_17 rfl (by decide) rfl ?_
  refine j_aload_n C dX2_hear_18 rfl 2 rfl ?_
  refine j_getR (c := b0 + 19) C dX2_hear_19 rfl lkX2_58 (isN_0 hb0) rfl ?_
  refine j_iconst (v := (nI 1)) C dX2_hear_22 rfl (by decide) ?_
  replace h := gd_e h
  obtain ⟨g7_, h⟩ := h
  refine j_aald C dX2_hear_23 rfl (Or.inl rfl) (isN_a19 hb0) g7_ ?_
  refine j_iload_n C dX2_hear_24 rfl 1 rfl ?_
  refine j_iald C dX2_hear_25 rfl (isN_rg hb0 g7_) g4_ ?_
  refine j_topi (fun x8_ e9_ => ?_)
  replace h := zl_u h e9_
  refine j_istore (lv' := [(4, .int x8_), (3, .int x5_), (2, .int p1_.1), (0, .ref b0), (1, .int a1)]) C dX2_hear_26 rfl (by decide) rfl ?_
  refine j_aload_n C dX2_hear_28 rfl 3 rfl ?_
  refine j_getR (c := b0 + 19) C dX2_hear_29 rfl lkX2_58 (isN_0 hb0) rfl ?_
  refine j_iconst (v := (nI 0)) C dX2_hear_32 rfl (by decide) ?_
  refine j_aald C dX2_hear_33 rfl (Or.inl rfl) (isN_a19 hb0) g3_ ?_
  refine j_iload_n C dX2_hear_34 rfl 2 rfl ?_
  refine j_iconst (v := (nI 0)) C dX2_hear_35 rfl (by decide) ?_
  refine j_iast C dX2_hear_36 rfl (isN_rg hb0 g3_) g4_ ?_
  refine j_mem (fun μ10_ e11_ => ?_)
  replace h := zl_u h e11_
  refine j_aload_n C dX2_hear_37 rfl 3 rfl ?_
  refine j_getR (c := b0 + 19) C dX2_hear_38 rfl lkX2_58 (isN_0 hb0) rfl ?_
  refine j_iconst (v := (nI 1)) C dX2_hear_41 rfl (by decide) ?_
  refine j_aald C dX2_hear_42 rfl (Or.inl rfl) (isN_a19 hb0) g7_ ?_
  refine j_iload_n C dX2_hear_43 rfl 2 rfl ?_
  refine j_iconst (v := (nI 0)) C dX2_hear_44 rfl (by decide) ?_
  refine j_iast C dX2_hear_45 rfl (isN_rg hb0 g7_) g4_ ?_
  refine j_mem (fun μ12_ e13_ => ?_)
  replace h := zl_u h e13_
  refine j_aload_n C dX2_hear_46 rfl 3 rfl ?_
  refine j_iload_n C dX2_hear_47 rfl 4 rfl ?_
  replace h := bd_e h
  obtain ⟨p14_, h15_, h⟩ := h
  refine j_cVI (av := [.int a1]) (rest := []) C dX2_hear_48 rfl (c_X2_isDark _ _ _ _ hb0 μ12_ p14_ h15_) gvX2_108 ⟨⟨rfl, rfl⟩, Nat.le_of_ble_eq_true rfl, Nat.le_of_ble_eq_true rfl⟩ rfl (isN_0 hb0) rfl rfl (Nat.le_of_ble_eq_true rfl) ?_
  refine j_if_ne (tgt := 100) C dX2_hear_51 rfl (by decide) (fun c16_ => ?_) (fun c16_ => ?_)
  · replace h := if_f h c16_
    obtain rfl := Option.some.inj h
    exact j_vret E dX2_hear_100
  · replace h := if_t h c16_
    refine j_aload_n C dX2_hear_54 rfl 3 rfl ?_
    refine j_getR (c := b0 + 16) C dX2_hear_55 rfl lkX2_55 (isN_0 hb0) rfl ?_
    refine j_iconst (v := (nI 0)) C dX2_hear_58 rfl (by decide) ?_
    refine j_aald C dX2_hear_59 rfl (Or.inl rfl) (isN_a16 hb0) g3_ ?_
    refine j_iload_n C dX2_hear_60 rfl 4 rfl ?_
    refine j_aload_n C dX2_hear_61 rfl 3 rfl ?_
    refine j_getR (c := b0 + 16) C dX2_hear_62 rfl lkX2_55 (isN_0 hb0) rfl ?_
    refine j_iconst (v := (nI 0)) C dX2_hear_65 rfl (by decide) ?_
    refine j_aald C dX2_hear_66 rfl (Or.inl rfl) (isN_a16 hb0) g3_ ?_
    refine j_iload_n C dX2_hear_67 rfl 4 rfl ?_
    replace h := gd_e h
    obtain ⟨g17_, h⟩ := h
    refine j_iald C dX2_hear_68 rfl (isN_hs hb0 g3_) g17_ ?_
    refine j_iload C dX2_hear_69 rfl 0 rfl ?_
    refine j_iconst (v := (-1)) C dX2_hear_71 rfl (by decide) ?_
    refine j_ixor C dX2_hear_72 rfl ?_
    refine j_iand C dX2_hear_73 rfl ?_
    refine j_iload_n C dX2_hear_74 rfl 1 rfl ?_
    refine j_ior C dX2_hear_75 rfl ?_
    refine j_iast C dX2_hear_76 rfl (isN_hs hb0 g3_) g17_ ?_
    refine j_mem (fun μ18_ e19_ => ?_)
    replace h := zl_u h e19_
    refine j_aload_n C dX2_hear_77 rfl 3 rfl ?_
    refine j_getR (c := b0 + 16) C dX2_hear_78 rfl lkX2_55 (isN_0 hb0) rfl ?_
    refine j_iconst (v := (nI 1)) C dX2_hear_81 rfl (by decide) ?_
    refine j_aald C dX2_hear_82 rfl (Or.inl rfl) (isN_a16 hb0) g7_ ?_
    refine j_iload_n C dX2_hear_83 rfl 4 rfl ?_
    refine j_aload_n C dX2_hear_84 rfl 3 rfl ?_
    refine j_getR (c := b0 + 16) C dX2_hear_85 rfl lkX2_55 (isN_0 hb0) rfl ?_
    refine j_iconst (v := (nI 1)) C dX2_hear_88 rfl (by decide) ?_
    refine j_aald C dX2_hear_89 rfl (Or.inl rfl) (isN_a16 hb0) g7_ ?_
    refine j_iload_n C dX2_hear_90 rfl 4 rfl ?_
    refine j_iald C dX2_hear_91 rfl (isN_hs hb0 g7_) g17_ ?_
    refine j_iload_n C dX2_hear_92 rfl 1 rfl ?_
    refine j_iconst (v := (-1)) C dX2_hear_93 rfl (by decide) ?_
    refine j_ixor C dX2_hear_94 rfl ?_
    refine j_iand C dX2_hear_95 rfl ?_
    refine j_iload C dX2_hear_96 rfl 0 rfl ?_
    refine j_ior C dX2_hear_98 rfl ?_
    refine j_iast C dX2_hear_99 rfl (isN_hs hb0 g7_) g17_ ?_
    refine j_mem (fun μ20_ e21_ => ?_)
    replace h := zl_u h e21_
    obtain rfl := Option.some.inj h
    exact j_vret E dX2_hear_100
set_option maxRecDepth 100000 in
theorem c_X2_hear (l : Launch) (D : va_G) (ad : Nat → Nat) (cl : Nat → ClassId) {b0 : Nat} {a1 : Int32} (hb0 : isNight b0) (μ : Mem) (ρ : Mem) (h : f_X2_hear b0 a1 μ = some ρ) : CV l D ad cl yX2_hear wsX2_hear rmX2_hear [.ref b0, .int a1] μ ρ := c_ofV (cc := cX2_hear) (nL := 5) rfl (by decide) (Nat.le_of_ble_eq_true rfl) (fun Γ C E => w_X2_hear C hb0 E μ h)
/-! X2_believe -/
def wsX2_believe : List Cond := .code yX2_believe cX2_believe 3 none :: G0
def rmX2_believe : Room := { frames := 1, cells := 0, slots := 0, locals := 21 }
def f_X2_believe (b0 : Nat) (a1 : Int32) (a2 : Int32) (μ : Mem) : Option (Mem) := Option.bind (f_X2_believed b0 a1 μ) fun p1_ => (if p1_.1 = a2 then some p1_.2 else gd (inb a2 2) <| gd (inb a1 9) <| zl (sI p1_.2 (b0 + 17 + (Int32.toNatClampNeg a2)) (Int32.toNatClampNeg a1) ((p1_.2.1 (b0 + 17 + (Int32.toNatClampNeg a2)) (Int32.toNatClampNeg a1)) ||| ((nI 1) <<< (a1 &&& 31)))) fun μ6_ => gd (inb ((nI 1) - a2) 2) <| zl (sI μ6_ (b0 + 17 + (Int32.toNatClampNeg ((nI 1) - a2))) (Int32.toNatClampNeg a1) ((μ6_.1 (b0 + 17 + (Int32.toNatClampNeg ((nI 1) - a2))) (Int32.toNatClampNeg a1)) &&& (((nI 1) <<< (a1 &&& 31)) ^^^ (-1)))) fun μ9_ => zl (sI μ9_ b0 6 (nI 1)) fun μ11_ => some μ11_)
set_option maxHeartbeats 4000000 in
set_option maxRecDepth 100000 in
theorem w_X2_believe {Γ : jG} (C : jC Γ 3 cX2_believe RX2 rmX2_believe) {b0 : Nat} {a1 : Int32} {a2 : Int32} (hb0 : isNight b0) {ρ : Mem} (E : jEV Γ cX2_believe ρ) (μ : Mem) (h : f_X2_believe b0 a1 a2 μ = some ρ) : jJ Γ 3 0 [(0, .ref b0), (1, .int a1), (2, .int a2)] [] μ := by
  unfold f_X2_believe at h
  refine j_aload_n C dX2_believe_0 rfl 0 rfl ?_
  refine j_iload_n C dX2_believe_1 rfl 1 rfl ?_
  replace h := bd_e h
  obtain ⟨p1_, h2_, h⟩ := h
  refine j_cVI (av := [.int a1]) (rest := []) C dX2_believe_2 rfl (c_X2_believed _ _ _ _ hb0 μ p1_ h2_) gvX2_98 ⟨⟨rfl, rfl⟩, Nat.le_of_ble_eq_true rfl, Nat.le_of_ble_eq_true rfl⟩ rfl (isN_0 hb0) rfl rfl (Nat.le_of_ble_eq_true rfl) ?_
  refine j_iload_n C dX2_believe_5 rfl 2 rfl ?_
  refine j_icmp_eq (tgt := 46) C dX2_believe_6 rfl (by decide) (fun c3_ => ?_) (fun c3_ => ?_)
  · replace h := if_t h c3_
    obtain rfl := Option.some.inj h
    exact j_vret E dX2_believe_46
  · replace h := if_f h c3_
    refine j_aload_n C dX2_believe_9 rfl 0 rfl ?_
    refine j_getR (c := b0 + 16) C dX2_believe_10 rfl lkX2_55 (isN_0 hb0) rfl ?_
    refine j_iload_n C dX2_believe_13 rfl 2 rfl ?_
    replace h := gd_e h
    obtain ⟨g4_, h⟩ := h
    refine j_aald C dX2_believe_14 rfl (Or.inl rfl) (isN_a16 hb0) g4_ ?_
    refine j_iload_n C dX2_believe_15 rfl 1 rfl ?_
    refine j_dup2 C dX2_believe_16 rfl rfl rfl ?_
    replace h := gd_e h
    obtain ⟨g5_, h⟩ := h
    refine j_iald C dX2_believe_17 rfl (isN_hs hb0 g4_) g5_ ?_
    refine j_iconst (v := (nI 1)) C dX2_believe_18 rfl (by decide) ?_
    refine j_iload_n C dX2_believe_19 rfl 1 rfl ?_
    refine j_ishl C dX2_believe_20 rfl ?_
    refine j_ior C dX2_believe_21 rfl ?_
    refine j_iast C dX2_believe_22 rfl (isN_hs hb0 g4_) g5_ ?_
    refine j_mem (fun μ6_ e7_ => ?_)
    replace h := zl_u h e7_
    refine j_aload_n C dX2_believe_23 rfl 0 rfl ?_
    refine j_getR (c := b0 + 16) C dX2_believe_24 rfl lkX2_55 (isN_0 hb0) rfl ?_
    refine j_iconst (v := (nI 1)) C dX2_believe_27 rfl (by decide) ?_
    refine j_iload_n C dX2_believe_28 rfl 2 rfl ?_
    refine j_isub C dX2_believe_29 rfl ?_
    replace h := gd_e h
    obtain ⟨g8_, h⟩ := h
    refine j_aald C dX2_believe_30 rfl (Or.inl rfl) (isN_a16 hb0) g8_ ?_
    refine j_iload_n C dX2_believe_31 rfl 1 rfl ?_
    refine j_dup2 C dX2_believe_32 rfl rfl rfl ?_
    refine j_iald C dX2_believe_33 rfl (isN_hs hb0 g8_) g5_ ?_
    refine j_iconst (v := (nI 1)) C dX2_believe_34 rfl (by decide) ?_
    refine j_iload_n C dX2_believe_35 rfl 1 rfl ?_
    refine j_ishl C dX2_believe_36 rfl ?_
    refine j_iconst (v := (-1)) C dX2_believe_37 rfl (by decide) ?_
    refine j_ixor C dX2_believe_38 rfl ?_
    refine j_iand C dX2_believe_39 rfl ?_
    refine j_iast C dX2_believe_40 rfl (isN_hs hb0 g8_) g5_ ?_
    refine j_mem (fun μ9_ e10_ => ?_)
    replace h := zl_u h e10_
    refine j_aload_n C dX2_believe_41 rfl 0 rfl ?_
    refine j_iconst (v := (nI 1)) C dX2_believe_42 rfl (by decide) ?_
    refine j_putZ C dX2_believe_43 rfl lpX2_30 (isN_0 hb0) rfl (by decide) ?_
    refine j_mem (fun μ11_ e12_ => ?_)
    replace h := zl_u h e12_
    obtain rfl := Option.some.inj h
    exact j_vret E dX2_believe_46
set_option maxRecDepth 100000 in
theorem c_X2_believe (l : Launch) (D : va_G) (ad : Nat → Nat) (cl : Nat → ClassId) {b0 : Nat} {a1 : Int32} {a2 : Int32} (hb0 : isNight b0) (μ : Mem) (ρ : Mem) (h : f_X2_believe b0 a1 a2 μ = some ρ) : CV l D ad cl yX2_believe wsX2_believe rmX2_believe [.ref b0, .int a1, .int a2] μ ρ := c_ofV (cc := cX2_believe) (nL := 3) rfl (by decide) (Nat.le_of_ble_eq_true rfl) (fun Γ C E => w_X2_believe C hb0 E μ h)
/-! X2_show -/
def wsX2_show : List Cond := .code yX2_show cX2_show 3 none :: G0
def rmX2_show : Room := { frames := 0, cells := 0, slots := 0, locals := 0 }
def f_X2_show (b0 : Nat) (a1 : Int32) (a2 : Int32) (μ : Mem) : Option (Mem) := gd (inb a1 9) <| (if (μ.1 (b0 + 2) (Int32.toNatClampNeg a1)) = (nI 2) then zl (sI μ (b0 + 2) (Int32.toNatClampNeg a1) a2) fun μ3_ => zl (sI μ3_ b0 6 (nI 1)) fun μ5_ => some μ5_ else some μ)
set_option maxHeartbeats 4000000 in
set_option maxRecDepth 100000 in
theorem w_X2_show {Γ : jG} (C : jC Γ 3 cX2_show RX2 rmX2_show) {b0 : Nat} {a1 : Int32} {a2 : Int32} (hb0 : isNight b0) {ρ : Mem} (E : jEV Γ cX2_show ρ) (μ : Mem) (h : f_X2_show b0 a1 a2 μ = some ρ) : jJ Γ 3 0 [(0, .ref b0), (1, .int a1), (2, .int a2)] [] μ := by
  unfold f_X2_show at h
  refine j_aload_n C dX2_show_0 rfl 0 rfl ?_
  refine j_getR (c := b0 + 2) C dX2_show_1 rfl lkX2_38 (isN_0 hb0) rfl ?_
  refine j_iload_n C dX2_show_4 rfl 1 rfl ?_
  replace h := gd_e h
  obtain ⟨g1_, h⟩ := h
  refine j_iald C dX2_show_5 rfl (isN_a2 hb0) g1_ ?_
  refine j_iconst (v := (nI 2)) C dX2_show_6 rfl (by decide) ?_
  refine j_icmp_ne (tgt := 22) C dX2_show_7 rfl (by decide) (fun c2_ => ?_) (fun c2_ => ?_)
  · replace h := if_f h c2_
    obtain rfl := Option.some.inj h
    exact j_vret E dX2_show_22
  · replace h := if_t h c2_
    refine j_aload_n C dX2_show_10 rfl 0 rfl ?_
    refine j_getR (c := b0 + 2) C dX2_show_11 rfl lkX2_38 (isN_0 hb0) rfl ?_
    refine j_iload_n C dX2_show_14 rfl 1 rfl ?_
    refine j_iload_n C dX2_show_15 rfl 2 rfl ?_
    refine j_iast C dX2_show_16 rfl (isN_a2 hb0) g1_ ?_
    refine j_mem (fun μ3_ e4_ => ?_)
    replace h := zl_u h e4_
    refine j_aload_n C dX2_show_17 rfl 0 rfl ?_
    refine j_iconst (v := (nI 1)) C dX2_show_18 rfl (by decide) ?_
    refine j_putZ C dX2_show_19 rfl lpX2_30 (isN_0 hb0) rfl (by decide) ?_
    refine j_mem (fun μ5_ e6_ => ?_)
    replace h := zl_u h e6_
    obtain rfl := Option.some.inj h
    exact j_vret E dX2_show_22
set_option maxRecDepth 100000 in
theorem c_X2_show (l : Launch) (D : va_G) (ad : Nat → Nat) (cl : Nat → ClassId) {b0 : Nat} {a1 : Int32} {a2 : Int32} (hb0 : isNight b0) (μ : Mem) (ρ : Mem) (h : f_X2_show b0 a1 a2 μ = some ρ) : CV l D ad cl yX2_show wsX2_show rmX2_show [.ref b0, .int a1, .int a2] μ ρ := c_ofV (cc := cX2_show) (nL := 3) rfl (by decide) (Nat.le_of_ble_eq_true rfl) (fun Γ C E => w_X2_show C hb0 E μ h)
/-! X2_send -/
def wsX2_send : List Cond := .code yX2_send cX2_send 7 none :: G0
def rmX2_send : Room := { frames := 0, cells := 0, slots := 0, locals := 0 }
def f_X2_send_63 (b0 : Nat) (a1 : Int32) (a2 : Int32) (a3 : Int32) (a4 : Int32) (x5 : Int32) (μ : Mem) : Option (Mem) := zl (((((μ.1 b0 4) + x5) - ((μ.1 b0 4) + x5) / (nI 19) * (nI 19)) * (nI 9)) + a2) fun x1_ => gd (inb a3 2) <| gd (inb x1_ 171) <| zl (sI μ (b0 + 20 + (Int32.toNatClampNeg a3)) (Int32.toNatClampNeg x1_) ((μ.1 (b0 + 20 + (Int32.toNatClampNeg a3)) (Int32.toNatClampNeg x1_)) ||| ((nI 1) <<< (a1 &&& 31)))) fun μ5_ => gd (inb ((nI 1) - a3) 2) <| zl (sI μ5_ (b0 + 20 + (Int32.toNatClampNeg ((nI 1) - a3))) (Int32.toNatClampNeg x1_) ((μ5_.1 (b0 + 20 + (Int32.toNatClampNeg ((nI 1) - a3))) (Int32.toNatClampNeg x1_)) &&& (((nI 1) <<< (a1 &&& 31)) ^^^ (-1)))) fun μ8_ => some μ8_
set_option maxHeartbeats 4000000 in
set_option maxRecDepth 100000 in
theorem w_X2_send_63 {Γ : jG} (C : jC Γ 7 cX2_send RX2 rmX2_send) {b0 : Nat} {a1 : Int32} {a2 : Int32} {a3 : Int32} {a4 : Int32} (hb0 : isNight b0) {ρ : Mem} (E : jEV Γ cX2_send ρ) (x5 : Int32) (μ : Mem) (h : f_X2_send_63 b0 a1 a2 a3 a4 x5 μ = some ρ) : jJ Γ 7 63 [(0, .ref b0), (1, .int a1), (2, .int a2), (3, .int a3), (5, .int x5)] [] μ := by
  unfold f_X2_send_63 at h
  refine j_aload_n C dX2_send_63 rfl 0 rfl ?_
  refine j_getI C dX2_send_64 rfl lkX2_24 (isN_0 hb0) rfl ?_
  refine j_iload C dX2_send_67 rfl 4 rfl ?_
  refine j_iadd C dX2_send_69 rfl ?_
  refine j_bipush (v := (nI 19)) C dX2_send_70 rfl (by decide) ?_
  refine j_irem C dX2_send_72 rfl (by decide) ?_
  refine j_bipush (v := (nI 9)) C dX2_send_73 rfl (by decide) ?_
  refine j_imul C dX2_send_75 rfl ?_
  refine j_iload_n C dX2_send_76 rfl 2 rfl ?_
  refine j_iadd C dX2_send_77 rfl ?_
  refine j_topi (fun x1_ e2_ => ?_)
  replace h := zl_u h e2_
  refine j_istore (lv' := [(6, .int x1_), (0, .ref b0), (1, .int a1), (2, .int a2), (3, .int a3), (5, .int x5)]) C dX2_send_78 rfl (by decide) rfl ?_
  refine j_aload_n C dX2_send_80 rfl 1 rfl ?_
  refine j_getR (c := b0 + 19) C dX2_send_81 rfl lkX2_58 (isN_0 hb0) rfl ?_
  refine j_iload_n C dX2_send_84 rfl 4 rfl ?_
  replace h := gd_e h
  obtain ⟨g3_, h⟩ := h
  refine j_aald C dX2_send_85 rfl (Or.inl rfl) (isN_a19 hb0) g3_ ?_
  refine j_iload C dX2_send_86 rfl 0 rfl ?_
  refine j_dup2 C dX2_send_88 rfl rfl rfl ?_
  replace h := gd_e h
  obtain ⟨g4_, h⟩ := h
  refine j_iald C dX2_send_89 rfl (isN_rg hb0 g3_) g4_ ?_
  refine j_iconst (v := (nI 1)) C dX2_send_90 rfl (by decide) ?_
  refine j_iload_n C dX2_send_91 rfl 2 rfl ?_
  refine j_ishl C dX2_send_92 rfl ?_
  refine j_ior C dX2_send_93 rfl ?_
  refine j_iast C dX2_send_94 rfl (isN_rg hb0 g3_) g4_ ?_
  refine j_mem (fun μ5_ e6_ => ?_)
  replace h := zl_u h e6_
  refine j_aload_n C dX2_send_95 rfl 1 rfl ?_
  refine j_getR (c := b0 + 19) C dX2_send_96 rfl lkX2_58 (isN_0 hb0) rfl ?_
  refine j_iconst (v := (nI 1)) C dX2_send_99 rfl (by decide) ?_
  refine j_iload_n C dX2_send_100 rfl 4 rfl ?_
  refine j_isub C dX2_send_101 rfl ?_
  replace h := gd_e h
  obtain ⟨g7_, h⟩ := h
  refine j_aald C dX2_send_102 rfl (Or.inl rfl) (isN_a19 hb0) g7_ ?_
  refine j_iload C dX2_send_103 rfl 0 rfl ?_
  refine j_dup2 C dX2_send_105 rfl rfl rfl ?_
  refine j_iald C dX2_send_106 rfl (isN_rg hb0 g7_) g4_ ?_
  refine j_iconst (v := (nI 1)) C dX2_send_107 rfl (by decide) ?_
  refine j_iload_n C dX2_send_108 rfl 2 rfl ?_
  refine j_ishl C dX2_send_109 rfl ?_
  refine j_iconst (v := (-1)) C dX2_send_110 rfl (by decide) ?_
  refine j_ixor C dX2_send_111 rfl ?_
  refine j_iand C dX2_send_112 rfl ?_
  refine j_iast C dX2_send_113 rfl (isN_rg hb0 g7_) g4_ ?_
  refine j_mem (fun μ8_ e9_ => ?_)
  replace h := zl_u h e9_
  obtain rfl := Option.some.inj h
  exact j_vret E dX2_send_114
def f_X2_send_47 (b0 : Nat) (a1 : Int32) (a2 : Int32) (a3 : Int32) (a4 : Int32) (x5 : Int32) (μ : Mem) : Option (Mem) := gd (inb a1 9) <| (if (μ.1 (b0 + 1) (Int32.toNatClampNeg a1)) = (nI 3) then zl (x5 * (nI 2)) fun x3_ => f_X2_send_63 b0 a1 a2 a3 a4 x3_ μ else f_X2_send_63 b0 a1 a2 a3 a4 x5 μ)
set_option maxHeartbeats 4000000 in
set_option maxRecDepth 100000 in
theorem w_X2_send_47 {Γ : jG} (C : jC Γ 7 cX2_send RX2 rmX2_send) {b0 : Nat} {a1 : Int32} {a2 : Int32} {a3 : Int32} {a4 : Int32} (hb0 : isNight b0) {ρ : Mem} (E : jEV Γ cX2_send ρ) (x5 : Int32) (μ : Mem) (h : f_X2_send_47 b0 a1 a2 a3 a4 x5 μ = some ρ) : jJ Γ 7 47 [(0, .ref b0), (1, .int a1), (2, .int a2), (3, .int a3), (5, .int x5)] [] μ := by
  unfold f_X2_send_47 at h
  refine j_aload_n C dX2_send_47 rfl 0 rfl ?_
  refine j_getR (c := b0 + 1) C dX2_send_48 rfl lkX2_34 (isN_0 hb0) rfl ?_
  refine j_iload_n C dX2_send_51 rfl 1 rfl ?_
  replace h := gd_e h
  obtain ⟨g1_, h⟩ := h
  refine j_iald C dX2_send_52 rfl (isN_a1 hb0) g1_ ?_
  refine j_iconst (v := (nI 3)) C dX2_send_53 rfl (by decide) ?_
  refine j_icmp_ne (tgt := 63) C dX2_send_54 rfl (by decide) (fun c2_ => ?_) (fun c2_ => ?_)
  · replace h := if_f h c2_
    refine j_lv [0, 1, 2, 3, 4] rfl ?_
    exact w_X2_send_63 C hb0 E x5 μ h
  · replace h := if_t h c2_
    refine j_iload C dX2_send_57 rfl 4 rfl ?_
    refine j_iconst (v := (nI 2)) C dX2_send_59 rfl (by decide) ?_
    refine j_imul C dX2_send_60 rfl ?_
    refine j_topi (fun x3_ e4_ => ?_)
    replace h := zl_u h e4_
    refine j_istore (lv' := [(5, .int x3_), (0, .ref b0), (1, .int a1), (2, .int a2), (3, .int a3)]) C dX2_send_61 rfl (by decide) rfl ?_
    refine j_lv [1, 2, 3, 4, 0] rfl ?_
    exact w_X2_send_63 C hb0 E x3_ μ h
def f_X2_send (b0 : Nat) (a1 : Int32) (a2 : Int32) (a3 : Int32) (a4 : Int32) (μ : Mem) : Option (Mem) := gd (inb a1 9) <| gd (inb a2 9) <| zl (μ.1 (b0 + 7 + (Int32.toNatClampNeg a1)) (Int32.toNatClampNeg a2)) fun x3_ => (if a4 = 0 then f_X2_send_47 b0 a1 a2 a3 a4 x3_ μ else zl (sI μ b0 3 ((((μ.1 b0 3) * (nI 1103515245)) + (nI 12345)) &&& (nI 2147483647))) fun μ6_ => zl ((((μ6_.1 b0 3) >>> ((nI 16) &&& 31)) - ((μ6_.1 b0 3) >>> ((nI 16) &&& 31)) / (nI 9) * (nI 9)) + (nI 1)) fun x8_ => f_X2_send_47 b0 a1 a2 a3 a4 x8_ μ6_)
set_option maxHeartbeats 4000000 in
set_option maxRecDepth 100000 in
theorem w_X2_send {Γ : jG} (C : jC Γ 7 cX2_send RX2 rmX2_send) {b0 : Nat} {a1 : Int32} {a2 : Int32} {a3 : Int32} {a4 : Int32} (hb0 : isNight b0) {ρ : Mem} (E : jEV Γ cX2_send ρ) (μ : Mem) (h : f_X2_send b0 a1 a2 a3 a4 μ = some ρ) : jJ Γ 7 0 [(0, .ref b0), (1, .int a1), (2, .int a2), (3, .int a3), (4, .int a4)] [] μ := by
  unfold f_X2_send at h
  refine j_aload_n C dX2_send_0 rfl 0 rfl ?_
  refine j_getR (c := b0 + 6) C dX2_send_1 rfl lkX2_52 (isN_0 hb0) rfl ?_
  refine j_iload_n C dX2_send_4 rfl 1 rfl ?_
  replace h := gd_e h
  obtain ⟨g1_, h⟩ := h
  refine j_aald C dX2_send_5 rfl (Or.inl rfl) (isN_a6 hb0) g1_ ?_
  refine j_iload_n C dX2_send_6 rfl 2 rfl ?_
  replace h := gd_e h
  obtain ⟨g2_, h⟩ := h
  refine j_iald C dX2_send_7 rfl (isN_dl hb0 g1_) g2_ ?_
  refine j_topi (fun x3_ e4_ => ?_)
  replace h := zl_u h e4_
  refine j_istore (lv' := [(5, .int x3_), (0, .ref b0), (1, .int a1), (2, .int a2), (3, .int a3), (4, .int a4)]) C dX2_send_8 rfl (by decide) rfl ?_
  refine j_iload C dX2_send_10 rfl 5 rfl ?_
  refine j_if_eq (tgt := 47) C dX2_send_12 rfl (by decide) (fun c5_ => ?_) (fun c5_ => ?_)
  · replace h := if_t h c5_
    refine j_lv [1, 2, 3, 4, 0] rfl ?_
    exact w_X2_send_47 C hb0 E x3_ μ h
  · replace h := if_f h c5_
    refine j_aload_n C dX2_send_15 rfl 1 rfl ?_
    refine j_aload_n C dX2_send_16 rfl 1 rfl ?_
    refine j_getI C dX2_send_17 rfl lkX2_21 (isN_0 hb0) rfl ?_
    refine j_ldc (v := (nI 1103515245)) C dX2_send_20 rfl gwt3_156 ?_
    refine j_imul C dX2_send_22 rfl ?_
    refine j_sipush (v := (nI 12345)) C dX2_send_23 rfl (by decide) ?_
    refine j_iadd C dX2_send_26 rfl ?_
    refine j_ldc (v := (nI 2147483647)) C dX2_send_27 rfl gwt3_157 ?_
    refine j_iand C dX2_send_29 rfl ?_
    refine j_putI C dX2_send_30 rfl lpX2_21 (isN_0 hb0) rfl ?_
    refine j_mem (fun μ6_ e7_ => ?_)
    replace h := zl_u h e7_
    refine j_aload_n C dX2_send_33 rfl 1 rfl ?_
    refine j_getI C dX2_send_34 rfl lkX2_21 (isN_0 hb0) rfl ?_
    refine j_bipush (v := (nI 16)) C dX2_send_37 rfl (by decide) ?_
    refine j_ishr C dX2_send_39 rfl ?_
    refine j_bipush (v := (nI 9)) C dX2_send_40 rfl (by decide) ?_
    refine j_irem C dX2_send_42 rfl (by decide) ?_
    refine j_iconst (v := (nI 1)) C dX2_send_43 rfl (by decide) ?_
    refine j_iadd C dX2_send_44 rfl ?_
    refine j_topi (fun x8_ e9_ => ?_)
    replace h := zl_u h e9_
    refine j_istore (lv' := [(5, .int x8_), (0, .ref b0), (1, .int a1), (2, .int a2), (3, .int a3), (4, .int a4)]) C dX2_send_45 rfl (by decide) rfl ?_
    refine j_lv [1, 2, 3, 4, 0] rfl ?_
    exact w_X2_send_47 C hb0 E x8_ μ6_ h
set_option maxRecDepth 100000 in
theorem c_X2_send (l : Launch) (D : va_G) (ad : Nat → Nat) (cl : Nat → ClassId) {b0 : Nat} {a1 : Int32} {a2 : Int32} {a3 : Int32} {a4 : Int32} (hb0 : isNight b0) (μ : Mem) (ρ : Mem) (h : f_X2_send b0 a1 a2 a3 a4 μ = some ρ) : CV l D ad cl yX2_send wsX2_send rmX2_send [.ref b0, .int a1, .int a2, .int a3, .int a4] μ ρ := c_ofV (cc := cX2_send) (nL := 7) rfl (by decide) (Nat.le_of_ble_eq_true rfl) (fun Γ C E => w_X2_send C hb0 E μ h)
/-! X2_colourSent -/
def wsX2_colourSent : List Cond := .code yX2_colourSent cX2_colourSent 4 (some .int) :: G0
def rmX2_colourSent : Room := { frames := 0, cells := 0, slots := 0, locals := 0 }
def f_X2_colourSent (a0 : Int32) (a1 : Int32) (a2 : Int32) (a3 : Int32) (μ : Mem) : Option (Int32 × Mem) := (if a0 = (nI 1) then (if a3 = 0 then some ((nI 1) - a1, μ) else some (a1, μ)) else if a0 = (nI 2) then (if a2 = (nI 2) then some (a1, μ) else some (a2, μ)) else if a0 = (nI 3) then some (a1, μ) else if a0 = (nI 4) then (if a3 = 0 then some (a1, μ) else some ((nI 1) - a1, μ)) else some (a1, μ))
set_option maxHeartbeats 4000000 in
set_option maxRecDepth 100000 in
theorem w_X2_colourSent {Γ : jG} (C : jC Γ 4 cX2_colourSent RX2 rmX2_colourSent) {a0 : Int32} {a1 : Int32} {a2 : Int32} {a3 : Int32} {ρ : Int32 × Mem} (E : jEI Γ cX2_colourSent ρ.1 ρ.2) (μ : Mem) (h : f_X2_colourSent a0 a1 a2 a3 μ = some ρ) : jJ Γ 4 0 [(0, .int a0), (1, .int a1), (2, .int a2), (3, .int a3)] [] μ := by
  unfold f_X2_colourSent at h
  refine j_iload_n C dX2_colourSent_0 rfl 0 rfl ?_
  by_cases c1_ : a0 = (nI 1)
  · refine j_tabIn (tgt := 32) C dX2_colourSent_1 (by rw [c1_]; decide) (by rw [c1_]; decide) (by rw [c1_]; try rfl) (by decide) ?_
    replace h := if_t h c1_
    refine j_iload_n C dX2_colourSent_32 rfl 3 rfl ?_
    refine j_if_eq (tgt := 40) C dX2_colourSent_33 rfl (by decide) (fun c2_ => ?_) (fun c2_ => ?_)
    · replace h := if_t h c2_
      refine j_iconst (v := (nI 1)) C dX2_colourSent_40 rfl (by decide) ?_
      refine j_iload_n C dX2_colourSent_41 rfl 1 rfl ?_
      refine j_isub C dX2_colourSent_42 rfl ?_
      obtain rfl := Option.some.inj h
      exact j_iret E dX2_colourSent_43
    · replace h := if_f h c2_
      refine j_iload_n C dX2_colourSent_36 rfl 1 rfl ?_
      refine j_goto (pc' := 43) C dX2_colourSent_37 (by decide) ?_
      obtain rfl := Option.some.inj h
      exact j_iret E dX2_colourSent_43
  replace h := if_f h c1_
  by_cases c3_ : a0 = (nI 2)
  · refine j_tabIn (tgt := 56) C dX2_colourSent_1 (by rw [c3_]; decide) (by rw [c3_]; decide) (by rw [c3_]; try rfl) (by decide) ?_
    replace h := if_t h c3_
    refine j_iload_n C dX2_colourSent_56 rfl 2 rfl ?_
    refine j_iconst (v := (nI 2)) C dX2_colourSent_57 rfl (by decide) ?_
    refine j_icmp_ne (tgt := 65) C dX2_colourSent_58 rfl (by decide) (fun c4_ => ?_) (fun c4_ => ?_)
    · replace h := if_f h c4_
      refine j_iload_n C dX2_colourSent_65 rfl 2 rfl ?_
      obtain rfl := Option.some.inj h
      exact j_iret E dX2_colourSent_66
    · replace h := if_t h c4_
      refine j_iload_n C dX2_colourSent_61 rfl 1 rfl ?_
      refine j_goto (pc' := 66) C dX2_colourSent_62 (by decide) ?_
      obtain rfl := Option.some.inj h
      exact j_iret E dX2_colourSent_66
  replace h := if_f h c3_
  by_cases c5_ : a0 = (nI 3)
  · refine j_tabIn (tgt := 67) C dX2_colourSent_1 (by rw [c5_]; decide) (by rw [c5_]; decide) (by rw [c5_]; try rfl) (by decide) ?_
    replace h := if_t h c5_
    refine j_iload_n C dX2_colourSent_67 rfl 1 rfl ?_
    obtain rfl := Option.some.inj h
    exact j_iret E dX2_colourSent_68
  replace h := if_f h c5_
  by_cases c6_ : a0 = (nI 4)
  · refine j_tabIn (tgt := 44) C dX2_colourSent_1 (by rw [c6_]; decide) (by rw [c6_]; decide) (by rw [c6_]; try rfl) (by decide) ?_
    replace h := if_t h c6_
    refine j_iload_n C dX2_colourSent_44 rfl 3 rfl ?_
    refine j_if_eq (tgt := 54) C dX2_colourSent_45 rfl (by decide) (fun c7_ => ?_) (fun c7_ => ?_)
    · replace h := if_t h c7_
      refine j_iload_n C dX2_colourSent_54 rfl 1 rfl ?_
      obtain rfl := Option.some.inj h
      exact j_iret E dX2_colourSent_55
    · replace h := if_f h c7_
      refine j_iconst (v := (nI 1)) C dX2_colourSent_48 rfl (by decide) ?_
      refine j_iload_n C dX2_colourSent_49 rfl 1 rfl ?_
      refine j_isub C dX2_colourSent_50 rfl ?_
      refine j_goto (pc' := 55) C dX2_colourSent_51 (by decide) ?_
      obtain rfl := Option.some.inj h
      exact j_iret E dX2_colourSent_55
  replace h := if_f h c6_
  have nc1_ := i32_ne (z := 1) c1_ (by decide)
  have nc3_ := i32_ne (z := 2) c3_ (by decide)
  have nc5_ := i32_ne (z := 3) c5_ (by decide)
  have nc6_ := i32_ne (z := 4) c6_ (by decide)
  refine j_tabOut (tgt := 67) C dX2_colourSent_1 (by omega) (by decide) ?_
  refine j_iload_n C dX2_colourSent_67 rfl 1 rfl ?_
  obtain rfl := Option.some.inj h
  exact j_iret E dX2_colourSent_68
set_option maxRecDepth 100000 in
theorem c_X2_colourSent (l : Launch) (D : va_G) (ad : Nat → Nat) (cl : Nat → ClassId) {a0 : Int32} {a1 : Int32} {a2 : Int32} {a3 : Int32} (μ : Mem) (ρ : Int32 × Mem) (h : f_X2_colourSent a0 a1 a2 a3 μ = some ρ) : CI l D ad cl yX2_colourSent wsX2_colourSent rmX2_colourSent [.int a0, .int a1, .int a2, .int a3] μ ρ.1 ρ.2 := c_ofI (cc := cX2_colourSent) (nL := 4) rfl (by decide) (Nat.le_of_ble_eq_true rfl) (fun Γ C E => w_X2_colourSent C E μ h)
theorem gsX2_150 : jm_gs RX2 150 yX2_colourSent wsX2_colourSent 4 4 := ⟨_, _, gi_S gwt3_149 gwt3_150 gwt1_3 gwt3_151, rfl, by decide +kernel⟩
theorem gvX2_154 : jm_gv RX2 154 RX2 yX2_send wsX2_send 7 4 := ⟨_, _, gi_V gwt3_152 gwt3_154 gwp2_1 gwt1_3 gwt3_155, rfl, by decide +kernel⟩
/-! X2_say -/
def wsX2_say : List Cond := .code yX2_say cX2_say 6 (some .int) :: G0
def rmX2_say : Room := { frames := 1, cells := 0, slots := 0, locals := 26 }
def f_X2_say_95 (b0 : Nat) (a1 : Int32) (a2 : Int32) (a3 : Int32) (μ : Mem) : Option (Int32 × Mem) := some ((μ.1 b0 0) - (nI 1), μ)
set_option maxHeartbeats 4000000 in
set_option maxRecDepth 100000 in
theorem w_X2_say_95 {Γ : jG} (C : jC Γ 6 cX2_say RX2 rmX2_say) {b0 : Nat} {a1 : Int32} {a2 : Int32} {a3 : Int32} (hb0 : isNight b0) {ρ : Int32 × Mem} (E : jEI Γ cX2_say ρ.1 ρ.2) (μ : Mem) (h : f_X2_say_95 b0 a1 a2 a3 μ = some ρ) : jJ Γ 6 95 [(0, .ref b0)] [] μ := by
  unfold f_X2_say_95 at h
  refine j_aload_n C dX2_say_95 rfl 0 rfl ?_
  refine j_getI C dX2_say_96 rfl lkX2_9 (isN_0 hb0) rfl ?_
  refine j_iconst (v := (nI 1)) C dX2_say_99 rfl (by decide) ?_
  refine j_isub C dX2_say_100 rfl ?_
  obtain rfl := Option.some.inj h
  exact j_iret E dX2_say_101
def f_X2_say_89 (b0 : Nat) (a1 : Int32) (a2 : Int32) (a3 : Int32) (kb43 : Int32 → Int32 → Mem → Option (Int32 × Mem)) (kx95 : Mem → Option (Int32 × Mem)) (x4 : Int32) (x5 : Int32) (μ : Mem) : Option (Int32 × Mem) := kb43 x4 (x5 + (nI 1)) μ
set_option maxHeartbeats 4000000 in
set_option maxRecDepth 100000 in
theorem w_X2_say_89 {Γ : jG} (C : jC Γ 6 cX2_say RX2 rmX2_say) {b0 : Nat} {a1 : Int32} {a2 : Int32} {a3 : Int32} (hb0 : isNight b0) {kb43 : Int32 → Int32 → Mem → Option (Int32 × Mem)} {kx95 : Mem → Option (Int32 × Mem)} {ρ : Int32 × Mem} (E : jEI Γ cX2_say ρ.1 ρ.2) (Hkb43 : ∀ (x4 : Int32) (x5 : Int32) (μ : Mem), kb43 x4 x5 μ = some ρ → jJ Γ 6 43 [(0, .ref b0), (1, .int a1), (2, .int a2), (3, .int a3), (4, .int x4), (5, .int x5)] [] μ) (Hkx95 : ∀ (μ : Mem), kx95 μ = some ρ → jJ Γ 6 95 [(0, .ref b0)] [] μ) (x4 : Int32) (x5 : Int32) (μ : Mem) (h : f_X2_say_89 b0 a1 a2 a3 kb43 kx95 x4 x5 μ = some ρ) : jJ Γ 6 89 [(0, .ref b0), (1, .int a1), (2, .int a2), (3, .int a3), (4, .int x4), (5, .int x5)] [] μ := by
  unfold f_X2_say_89 at h
  refine j_iinc (d := (nI 1)) (v := x5 + (nI 1)) (lv' := [(5, .int (x5 + (nI 1))), (0, .ref b0), (1, .int a1), (2, .int a2), (3, .int a3), (4, .int x4)]) C dX2_say_89 rfl (by decide) 5 rfl (by decide) rfl rfl ?_
  refine j_goto (pc' := 43) C dX2_say_92 (by decide) ?_
  refine j_lv [1, 2, 3, 4, 5, 0] rfl ?_
  exact (Hkb43) x4 (x5 + (nI 1)) μ h
def f_X2_say_82 (b0 : Nat) (a1 : Int32) (a2 : Int32) (a3 : Int32) (kb43 : Int32 → Int32 → Mem → Option (Int32 × Mem)) (kx95 : Mem → Option (Int32 × Mem)) (x4 : Int32) (x5 : Int32) (t1 : Int32) (t2 : Int32) (t3 : Int32) (t4 : Int32) (t5 : Int32) (t6 : Int32) (μ : Mem) : Option (Int32 × Mem) := Option.bind (f_X2_colourSent t3 t4 t5 t6 μ) fun p1_ => Option.bind (f_X2_send b0 t1 t2 p1_.1 a3 p1_.2) fun p3_ => f_X2_say_89 b0 a1 a2 a3 kb43 kx95 x4 x5 p3_
set_option maxHeartbeats 4000000 in
set_option maxRecDepth 100000 in
theorem w_X2_say_82 {Γ : jG} (C : jC Γ 6 cX2_say RX2 rmX2_say) {b0 : Nat} {a1 : Int32} {a2 : Int32} {a3 : Int32} (hb0 : isNight b0) {kb43 : Int32 → Int32 → Mem → Option (Int32 × Mem)} {kx95 : Mem → Option (Int32 × Mem)} {ρ : Int32 × Mem} (E : jEI Γ cX2_say ρ.1 ρ.2) (Hkb43 : ∀ (x4 : Int32) (x5 : Int32) (μ : Mem), kb43 x4 x5 μ = some ρ → jJ Γ 6 43 [(0, .ref b0), (1, .int a1), (2, .int a2), (3, .int a3), (4, .int x4), (5, .int x5)] [] μ) (Hkx95 : ∀ (μ : Mem), kx95 μ = some ρ → jJ Γ 6 95 [(0, .ref b0)] [] μ) (x4 : Int32) (x5 : Int32) (t1 : Int32) (t2 : Int32) (t3 : Int32) (t4 : Int32) (t5 : Int32) (t6 : Int32) (μ : Mem) (h : f_X2_say_82 b0 a1 a2 a3 kb43 kx95 x4 x5 t1 t2 t3 t4 t5 t6 μ = some ρ) : jJ Γ 6 82 [(0, .ref b0), (1, .int a1), (2, .int a2), (3, .int a3), (4, .int x4), (5, .int x5)] [.int t6, .int t5, .int t4, .int t3, .int t2, .int t1, .ref b0] μ := by
  unfold f_X2_say_82 at h
  replace h := bd_e h
  obtain ⟨p1_, h2_, h⟩ := h
  refine j_cSI (av := [.int t3, .int t4, .int t5, .int t6]) (rest := [.int t2, .int t1, .ref b0]) C dX2_say_82 rfl (c_X2_colourSent _ _ _ _ μ p1_ h2_) gsX2_150 ⟨⟨rfl, rfl⟩, Nat.le_of_ble_eq_true rfl, Nat.le_of_ble_eq_true rfl⟩ rfl rfl (Nat.le_of_ble_eq_true rfl) ?_
  refine j_iload_n C dX2_say_85 rfl 3 rfl ?_
  replace h := bd_e h
  obtain ⟨p3_, h4_, h⟩ := h
  refine j_cVV (av := [.int t1, .int t2, .int p1_.1, .int a3]) (rest := []) C dX2_say_86 rfl (c_X2_send _ _ _ _ hb0 p1_.2 p3_ h4_) gvX2_154 ⟨⟨rfl, rfl⟩, Nat.le_of_ble_eq_true rfl, Nat.le_of_ble_eq_true rfl⟩ rfl (isN_0 hb0) rfl rfl (Nat.le_of_ble_eq_true rfl) ?_
  refine j_lv [0, 1, 2, 3, 4, 5] rfl ?_
  exact w_X2_say_89 C hb0 E Hkb43 Hkx95 x4 x5 p3_ h
def f_X2_say_43 (b0 : Nat) (a1 : Int32) (a2 : Int32) (a3 : Int32) (kx95 : Mem → Option (Int32 × Mem)) : Nat → Int32 → Int32 → Mem → Option (Int32 × Mem)
  | 0, _, _, _ => none
  | n + 1, x4, x5, μ => (if (μ.1 b0 0) ≤ x5 then kx95 μ else (if x5 = a1 then f_X2_say_89 b0 a1 a2 a3 (fun x4 x5 μ => f_X2_say_43 b0 a1 a2 a3 kx95 n x4 x5 μ) kx95 x4 x5 μ else gd (inb a1 9) <| (if a1 ≤ x5 then f_X2_say_82 b0 a1 a2 a3 (fun x4 x5 μ => f_X2_say_43 b0 a1 a2 a3 kx95 n x4 x5 μ) kx95 x4 x5 a1 x5 (μ.1 (b0 + 1) (Int32.toNatClampNeg a1)) a2 x4 (nI 0) μ else f_X2_say_82 b0 a1 a2 a3 (fun x4 x5 μ => f_X2_say_43 b0 a1 a2 a3 kx95 n x4 x5 μ) kx95 x4 x5 a1 x5 (μ.1 (b0 + 1) (Int32.toNatClampNeg a1)) a2 x4 (nI 1) μ)))
set_option maxHeartbeats 4000000 in
set_option maxRecDepth 100000 in
theorem w_X2_say_43 {Γ : jG} (C : jC Γ 6 cX2_say RX2 rmX2_say) {b0 : Nat} {a1 : Int32} {a2 : Int32} {a3 : Int32} (hb0 : isNight b0) {kx95 : Mem → Option (Int32 × Mem)} {ρ : Int32 × Mem} (E : jEI Γ cX2_say ρ.1 ρ.2) (Hkx95 : ∀ (μ : Mem), kx95 μ = some ρ → jJ Γ 6 95 [(0, .ref b0)] [] μ) : ∀ (n : Nat) (x4 : Int32) (x5 : Int32) (μ : Mem), f_X2_say_43 b0 a1 a2 a3 kx95 n x4 x5 μ = some ρ → jJ Γ 6 43 [(0, .ref b0), (1, .int a1), (2, .int a2), (3, .int a3), (4, .int x4), (5, .int x5)] [] μ := by
  intro n
  induction n with
  | zero => intro x4 x5 μ h; rw [f_X2_say_43] at h; cases h
  | succ n ih =>
    intro x4 x5 μ h
    rw [f_X2_say_43] at h
    refine j_iload C dX2_say_43 rfl 5 rfl ?_
    refine j_aload_n C dX2_say_45 rfl 0 rfl ?_
    refine j_getI C dX2_say_46 rfl lkX2_9 (isN_0 hb0) rfl ?_
    refine j_icmp_ge (tgt := 95) C dX2_say_49 rfl (by decide) (fun c1_ => ?_) (fun c1_ => ?_)
    · replace h := if_t h c1_
      refine j_lv [0] rfl ?_
      exact (Hkx95) μ h
    · replace h := if_f h c1_
      refine j_iload C dX2_say_52 rfl 5 rfl ?_
      refine j_iload_n C dX2_say_54 rfl 1 rfl ?_
      refine j_icmp_eq (tgt := 89) C dX2_say_55 rfl (by decide) (fun c2_ => ?_) (fun c2_ => ?_)
      · replace h := if_t h c2_
        refine j_lv [0, 1, 2, 3, 4, 5] rfl ?_
        exact w_X2_say_89 C hb0 E ih Hkx95 x4 x5 μ h
      · replace h := if_f h c2_
        refine j_aload_n C dX2_say_58 rfl 0 rfl ?_
        refine j_iload_n C dX2_say_59 rfl 1 rfl ?_
        refine j_iload C dX2_say_60 rfl 5 rfl ?_
        refine j_aload_n C dX2_say_62 rfl 0 rfl ?_
        refine j_getR (c := b0 + 1) C dX2_say_63 rfl lkX2_34 (isN_0 hb0) rfl ?_
        refine j_iload_n C dX2_say_66 rfl 1 rfl ?_
        replace h := gd_e h
        obtain ⟨g3_, h⟩ := h
        refine j_iald C dX2_say_67 rfl (isN_a1 hb0) g3_ ?_
        refine j_iload_n C dX2_say_68 rfl 2 rfl ?_
        refine j_iload C dX2_say_69 rfl 4 rfl ?_
        refine j_iload C dX2_say_71 rfl 5 rfl ?_
        refine j_iload_n C dX2_say_73 rfl 1 rfl ?_
        refine j_icmp_ge (tgt := 81) C dX2_say_74 rfl (by decide) (fun c4_ => ?_) (fun c4_ => ?_)
        · replace h := if_t h c4_
          refine j_iconst (v := (nI 0)) C dX2_say_81 rfl (by decide) ?_
          refine j_lv [0, 1, 2, 3, 4, 5] rfl ?_
          exact w_X2_say_82 C hb0 E ih Hkx95 x4 x5 a1 x5 (μ.1 (b0 + 1) (Int32.toNatClampNeg a1)) a2 x4 (nI 0) μ h
        · replace h := if_f h c4_
          refine j_iconst (v := (nI 1)) C dX2_say_77 rfl (by decide) ?_
          refine j_goto (pc' := 82) C dX2_say_78 (by decide) ?_
          refine j_lv [0, 1, 2, 3, 4, 5] rfl ?_
          exact w_X2_say_82 C hb0 E ih Hkx95 x4 x5 a1 x5 (μ.1 (b0 + 1) (Int32.toNatClampNeg a1)) a2 x4 (nI 1) μ h
def f_X2_say (b0 : Nat) (a1 : Int32) (a2 : Int32) (a3 : Int32) (μ : Mem) : Option (Int32 × Mem) := gd (inb a1 9) <| zl (μ.1 (b0 + 3) (Int32.toNatClampNeg a1)) fun x2_ => (if x2_ = a2 then some ((nI 0), μ) else zl (sI μ (b0 + 3) (Int32.toNatClampNeg a1) a2) fun μ5_ => zl (sI μ5_ b0 6 (nI 1)) fun μ7_ => (if (μ7_.1 (b0 + 1) (Int32.toNatClampNeg a1)) = (nI 5) then some ((nI 0), μ7_) else f_X2_say_43 b0 a1 a2 a3 (fun μ => f_X2_say_95 b0 a1 a2 a3 μ) zfu x2_ (nI 0) μ7_))
set_option maxHeartbeats 4000000 in
set_option maxRecDepth 100000 in
theorem w_X2_say {Γ : jG} (C : jC Γ 6 cX2_say RX2 rmX2_say) {b0 : Nat} {a1 : Int32} {a2 : Int32} {a3 : Int32} (hb0 : isNight b0) {ρ : Int32 × Mem} (E : jEI Γ cX2_say ρ.1 ρ.2) (μ : Mem) (h : f_X2_say b0 a1 a2 a3 μ = some ρ) : jJ Γ 6 0 [(0, .ref b0), (1, .int a1), (2, .int a2), (3, .int a3)] [] μ := by
  unfold f_X2_say at h
  refine j_aload_n C dX2_say_0 rfl 0 rfl ?_
  refine j_getR (c := b0 + 3) C dX2_say_1 rfl lkX2_41 (isN_0 hb0) rfl ?_
  refine j_iload_n C dX2_say_4 rfl 1 rfl ?_
  replace h := gd_e h
  obtain ⟨g1_, h⟩ := h
  refine j_iald C dX2_say_5 rfl (isN_a3 hb0) g1_ ?_
  refine j_topi (fun x2_ e3_ => ?_)
  replace h := zl_u h e3_
  refine j_istore (lv' := [(4, .int x2_), (0, .ref b0), (1, .int a1), (2, .int a2), (3, .int a3)]) C dX2_say_6 rfl (by decide) rfl ?_
  refine j_iload C dX2_say_8 rfl 0 rfl ?_
  refine j_iload_n C dX2_say_10 rfl 3 rfl ?_
  refine j_icmp_ne (tgt := 16) C dX2_say_11 rfl (by decide) (fun c4_ => ?_) (fun c4_ => ?_)
  · replace h := if_f h c4_
    refine j_aload_n C dX2_say_16 rfl 1 rfl ?_
    refine j_getR (c := b0 + 3) C dX2_say_17 rfl lkX2_41 (isN_0 hb0) rfl ?_
    refine j_iload_n C dX2_say_20 rfl 2 rfl ?_
    refine j_iload_n C dX2_say_21 rfl 3 rfl ?_
    refine j_iast C dX2_say_22 rfl (isN_a3 hb0) g1_ ?_
    refine j_mem (fun μ5_ e6_ => ?_)
    replace h := zl_u h e6_
    refine j_aload_n C dX2_say_23 rfl 1 rfl ?_
    refine j_iconst (v := (nI 1)) C dX2_say_24 rfl (by decide) ?_
    refine j_putZ C dX2_say_25 rfl lpX2_30 (isN_0 hb0) rfl (by decide) ?_
    refine j_mem (fun μ7_ e8_ => ?_)
    replace h := zl_u h e8_
    refine j_aload_n C dX2_say_28 rfl 1 rfl ?_
    refine j_getR (c := b0 + 1) C dX2_say_29 rfl lkX2_34 (isN_0 hb0) rfl ?_
    refine j_iload_n C dX2_say_32 rfl 2 rfl ?_
    refine j_iald C dX2_say_33 rfl (isN_a1 hb0) g1_ ?_
    refine j_iconst (v := (nI 5)) C dX2_say_34 rfl (by decide) ?_
    refine j_icmp_ne (tgt := 40) C dX2_say_35 rfl (by decide) (fun c9_ => ?_) (fun c9_ => ?_)
    · replace h := if_f h c9_
      refine j_iconst (v := (nI 0)) C dX2_say_40 rfl (by decide) ?_
      refine j_istore (lv' := [(5, .int (nI 0)), (4, .int x2_), (0, .ref b0), (1, .int a1), (2, .int a2), (3, .int a3)]) C dX2_say_41 rfl (by decide) rfl ?_
      refine j_lv [2, 3, 4, 5, 1, 0] rfl ?_
      exact w_X2_say_43 C hb0 E (fun μ h => w_X2_say_95 C hb0 E μ h) zfu x2_ (nI 0) μ7_ h
    · replace h := if_t h c9_
      refine j_iconst (v := (nI 0)) C dX2_say_38 rfl (by decide) ?_
      obtain rfl := Option.some.inj h
      exact j_iret E dX2_say_39
  · replace h := if_t h c4_
    refine j_iconst (v := (nI 0)) C dX2_say_14 rfl (by decide) ?_
    obtain rfl := Option.some.inj h
    exact j_iret E dX2_say_15
set_option maxRecDepth 100000 in
theorem c_X2_say (l : Launch) (D : va_G) (ad : Nat → Nat) (cl : Nat → ClassId) {b0 : Nat} {a1 : Int32} {a2 : Int32} {a3 : Int32} (hb0 : isNight b0) (μ : Mem) (ρ : Int32 × Mem) (h : f_X2_say b0 a1 a2 a3 μ = some ρ) : CI l D ad cl yX2_say wsX2_say rmX2_say [.ref b0, .int a1, .int a2, .int a3] μ ρ.1 ρ.2 := c_ofI (cc := cX2_say) (nL := 6) rfl (by decide) (Nat.le_of_ble_eq_true rfl) (fun Γ C E => w_X2_say C hb0 E μ h)
theorem gvX2_143 : jm_gv RX2 143 RX2 yX2_believe wsX2_believe 3 2 := ⟨_, _, gi_V gwt3_158 gwt3_160 gwp2_2 gwt1_3 gwt3_161, rfl, by decide +kernel⟩
theorem gvX2_129 : jm_gv RX2 129 RX2 yX2_counted wsX2_counted 3 2 := ⟨_, _, gi_V gwt3_143 gwt2_130 gwt2_131 gwt1_3 gwt2_132, rfl, by decide +kernel⟩
theorem gvX2_139 : jm_gv RX2 139 RX2 yX2_say wsX2_say 6 3 := ⟨_, _, gi_V gwt3_145 gwt3_147 gwp2_0 gwt1_3 gwt3_148, rfl, by decide +kernel⟩
theorem gvX2_147 : jm_gv RX2 147 RX2 yX2_show wsX2_show 3 2 := ⟨_, _, gi_V gwt3_162 gwt3_164 gwp2_3 gwt1_3 gwt3_165, rfl, by decide +kernel⟩
/-! X2_act -/
def wsX2_act : List Cond := .code yX2_act cX2_act 7 (some .int) :: G0
def rmX2_act : Room := { frames := 2, cells := 0, slots := 0, locals := 51 }
def f_X2_act_133 (b0 : Nat) (a1 : Int32) (k2 : Nat) (a3 : Int32) (kb6 : Int32 → Int32 → Mem → Option (Int32 × Mem)) (x4 : Int32) (x5 : Int32) (μ : Mem) : Option (Int32 × Mem) := kb6 x4 (x5 + (nI 1)) μ
set_option maxHeartbeats 4000000 in
set_option maxRecDepth 100000 in
theorem w_X2_act_133 {Γ : jG} (C : jC Γ 7 cX2_act RX2 rmX2_act) {b0 : Nat} {a1 : Int32} {k2 : Nat} {a3 : Int32} (hb0 : isNight b0) (hk2 : isLaw k2) {kb6 : Int32 → Int32 → Mem → Option (Int32 × Mem)} {ρ : Int32 × Mem} (E : jEI Γ cX2_act ρ.1 ρ.2) (Hkb6 : ∀ (x4 : Int32) (x5 : Int32) (μ : Mem), kb6 x4 x5 μ = some ρ → jJ Γ 7 6 [(0, .ref b0), (1, .int a1), (2, .ref k2), (3, .int a3), (4, .int x4), (5, .int x5)] [] μ) (x4 : Int32) (x5 : Int32) (μ : Mem) (h : f_X2_act_133 b0 a1 k2 a3 kb6 x4 x5 μ = some ρ) : jJ Γ 7 133 [(0, .ref b0), (1, .int a1), (2, .ref k2), (3, .int a3), (4, .int x4), (5, .int x5)] [] μ := by
  unfold f_X2_act_133 at h
  refine j_iinc (d := (nI 1)) (v := x5 + (nI 1)) (lv' := [(5, .int (x5 + (nI 1))), (0, .ref b0), (1, .int a1), (2, .ref k2), (3, .int a3), (4, .int x4)]) C dX2_act_133 rfl (by decide) 5 rfl (by decide) rfl rfl ?_
  refine j_goto (pc' := 6) C dX2_act_136 (by decide) ?_
  refine j_lv [1, 2, 3, 4, 5, 0] rfl ?_
  exact (Hkb6) x4 (x5 + (nI 1)) μ h
def f_X2_act_63 (b0 : Nat) (a1 : Int32) (k2 : Nat) (a3 : Int32) (kb6 : Int32 → Int32 → Mem → Option (Int32 × Mem)) (x4 : Int32) (x5 : Int32) (t0 : Int32) (μ : Mem) : Option (Int32 × Mem) := gd (inb x5 8) <| (if (μ.1 (k2 + 3) (Int32.toNatClampNeg x5)) = (nI 0) then Option.bind (f_X2_say b0 a1 t0 a3 μ) fun p3_ => zl (x4 + p3_.1) fun x5_ => f_X2_act_133 b0 a1 k2 a3 kb6 x5_ x5 p3_.2 else if (μ.1 (k2 + 3) (Int32.toNatClampNeg x5)) = (nI 1) then Option.bind (f_X2_believe b0 a1 t0 μ) fun p8_ => f_X2_act_133 b0 a1 k2 a3 kb6 x4 x5 p8_ else Option.bind (f_X2_show b0 a1 t0 μ) fun p10_ => f_X2_act_133 b0 a1 k2 a3 kb6 x4 x5 p10_)
set_option maxHeartbeats 4000000 in
set_option maxRecDepth 100000 in
theorem w_X2_act_63 {Γ : jG} (C : jC Γ 7 cX2_act RX2 rmX2_act) {b0 : Nat} {a1 : Int32} {k2 : Nat} {a3 : Int32} (hb0 : isNight b0) (hk2 : isLaw k2) {kb6 : Int32 → Int32 → Mem → Option (Int32 × Mem)} {ρ : Int32 × Mem} (E : jEI Γ cX2_act ρ.1 ρ.2) (Hkb6 : ∀ (x4 : Int32) (x5 : Int32) (μ : Mem), kb6 x4 x5 μ = some ρ → jJ Γ 7 6 [(0, .ref b0), (1, .int a1), (2, .ref k2), (3, .int a3), (4, .int x4), (5, .int x5)] [] μ) (x4 : Int32) (x5 : Int32) (t0 : Int32) (μ : Mem) (h : f_X2_act_63 b0 a1 k2 a3 kb6 x4 x5 t0 μ = some ρ) : jJ Γ 7 63 [(0, .ref b0), (1, .int a1), (2, .ref k2), (3, .int a3), (4, .int x4), (5, .int x5)] [.int t0] μ := by
  unfold f_X2_act_63 at h
  refine j_istore (lv' := [(6, .int t0), (0, .ref b0), (1, .int a1), (2, .ref k2), (3, .int a3), (4, .int x4), (5, .int x5)]) C dX2_act_63 rfl (by decide) rfl ?_
  refine j_aload_n C dX2_act_65 rfl 3 rfl ?_
  refine j_getR (c := k2 + 3) C dX2_act_66 rfl lkX2_137 (isW_0 hk2) rfl ?_
  refine j_iload C dX2_act_69 rfl 6 rfl ?_
  replace h := gd_e h
  obtain ⟨g1_, h⟩ := h
  refine j_iald C dX2_act_71 rfl (isW_a3 hk2) g1_ ?_
  by_cases c2_ : (μ.1 (k2 + 3) (Int32.toNatClampNeg x5)) = (nI 0)
  · refine j_lookup (tgt := 100) C dX2_act_72 (by decide) (by rw [c2_]; try rfl) (by decide) ?_
    replace h := if_t h c2_
    refine j_iload C dX2_act_100 rfl 5 rfl ?_
    refine j_aload_n C dX2_act_102 rfl 1 rfl ?_
    refine j_iload_n C dX2_act_103 rfl 2 rfl ?_
    refine j_iload C dX2_act_104 rfl 0 rfl ?_
    refine j_iload_n C dX2_act_106 rfl 4 rfl ?_
    replace h := bd_e h
    obtain ⟨p3_, h4_, h⟩ := h
    refine j_cVI (av := [.int a1, .int t0, .int a3]) (rest := [.int x4]) C dX2_act_107 rfl (c_X2_say _ _ _ _ hb0 μ p3_ h4_) gvX2_139 ⟨⟨rfl, rfl⟩, Nat.le_of_ble_eq_true rfl, Nat.le_of_ble_eq_true rfl⟩ rfl (isN_0 hb0) rfl rfl (Nat.le_of_ble_eq_true rfl) ?_
    refine j_iadd C dX2_act_110 rfl ?_
    refine j_topi (fun x5_ e6_ => ?_)
    replace h := zl_u h e6_
    refine j_istore (lv' := [(4, .int x5_), (6, .int t0), (0, .ref b0), (1, .int a1), (2, .ref k2), (3, .int a3), (5, .int x5)]) C dX2_act_111 rfl (by decide) rfl ?_
    refine j_goto (pc' := 133) C dX2_act_113 (by decide) ?_
    refine j_lv [2, 3, 4, 5, 0, 6] rfl ?_
    exact w_X2_act_133 C hb0 hk2 E Hkb6 x5_ x5 p3_.2 h
  replace h := if_f h c2_
  by_cases c7_ : (μ.1 (k2 + 3) (Int32.toNatClampNeg x5)) = (nI 1)
  · refine j_lookup (tgt := 116) C dX2_act_72 (by decide) (by rw [c7_]; try rfl) (by decide) ?_
    replace h := if_t h c7_
    refine j_aload_n C dX2_act_116 rfl 1 rfl ?_
    refine j_iload_n C dX2_act_117 rfl 2 rfl ?_
    refine j_iload C dX2_act_118 rfl 0 rfl ?_
    replace h := bd_e h
    obtain ⟨p8_, h9_, h⟩ := h
    refine j_cVV (av := [.int a1, .int t0]) (rest := []) C dX2_act_120 rfl (c_X2_believe _ _ _ _ hb0 μ p8_ h9_) gvX2_143 ⟨⟨rfl, rfl⟩, Nat.le_of_ble_eq_true rfl, Nat.le_of_ble_eq_true rfl⟩ rfl (isN_0 hb0) rfl rfl (Nat.le_of_ble_eq_true rfl) ?_
    refine j_goto (pc' := 133) C dX2_act_123 (by decide) ?_
    refine j_lv [1, 2, 3, 4, 5, 6] rfl ?_
    exact w_X2_act_133 C hb0 hk2 E Hkb6 x4 x5 p8_ h
  replace h := if_f h c7_
  have nc2_ := i32_ne (z := 0) c2_ (by decide)
  have nc7_ := i32_ne (z := 1) c7_ (by decide)
  refine j_lookup (tgt := 126) C dX2_act_72 (by decide) (by simp [Op.lookupswitch.offset, nc2_.symm, nc2_, nc7_.symm, nc7_]; rfl) (by decide) ?_
  refine j_aload_n C dX2_act_126 rfl 1 rfl ?_
  refine j_iload_n C dX2_act_127 rfl 2 rfl ?_
  refine j_iload C dX2_act_128 rfl 0 rfl ?_
  replace h := bd_e h
  obtain ⟨p10_, h11_, h⟩ := h
  refine j_cVV (av := [.int a1, .int t0]) (rest := []) C dX2_act_130 rfl (c_X2_show _ _ _ _ hb0 μ p10_ h11_) gvX2_147 ⟨⟨rfl, rfl⟩, Nat.le_of_ble_eq_true rfl, Nat.le_of_ble_eq_true rfl⟩ rfl (isN_0 hb0) rfl rfl (Nat.le_of_ble_eq_true rfl) ?_
  refine j_lv [1, 2, 3, 4, 5, 6] rfl ?_
  exact w_X2_act_133 C hb0 hk2 E Hkb6 x4 x5 p10_ h
def f_X2_act_6 (b0 : Nat) (a1 : Int32) (k2 : Nat) (a3 : Int32) : Nat → Int32 → Int32 → Mem → Option (Int32 × Mem)
  | 0, _, _, _ => none
  | n + 1, x4, x5, μ => (if (μ.1 k2 0) ≤ x5 then some (x4, μ) else gd (inb x5 8) <| Option.bind (f_X2_counted b0 a1 (μ.1 (k2 + 1) (Int32.toNatClampNeg x5)) μ) fun p3_ => (if p3_.1 < (p3_.2.1 (k2 + 2) (Int32.toNatClampNeg x5)) then f_X2_act_133 b0 a1 k2 a3 (fun x4 x5 μ => f_X2_act_6 b0 a1 k2 a3 n x4 x5 μ) x4 x5 p3_.2 else (if (p3_.2.1 (k2 + 4) (Int32.toNatClampNeg x5)) = (nI 2) then Option.bind (f_X2_believed b0 a1 p3_.2) fun p7_ => f_X2_act_63 b0 a1 k2 a3 (fun x4 x5 μ => f_X2_act_6 b0 a1 k2 a3 n x4 x5 μ) x4 x5 p7_.1 p7_.2 else f_X2_act_63 b0 a1 k2 a3 (fun x4 x5 μ => f_X2_act_6 b0 a1 k2 a3 n x4 x5 μ) x4 x5 (p3_.2.1 (k2 + 4) (Int32.toNatClampNeg x5)) p3_.2)))
set_option maxHeartbeats 4000000 in
set_option maxRecDepth 100000 in
theorem w_X2_act_6 {Γ : jG} (C : jC Γ 7 cX2_act RX2 rmX2_act) {b0 : Nat} {a1 : Int32} {k2 : Nat} {a3 : Int32} (hb0 : isNight b0) (hk2 : isLaw k2) {ρ : Int32 × Mem} (E : jEI Γ cX2_act ρ.1 ρ.2) : ∀ (n : Nat) (x4 : Int32) (x5 : Int32) (μ : Mem), f_X2_act_6 b0 a1 k2 a3 n x4 x5 μ = some ρ → jJ Γ 7 6 [(0, .ref b0), (1, .int a1), (2, .ref k2), (3, .int a3), (4, .int x4), (5, .int x5)] [] μ := by
  intro n
  induction n with
  | zero => intro x4 x5 μ h; rw [f_X2_act_6] at h; cases h
  | succ n ih =>
    intro x4 x5 μ h
    rw [f_X2_act_6] at h
    refine j_iload C dX2_act_6 rfl 5 rfl ?_
    refine j_aload_n C dX2_act_8 rfl 2 rfl ?_
    refine j_getI C dX2_act_9 rfl lkX2_121 (isW_0 hk2) rfl ?_
    refine j_icmp_ge (tgt := 139) C dX2_act_12 rfl (by decide) (fun c1_ => ?_) (fun c1_ => ?_)
    · replace h := if_t h c1_
      refine j_iload C dX2_act_139 rfl 4 rfl ?_
      obtain rfl := Option.some.inj h
      exact j_iret E dX2_act_141
    · replace h := if_f h c1_
      refine j_aload_n C dX2_act_15 rfl 0 rfl ?_
      refine j_iload_n C dX2_act_16 rfl 1 rfl ?_
      refine j_aload_n C dX2_act_17 rfl 2 rfl ?_
      refine j_getR (c := k2 + 1) C dX2_act_18 rfl lkX2_126 (isW_0 hk2) rfl ?_
      refine j_iload C dX2_act_21 rfl 5 rfl ?_
      replace h := gd_e h
      obtain ⟨g2_, h⟩ := h
      refine j_iald C dX2_act_23 rfl (isW_a1 hk2) g2_ ?_
      replace h := bd_e h
      obtain ⟨p3_, h4_, h⟩ := h
      refine j_cVI (av := [.int a1, .int (μ.1 (k2 + 1) (Int32.toNatClampNeg x5))]) (rest := []) C dX2_act_24 rfl (c_X2_counted _ _ _ _ hb0 μ p3_ h4_) gvX2_129 ⟨⟨rfl, rfl⟩, Nat.le_of_ble_eq_true rfl, Nat.le_of_ble_eq_true rfl⟩ rfl (isN_0 hb0) rfl rfl (Nat.le_of_ble_eq_true rfl) ?_
      refine j_aload_n C dX2_act_27 rfl 2 rfl ?_
      refine j_getR (c := k2 + 2) C dX2_act_28 rfl lkX2_131 (isW_0 hk2) rfl ?_
      refine j_iload C dX2_act_31 rfl 5 rfl ?_
      refine j_iald C dX2_act_33 rfl (isW_a2 hk2) g2_ ?_
      refine j_icmp_lt (tgt := 133) C dX2_act_34 rfl (by decide) (fun c5_ => ?_) (fun c5_ => ?_)
      · replace h := if_t h c5_
        refine j_lv [0, 1, 2, 3, 4, 5] rfl ?_
        exact w_X2_act_133 C hb0 hk2 E ih x4 x5 p3_.2 h
      · replace h := if_f h c5_
        refine j_aload_n C dX2_act_37 rfl 2 rfl ?_
        refine j_getR (c := k2 + 4) C dX2_act_38 rfl lkX2_134 (isW_0 hk2) rfl ?_
        refine j_iload C dX2_act_41 rfl 5 rfl ?_
        refine j_iald C dX2_act_43 rfl (isW_a4 hk2) g2_ ?_
        refine j_iconst (v := (nI 2)) C dX2_act_44 rfl (by decide) ?_
        refine j_icmp_ne (tgt := 56) C dX2_act_45 rfl (by decide) (fun c6_ => ?_) (fun c6_ => ?_)
        · replace h := if_f h c6_
          refine j_aload_n C dX2_act_56 rfl 2 rfl ?_
          refine j_getR (c := k2 + 4) C dX2_act_57 rfl lkX2_134 (isW_0 hk2) rfl ?_
          refine j_iload C dX2_act_60 rfl 5 rfl ?_
          refine j_iald C dX2_act_62 rfl (isW_a4 hk2) g2_ ?_
          refine j_lv [0, 1, 2, 3, 4, 5] rfl ?_
          exact w_X2_act_63 C hb0 hk2 E ih x4 x5 (p3_.2.1 (k2 + 4) (Int32.toNatClampNeg x5)) p3_.2 h
        · replace h := if_t h c6_
          refine j_aload_n C dX2_act_48 rfl 0 rfl ?_
          refine j_iload_n C dX2_act_49 rfl 1 rfl ?_
          replace h := bd_e h
          obtain ⟨p7_, h8_, h⟩ := h
          refine j_cVI (av := [.int a1]) (rest := []) C dX2_act_50 rfl (c_X2_believed _ _ _ _ hb0 p3_.2 p7_ h8_) gvX2_98 ⟨⟨rfl, rfl⟩, Nat.le_of_ble_eq_true rfl, Nat.le_of_ble_eq_true rfl⟩ rfl (isN_0 hb0) rfl rfl (Nat.le_of_ble_eq_true rfl) ?_
          refine j_goto (pc' := 63) C dX2_act_53 (by decide) ?_
          refine j_lv [0, 1, 2, 3, 4, 5] rfl ?_
          exact w_X2_act_63 C hb0 hk2 E ih x4 x5 p7_.1 p7_.2 h
def f_X2_act (b0 : Nat) (a1 : Int32) (k2 : Nat) (a3 : Int32) (μ : Mem) : Option (Int32 × Mem) := f_X2_act_6 b0 a1 k2 a3 zfu (nI 0) (nI 0) μ
set_option maxHeartbeats 4000000 in
set_option maxRecDepth 100000 in
theorem w_X2_act {Γ : jG} (C : jC Γ 7 cX2_act RX2 rmX2_act) {b0 : Nat} {a1 : Int32} {k2 : Nat} {a3 : Int32} (hb0 : isNight b0) (hk2 : isLaw k2) {ρ : Int32 × Mem} (E : jEI Γ cX2_act ρ.1 ρ.2) (μ : Mem) (h : f_X2_act b0 a1 k2 a3 μ = some ρ) : jJ Γ 7 0 [(0, .ref b0), (1, .int a1), (2, .ref k2), (3, .int a3)] [] μ := by
  unfold f_X2_act at h
  refine j_iconst (v := (nI 0)) C dX2_act_0 rfl (by decide) ?_
  refine j_istore (lv' := [(4, .int (nI 0)), (0, .ref b0), (1, .int a1), (2, .ref k2), (3, .int a3)]) C dX2_act_1 rfl (by decide) rfl ?_
  refine j_iconst (v := (nI 0)) C dX2_act_3 rfl (by decide) ?_
  refine j_istore (lv' := [(5, .int (nI 0)), (4, .int (nI 0)), (0, .ref b0), (1, .int a1), (2, .ref k2), (3, .int a3)]) C dX2_act_4 rfl (by decide) rfl ?_
  refine j_lv [2, 3, 4, 5, 1, 0] rfl ?_
  exact w_X2_act_6 C hb0 hk2 E zfu (nI 0) (nI 0) μ h
set_option maxRecDepth 100000 in
theorem c_X2_act (l : Launch) (D : va_G) (ad : Nat → Nat) (cl : Nat → ClassId) {b0 : Nat} {a1 : Int32} {k2 : Nat} {a3 : Int32} (hb0 : isNight b0) (hk2 : isLaw k2) (μ : Mem) (ρ : Int32 × Mem) (h : f_X2_act b0 a1 k2 a3 μ = some ρ) : CI l D ad cl yX2_act wsX2_act rmX2_act [.ref b0, .int a1, .ref k2, .int a3] μ ρ.1 ρ.2 := c_ofI (cc := cX2_act) (nL := 7) rfl (by decide) (Nat.le_of_ble_eq_true rfl) (fun Γ C E => w_X2_act C hb0 hk2 E μ h)
theorem gvX2_111 : jm_gv RX2 111 RX2 yX2_act wsX2_act 7 3 := ⟨_, _, gi_V gwt3_139 gwt3_141 gwp1_15 gwt1_3 gwt3_142, rfl, by decide +kernel⟩
theorem gvX2_104 : jm_gv RX2 104 RX2 yX2_hear wsX2_hear 5 1 := ⟨_, _, gi_V gwt3_134 gwt3_136 gwp1_14 gwt1_3 gwt3_137, rfl, by decide +kernel⟩
/-! X2_pass -/
def wsX2_pass : List Cond := .code yX2_pass cX2_pass 5 (some .int) :: G0
def rmX2_pass : Room := { frames := 3, cells := 0, slots := 0, locals := 77 }
def f_X2_pass_69 (b0 : Nat) (k1 : Nat) (a2 : Int32) (x3 : Int32) (μ : Mem) : Option (Int32 × Mem) := zl (sI μ b0 4 (((μ.1 b0 4) + (nI 1)) - ((μ.1 b0 4) + (nI 1)) / (nI 19) * (nI 19))) fun μ1_ => zl (sI μ1_ b0 1 (if (nI 999) < ((μ1_.1 b0 1) + (nI 1)) then (nI 999) else ((μ1_.1 b0 1) + (nI 1)))) fun μ3_ => zl (sI μ3_ b0 2 (if (nI 999999) < ((μ3_.1 b0 2) + x3) then (nI 999999) else ((μ3_.1 b0 2) + x3))) fun μ5_ => some (x3, μ5_)
set_option maxHeartbeats 4000000 in
set_option maxRecDepth 100000 in
theorem w_X2_pass_69 {Γ : jG} (C : jC Γ 5 cX2_pass RX2 rmX2_pass) {b0 : Nat} {k1 : Nat} {a2 : Int32} (hb0 : isNight b0) (hk1 : isLaw k1) {ρ : Int32 × Mem} (E : jEI Γ cX2_pass ρ.1 ρ.2) (x3 : Int32) (μ : Mem) (h : f_X2_pass_69 b0 k1 a2 x3 μ = some ρ) : jJ Γ 5 69 [(0, .ref b0), (3, .int x3)] [] μ := by
  unfold f_X2_pass_69 at h
  refine j_aload_n C dX2_pass_69 rfl 0 rfl ?_
  refine j_aload_n C dX2_pass_70 rfl 0 rfl ?_
  refine j_getI C dX2_pass_71 rfl lkX2_24 (isN_0 hb0) rfl ?_
  refine j_iconst (v := (nI 1)) C dX2_pass_74 rfl (by decide) ?_
  refine j_iadd C dX2_pass_75 rfl ?_
  refine j_bipush (v := (nI 19)) C dX2_pass_76 rfl (by decide) ?_
  refine j_irem C dX2_pass_78 rfl (by decide) ?_
  refine j_putI C dX2_pass_79 rfl lpX2_24 (isN_0 hb0) rfl ?_
  refine j_mem (fun μ1_ e2_ => ?_)
  replace h := zl_u h e2_
  refine j_aload_n C dX2_pass_82 rfl 0 rfl ?_
  refine j_aload_n C dX2_pass_83 rfl 0 rfl ?_
  refine j_getI C dX2_pass_84 rfl lkX2_15 (isN_0 hb0) rfl ?_
  refine j_iconst (v := (nI 1)) C dX2_pass_87 rfl (by decide) ?_
  refine j_iadd C dX2_pass_88 rfl ?_
  refine j_sipush (v := (nI 999)) C dX2_pass_89 rfl (by decide) ?_
  refine j_mmin C dX2_pass_92 rfl qmX2_115 ⟨Nat.le_of_ble_eq_true rfl, Nat.le_of_ble_eq_true rfl⟩ ?_
  refine j_putI C dX2_pass_95 rfl lpX2_15 (isN_0 hb0) rfl ?_
  refine j_mem (fun μ3_ e4_ => ?_)
  replace h := zl_u h e4_
  refine j_aload_n C dX2_pass_98 rfl 0 rfl ?_
  refine j_aload_n C dX2_pass_99 rfl 0 rfl ?_
  refine j_getI C dX2_pass_100 rfl lkX2_18 (isN_0 hb0) rfl ?_
  refine j_iload_n C dX2_pass_103 rfl 1 rfl ?_
  refine j_iadd C dX2_pass_104 rfl ?_
  refine j_ldc (v := (nI 999999)) C dX2_pass_105 rfl gwt3_167 ?_
  refine j_mmin C dX2_pass_107 rfl qmX2_115 ⟨Nat.le_of_ble_eq_true rfl, Nat.le_of_ble_eq_true rfl⟩ ?_
  refine j_putI C dX2_pass_110 rfl lpX2_18 (isN_0 hb0) rfl ?_
  refine j_mem (fun μ5_ e6_ => ?_)
  replace h := zl_u h e6_
  refine j_iload_n C dX2_pass_113 rfl 1 rfl ?_
  obtain rfl := Option.some.inj h
  exact j_iret E dX2_pass_114
def f_X2_pass_63 (b0 : Nat) (k1 : Nat) (a2 : Int32) (kb34 : Int32 → Int32 → Mem → Option (Int32 × Mem)) (kx69 : Int32 → Mem → Option (Int32 × Mem)) (x3 : Int32) (x4 : Int32) (μ : Mem) : Option (Int32 × Mem) := kb34 x3 (x4 + (nI 1)) μ
set_option maxHeartbeats 4000000 in
set_option maxRecDepth 100000 in
theorem w_X2_pass_63 {Γ : jG} (C : jC Γ 5 cX2_pass RX2 rmX2_pass) {b0 : Nat} {k1 : Nat} {a2 : Int32} (hb0 : isNight b0) (hk1 : isLaw k1) {kb34 : Int32 → Int32 → Mem → Option (Int32 × Mem)} {kx69 : Int32 → Mem → Option (Int32 × Mem)} {ρ : Int32 × Mem} (E : jEI Γ cX2_pass ρ.1 ρ.2) (Hkb34 : ∀ (x3 : Int32) (x4 : Int32) (μ : Mem), kb34 x3 x4 μ = some ρ → jJ Γ 5 34 [(0, .ref b0), (1, .ref k1), (2, .int a2), (3, .int x3), (4, .int x4)] [] μ) (Hkx69 : ∀ (x3 : Int32) (μ : Mem), kx69 x3 μ = some ρ → jJ Γ 5 69 [(0, .ref b0), (3, .int x3)] [] μ) (x3 : Int32) (x4 : Int32) (μ : Mem) (h : f_X2_pass_63 b0 k1 a2 kb34 kx69 x3 x4 μ = some ρ) : jJ Γ 5 63 [(0, .ref b0), (1, .ref k1), (2, .int a2), (3, .int x3), (4, .int x4)] [] μ := by
  unfold f_X2_pass_63 at h
  refine j_iinc (d := (nI 1)) (v := x4 + (nI 1)) (lv' := [(4, .int (x4 + (nI 1))), (0, .ref b0), (1, .ref k1), (2, .int a2), (3, .int x3)]) C dX2_pass_63 rfl (by decide) 4 rfl (by decide) rfl rfl ?_
  refine j_goto (pc' := 34) C dX2_pass_66 (by decide) ?_
  refine j_lv [1, 2, 3, 4, 0] rfl ?_
  exact (Hkb34) x3 (x4 + (nI 1)) μ h
def f_X2_pass_34 (b0 : Nat) (k1 : Nat) (a2 : Int32) (kx69 : Int32 → Mem → Option (Int32 × Mem)) : Nat → Int32 → Int32 → Mem → Option (Int32 × Mem)
  | 0, _, _, _ => none
  | n + 1, x3, x4, μ => (if (μ.1 b0 0) ≤ x4 then kx69 x3 μ else Option.bind (f_X2_isDark b0 x4 μ) fun p2_ => (if p2_.1 = 0 then Option.bind (f_X2_act b0 x4 k1 a2 p2_.2) fun p5_ => zl (x3 + p5_.1) fun x7_ => f_X2_pass_63 b0 k1 a2 (fun x3 x4 μ => f_X2_pass_34 b0 k1 a2 kx69 n x3 x4 μ) kx69 x7_ x4 p5_.2 else f_X2_pass_63 b0 k1 a2 (fun x3 x4 μ => f_X2_pass_34 b0 k1 a2 kx69 n x3 x4 μ) kx69 x3 x4 p2_.2))
set_option maxHeartbeats 4000000 in
set_option maxRecDepth 100000 in
theorem w_X2_pass_34 {Γ : jG} (C : jC Γ 5 cX2_pass RX2 rmX2_pass) {b0 : Nat} {k1 : Nat} {a2 : Int32} (hb0 : isNight b0) (hk1 : isLaw k1) {kx69 : Int32 → Mem → Option (Int32 × Mem)} {ρ : Int32 × Mem} (E : jEI Γ cX2_pass ρ.1 ρ.2) (Hkx69 : ∀ (x3 : Int32) (μ : Mem), kx69 x3 μ = some ρ → jJ Γ 5 69 [(0, .ref b0), (3, .int x3)] [] μ) : ∀ (n : Nat) (x3 : Int32) (x4 : Int32) (μ : Mem), f_X2_pass_34 b0 k1 a2 kx69 n x3 x4 μ = some ρ → jJ Γ 5 34 [(0, .ref b0), (1, .ref k1), (2, .int a2), (3, .int x3), (4, .int x4)] [] μ := by
  intro n
  induction n with
  | zero => intro x3 x4 μ h; rw [f_X2_pass_34] at h; cases h
  | succ n ih =>
    intro x3 x4 μ h
    rw [f_X2_pass_34] at h
    refine j_iload C dX2_pass_34 rfl 4 rfl ?_
    refine j_aload_n C dX2_pass_36 rfl 0 rfl ?_
    refine j_getI C dX2_pass_37 rfl lkX2_9 (isN_0 hb0) rfl ?_
    refine j_icmp_ge (tgt := 69) C dX2_pass_40 rfl (by decide) (fun c1_ => ?_) (fun c1_ => ?_)
    · replace h := if_t h c1_
      refine j_lv [0, 3] rfl ?_
      exact (Hkx69) x3 μ h
    · replace h := if_f h c1_
      refine j_aload_n C dX2_pass_43 rfl 0 rfl ?_
      refine j_iload C dX2_pass_44 rfl 4 rfl ?_
      replace h := bd_e h
      obtain ⟨p2_, h3_, h⟩ := h
      refine j_cVI (av := [.int x4]) (rest := []) C dX2_pass_46 rfl (c_X2_isDark _ _ _ _ hb0 μ p2_ h3_) gvX2_108 ⟨⟨rfl, rfl⟩, Nat.le_of_ble_eq_true rfl, Nat.le_of_ble_eq_true rfl⟩ rfl (isN_0 hb0) rfl rfl (Nat.le_of_ble_eq_true rfl) ?_
      refine j_if_ne (tgt := 63) C dX2_pass_49 rfl (by decide) (fun c4_ => ?_) (fun c4_ => ?_)
      · replace h := if_f h c4_
        refine j_lv [0, 1, 2, 3, 4] rfl ?_
        exact w_X2_pass_63 C hb0 hk1 E ih Hkx69 x3 x4 p2_.2 h
      · replace h := if_t h c4_
        refine j_iload_n C dX2_pass_52 rfl 3 rfl ?_
        refine j_aload_n C dX2_pass_53 rfl 0 rfl ?_
        refine j_iload C dX2_pass_54 rfl 4 rfl ?_
        refine j_aload_n C dX2_pass_56 rfl 1 rfl ?_
        refine j_iload_n C dX2_pass_57 rfl 2 rfl ?_
        replace h := bd_e h
        obtain ⟨p5_, h6_, h⟩ := h
        refine j_cVI (av := [.int x4, .ref k1, .int a2]) (rest := [.int x3]) C dX2_pass_58 rfl (c_X2_act _ _ _ _ hb0 hk1 p2_.2 p5_ h6_) gvX2_111 ⟨⟨rfl, rfl⟩, Nat.le_of_ble_eq_true rfl, Nat.le_of_ble_eq_true rfl⟩ rfl (isN_0 hb0) rfl rfl (Nat.le_of_ble_eq_true rfl) ?_
        refine j_iadd C dX2_pass_61 rfl ?_
        refine j_topi (fun x7_ e8_ => ?_)
        replace h := zl_u h e8_
        refine j_istore_n (lv' := [(3, .int x7_), (0, .ref b0), (1, .ref k1), (2, .int a2), (4, .int x4)]) C dX2_pass_62 rfl (by decide) rfl ?_
        refine j_lv [1, 2, 3, 0, 4] rfl ?_
        exact w_X2_pass_63 C hb0 hk1 E ih Hkx69 x7_ x4 p5_.2 h
def f_X2_pass_31 (b0 : Nat) (k1 : Nat) (a2 : Int32) (x3 : Int32) (μ : Mem) : Option (Int32 × Mem) := f_X2_pass_34 b0 k1 a2 (fun x3 μ => f_X2_pass_69 b0 k1 a2 x3 μ) zfu x3 (nI 0) μ
set_option maxHeartbeats 4000000 in
set_option maxRecDepth 100000 in
theorem w_X2_pass_31 {Γ : jG} (C : jC Γ 5 cX2_pass RX2 rmX2_pass) {b0 : Nat} {k1 : Nat} {a2 : Int32} (hb0 : isNight b0) (hk1 : isLaw k1) {ρ : Int32 × Mem} (E : jEI Γ cX2_pass ρ.1 ρ.2) (x3 : Int32) (μ : Mem) (h : f_X2_pass_31 b0 k1 a2 x3 μ = some ρ) : jJ Γ 5 31 [(0, .ref b0), (1, .ref k1), (2, .int a2), (3, .int x3)] [] μ := by
  unfold f_X2_pass_31 at h
  refine j_iconst (v := (nI 0)) C dX2_pass_31 rfl (by decide) ?_
  refine j_istore (lv' := [(4, .int (nI 0)), (0, .ref b0), (1, .ref k1), (2, .int a2), (3, .int x3)]) C dX2_pass_32 rfl (by decide) rfl ?_
  refine j_lv [1, 2, 3, 4, 0] rfl ?_
  exact w_X2_pass_34 C hb0 hk1 E (fun x3 μ h => w_X2_pass_69 C hb0 hk1 E x3 μ h) zfu x3 (nI 0) μ h
def f_X2_pass_10 (b0 : Nat) (k1 : Nat) (a2 : Int32) (kx31 : Int32 → Mem → Option (Int32 × Mem)) : Nat → Int32 → Int32 → Mem → Option (Int32 × Mem)
  | 0, _, _, _ => none
  | n + 1, x3, x4, μ => (if (μ.1 b0 0) ≤ x4 then kx31 x3 μ else Option.bind (f_X2_hear b0 x4 μ) fun p2_ => f_X2_pass_10 b0 k1 a2 kx31 n x3 (x4 + (nI 1)) p2_)
set_option maxHeartbeats 4000000 in
set_option maxRecDepth 100000 in
theorem w_X2_pass_10 {Γ : jG} (C : jC Γ 5 cX2_pass RX2 rmX2_pass) {b0 : Nat} {k1 : Nat} {a2 : Int32} (hb0 : isNight b0) (hk1 : isLaw k1) {kx31 : Int32 → Mem → Option (Int32 × Mem)} {ρ : Int32 × Mem} (E : jEI Γ cX2_pass ρ.1 ρ.2) (Hkx31 : ∀ (x3 : Int32) (μ : Mem), kx31 x3 μ = some ρ → jJ Γ 5 31 [(0, .ref b0), (1, .ref k1), (2, .int a2), (3, .int x3)] [] μ) : ∀ (n : Nat) (x3 : Int32) (x4 : Int32) (μ : Mem), f_X2_pass_10 b0 k1 a2 kx31 n x3 x4 μ = some ρ → jJ Γ 5 10 [(0, .ref b0), (1, .ref k1), (2, .int a2), (3, .int x3), (4, .int x4)] [] μ := by
  intro n
  induction n with
  | zero => intro x3 x4 μ h; rw [f_X2_pass_10] at h; cases h
  | succ n ih =>
    intro x3 x4 μ h
    rw [f_X2_pass_10] at h
    refine j_iload C dX2_pass_10 rfl 4 rfl ?_
    refine j_aload_n C dX2_pass_12 rfl 0 rfl ?_
    refine j_getI C dX2_pass_13 rfl lkX2_9 (isN_0 hb0) rfl ?_
    refine j_icmp_ge (tgt := 31) C dX2_pass_16 rfl (by decide) (fun c1_ => ?_) (fun c1_ => ?_)
    · replace h := if_t h c1_
      refine j_lv [0, 1, 2, 3] rfl ?_
      exact (Hkx31) x3 μ h
    · replace h := if_f h c1_
      refine j_aload_n C dX2_pass_19 rfl 0 rfl ?_
      refine j_iload C dX2_pass_20 rfl 4 rfl ?_
      replace h := bd_e h
      obtain ⟨p2_, h3_, h⟩ := h
      refine j_cVV (av := [.int x4]) (rest := []) C dX2_pass_22 rfl (c_X2_hear _ _ _ _ hb0 μ p2_ h3_) gvX2_104 ⟨⟨rfl, rfl⟩, Nat.le_of_ble_eq_true rfl, Nat.le_of_ble_eq_true rfl⟩ rfl (isN_0 hb0) rfl rfl (Nat.le_of_ble_eq_true rfl) ?_
      refine j_iinc (d := (nI 1)) (v := x4 + (nI 1)) (lv' := [(4, .int (x4 + (nI 1))), (0, .ref b0), (1, .ref k1), (2, .int a2), (3, .int x3)]) C dX2_pass_25 rfl (by decide) 4 rfl (by decide) rfl rfl ?_
      refine j_goto (pc' := 10) C dX2_pass_28 (by decide) ?_
      refine j_lv [1, 2, 3, 4, 0] rfl ?_
      exact (ih) x3 (x4 + (nI 1)) p2_ h
def f_X2_pass (b0 : Nat) (k1 : Nat) (a2 : Int32) (μ : Mem) : Option (Int32 × Mem) := zl (sI μ b0 6 (nI 0)) fun μ1_ => f_X2_pass_10 b0 k1 a2 (fun x3 μ => f_X2_pass_31 b0 k1 a2 x3 μ) zfu (nI 0) (nI 0) μ1_
set_option maxHeartbeats 4000000 in
set_option maxRecDepth 100000 in
theorem w_X2_pass {Γ : jG} (C : jC Γ 5 cX2_pass RX2 rmX2_pass) {b0 : Nat} {k1 : Nat} {a2 : Int32} (hb0 : isNight b0) (hk1 : isLaw k1) {ρ : Int32 × Mem} (E : jEI Γ cX2_pass ρ.1 ρ.2) (μ : Mem) (h : f_X2_pass b0 k1 a2 μ = some ρ) : jJ Γ 5 0 [(0, .ref b0), (1, .ref k1), (2, .int a2)] [] μ := by
  unfold f_X2_pass at h
  refine j_aload_n C dX2_pass_0 rfl 0 rfl ?_
  refine j_iconst (v := (nI 0)) C dX2_pass_1 rfl (by decide) ?_
  refine j_putZ C dX2_pass_2 rfl lpX2_30 (isN_0 hb0) rfl (by decide) ?_
  refine j_mem (fun μ1_ e2_ => ?_)
  replace h := zl_u h e2_
  refine j_iconst (v := (nI 0)) C dX2_pass_5 rfl (by decide) ?_
  refine j_istore_n (lv' := [(3, .int (nI 0)), (0, .ref b0), (1, .ref k1), (2, .int a2)]) C dX2_pass_6 rfl (by decide) rfl ?_
  refine j_iconst (v := (nI 0)) C dX2_pass_7 rfl (by decide) ?_
  refine j_istore (lv' := [(4, .int (nI 0)), (3, .int (nI 0)), (0, .ref b0), (1, .ref k1), (2, .int a2)]) C dX2_pass_8 rfl (by decide) rfl ?_
  refine j_lv [2, 3, 4, 1, 0] rfl ?_
  exact w_X2_pass_10 C hb0 hk1 E (fun x3 μ h => w_X2_pass_31 C hb0 hk1 E x3 μ h) zfu (nI 0) (nI 0) μ1_ h
set_option maxRecDepth 100000 in
theorem c_X2_pass (l : Launch) (D : va_G) (ad : Nat → Nat) (cl : Nat → ClassId) {b0 : Nat} {k1 : Nat} {a2 : Int32} (hb0 : isNight b0) (hk1 : isLaw k1) (μ : Mem) (ρ : Int32 × Mem) (h : f_X2_pass b0 k1 a2 μ = some ρ) : CI l D ad cl yX2_pass wsX2_pass rmX2_pass [.ref b0, .ref k1, .int a2] μ ρ.1 ρ.2 := c_ofI (cc := cX2_pass) (nL := 5) rfl (by decide) (Nat.le_of_ble_eq_true rfl) (fun Γ C E => w_X2_pass C hb0 hk1 E μ h)
