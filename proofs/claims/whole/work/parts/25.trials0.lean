theorem gvX6_45 : jm_gv RX6 45 RX2 yX2_become wsX2_become 3 1 := ⟨_, _, gi_V gwt3_200 gwt3_201 gwt3_202 gwt1_3 gwt3_203, rfl, by decide +kernel⟩
/-! X6_begin -/
def wsX6_begin : List Cond := .code yX6_begin cX6_begin 3 none :: G0
def rmX6_begin : Room := { frames := 2, cells := 0, slots := 0, locals := 62 }
def f_X6_begin_42 (a1 : Int32) (kb13 : Int32 → Mem → Option (Mem)) (x2 : Int32) (μ : Mem) : Option (Mem) := kb13 (x2 + (nI 1)) μ
set_option maxHeartbeats 4000000 in
set_option maxRecDepth 100000 in
theorem w_X6_begin_42 {Γ : jG} (C : jC Γ 3 cX6_begin RX6 rmX6_begin) {a1 : Int32} {kb13 : Int32 → Mem → Option (Mem)} {ρ : Mem} (E : jEV Γ cX6_begin ρ) (Hkb13 : ∀ (x2 : Int32) (μ : Mem), kb13 x2 μ = some ρ → jJ Γ 3 13 [(0, .ref 65), (1, .int a1), (2, .int x2)] [] μ) (x2 : Int32) (μ : Mem) (h : f_X6_begin_42 a1 kb13 x2 μ = some ρ) : jJ Γ 3 42 [(0, .ref 65), (1, .int a1), (2, .int x2)] [] μ := by
  unfold f_X6_begin_42 at h
  refine j_iinc (d := (nI 1)) (v := x2 + (nI 1)) (lv' := [(2, .int (x2 + (nI 1))), (0, .ref 65), (1, .int a1)]) C dX6_begin_42 rfl (by decide) 2 rfl (by decide) rfl rfl ?_
  refine j_goto (pc' := 13) C dX6_begin_45 (by decide) ?_
  refine j_lv [1, 2, 0] rfl ?_
  exact (Hkb13) (x2 + (nI 1)) μ h
def f_X6_begin_13 (a1 : Int32) : Nat → Int32 → Mem → Option (Mem)
  | 0, _, _ => none
  | n + 1, x2, μ => (if (μ.1 66 0) ≤ x2 then some μ else (if ((a1 >>> (x2 &&& 31)) &&& (nI 1)) = 0 then f_X6_begin_42 a1 (fun x2 μ => f_X6_begin_13 a1 n x2 μ) x2 μ else gd (inb x2 9) <| zl (sI μ 67 (Int32.toNatClampNeg x2) (nI 1)) fun μ4_ => f_X6_begin_42 a1 (fun x2 μ => f_X6_begin_13 a1 n x2 μ) x2 μ4_))
set_option maxHeartbeats 4000000 in
set_option maxRecDepth 100000 in
theorem w_X6_begin_13 {Γ : jG} (C : jC Γ 3 cX6_begin RX6 rmX6_begin) {a1 : Int32} {ρ : Mem} (E : jEV Γ cX6_begin ρ) : ∀ (n : Nat) (x2 : Int32) (μ : Mem), f_X6_begin_13 a1 n x2 μ = some ρ → jJ Γ 3 13 [(0, .ref 65), (1, .int a1), (2, .int x2)] [] μ := by
  intro n
  induction n with
  | zero => intro x2 μ h; rw [f_X6_begin_13] at h; cases h
  | succ n ih =>
    intro x2 μ h
    rw [f_X6_begin_13] at h
    refine j_iload_n C dX6_begin_13 rfl 2 rfl ?_
    refine j_aload_n C dX6_begin_14 rfl 0 rfl ?_
    refine j_getR (c := 66) C dX6_begin_15 rfl lkX6_12 is_65 rfl ?_
    refine j_getI C dX6_begin_18 rfl lkX6_49 (isN_0 isN66) rfl ?_
    refine j_icmp_ge (tgt := 48) C dX6_begin_21 rfl (by decide) (fun c1_ => ?_) (fun c1_ => ?_)
    · replace h := if_t h c1_
      obtain rfl := Option.some.inj h
      exact j_vret E dX6_begin_48
    · replace h := if_f h c1_
      refine j_iload_n C dX6_begin_24 rfl 1 rfl ?_
      refine j_iload_n C dX6_begin_25 rfl 2 rfl ?_
      refine j_ishr C dX6_begin_26 rfl ?_
      refine j_iconst (v := (nI 1)) C dX6_begin_27 rfl (by decide) ?_
      refine j_iand C dX6_begin_28 rfl ?_
      refine j_if_eq (tgt := 42) C dX6_begin_29 rfl (by decide) (fun c2_ => ?_) (fun c2_ => ?_)
      · replace h := if_t h c2_
        refine j_lv [0, 1, 2] rfl ?_
        exact w_X6_begin_42 C E ih x2 μ h
      · replace h := if_f h c2_
        refine j_aload_n C dX6_begin_32 rfl 0 rfl ?_
        refine j_getR (c := 66) C dX6_begin_33 rfl lkX6_12 is_65 rfl ?_
        refine j_getR (c := 67) C dX6_begin_36 rfl lkX6_52 (isN_0 isN66) rfl ?_
        refine j_iload_n C dX6_begin_39 rfl 2 rfl ?_
        refine j_iconst (v := (nI 1)) C dX6_begin_40 rfl (by decide) ?_
        replace h := gd_e h
        obtain ⟨g3_, h⟩ := h
        refine j_iast C dX6_begin_41 rfl (isN_a1 isN66) g3_ ?_
        refine j_mem (fun μ4_ e5_ => ?_)
        replace h := zl_u h e5_
        refine j_lv [0, 1, 2] rfl ?_
        exact w_X6_begin_42 C E ih x2 μ4_ h
def f_X6_begin (a1 : Int32) (μ : Mem) : Option (Mem) := Option.bind (f_X2_become 66 2 μ) fun p1_ => f_X6_begin_13 a1 zfu (nI 0) p1_
set_option maxHeartbeats 4000000 in
set_option maxRecDepth 100000 in
theorem w_X6_begin {Γ : jG} (C : jC Γ 3 cX6_begin RX6 rmX6_begin) {a1 : Int32} {ρ : Mem} (E : jEV Γ cX6_begin ρ) (μ : Mem) (h : f_X6_begin a1 μ = some ρ) : jJ Γ 3 0 [(0, .ref 65), (1, .int a1)] [] μ := by
  unfold f_X6_begin at h
  refine j_aload_n C dX6_begin_0 rfl 0 rfl ?_
  refine j_getR (c := 66) C dX6_begin_1 rfl lkX6_12 is_65 rfl ?_
  refine j_aload_n C dX6_begin_4 rfl 0 rfl ?_
  refine j_getR (c := 2) C dX6_begin_5 rfl lkX6_39 is_65 rfl ?_
  replace h := bd_e h
  obtain ⟨p1_, h2_, h⟩ := h
  refine j_cVV (av := [.ref 2]) (rest := []) C dX6_begin_8 rfl (c_X2_become _ _ _ _ isN66 isN2 μ p1_ h2_) gvX6_45 ⟨⟨rfl, rfl⟩, Nat.le_of_ble_eq_true rfl, Nat.le_of_ble_eq_true rfl⟩ rfl (isN_0 isN66) rfl rfl (Nat.le_of_ble_eq_true rfl) ?_
  refine j_iconst (v := (nI 0)) C dX6_begin_11 rfl (by decide) ?_
  refine j_istore_n (lv' := [(2, .int (nI 0)), (0, .ref 65), (1, .int a1)]) C dX6_begin_12 rfl (by decide) rfl ?_
  refine j_lv [1, 2, 0] rfl ?_
  exact w_X6_begin_13 C E zfu (nI 0) p1_ h
set_option maxRecDepth 100000 in
theorem c_X6_begin (l : Launch) (D : va_G) (ad : Nat → Nat) (cl : Nat → ClassId) {a1 : Int32} (μ : Mem) (ρ : Mem) (h : f_X6_begin a1 μ = some ρ) : CV l D ad cl yX6_begin wsX6_begin rmX6_begin [.ref 65, .int a1] μ ρ := c_ofV (cc := cX6_begin) (nL := 3) rfl (by decide) (Nat.le_of_ble_eq_true rfl) (fun Γ C E => w_X6_begin C E μ h)
theorem gvX6_64 : jm_gv RX6 64 RX2 yX2_isStill wsX2_isStill 2 0 := ⟨_, _, gi_V gwt3_208 gwt3_209 gwt3_210 gwt1_3 gwt3_211, rfl, by decide +kernel⟩
theorem gvX6_60 : jm_gv RX6 60 RX2 yX2_pass wsX2_pass 5 2 := ⟨_, _, gi_V gwt3_207 gwt3_131 gwt3_132 gwt1_3 gwt3_133, rfl, by decide +kernel⟩
theorem gvX6_56 : jm_gv RX6 56 RX6 yX6_begin wsX6_begin 3 1 := ⟨_, _, gi_V gwt3_196 gwt3_198 gwp2_6 gwt1_7 gwt3_199, rfl, by decide +kernel⟩
/-! X6_run -/
def wsX6_run : List Cond := .code yX6_run cX6_run 4 none :: G0
def rmX6_run : Room := { frames := 4, cells := 0, slots := 0, locals := 101 }
def f_X6_run_7 (k1 : Nat) (a2 : Int32) : Nat → Int32 → Mem → Option (Mem)
  | 0, _, _ => none
  | n + 1, x3, μ => (if a2 ≤ x3 then some μ else Option.bind (f_X2_pass 66 k1 (nI 0) μ) fun p2_ => Option.bind (f_X2_isStill 66 p2_.2) fun p4_ => (if p4_.1 = 0 then f_X6_run_7 k1 a2 n (x3 + (nI 1)) p4_.2 else some p4_.2))
set_option maxHeartbeats 4000000 in
set_option maxRecDepth 100000 in
theorem w_X6_run_7 {Γ : jG} (C : jC Γ 4 cX6_run RX6 rmX6_run) {k1 : Nat} {a2 : Int32} (hk1 : isLaw k1) {ρ : Mem} (E : jEV Γ cX6_run ρ) : ∀ (n : Nat) (x3 : Int32) (μ : Mem), f_X6_run_7 k1 a2 n x3 μ = some ρ → jJ Γ 4 7 [(0, .ref 65), (1, .ref k1), (2, .int a2), (3, .int x3)] [] μ := by
  intro n
  induction n with
  | zero => intro x3 μ h; rw [f_X6_run_7] at h; cases h
  | succ n ih =>
    intro x3 μ h
    rw [f_X6_run_7] at h
    refine j_iload_n C dX6_run_7 rfl 3 rfl ?_
    refine j_iload_n C dX6_run_8 rfl 2 rfl ?_
    refine j_icmp_ge (tgt := 39) C dX6_run_9 rfl (by decide) (fun c1_ => ?_) (fun c1_ => ?_)
    · replace h := if_t h c1_
      obtain rfl := Option.some.inj h
      exact j_vret E dX6_run_39
    · replace h := if_f h c1_
      refine j_aload_n C dX6_run_12 rfl 0 rfl ?_
      refine j_getR (c := 66) C dX6_run_13 rfl lkX6_12 is_65 rfl ?_
      refine j_aload_n C dX6_run_16 rfl 1 rfl ?_
      refine j_iconst (v := (nI 0)) C dX6_run_17 rfl (by decide) ?_
      replace h := bd_e h
      obtain ⟨p2_, h3_, h⟩ := h
      refine j_cVI (av := [.ref k1, .int (nI 0)]) (rest := []) C dX6_run_18 rfl (c_X2_pass _ _ _ _ isN66 hk1 μ p2_ h3_) gvX6_60 ⟨⟨rfl, rfl⟩, Nat.le_of_ble_eq_true rfl, Nat.le_of_ble_eq_true rfl⟩ rfl (isN_0 isN66) rfl rfl (Nat.le_of_ble_eq_true rfl) ?_
      refine j_pop C dX6_run_21 rfl rfl ?_
      refine j_aload_n C dX6_run_22 rfl 0 rfl ?_
      refine j_getR (c := 66) C dX6_run_23 rfl lkX6_12 is_65 rfl ?_
      replace h := bd_e h
      obtain ⟨p4_, h5_, h⟩ := h
      refine j_cVI (av := []) (rest := []) C dX6_run_26 rfl (c_X2_isStill _ _ _ _ isN66 p2_.2 p4_ h5_) gvX6_64 ⟨⟨rfl, rfl⟩, Nat.le_of_ble_eq_true rfl, Nat.le_of_ble_eq_true rfl⟩ rfl (isN_0 isN66) rfl rfl (Nat.le_of_ble_eq_true rfl) ?_
      refine j_if_eq (tgt := 33) C dX6_run_29 rfl (by decide) (fun c6_ => ?_) (fun c6_ => ?_)
      · replace h := if_t h c6_
        refine j_iinc (d := (nI 1)) (v := x3 + (nI 1)) (lv' := [(3, .int (x3 + (nI 1))), (0, .ref 65), (1, .ref k1), (2, .int a2)]) C dX6_run_33 rfl (by decide) 3 rfl (by decide) rfl rfl ?_
        refine j_goto (pc' := 7) C dX6_run_36 (by decide) ?_
        refine j_lv [1, 2, 3, 0] rfl ?_
        exact (ih) (x3 + (nI 1)) p4_.2 h
      · replace h := if_f h c6_
        obtain rfl := Option.some.inj h
        exact j_vret E dX6_run_32
def f_X6_run (k1 : Nat) (a2 : Int32) (μ : Mem) : Option (Mem) := Option.bind (f_X6_begin (nI 0) μ) fun p1_ => f_X6_run_7 k1 a2 zfu (nI 0) p1_
set_option maxHeartbeats 4000000 in
set_option maxRecDepth 100000 in
theorem w_X6_run {Γ : jG} (C : jC Γ 4 cX6_run RX6 rmX6_run) {k1 : Nat} {a2 : Int32} (hk1 : isLaw k1) {ρ : Mem} (E : jEV Γ cX6_run ρ) (μ : Mem) (h : f_X6_run k1 a2 μ = some ρ) : jJ Γ 4 0 [(0, .ref 65), (1, .ref k1), (2, .int a2)] [] μ := by
  unfold f_X6_run at h
  refine j_aload_n C dX6_run_0 rfl 0 rfl ?_
  refine j_iconst (v := (nI 0)) C dX6_run_1 rfl (by decide) ?_
  replace h := bd_e h
  obtain ⟨p1_, h2_, h⟩ := h
  refine j_cVV (av := [.int (nI 0)]) (rest := []) C dX6_run_2 rfl (c_X6_begin _ _ _ _ μ p1_ h2_) gvX6_56 ⟨⟨rfl, rfl⟩, Nat.le_of_ble_eq_true rfl, Nat.le_of_ble_eq_true rfl⟩ rfl is_65 rfl rfl (Nat.le_of_ble_eq_true rfl) ?_
  refine j_iconst (v := (nI 0)) C dX6_run_5 rfl (by decide) ?_
  refine j_istore_n (lv' := [(3, .int (nI 0)), (0, .ref 65), (1, .ref k1), (2, .int a2)]) C dX6_run_6 rfl (by decide) rfl ?_
  refine j_lv [1, 2, 3, 0] rfl ?_
  exact w_X6_run_7 C hk1 E zfu (nI 0) p1_ h
set_option maxRecDepth 100000 in
theorem c_X6_run (l : Launch) (D : va_G) (ad : Nat → Nat) (cl : Nat → ClassId) {k1 : Nat} {a2 : Int32} (hk1 : isLaw k1) (μ : Mem) (ρ : Mem) (h : f_X6_run k1 a2 μ = some ρ) : CV l D ad cl yX6_run wsX6_run rmX6_run [.ref 65, .ref k1, .int a2] μ ρ := c_ofV (cc := cX6_run) (nL := 4) rfl (by decide) (Nat.le_of_ble_eq_true rfl) (fun Γ C E => w_X6_run C hk1 E μ h)
theorem gvX6_72 : jm_gv RX6 72 RX2 yX2_isDone wsX2_isDone 2 1 := ⟨_, _, gi_V gwt3_229 gwt3_106 gwt3_107 gwt1_3 gwt3_108, rfl, by decide +kernel⟩
theorem gvX6_76 : jm_gv RX6 76 RX2 yX2_isUnlike wsX2_isUnlike 2 0 := ⟨_, _, gi_V gwt3_230 gwt3_119 gwt3_120 gwt1_3 gwt3_121, rfl, by decide +kernel⟩
theorem gvX6_79 : jm_gv RX6 79 RX2 yX2_showsAs wsX2_showsAs 4 2 := ⟨_, _, gi_V gwt3_231 gwt3_232 gwt3_233 gwt1_3 gwt3_234, rfl, by decide +kernel⟩
/-! X6_isAt -/
def wsX6_isAt : List Cond := .code yX6_isAt cX6_isAt 3 (some .boolean) :: G0
def rmX6_isAt : Room := { frames := 3, cells := 0, slots := 0, locals := 64 }
def f_X6_isAt (a1 : Int32) (a2 : Int32) (μ : Mem) : Option (Int32 × Mem) := (if a1 = (nI 0) then Option.bind (f_X2_isDone 66 a2 μ) fun p2_ => gd (isB p2_.1) <| some (p2_.1, p2_.2) else if a1 = (nI 1) then Option.bind (f_X2_isUnlike 66 μ) fun p6_ => gd (isB p6_.1) <| some (p6_.1, p6_.2) else (if (μ.1 65 4) = 0 then some ((nI 0), μ) else gd (isItB (Int32.toNatClampNeg (μ.1 65 4))) <| Option.bind (f_X2_showsAs 66 (Int32.toNatClampNeg (μ.1 65 4)) (μ.1 65 5) μ) fun p11_ => (if p11_.1 = 0 then some ((nI 0), p11_.2) else some ((nI 1), p11_.2))))
set_option maxHeartbeats 4000000 in
set_option maxRecDepth 100000 in
theorem w_X6_isAt {Γ : jG} (C : jC Γ 3 cX6_isAt RX6 rmX6_isAt) {a1 : Int32} {a2 : Int32} {ρ : Int32 × Mem} (E : (isB ρ.1 = true → jEI Γ cX6_isAt ρ.1 ρ.2)) (μ : Mem) (h : f_X6_isAt a1 a2 μ = some ρ) : jJ Γ 3 0 [(0, .ref 65), (1, .int a1), (2, .int a2)] [] μ := by
  unfold f_X6_isAt at h
  refine j_iload_n C dX6_isAt_0 rfl 1 rfl ?_
  by_cases c1_ : a1 = (nI 0)
  · refine j_lookup (tgt := 28) C dX6_isAt_1 (by decide) (by rw [c1_]; try rfl) (by decide) ?_
    replace h := if_t h c1_
    refine j_aload_n C dX6_isAt_28 rfl 0 rfl ?_
    refine j_getR (c := 66) C dX6_isAt_29 rfl lkX6_12 is_65 rfl ?_
    refine j_iload_n C dX6_isAt_32 rfl 2 rfl ?_
    replace h := bd_e h
    obtain ⟨p2_, h3_, h⟩ := h
    refine j_cVI (av := [.int a2]) (rest := []) C dX6_isAt_33 rfl (c_X2_isDone _ _ _ _ isN66 μ p2_ h3_) gvX6_72 ⟨⟨rfl, rfl⟩, Nat.le_of_ble_eq_true rfl, Nat.le_of_ble_eq_true rfl⟩ rfl (isN_0 isN66) rfl rfl (Nat.le_of_ble_eq_true rfl) ?_
    replace h := gd_e h
    obtain ⟨g4_, h⟩ := h
    obtain rfl := Option.some.inj h
    exact j_iret (E g4_) dX6_isAt_36
  replace h := if_f h c1_
  by_cases c5_ : a1 = (nI 1)
  · refine j_lookup (tgt := 37) C dX6_isAt_1 (by decide) (by rw [c5_]; try rfl) (by decide) ?_
    replace h := if_t h c5_
    refine j_aload_n C dX6_isAt_37 rfl 0 rfl ?_
    refine j_getR (c := 66) C dX6_isAt_38 rfl lkX6_12 is_65 rfl ?_
    replace h := bd_e h
    obtain ⟨p6_, h7_, h⟩ := h
    refine j_cVI (av := []) (rest := []) C dX6_isAt_41 rfl (c_X2_isUnlike _ _ _ _ isN66 μ p6_ h7_) gvX6_76 ⟨⟨rfl, rfl⟩, Nat.le_of_ble_eq_true rfl, Nat.le_of_ble_eq_true rfl⟩ rfl (isN_0 isN66) rfl rfl (Nat.le_of_ble_eq_true rfl) ?_
    replace h := gd_e h
    obtain ⟨g8_, h⟩ := h
    obtain rfl := Option.some.inj h
    exact j_iret (E g8_) dX6_isAt_44
  replace h := if_f h c5_
  have nc1_ := i32_ne (z := 0) c1_ (by decide)
  have nc5_ := i32_ne (z := 1) c5_ (by decide)
  refine j_lookup (tgt := 45) C dX6_isAt_1 (by decide) (by simp [Op.lookupswitch.offset, nc1_.symm, nc1_, nc5_.symm, nc5_]; rfl) (by decide) ?_
  refine j_aload_n C dX6_isAt_45 rfl 0 rfl ?_
  refine j_getD C dX6_isAt_46 rfl lkX6_25 is_65 rfl ?_
  refine j_ifnull (tgt := 74) C dX6_isAt_49 rfl (by decide) (fun c9_ => ?_) (fun c9_ => ?_)
  · replace h := if_t h c9_
    refine j_iconst (v := (nI 0)) C dX6_isAt_74 rfl (by decide) ?_
    obtain rfl := Option.some.inj h
    exact j_iret (E isB_0) dX6_isAt_75
  · replace h := if_f h c9_
    refine j_aload_n C dX6_isAt_52 rfl 0 rfl ?_
    refine j_getR (c := 66) C dX6_isAt_53 rfl lkX6_12 is_65 rfl ?_
    refine j_aload_n C dX6_isAt_56 rfl 0 rfl ?_
    refine j_getD C dX6_isAt_57 rfl lkX6_25 is_65 rfl ?_
    refine j_aload_n C dX6_isAt_60 rfl 0 rfl ?_
    refine j_getI C dX6_isAt_61 rfl lkX6_29 is_65 rfl ?_
    replace h := gd_e h
    obtain ⟨g10_, h⟩ := h
    replace h := bd_e h
    obtain ⟨p11_, h12_, h⟩ := h
    rw [if_neg c9_]
    refine j_cVI (av := [.ref (Int32.toNatClampNeg (μ.1 65 4)), .int (μ.1 65 5)]) (rest := []) C dX6_isAt_64 rfl (c_X2_showsAs _ _ _ _ isN66 (isItB_e g10_) μ p11_ h12_) gvX6_79 ⟨⟨rfl, rfl⟩, Nat.le_of_ble_eq_true rfl, Nat.le_of_ble_eq_true rfl⟩ rfl (isN_0 isN66) rfl rfl (Nat.le_of_ble_eq_true rfl) ?_
    refine j_if_eq (tgt := 74) C dX6_isAt_67 rfl (by decide) (fun c13_ => ?_) (fun c13_ => ?_)
    · replace h := if_t h c13_
      refine j_iconst (v := (nI 0)) C dX6_isAt_74 rfl (by decide) ?_
      obtain rfl := Option.some.inj h
      exact j_iret (E isB_0) dX6_isAt_75
    · replace h := if_f h c13_
      refine j_iconst (v := (nI 1)) C dX6_isAt_70 rfl (by decide) ?_
      refine j_goto (pc' := 75) C dX6_isAt_71 (by decide) ?_
      obtain rfl := Option.some.inj h
      exact j_iret (E isB_1) dX6_isAt_75
set_option maxRecDepth 100000 in
theorem c_X6_isAt (l : Launch) (D : va_G) (ad : Nat → Nat) (cl : Nat → ClassId) {a1 : Int32} {a2 : Int32} (μ : Mem) (ρ : Int32 × Mem) (h : f_X6_isAt a1 a2 μ = some ρ) : CI l D ad cl yX6_isAt wsX6_isAt rmX6_isAt [.ref 65, .int a1, .int a2] μ ρ.1 ρ.2 := c_ofZ (cc := cX6_isAt) (nL := 3) rfl (by decide) (Nat.le_of_ble_eq_true rfl) (fun Γ C E => w_X6_isAt C E μ h)
theorem gvX6_68 : jm_gv RX6 68 RX6 yX6_isAt wsX6_isAt 3 2 := ⟨_, _, gi_V gwt3_225 gwt3_227 gwp2_8 gwt1_7 gwt3_228, rfl, by decide +kernel⟩
/-! X6_until -/
def wsX6_until : List Cond := .code yX6_until cX6_until 5 (some .int) :: G0
def rmX6_until : Room := { frames := 4, cells := 0, slots := 0, locals := 101 }
def f_X6_until_41 (k1 : Nat) (a2 : Int32) (a3 : Int32) (kb3 : Int32 → Mem → Option (Int32 × Mem)) (x4 : Int32) (μ : Mem) : Option (Int32 × Mem) := Option.bind (f_X2_pass 66 k1 (nI 0) μ) fun p1_ => Option.bind (f_X2_isStill 66 p1_.2) fun p3_ => (if p3_.1 = 0 then kb3 (x4 + (nI 1)) p3_.2 else some ((nI 61), p3_.2))
set_option maxHeartbeats 4000000 in
set_option maxRecDepth 100000 in
theorem w_X6_until_41 {Γ : jG} (C : jC Γ 5 cX6_until RX6 rmX6_until) {k1 : Nat} {a2 : Int32} {a3 : Int32} (hk1 : isLaw k1) {kb3 : Int32 → Mem → Option (Int32 × Mem)} {ρ : Int32 × Mem} (E : jEI Γ cX6_until ρ.1 ρ.2) (Hkb3 : ∀ (x4 : Int32) (μ : Mem), kb3 x4 μ = some ρ → jJ Γ 5 3 [(0, .ref 65), (1, .ref k1), (2, .int a2), (3, .int a3), (4, .int x4)] [] μ) (x4 : Int32) (μ : Mem) (h : f_X6_until_41 k1 a2 a3 kb3 x4 μ = some ρ) : jJ Γ 5 41 [(0, .ref 65), (1, .ref k1), (2, .int a2), (3, .int a3), (4, .int x4)] [] μ := by
  unfold f_X6_until_41 at h
  refine j_aload_n C dX6_until_41 rfl 0 rfl ?_
  refine j_getR (c := 66) C dX6_until_42 rfl lkX6_12 is_65 rfl ?_
  refine j_aload_n C dX6_until_45 rfl 1 rfl ?_
  refine j_iconst (v := (nI 0)) C dX6_until_46 rfl (by decide) ?_
  replace h := bd_e h
  obtain ⟨p1_, h2_, h⟩ := h
  refine j_cVI (av := [.ref k1, .int (nI 0)]) (rest := []) C dX6_until_47 rfl (c_X2_pass _ _ _ _ isN66 hk1 μ p1_ h2_) gvX6_60 ⟨⟨rfl, rfl⟩, Nat.le_of_ble_eq_true rfl, Nat.le_of_ble_eq_true rfl⟩ rfl (isN_0 isN66) rfl rfl (Nat.le_of_ble_eq_true rfl) ?_
  refine j_pop C dX6_until_50 rfl rfl ?_
  refine j_aload_n C dX6_until_51 rfl 0 rfl ?_
  refine j_getR (c := 66) C dX6_until_52 rfl lkX6_12 is_65 rfl ?_
  replace h := bd_e h
  obtain ⟨p3_, h4_, h⟩ := h
  refine j_cVI (av := []) (rest := []) C dX6_until_55 rfl (c_X2_isStill _ _ _ _ isN66 p1_.2 p3_ h4_) gvX6_64 ⟨⟨rfl, rfl⟩, Nat.le_of_ble_eq_true rfl, Nat.le_of_ble_eq_true rfl⟩ rfl (isN_0 isN66) rfl rfl (Nat.le_of_ble_eq_true rfl) ?_
  refine j_if_eq (tgt := 64) C dX6_until_58 rfl (by decide) (fun c5_ => ?_) (fun c5_ => ?_)
  · replace h := if_t h c5_
    refine j_iinc (d := (nI 1)) (v := x4 + (nI 1)) (lv' := [(4, .int (x4 + (nI 1))), (0, .ref 65), (1, .ref k1), (2, .int a2), (3, .int a3)]) C dX6_until_64 rfl (by decide) 4 rfl (by decide) rfl rfl ?_
    refine j_goto (pc' := 3) C dX6_until_67 (by decide) ?_
    refine j_lv [1, 2, 3, 4, 0] rfl ?_
    exact (Hkb3) (x4 + (nI 1)) p3_.2 h
  · replace h := if_f h c5_
    refine j_bipush (v := (nI 61)) C dX6_until_61 rfl (by decide) ?_
    obtain rfl := Option.some.inj h
    exact j_iret E dX6_until_63
def f_X6_until_3 (k1 : Nat) (a2 : Int32) (a3 : Int32) : Nat → Int32 → Mem → Option (Int32 × Mem)
  | 0, _, _ => none
  | n + 1, x4, μ => (if (nI 60) < x4 then some ((nI 61), μ) else Option.bind (f_X6_isAt a2 a3 μ) fun p2_ => (if p2_.1 = 0 then (if a2 = (nI 1) then Option.bind (f_X2_isDone 66 (nI 0) p2_.2) fun p6_ => (if p6_.1 = 0 then f_X6_until_41 k1 a2 a3 (fun x4 μ => f_X6_until_3 k1 a2 a3 n x4 μ) x4 p6_.2 else some ((nI 61), p6_.2)) else f_X6_until_41 k1 a2 a3 (fun x4 μ => f_X6_until_3 k1 a2 a3 n x4 μ) x4 p2_.2) else some (x4, p2_.2)))
set_option maxHeartbeats 4000000 in
set_option maxRecDepth 100000 in
theorem w_X6_until_3 {Γ : jG} (C : jC Γ 5 cX6_until RX6 rmX6_until) {k1 : Nat} {a2 : Int32} {a3 : Int32} (hk1 : isLaw k1) {ρ : Int32 × Mem} (E : jEI Γ cX6_until ρ.1 ρ.2) : ∀ (n : Nat) (x4 : Int32) (μ : Mem), f_X6_until_3 k1 a2 a3 n x4 μ = some ρ → jJ Γ 5 3 [(0, .ref 65), (1, .ref k1), (2, .int a2), (3, .int a3), (4, .int x4)] [] μ := by
  intro n
  induction n with
  | zero => intro x4 μ h; rw [f_X6_until_3] at h; cases h
  | succ n ih =>
    intro x4 μ h
    rw [f_X6_until_3] at h
    refine j_iload C dX6_until_3 rfl 4 rfl ?_
    refine j_bipush (v := (nI 60)) C dX6_until_5 rfl (by decide) ?_
    refine j_icmp_gt (tgt := 70) C dX6_until_7 rfl (by decide) (fun c1_ => ?_) (fun c1_ => ?_)
    · replace h := if_t h c1_
      refine j_bipush (v := (nI 61)) C dX6_until_70 rfl (by decide) ?_
      obtain rfl := Option.some.inj h
      exact j_iret E dX6_until_72
    · replace h := if_f h c1_
      refine j_aload_n C dX6_until_10 rfl 0 rfl ?_
      refine j_iload_n C dX6_until_11 rfl 2 rfl ?_
      refine j_iload_n C dX6_until_12 rfl 3 rfl ?_
      replace h := bd_e h
      obtain ⟨p2_, h3_, h⟩ := h
      refine j_cVI (av := [.int a2, .int a3]) (rest := []) C dX6_until_13 rfl (c_X6_isAt _ _ _ _ μ p2_ h3_) gvX6_68 ⟨⟨rfl, rfl⟩, Nat.le_of_ble_eq_true rfl, Nat.le_of_ble_eq_true rfl⟩ rfl is_65 rfl rfl (Nat.le_of_ble_eq_true rfl) ?_
      refine j_if_eq (tgt := 22) C dX6_until_16 rfl (by decide) (fun c4_ => ?_) (fun c4_ => ?_)
      · replace h := if_t h c4_
        refine j_iload_n C dX6_until_22 rfl 2 rfl ?_
        refine j_iconst (v := (nI 1)) C dX6_until_23 rfl (by decide) ?_
        refine j_icmp_ne (tgt := 41) C dX6_until_24 rfl (by decide) (fun c5_ => ?_) (fun c5_ => ?_)
        · replace h := if_f h c5_
          refine j_lv [0, 1, 2, 3, 4] rfl ?_
          exact w_X6_until_41 C hk1 E ih x4 p2_.2 h
        · replace h := if_t h c5_
          refine j_aload_n C dX6_until_27 rfl 0 rfl ?_
          refine j_getR (c := 66) C dX6_until_28 rfl lkX6_12 is_65 rfl ?_
          refine j_iconst (v := (nI 0)) C dX6_until_31 rfl (by decide) ?_
          replace h := bd_e h
          obtain ⟨p6_, h7_, h⟩ := h
          refine j_cVI (av := [.int (nI 0)]) (rest := []) C dX6_until_32 rfl (c_X2_isDone _ _ _ _ isN66 p2_.2 p6_ h7_) gvX6_72 ⟨⟨rfl, rfl⟩, Nat.le_of_ble_eq_true rfl, Nat.le_of_ble_eq_true rfl⟩ rfl (isN_0 isN66) rfl rfl (Nat.le_of_ble_eq_true rfl) ?_
          refine j_if_eq (tgt := 41) C dX6_until_35 rfl (by decide) (fun c8_ => ?_) (fun c8_ => ?_)
          · replace h := if_t h c8_
            refine j_lv [0, 1, 2, 3, 4] rfl ?_
            exact w_X6_until_41 C hk1 E ih x4 p6_.2 h
          · replace h := if_f h c8_
            refine j_bipush (v := (nI 61)) C dX6_until_38 rfl (by decide) ?_
            obtain rfl := Option.some.inj h
            exact j_iret E dX6_until_40
      · replace h := if_f h c4_
        refine j_iload C dX6_until_19 rfl 4 rfl ?_
        obtain rfl := Option.some.inj h
        exact j_iret E dX6_until_21
def f_X6_until (k1 : Nat) (a2 : Int32) (a3 : Int32) (μ : Mem) : Option (Int32 × Mem) := f_X6_until_3 k1 a2 a3 zfu (nI 0) μ
set_option maxHeartbeats 4000000 in
set_option maxRecDepth 100000 in
theorem w_X6_until {Γ : jG} (C : jC Γ 5 cX6_until RX6 rmX6_until) {k1 : Nat} {a2 : Int32} {a3 : Int32} (hk1 : isLaw k1) {ρ : Int32 × Mem} (E : jEI Γ cX6_until ρ.1 ρ.2) (μ : Mem) (h : f_X6_until k1 a2 a3 μ = some ρ) : jJ Γ 5 0 [(0, .ref 65), (1, .ref k1), (2, .int a2), (3, .int a3)] [] μ := by
  unfold f_X6_until at h
  refine j_iconst (v := (nI 0)) C dX6_until_0 rfl (by decide) ?_
  refine j_istore (lv' := [(4, .int (nI 0)), (0, .ref 65), (1, .ref k1), (2, .int a2), (3, .int a3)]) C dX6_until_1 rfl (by decide) rfl ?_
  refine j_lv [1, 2, 3, 4, 0] rfl ?_
  exact w_X6_until_3 C hk1 E zfu (nI 0) μ h
set_option maxRecDepth 100000 in
theorem c_X6_until (l : Launch) (D : va_G) (ad : Nat → Nat) (cl : Nat → ClassId) {k1 : Nat} {a2 : Int32} {a3 : Int32} (hk1 : isLaw k1) (μ : Mem) (ρ : Int32 × Mem) (h : f_X6_until k1 a2 a3 μ = some ρ) : CI l D ad cl yX6_until wsX6_until rmX6_until [.ref 65, .ref k1, .int a2, .int a3] μ ρ.1 ρ.2 := c_ofI (cc := cX6_until) (nL := 5) rfl (by decide) (Nat.le_of_ble_eq_true rfl) (fun Γ C E => w_X6_until C hk1 E μ h)
theorem gvX6_83 : jm_gv RX6 83 RX6 yX6_run wsX6_run 4 2 := ⟨_, _, gi_V gwt3_192 gwt3_194 gwp2_5 gwt1_7 gwt3_195, rfl, by decide +kernel⟩
/-! X6_later -/
def wsX6_later : List Cond := .code yX6_later cX6_later 2 (some (.object "NineLamps$Night")) :: G0
def rmX6_later : Room := { frames := 5, cells := 0, slots := 0, locals := 124 }
def f_X6_later (a1 : Int32) (μ : Mem) : Option (Nat × Mem) := Option.bind (f_X6_run 24 a1 μ) fun p1_ => some (66, p1_)
set_option maxHeartbeats 4000000 in
set_option maxRecDepth 100000 in
theorem w_X6_later {Γ : jG} (C : jC Γ 2 cX6_later RX6 rmX6_later) {a1 : Int32} {ρ : Nat × Mem} (E : jER Γ cX6_later ρ.1 ρ.2) (μ : Mem) (h : f_X6_later a1 μ = some ρ) : jJ Γ 2 0 [(0, .ref 65), (1, .int a1)] [] μ := by
  unfold f_X6_later at h
  refine j_aload_n C dX6_later_0 rfl 0 rfl ?_
  refine j_aload_n C dX6_later_1 rfl 0 rfl ?_
  refine j_getR (c := 24) C dX6_later_2 rfl lkX6_42 is_65 rfl ?_
  refine j_iload_n C dX6_later_5 rfl 1 rfl ?_
  replace h := bd_e h
  obtain ⟨p1_, h2_, h⟩ := h
  refine j_cVV (av := [.ref 24, .int a1]) (rest := []) C dX6_later_6 rfl (c_X6_run _ _ _ _ isW24 μ p1_ h2_) gvX6_83 ⟨⟨rfl, rfl⟩, Nat.le_of_ble_eq_true rfl, Nat.le_of_ble_eq_true rfl⟩ rfl is_65 rfl rfl (Nat.le_of_ble_eq_true rfl) ?_
  refine j_aload_n C dX6_later_9 rfl 0 rfl ?_
  refine j_getR (c := 66) C dX6_later_10 rfl lkX6_12 is_65 rfl ?_
  obtain rfl := Option.some.inj h
  exact j_aret E dX6_later_13
set_option maxRecDepth 100000 in
theorem c_X6_later (l : Launch) (D : va_G) (ad : Nat → Nat) (cl : Nat → ClassId) {a1 : Int32} (μ : Mem) (ρ : Nat × Mem) (h : f_X6_later a1 μ = some ρ) : CR l D ad cl yX6_later wsX6_later rmX6_later [.ref 65, .int a1] μ ρ.1 ρ.2 := c_ofR (cc := cX6_later) (nL := 2) rfl (by decide) (Nat.le_of_ble_eq_true rfl) (fun Γ C E => w_X6_later C E μ h)
theorem gvX6_87 : jm_gv RX6 87 RX6 yX6_until wsX6_until 5 3 := ⟨_, _, gi_V gwt3_221 gwt3_223 gwp2_7 gwt1_7 gwt3_224, rfl, by decide +kernel⟩
/-! X6_doneFromNow -/
def wsX6_doneFromNow : List Cond := .code yX6_doneFromNow cX6_doneFromNow 1 (some .int) :: G0
def rmX6_doneFromNow : Room := { frames := 5, cells := 0, slots := 0, locals := 125 }
def f_X6_doneFromNow (μ : Mem) : Option (Int32 × Mem) := Option.bind (f_X6_begin (nI 0) μ) fun p1_ => Option.bind (f_X6_until 24 (nI 0) (nI 0) p1_) fun p3_ => some (p3_.1, p3_.2)
set_option maxHeartbeats 4000000 in
set_option maxRecDepth 100000 in
theorem w_X6_doneFromNow {Γ : jG} (C : jC Γ 1 cX6_doneFromNow RX6 rmX6_doneFromNow) {ρ : Int32 × Mem} (E : jEI Γ cX6_doneFromNow ρ.1 ρ.2) (μ : Mem) (h : f_X6_doneFromNow μ = some ρ) : jJ Γ 1 0 [(0, .ref 65)] [] μ := by
  unfold f_X6_doneFromNow at h
  refine j_aload_n C dX6_doneFromNow_0 rfl 0 rfl ?_
  refine j_iconst (v := (nI 0)) C dX6_doneFromNow_1 rfl (by decide) ?_
  replace h := bd_e h
  obtain ⟨p1_, h2_, h⟩ := h
  refine j_cVV (av := [.int (nI 0)]) (rest := []) C dX6_doneFromNow_2 rfl (c_X6_begin _ _ _ _ μ p1_ h2_) gvX6_56 ⟨⟨rfl, rfl⟩, Nat.le_of_ble_eq_true rfl, Nat.le_of_ble_eq_true rfl⟩ rfl is_65 rfl rfl (Nat.le_of_ble_eq_true rfl) ?_
  refine j_aload_n C dX6_doneFromNow_5 rfl 0 rfl ?_
  refine j_aload_n C dX6_doneFromNow_6 rfl 0 rfl ?_
  refine j_getR (c := 24) C dX6_doneFromNow_7 rfl lkX6_42 is_65 rfl ?_
  refine j_iconst (v := (nI 0)) C dX6_doneFromNow_10 rfl (by decide) ?_
  refine j_iconst (v := (nI 0)) C dX6_doneFromNow_11 rfl (by decide) ?_
  replace h := bd_e h
  obtain ⟨p3_, h4_, h⟩ := h
  refine j_cVI (av := [.ref 24, .int (nI 0), .int (nI 0)]) (rest := []) C dX6_doneFromNow_12 rfl (c_X6_until _ _ _ _ isW24 p1_ p3_ h4_) gvX6_87 ⟨⟨rfl, rfl⟩, Nat.le_of_ble_eq_true rfl, Nat.le_of_ble_eq_true rfl⟩ rfl is_65 rfl rfl (Nat.le_of_ble_eq_true rfl) ?_
  obtain rfl := Option.some.inj h
  exact j_iret E dX6_doneFromNow_15
set_option maxRecDepth 100000 in
theorem c_X6_doneFromNow (l : Launch) (D : va_G) (ad : Nat → Nat) (cl : Nat → ClassId) (μ : Mem) (ρ : Int32 × Mem) (h : f_X6_doneFromNow μ = some ρ) : CI l D ad cl yX6_doneFromNow wsX6_doneFromNow rmX6_doneFromNow [.ref 65] μ ρ.1 ρ.2 := c_ofI (cc := cX6_doneFromNow) (nL := 1) rfl (by decide) (Nat.le_of_ble_eq_true rfl) (fun Γ C E => w_X6_doneFromNow C E μ h)
/-! X6_unlikeWith -/
def wsX6_unlikeWith : List Cond := .code yX6_unlikeWith cX6_unlikeWith 2 (some .int) :: G0
def rmX6_unlikeWith : Room := { frames := 5, cells := 0, slots := 0, locals := 125 }
def f_X6_unlikeWith (a1 : Int32) (μ : Mem) : Option (Int32 × Mem) := Option.bind (f_X6_begin a1 μ) fun p1_ => Option.bind (f_X6_until 24 (nI 1) (nI 0) p1_) fun p3_ => some (p3_.1, p3_.2)
set_option maxHeartbeats 4000000 in
set_option maxRecDepth 100000 in
theorem w_X6_unlikeWith {Γ : jG} (C : jC Γ 2 cX6_unlikeWith RX6 rmX6_unlikeWith) {a1 : Int32} {ρ : Int32 × Mem} (E : jEI Γ cX6_unlikeWith ρ.1 ρ.2) (μ : Mem) (h : f_X6_unlikeWith a1 μ = some ρ) : jJ Γ 2 0 [(0, .ref 65), (1, .int a1)] [] μ := by
  unfold f_X6_unlikeWith at h
  refine j_aload_n C dX6_unlikeWith_0 rfl 0 rfl ?_
  refine j_iload_n C dX6_unlikeWith_1 rfl 1 rfl ?_
  replace h := bd_e h
  obtain ⟨p1_, h2_, h⟩ := h
  refine j_cVV (av := [.int a1]) (rest := []) C dX6_unlikeWith_2 rfl (c_X6_begin _ _ _ _ μ p1_ h2_) gvX6_56 ⟨⟨rfl, rfl⟩, Nat.le_of_ble_eq_true rfl, Nat.le_of_ble_eq_true rfl⟩ rfl is_65 rfl rfl (Nat.le_of_ble_eq_true rfl) ?_
  refine j_aload_n C dX6_unlikeWith_5 rfl 0 rfl ?_
  refine j_aload_n C dX6_unlikeWith_6 rfl 0 rfl ?_
  refine j_getR (c := 24) C dX6_unlikeWith_7 rfl lkX6_42 is_65 rfl ?_
  refine j_iconst (v := (nI 1)) C dX6_unlikeWith_10 rfl (by decide) ?_
  refine j_iconst (v := (nI 0)) C dX6_unlikeWith_11 rfl (by decide) ?_
  replace h := bd_e h
  obtain ⟨p3_, h4_, h⟩ := h
  refine j_cVI (av := [.ref 24, .int (nI 1), .int (nI 0)]) (rest := []) C dX6_unlikeWith_12 rfl (c_X6_until _ _ _ _ isW24 p1_ p3_ h4_) gvX6_87 ⟨⟨rfl, rfl⟩, Nat.le_of_ble_eq_true rfl, Nat.le_of_ble_eq_true rfl⟩ rfl is_65 rfl rfl (Nat.le_of_ble_eq_true rfl) ?_
  obtain rfl := Option.some.inj h
  exact j_iret E dX6_unlikeWith_15
set_option maxRecDepth 100000 in
theorem c_X6_unlikeWith (l : Launch) (D : va_G) (ad : Nat → Nat) (cl : Nat → ClassId) {a1 : Int32} (μ : Mem) (ρ : Int32 × Mem) (h : f_X6_unlikeWith a1 μ = some ρ) : CI l D ad cl yX6_unlikeWith wsX6_unlikeWith rmX6_unlikeWith [.ref 65, .int a1] μ ρ.1 ρ.2 := c_ofI (cc := cX6_unlikeWith) (nL := 2) rfl (by decide) (Nat.le_of_ble_eq_true rfl) (fun Γ C E => w_X6_unlikeWith C E μ h)
/-! X6_shownFromNow -/
def wsX6_shownFromNow : List Cond := .code yX6_shownFromNow cX6_shownFromNow 3 (some .int) :: G0
def rmX6_shownFromNow : Room := { frames := 5, cells := 0, slots := 0, locals := 125 }
def f_X6_shownFromNow (k1 : Nat) (a2 : Int32) (μ : Mem) : Option (Int32 × Mem) := gd (isItB k1) <| zl (sI μ 65 4 (nI k1)) fun μ2_ => zl (sI μ2_ 65 5 a2) fun μ4_ => Option.bind (f_X6_begin (nI 0) μ4_) fun p6_ => Option.bind (f_X6_until 24 (nI 2) (nI 0) p6_) fun p8_ => some (p8_.1, p8_.2)
set_option maxHeartbeats 4000000 in
set_option maxRecDepth 100000 in
theorem w_X6_shownFromNow {Γ : jG} (C : jC Γ 3 cX6_shownFromNow RX6 rmX6_shownFromNow) {k1 : Nat} {a2 : Int32} (hk1 : isItems k1) {ρ : Int32 × Mem} (E : jEI Γ cX6_shownFromNow ρ.1 ρ.2) (μ : Mem) (h : f_X6_shownFromNow k1 a2 μ = some ρ) : jJ Γ 3 0 [(0, .ref 65), (1, .ref k1), (2, .int a2)] [] μ := by
  unfold f_X6_shownFromNow at h
  refine j_aload_n C dX6_shownFromNow_0 rfl 0 rfl ?_
  refine j_aload_n C dX6_shownFromNow_1 rfl 1 rfl ?_
  replace h := gd_e h
  obtain ⟨g1_, h⟩ := h
  refine j_putD C dX6_shownFromNow_2 rfl lpX6_25 is_65 rfl (isItB_0 g1_) (isItB_1 g1_) ?_
  refine j_mem (fun μ2_ e3_ => ?_)
  replace h := zl_u h e3_
  refine j_aload_n C dX6_shownFromNow_5 rfl 0 rfl ?_
  refine j_iload_n C dX6_shownFromNow_6 rfl 2 rfl ?_
  refine j_putI C dX6_shownFromNow_7 rfl lpX6_29 is_65 rfl ?_
  refine j_mem (fun μ4_ e5_ => ?_)
  replace h := zl_u h e5_
  refine j_aload_n C dX6_shownFromNow_10 rfl 0 rfl ?_
  refine j_iconst (v := (nI 0)) C dX6_shownFromNow_11 rfl (by decide) ?_
  replace h := bd_e h
  obtain ⟨p6_, h7_, h⟩ := h
  refine j_cVV (av := [.int (nI 0)]) (rest := []) C dX6_shownFromNow_12 rfl (c_X6_begin _ _ _ _ μ4_ p6_ h7_) gvX6_56 ⟨⟨rfl, rfl⟩, Nat.le_of_ble_eq_true rfl, Nat.le_of_ble_eq_true rfl⟩ rfl is_65 rfl rfl (Nat.le_of_ble_eq_true rfl) ?_
  refine j_aload_n C dX6_shownFromNow_15 rfl 0 rfl ?_
  refine j_aload_n C dX6_shownFromNow_16 rfl 0 rfl ?_
  refine j_getR (c := 24) C dX6_shownFromNow_17 rfl lkX6_42 is_65 rfl ?_
  refine j_iconst (v := (nI 2)) C dX6_shownFromNow_20 rfl (by decide) ?_
  refine j_iconst (v := (nI 0)) C dX6_shownFromNow_21 rfl (by decide) ?_
  replace h := bd_e h
  obtain ⟨p8_, h9_, h⟩ := h
  refine j_cVI (av := [.ref 24, .int (nI 2), .int (nI 0)]) (rest := []) C dX6_shownFromNow_22 rfl (c_X6_until _ _ _ _ isW24 p6_ p8_ h9_) gvX6_87 ⟨⟨rfl, rfl⟩, Nat.le_of_ble_eq_true rfl, Nat.le_of_ble_eq_true rfl⟩ rfl is_65 rfl rfl (Nat.le_of_ble_eq_true rfl) ?_
  obtain rfl := Option.some.inj h
  exact j_iret E dX6_shownFromNow_25
set_option maxRecDepth 100000 in
theorem c_X6_shownFromNow (l : Launch) (D : va_G) (ad : Nat → Nat) (cl : Nat → ClassId) {k1 : Nat} {a2 : Int32} (hk1 : isItems k1) (μ : Mem) (ρ : Int32 × Mem) (h : f_X6_shownFromNow k1 a2 μ = some ρ) : CI l D ad cl yX6_shownFromNow wsX6_shownFromNow rmX6_shownFromNow [.ref 65, .ref k1, .int a2] μ ρ.1 ρ.2 := c_ofI (cc := cX6_shownFromNow) (nL := 3) rfl (by decide) (Nat.le_of_ble_eq_true rfl) (fun Γ C E => w_X6_shownFromNow C hk1 E μ h)
/-! X6_keepIfLater -/
def wsX6_keepIfLater : List Cond := .code yX6_keepIfLater cX6_keepIfLater 3 none :: G0
def rmX6_keepIfLater : Room := { frames := 0, cells := 0, slots := 0, locals := 0 }
def f_X6_keepIfLater (a1 : Int32) (a2 : Int32) (μ : Mem) : Option (Mem) := (if a2 ≤ (μ.1 65 7) then some μ else zl (sI μ 65 6 a1) fun μ2_ => zl (sI μ2_ 65 7 a2) fun μ4_ => some μ4_)
set_option maxHeartbeats 4000000 in
set_option maxRecDepth 100000 in
theorem w_X6_keepIfLater {Γ : jG} (C : jC Γ 3 cX6_keepIfLater RX6 rmX6_keepIfLater) {a1 : Int32} {a2 : Int32} {ρ : Mem} (E : jEV Γ cX6_keepIfLater ρ) (μ : Mem) (h : f_X6_keepIfLater a1 a2 μ = some ρ) : jJ Γ 3 0 [(0, .ref 65), (1, .int a1), (2, .int a2)] [] μ := by
  unfold f_X6_keepIfLater at h
  refine j_iload_n C dX6_keepIfLater_0 rfl 2 rfl ?_
  refine j_aload_n C dX6_keepIfLater_1 rfl 0 rfl ?_
  refine j_getI C dX6_keepIfLater_2 rfl lkX6_36 is_65 rfl ?_
  refine j_icmp_le (tgt := 18) C dX6_keepIfLater_5 rfl (by decide) (fun c1_ => ?_) (fun c1_ => ?_)
  · replace h := if_t h c1_
    obtain rfl := Option.some.inj h
    exact j_vret E dX6_keepIfLater_18
  · replace h := if_f h c1_
    refine j_aload_n C dX6_keepIfLater_8 rfl 0 rfl ?_
    refine j_iload_n C dX6_keepIfLater_9 rfl 1 rfl ?_
    refine j_putI C dX6_keepIfLater_10 rfl lpX6_33 is_65 rfl ?_
    refine j_mem (fun μ2_ e3_ => ?_)
    replace h := zl_u h e3_
    refine j_aload_n C dX6_keepIfLater_13 rfl 0 rfl ?_
    refine j_iload_n C dX6_keepIfLater_14 rfl 2 rfl ?_
    refine j_putI C dX6_keepIfLater_15 rfl lpX6_36 is_65 rfl ?_
    refine j_mem (fun μ4_ e5_ => ?_)
    replace h := zl_u h e5_
    obtain rfl := Option.some.inj h
    exact j_vret E dX6_keepIfLater_18
set_option maxRecDepth 100000 in
theorem c_X6_keepIfLater (l : Launch) (D : va_G) (ad : Nat → Nat) (cl : Nat → ClassId) {a1 : Int32} {a2 : Int32} (μ : Mem) (ρ : Mem) (h : f_X6_keepIfLater a1 a2 μ = some ρ) : CV l D ad cl yX6_keepIfLater wsX6_keepIfLater rmX6_keepIfLater [.ref 65, .int a1, .int a2] μ ρ := c_ofV (cc := cX6_keepIfLater) (nL := 3) rfl (by decide) (Nat.le_of_ble_eq_true rfl) (fun Γ C E => w_X6_keepIfLater C E μ h)
theorem gvX6_94 : jm_gv RX6 94 RX6 yX6_keepIfLater wsX6_keepIfLater 3 2 := ⟨_, _, gi_V gwt4_7 gwt4_9 gwp2_9 gwt1_7 gwt4_10, rfl, by decide +kernel⟩
/-! X6_findDarkest -/
def wsX6_findDarkest : List Cond := .code yX6_findDarkest cX6_findDarkest 2 none :: G0
def rmX6_findDarkest : Room := { frames := 5, cells := 0, slots := 0, locals := 125 }
def f_X6_findDarkest_7 : Nat → Int32 → Mem → Option (Mem)
  | 0, _, _ => none
  | n + 1, x1, μ => (if (μ.1 2 0) ≤ x1 then some μ else Option.bind (f_X6_begin (nI 0) μ) fun p2_ => zl (sI p2_ 66 5 ((nI 1) <<< (x1 &&& 31))) fun μ4_ => Option.bind (f_X6_until 24 (nI 0) ((nI 1) <<< (x1 &&& 31)) μ4_) fun p6_ => Option.bind (f_X6_keepIfLater x1 p6_.1 p6_.2) fun p8_ => f_X6_findDarkest_7 n (x1 + (nI 1)) p8_)
set_option maxHeartbeats 4000000 in
set_option maxRecDepth 100000 in
theorem w_X6_findDarkest_7 {Γ : jG} (C : jC Γ 2 cX6_findDarkest RX6 rmX6_findDarkest) {ρ : Mem} (E : jEV Γ cX6_findDarkest ρ) : ∀ (n : Nat) (x1 : Int32) (μ : Mem), f_X6_findDarkest_7 n x1 μ = some ρ → jJ Γ 2 7 [(0, .ref 65), (1, .int x1)] [] μ := by
  intro n
  induction n with
  | zero => intro x1 μ h; rw [f_X6_findDarkest_7] at h; cases h
  | succ n ih =>
    intro x1 μ h
    rw [f_X6_findDarkest_7] at h
    refine j_iload_n C dX6_findDarkest_7 rfl 1 rfl ?_
    refine j_aload_n C dX6_findDarkest_8 rfl 0 rfl ?_
    refine j_getR (c := 2) C dX6_findDarkest_9 rfl lkX6_39 is_65 rfl ?_
    refine j_getI C dX6_findDarkest_12 rfl lkX6_49 (isN_0 isN2) rfl ?_
    refine j_icmp_ge (tgt := 56) C dX6_findDarkest_15 rfl (by decide) (fun c1_ => ?_) (fun c1_ => ?_)
    · replace h := if_t h c1_
      obtain rfl := Option.some.inj h
      exact j_vret E dX6_findDarkest_56
    · replace h := if_f h c1_
      refine j_aload_n C dX6_findDarkest_18 rfl 0 rfl ?_
      refine j_iconst (v := (nI 0)) C dX6_findDarkest_19 rfl (by decide) ?_
      replace h := bd_e h
      obtain ⟨p2_, h3_, h⟩ := h
      refine j_cVV (av := [.int (nI 0)]) (rest := []) C dX6_findDarkest_20 rfl (c_X6_begin _ _ _ _ μ p2_ h3_) gvX6_56 ⟨⟨rfl, rfl⟩, Nat.le_of_ble_eq_true rfl, Nat.le_of_ble_eq_true rfl⟩ rfl is_65 rfl rfl (Nat.le_of_ble_eq_true rfl) ?_
      refine j_aload_n C dX6_findDarkest_23 rfl 0 rfl ?_
      refine j_getR (c := 66) C dX6_findDarkest_24 rfl lkX6_12 is_65 rfl ?_
      refine j_iconst (v := (nI 1)) C dX6_findDarkest_27 rfl (by decide) ?_
      refine j_iload_n C dX6_findDarkest_28 rfl 1 rfl ?_
      refine j_ishl C dX6_findDarkest_29 rfl ?_
      refine j_putI C dX6_findDarkest_30 rfl lpX6_91 (isN_0 isN66) rfl ?_
      refine j_mem (fun μ4_ e5_ => ?_)
      replace h := zl_u h e5_
      refine j_aload_n C dX6_findDarkest_33 rfl 0 rfl ?_
      refine j_iload_n C dX6_findDarkest_34 rfl 1 rfl ?_
      refine j_aload_n C dX6_findDarkest_35 rfl 0 rfl ?_
      refine j_aload_n C dX6_findDarkest_36 rfl 0 rfl ?_
      refine j_getR (c := 24) C dX6_findDarkest_37 rfl lkX6_42 is_65 rfl ?_
      refine j_iconst (v := (nI 0)) C dX6_findDarkest_40 rfl (by decide) ?_
      refine j_iconst (v := (nI 1)) C dX6_findDarkest_41 rfl (by decide) ?_
      refine j_iload_n C dX6_findDarkest_42 rfl 1 rfl ?_
      refine j_ishl C dX6_findDarkest_43 rfl ?_
      replace h := bd_e h
      obtain ⟨p6_, h7_, h⟩ := h
      refine j_cVI (av := [.ref 24, .int (nI 0), .int ((nI 1) <<< (x1 &&& 31))]) (rest := [.int x1, .ref 65]) C dX6_findDarkest_44 rfl (c_X6_until _ _ _ _ isW24 μ4_ p6_ h7_) gvX6_87 ⟨⟨rfl, rfl⟩, Nat.le_of_ble_eq_true rfl, Nat.le_of_ble_eq_true rfl⟩ rfl is_65 rfl rfl (Nat.le_of_ble_eq_true rfl) ?_
      replace h := bd_e h
      obtain ⟨p8_, h9_, h⟩ := h
      refine j_cVV (av := [.int x1, .int p6_.1]) (rest := []) C dX6_findDarkest_47 rfl (c_X6_keepIfLater _ _ _ _ p6_.2 p8_ h9_) gvX6_94 ⟨⟨rfl, rfl⟩, Nat.le_of_ble_eq_true rfl, Nat.le_of_ble_eq_true rfl⟩ rfl is_65 rfl rfl (Nat.le_of_ble_eq_true rfl) ?_
      refine j_iinc (d := (nI 1)) (v := x1 + (nI 1)) (lv' := [(1, .int (x1 + (nI 1))), (0, .ref 65)]) C dX6_findDarkest_50 rfl (by decide) 1 rfl (by decide) rfl rfl ?_
      refine j_goto (pc' := 7) C dX6_findDarkest_53 (by decide) ?_
      refine j_lv [1, 0] rfl ?_
      exact (ih) (x1 + (nI 1)) p8_ h
def f_X6_findDarkest (μ : Mem) : Option (Mem) := zl (sI μ 65 7 (-1)) fun μ1_ => f_X6_findDarkest_7 zfu (nI 0) μ1_
set_option maxHeartbeats 4000000 in
set_option maxRecDepth 100000 in
theorem w_X6_findDarkest {Γ : jG} (C : jC Γ 2 cX6_findDarkest RX6 rmX6_findDarkest) {ρ : Mem} (E : jEV Γ cX6_findDarkest ρ) (μ : Mem) (h : f_X6_findDarkest μ = some ρ) : jJ Γ 2 0 [(0, .ref 65)] [] μ := by
  unfold f_X6_findDarkest at h
  refine j_aload_n C dX6_findDarkest_0 rfl 0 rfl ?_
  refine j_iconst (v := (-1)) C dX6_findDarkest_1 rfl (by decide) ?_
  refine j_putI C dX6_findDarkest_2 rfl lpX6_36 is_65 rfl ?_
  refine j_mem (fun μ1_ e2_ => ?_)
  replace h := zl_u h e2_
  refine j_iconst (v := (nI 0)) C dX6_findDarkest_5 rfl (by decide) ?_
  refine j_istore_n (lv' := [(1, .int (nI 0)), (0, .ref 65)]) C dX6_findDarkest_6 rfl (by decide) rfl ?_
  refine j_lv [1, 0] rfl ?_
  exact w_X6_findDarkest_7 C E zfu (nI 0) μ1_ h
set_option maxRecDepth 100000 in
theorem c_X6_findDarkest (l : Launch) (D : va_G) (ad : Nat → Nat) (cl : Nat → ClassId) (μ : Mem) (ρ : Mem) (h : f_X6_findDarkest μ = some ρ) : CV l D ad cl yX6_findDarkest wsX6_findDarkest rmX6_findDarkest [.ref 65] μ ρ := c_ofV (cc := cX6_findDarkest) (nL := 2) rfl (by decide) (Nat.le_of_ble_eq_true rfl) (fun Γ C E => w_X6_findDarkest C E μ h)
/-! X6_findWorst -/
def wsX6_findWorst : List Cond := .code yX6_findWorst cX6_findWorst 3 none :: G0
def rmX6_findWorst : Room := { frames := 5, cells := 0, slots := 0, locals := 125 }
def f_X6_findWorst_80 (kb7 : Int32 → Mem → Option (Mem)) (x1 : Int32) (μ : Mem) : Option (Mem) := kb7 (x1 + (nI 1)) μ
set_option maxHeartbeats 4000000 in
set_option maxRecDepth 100000 in
theorem w_X6_findWorst_80 {Γ : jG} (C : jC Γ 3 cX6_findWorst RX6 rmX6_findWorst) {kb7 : Int32 → Mem → Option (Mem)} {ρ : Mem} (E : jEV Γ cX6_findWorst ρ) (Hkb7 : ∀ (x1 : Int32) (μ : Mem), kb7 x1 μ = some ρ → jJ Γ 3 7 [(0, .ref 65), (1, .int x1)] [] μ) (x1 : Int32) (μ : Mem) (h : f_X6_findWorst_80 kb7 x1 μ = some ρ) : jJ Γ 3 80 [(0, .ref 65), (1, .int x1)] [] μ := by
  unfold f_X6_findWorst_80 at h
  refine j_iinc (d := (nI 1)) (v := x1 + (nI 1)) (lv' := [(1, .int (x1 + (nI 1))), (0, .ref 65)]) C dX6_findWorst_80 rfl (by decide) 1 rfl (by decide) rfl rfl ?_
  refine j_goto (pc' := 7) C dX6_findWorst_83 (by decide) ?_
  refine j_lv [1, 0] rfl ?_
  exact (Hkb7) (x1 + (nI 1)) μ h
def f_X6_findWorst_74 (kb20 : Int32 → Int32 → Mem → Option (Mem)) (kx80 : Int32 → Mem → Option (Mem)) (x1 : Int32) (x2 : Int32) (μ : Mem) : Option (Mem) := kb20 x1 (x2 + (nI 1)) μ
set_option maxHeartbeats 4000000 in
set_option maxRecDepth 100000 in
theorem w_X6_findWorst_74 {Γ : jG} (C : jC Γ 3 cX6_findWorst RX6 rmX6_findWorst) {kb20 : Int32 → Int32 → Mem → Option (Mem)} {kx80 : Int32 → Mem → Option (Mem)} {ρ : Mem} (E : jEV Γ cX6_findWorst ρ) (Hkb20 : ∀ (x1 : Int32) (x2 : Int32) (μ : Mem), kb20 x1 x2 μ = some ρ → jJ Γ 3 20 [(0, .ref 65), (1, .int x1), (2, .int x2)] [] μ) (Hkx80 : ∀ (x1 : Int32) (μ : Mem), kx80 x1 μ = some ρ → jJ Γ 3 80 [(0, .ref 65), (1, .int x1)] [] μ) (x1 : Int32) (x2 : Int32) (μ : Mem) (h : f_X6_findWorst_74 kb20 kx80 x1 x2 μ = some ρ) : jJ Γ 3 74 [(0, .ref 65), (1, .int x1), (2, .int x2)] [] μ := by
  unfold f_X6_findWorst_74 at h
  refine j_iinc (d := (nI 1)) (v := x2 + (nI 1)) (lv' := [(2, .int (x2 + (nI 1))), (0, .ref 65), (1, .int x1)]) C dX6_findWorst_74 rfl (by decide) 2 rfl (by decide) rfl rfl ?_
  refine j_goto (pc' := 20) C dX6_findWorst_77 (by decide) ?_
  refine j_lv [1, 2, 0] rfl ?_
  exact (Hkb20) x1 (x2 + (nI 1)) μ h
def f_X6_findWorst_20 (kx80 : Int32 → Mem → Option (Mem)) : Nat → Int32 → Int32 → Mem → Option (Mem)
  | 0, _, _, _ => none
  | n + 1, x1, x2, μ => (if (μ.1 2 0) ≤ x2 then kx80 x1 μ else (if x1 = x2 then f_X6_findWorst_74 (fun x1 x2 μ => f_X6_findWorst_20 kx80 n x1 x2 μ) kx80 x1 x2 μ else Option.bind (f_X6_begin (nI 0) μ) fun p3_ => gd (inb x1 9) <| gd (inb x2 9) <| zl (sI p3_ (73 + (Int32.toNatClampNeg x1)) (Int32.toNatClampNeg x2) (nI 9)) fun μ7_ => Option.bind (f_X6_until 24 (nI 0) (nI 0) μ7_) fun p9_ => Option.bind (f_X6_keepIfLater (((nI 10) * x1) + x2) p9_.1 p9_.2) fun p11_ => f_X6_findWorst_74 (fun x1 x2 μ => f_X6_findWorst_20 kx80 n x1 x2 μ) kx80 x1 x2 p11_))
set_option maxHeartbeats 4000000 in
set_option maxRecDepth 100000 in
theorem w_X6_findWorst_20 {Γ : jG} (C : jC Γ 3 cX6_findWorst RX6 rmX6_findWorst) {kx80 : Int32 → Mem → Option (Mem)} {ρ : Mem} (E : jEV Γ cX6_findWorst ρ) (Hkx80 : ∀ (x1 : Int32) (μ : Mem), kx80 x1 μ = some ρ → jJ Γ 3 80 [(0, .ref 65), (1, .int x1)] [] μ) : ∀ (n : Nat) (x1 : Int32) (x2 : Int32) (μ : Mem), f_X6_findWorst_20 kx80 n x1 x2 μ = some ρ → jJ Γ 3 20 [(0, .ref 65), (1, .int x1), (2, .int x2)] [] μ := by
  intro n
  induction n with
  | zero => intro x1 x2 μ h; rw [f_X6_findWorst_20] at h; cases h
  | succ n ih =>
    intro x1 x2 μ h
    rw [f_X6_findWorst_20] at h
    refine j_iload_n C dX6_findWorst_20 rfl 2 rfl ?_
    refine j_aload_n C dX6_findWorst_21 rfl 0 rfl ?_
    refine j_getR (c := 2) C dX6_findWorst_22 rfl lkX6_39 is_65 rfl ?_
    refine j_getI C dX6_findWorst_25 rfl lkX6_49 (isN_0 isN2) rfl ?_
    refine j_icmp_ge (tgt := 80) C dX6_findWorst_28 rfl (by decide) (fun c1_ => ?_) (fun c1_ => ?_)
    · replace h := if_t h c1_
      refine j_lv [0, 1] rfl ?_
      exact (Hkx80) x1 μ h
    · replace h := if_f h c1_
      refine j_iload_n C dX6_findWorst_31 rfl 1 rfl ?_
      refine j_iload_n C dX6_findWorst_32 rfl 2 rfl ?_
      refine j_icmp_eq (tgt := 74) C dX6_findWorst_33 rfl (by decide) (fun c2_ => ?_) (fun c2_ => ?_)
      · replace h := if_t h c2_
        refine j_lv [0, 1, 2] rfl ?_
        exact w_X6_findWorst_74 C E ih Hkx80 x1 x2 μ h
      · replace h := if_f h c2_
        refine j_aload_n C dX6_findWorst_36 rfl 0 rfl ?_
        refine j_iconst (v := (nI 0)) C dX6_findWorst_37 rfl (by decide) ?_
        replace h := bd_e h
        obtain ⟨p3_, h4_, h⟩ := h
        refine j_cVV (av := [.int (nI 0)]) (rest := []) C dX6_findWorst_38 rfl (c_X6_begin _ _ _ _ μ p3_ h4_) gvX6_56 ⟨⟨rfl, rfl⟩, Nat.le_of_ble_eq_true rfl, Nat.le_of_ble_eq_true rfl⟩ rfl is_65 rfl rfl (Nat.le_of_ble_eq_true rfl) ?_
        refine j_aload_n C dX6_findWorst_41 rfl 0 rfl ?_
        refine j_getR (c := 66) C dX6_findWorst_42 rfl lkX6_12 is_65 rfl ?_
        refine j_getR (c := 72) C dX6_findWorst_45 rfl lkX6_98 (isN_0 isN66) rfl ?_
        refine j_iload_n C dX6_findWorst_48 rfl 1 rfl ?_
        replace h := gd_e h
        obtain ⟨g5_, h⟩ := h
        refine j_aald C dX6_findWorst_49 rfl (Or.inl rfl) (isN_a6 isN66) g5_ ?_
        refine j_iload_n C dX6_findWorst_50 rfl 2 rfl ?_
        refine j_bipush (v := (nI 9)) C dX6_findWorst_51 rfl (by decide) ?_
        replace h := gd_e h
        obtain ⟨g6_, h⟩ := h
        refine j_iast C dX6_findWorst_53 rfl (isN_dl isN66 g5_) g6_ ?_
        refine j_mem (fun μ7_ e8_ => ?_)
        replace h := zl_u h e8_
        refine j_aload_n C dX6_findWorst_54 rfl 0 rfl ?_
        refine j_bipush (v := (nI 10)) C dX6_findWorst_55 rfl (by decide) ?_
        refine j_iload_n C dX6_findWorst_57 rfl 1 rfl ?_
        refine j_imul C dX6_findWorst_58 rfl ?_
        refine j_iload_n C dX6_findWorst_59 rfl 2 rfl ?_
        refine j_iadd C dX6_findWorst_60 rfl ?_
        refine j_aload_n C dX6_findWorst_61 rfl 0 rfl ?_
        refine j_aload_n C dX6_findWorst_62 rfl 0 rfl ?_
        refine j_getR (c := 24) C dX6_findWorst_63 rfl lkX6_42 is_65 rfl ?_
        refine j_iconst (v := (nI 0)) C dX6_findWorst_66 rfl (by decide) ?_
        refine j_iconst (v := (nI 0)) C dX6_findWorst_67 rfl (by decide) ?_
        replace h := bd_e h
        obtain ⟨p9_, h10_, h⟩ := h
        refine j_cVI (av := [.ref 24, .int (nI 0), .int (nI 0)]) (rest := [.int (((nI 10) * x1) + x2), .ref 65]) C dX6_findWorst_68 rfl (c_X6_until _ _ _ _ isW24 μ7_ p9_ h10_) gvX6_87 ⟨⟨rfl, rfl⟩, Nat.le_of_ble_eq_true rfl, Nat.le_of_ble_eq_true rfl⟩ rfl is_65 rfl rfl (Nat.le_of_ble_eq_true rfl) ?_
        replace h := bd_e h
        obtain ⟨p11_, h12_, h⟩ := h
        refine j_cVV (av := [.int (((nI 10) * x1) + x2), .int p9_.1]) (rest := []) C dX6_findWorst_71 rfl (c_X6_keepIfLater _ _ _ _ p9_.2 p11_ h12_) gvX6_94 ⟨⟨rfl, rfl⟩, Nat.le_of_ble_eq_true rfl, Nat.le_of_ble_eq_true rfl⟩ rfl is_65 rfl rfl (Nat.le_of_ble_eq_true rfl) ?_
        refine j_lv [0, 1, 2] rfl ?_
        exact w_X6_findWorst_74 C E ih Hkx80 x1 x2 p11_ h
def f_X6_findWorst_7 : Nat → Int32 → Mem → Option (Mem)
  | 0, _, _ => none
  | n + 1, x1, μ => (if (μ.1 2 0) ≤ x1 then some μ else f_X6_findWorst_20 (fun x1 μ => f_X6_findWorst_80 (fun x1 μ => f_X6_findWorst_7 n x1 μ) x1 μ) zfu x1 (nI 0) μ)
set_option maxHeartbeats 4000000 in
set_option maxRecDepth 100000 in
theorem w_X6_findWorst_7 {Γ : jG} (C : jC Γ 3 cX6_findWorst RX6 rmX6_findWorst) {ρ : Mem} (E : jEV Γ cX6_findWorst ρ) : ∀ (n : Nat) (x1 : Int32) (μ : Mem), f_X6_findWorst_7 n x1 μ = some ρ → jJ Γ 3 7 [(0, .ref 65), (1, .int x1)] [] μ := by
  intro n
  induction n with
  | zero => intro x1 μ h; rw [f_X6_findWorst_7] at h; cases h
  | succ n ih =>
    intro x1 μ h
    rw [f_X6_findWorst_7] at h
    refine j_iload_n C dX6_findWorst_7 rfl 1 rfl ?_
    refine j_aload_n C dX6_findWorst_8 rfl 0 rfl ?_
    refine j_getR (c := 2) C dX6_findWorst_9 rfl lkX6_39 is_65 rfl ?_
    refine j_getI C dX6_findWorst_12 rfl lkX6_49 (isN_0 isN2) rfl ?_
    refine j_icmp_ge (tgt := 86) C dX6_findWorst_15 rfl (by decide) (fun c1_ => ?_) (fun c1_ => ?_)
    · replace h := if_t h c1_
      obtain rfl := Option.some.inj h
      exact j_vret E dX6_findWorst_86
    · replace h := if_f h c1_
      refine j_iconst (v := (nI 0)) C dX6_findWorst_18 rfl (by decide) ?_
      refine j_istore_n (lv' := [(2, .int (nI 0)), (0, .ref 65), (1, .int x1)]) C dX6_findWorst_19 rfl (by decide) rfl ?_
      refine j_lv [1, 2, 0] rfl ?_
      exact w_X6_findWorst_20 C E (fun x1 μ h => w_X6_findWorst_80 C E ih x1 μ h) zfu x1 (nI 0) μ h
def f_X6_findWorst (μ : Mem) : Option (Mem) := zl (sI μ 65 7 (-1)) fun μ1_ => f_X6_findWorst_7 zfu (nI 0) μ1_
set_option maxHeartbeats 4000000 in
set_option maxRecDepth 100000 in
theorem w_X6_findWorst {Γ : jG} (C : jC Γ 3 cX6_findWorst RX6 rmX6_findWorst) {ρ : Mem} (E : jEV Γ cX6_findWorst ρ) (μ : Mem) (h : f_X6_findWorst μ = some ρ) : jJ Γ 3 0 [(0, .ref 65)] [] μ := by
  unfold f_X6_findWorst at h
  refine j_aload_n C dX6_findWorst_0 rfl 0 rfl ?_
  refine j_iconst (v := (-1)) C dX6_findWorst_1 rfl (by decide) ?_
  refine j_putI C dX6_findWorst_2 rfl lpX6_36 is_65 rfl ?_
  refine j_mem (fun μ1_ e2_ => ?_)
  replace h := zl_u h e2_
  refine j_iconst (v := (nI 0)) C dX6_findWorst_5 rfl (by decide) ?_
  refine j_istore_n (lv' := [(1, .int (nI 0)), (0, .ref 65)]) C dX6_findWorst_6 rfl (by decide) rfl ?_
  refine j_lv [1, 0] rfl ?_
  exact w_X6_findWorst_7 C E zfu (nI 0) μ1_ h
set_option maxRecDepth 100000 in
theorem c_X6_findWorst (l : Launch) (D : va_G) (ad : Nat → Nat) (cl : Nat → ClassId) (μ : Mem) (ρ : Mem) (h : f_X6_findWorst μ = some ρ) : CV l D ad cl yX6_findWorst wsX6_findWorst rmX6_findWorst [.ref 65] μ ρ := c_ofV (cc := cX6_findWorst) (nL := 3) rfl (by decide) (Nat.le_of_ble_eq_true rfl) (fun Γ C E => w_X6_findWorst C E μ h)
theorem gsX6_106 : jm_gs RX6 106 yJ6_bitCount_0f7a4 wsJ6_bitCount_0f7a4 1 1 := ⟨_, _, gi_S gwt4_31 gwt2_134 gwt1_10 gwt2_135, rfl, by decide +kernel⟩
/-! X6_borne -/
def wsX6_borne : List Cond := .code yX6_borne cX6_borne 5 (some .int) :: G0
def rmX6_borne : Room := { frames := 5, cells := 0, slots := 0, locals := 125 }
def f_X6_borne_61 (k1 : Nat) (a2 : Int32) (kb2 : Int32 → Mem → Option (Int32 × Mem)) (x3 : Int32) (μ : Mem) : Option (Int32 × Mem) := kb2 (x3 + (nI 1)) μ
set_option maxHeartbeats 4000000 in
set_option maxRecDepth 100000 in
theorem w_X6_borne_61 {Γ : jG} (C : jC Γ 5 cX6_borne RX6 rmX6_borne) {k1 : Nat} {a2 : Int32} (hk1 : isLaw k1) {kb2 : Int32 → Mem → Option (Int32 × Mem)} {ρ : Int32 × Mem} (E : jEI Γ cX6_borne ρ.1 ρ.2) (Hkb2 : ∀ (x3 : Int32) (μ : Mem), kb2 x3 μ = some ρ → jJ Γ 5 2 [(0, .ref 65), (1, .ref k1), (2, .int a2), (3, .int x3)] [] μ) (x3 : Int32) (μ : Mem) (h : f_X6_borne_61 k1 a2 kb2 x3 μ = some ρ) : jJ Γ 5 61 [(0, .ref 65), (1, .ref k1), (2, .int a2), (3, .int x3)] [] μ := by
  unfold f_X6_borne_61 at h
  refine j_iinc (d := (nI 1)) (v := x3 + (nI 1)) (lv' := [(3, .int (x3 + (nI 1))), (0, .ref 65), (1, .ref k1), (2, .int a2)]) C dX6_borne_61 rfl (by decide) 3 rfl (by decide) rfl rfl ?_
  refine j_goto (pc' := 2) C dX6_borne_64 (by decide) ?_
  refine j_lv [1, 2, 3, 0] rfl ?_
  exact (Hkb2) (x3 + (nI 1)) μ h
def f_X6_borne_55 (k1 : Nat) (a2 : Int32) (kb10 : Int32 → Int32 → Mem → Option (Int32 × Mem)) (kx61 : Int32 → Mem → Option (Int32 × Mem)) (x3 : Int32) (x4 : Int32) (μ : Mem) : Option (Int32 × Mem) := kb10 x3 (x4 + (nI 1)) μ
set_option maxHeartbeats 4000000 in
set_option maxRecDepth 100000 in
theorem w_X6_borne_55 {Γ : jG} (C : jC Γ 5 cX6_borne RX6 rmX6_borne) {k1 : Nat} {a2 : Int32} (hk1 : isLaw k1) {kb10 : Int32 → Int32 → Mem → Option (Int32 × Mem)} {kx61 : Int32 → Mem → Option (Int32 × Mem)} {ρ : Int32 × Mem} (E : jEI Γ cX6_borne ρ.1 ρ.2) (Hkb10 : ∀ (x3 : Int32) (x4 : Int32) (μ : Mem), kb10 x3 x4 μ = some ρ → jJ Γ 5 10 [(0, .ref 65), (1, .ref k1), (2, .int a2), (3, .int x3), (4, .int x4)] [] μ) (Hkx61 : ∀ (x3 : Int32) (μ : Mem), kx61 x3 μ = some ρ → jJ Γ 5 61 [(0, .ref 65), (1, .ref k1), (2, .int a2), (3, .int x3)] [] μ) (x3 : Int32) (x4 : Int32) (μ : Mem) (h : f_X6_borne_55 k1 a2 kb10 kx61 x3 x4 μ = some ρ) : jJ Γ 5 55 [(0, .ref 65), (1, .ref k1), (2, .int a2), (3, .int x3), (4, .int x4)] [] μ := by
  unfold f_X6_borne_55 at h
  refine j_iinc (d := (nI 1)) (v := x4 + (nI 1)) (lv' := [(4, .int (x4 + (nI 1))), (0, .ref 65), (1, .ref k1), (2, .int a2), (3, .int x3)]) C dX6_borne_55 rfl (by decide) 4 rfl (by decide) rfl rfl ?_
  refine j_goto (pc' := 10) C dX6_borne_58 (by decide) ?_
  refine j_lv [1, 2, 3, 4, 0] rfl ?_
  exact (Hkb10) x3 (x4 + (nI 1)) μ h
def f_X6_borne_10 (k1 : Nat) (a2 : Int32) (kx61 : Int32 → Mem → Option (Int32 × Mem)) : Nat → Int32 → Int32 → Mem → Option (Int32 × Mem)
  | 0, _, _, _ => none
  | n + 1, x3, x4, μ => (if ((nI 1) <<< ((μ.1 2 0) &&& 31)) ≤ x4 then kx61 x3 μ else Option.bind (f_J6_bitCount_0f7a4 x4 μ) fun p2_ => (if p2_.1 = x3 then Option.bind (f_X6_begin x4 p2_.2) fun p5_ => Option.bind (f_X6_until k1 (nI 1) (nI 0) p5_) fun p7_ => (if p7_.1 = (nI 61) then f_X6_borne_55 k1 a2 (fun x3 x4 μ => f_X6_borne_10 k1 a2 kx61 n x3 x4 μ) kx61 x3 x4 p7_.2 else some (x3 - (nI 1), p7_.2)) else f_X6_borne_55 k1 a2 (fun x3 x4 μ => f_X6_borne_10 k1 a2 kx61 n x3 x4 μ) kx61 x3 x4 p2_.2))
set_option maxHeartbeats 4000000 in
set_option maxRecDepth 100000 in
theorem w_X6_borne_10 {Γ : jG} (C : jC Γ 5 cX6_borne RX6 rmX6_borne) {k1 : Nat} {a2 : Int32} (hk1 : isLaw k1) {kx61 : Int32 → Mem → Option (Int32 × Mem)} {ρ : Int32 × Mem} (E : jEI Γ cX6_borne ρ.1 ρ.2) (Hkx61 : ∀ (x3 : Int32) (μ : Mem), kx61 x3 μ = some ρ → jJ Γ 5 61 [(0, .ref 65), (1, .ref k1), (2, .int a2), (3, .int x3)] [] μ) : ∀ (n : Nat) (x3 : Int32) (x4 : Int32) (μ : Mem), f_X6_borne_10 k1 a2 kx61 n x3 x4 μ = some ρ → jJ Γ 5 10 [(0, .ref 65), (1, .ref k1), (2, .int a2), (3, .int x3), (4, .int x4)] [] μ := by
  intro n
  induction n with
  | zero => intro x3 x4 μ h; rw [f_X6_borne_10] at h; cases h
  | succ n ih =>
    intro x3 x4 μ h
    rw [f_X6_borne_10] at h
    refine j_iload C dX6_borne_10 rfl 4 rfl ?_
    refine j_iconst (v := (nI 1)) C dX6_borne_12 rfl (by decide) ?_
    refine j_aload_n C dX6_borne_13 rfl 0 rfl ?_
    refine j_getR (c := 2) C dX6_borne_14 rfl lkX6_39 is_65 rfl ?_
    refine j_getI C dX6_borne_17 rfl lkX6_49 (isN_0 isN2) rfl ?_
    refine j_ishl C dX6_borne_20 rfl ?_
    refine j_icmp_ge (tgt := 61) C dX6_borne_21 rfl (by decide) (fun c1_ => ?_) (fun c1_ => ?_)
    · replace h := if_t h c1_
      refine j_lv [0, 1, 2, 3] rfl ?_
      exact (Hkx61) x3 μ h
    · replace h := if_f h c1_
      refine j_iload C dX6_borne_24 rfl 4 rfl ?_
      replace h := bd_e h
      obtain ⟨p2_, h3_, h⟩ := h
      refine j_cSI (av := [.int x4]) (rest := []) C dX6_borne_26 rfl (c_J6_bitCount_0f7a4 _ _ _ _ μ p2_ h3_) gsX6_106 ⟨⟨rfl, rfl⟩, Nat.le_of_ble_eq_true rfl, Nat.le_of_ble_eq_true rfl⟩ rfl rfl (Nat.le_of_ble_eq_true rfl) ?_
      refine j_iload_n C dX6_borne_29 rfl 3 rfl ?_
      refine j_icmp_ne (tgt := 55) C dX6_borne_30 rfl (by decide) (fun c4_ => ?_) (fun c4_ => ?_)
      · replace h := if_f h c4_
        refine j_lv [0, 1, 2, 3, 4] rfl ?_
        exact w_X6_borne_55 C hk1 E ih Hkx61 x3 x4 p2_.2 h
      · replace h := if_t h c4_
        refine j_aload_n C dX6_borne_33 rfl 0 rfl ?_
        refine j_iload C dX6_borne_34 rfl 4 rfl ?_
        replace h := bd_e h
        obtain ⟨p5_, h6_, h⟩ := h
        refine j_cVV (av := [.int x4]) (rest := []) C dX6_borne_36 rfl (c_X6_begin _ _ _ _ p2_.2 p5_ h6_) gvX6_56 ⟨⟨rfl, rfl⟩, Nat.le_of_ble_eq_true rfl, Nat.le_of_ble_eq_true rfl⟩ rfl is_65 rfl rfl (Nat.le_of_ble_eq_true rfl) ?_
        refine j_aload_n C dX6_borne_39 rfl 0 rfl ?_
        refine j_aload_n C dX6_borne_40 rfl 1 rfl ?_
        refine j_iconst (v := (nI 1)) C dX6_borne_41 rfl (by decide) ?_
        refine j_iconst (v := (nI 0)) C dX6_borne_42 rfl (by decide) ?_
        replace h := bd_e h
        obtain ⟨p7_, h8_, h⟩ := h
        refine j_cVI (av := [.ref k1, .int (nI 1), .int (nI 0)]) (rest := []) C dX6_borne_43 rfl (c_X6_until _ _ _ _ hk1 p5_ p7_ h8_) gvX6_87 ⟨⟨rfl, rfl⟩, Nat.le_of_ble_eq_true rfl, Nat.le_of_ble_eq_true rfl⟩ rfl is_65 rfl rfl (Nat.le_of_ble_eq_true rfl) ?_
        refine j_bipush (v := (nI 61)) C dX6_borne_46 rfl (by decide) ?_
        refine j_icmp_eq (tgt := 55) C dX6_borne_48 rfl (by decide) (fun c9_ => ?_) (fun c9_ => ?_)
        · replace h := if_t h c9_
          refine j_lv [0, 1, 2, 3, 4] rfl ?_
          exact w_X6_borne_55 C hk1 E ih Hkx61 x3 x4 p7_.2 h
        · replace h := if_f h c9_
          refine j_iload_n C dX6_borne_51 rfl 3 rfl ?_
          refine j_iconst (v := (nI 1)) C dX6_borne_52 rfl (by decide) ?_
          refine j_isub C dX6_borne_53 rfl ?_
          obtain rfl := Option.some.inj h
          exact j_iret E dX6_borne_54
def f_X6_borne_2 (k1 : Nat) (a2 : Int32) : Nat → Int32 → Mem → Option (Int32 × Mem)
  | 0, _, _ => none
  | n + 1, x3, μ => (if a2 < x3 then some (a2, μ) else f_X6_borne_10 k1 a2 (fun x3 μ => f_X6_borne_61 k1 a2 (fun x3 μ => f_X6_borne_2 k1 a2 n x3 μ) x3 μ) zfu x3 (nI 0) μ)
set_option maxHeartbeats 4000000 in
set_option maxRecDepth 100000 in
theorem w_X6_borne_2 {Γ : jG} (C : jC Γ 5 cX6_borne RX6 rmX6_borne) {k1 : Nat} {a2 : Int32} (hk1 : isLaw k1) {ρ : Int32 × Mem} (E : jEI Γ cX6_borne ρ.1 ρ.2) : ∀ (n : Nat) (x3 : Int32) (μ : Mem), f_X6_borne_2 k1 a2 n x3 μ = some ρ → jJ Γ 5 2 [(0, .ref 65), (1, .ref k1), (2, .int a2), (3, .int x3)] [] μ := by
  intro n
  induction n with
  | zero => intro x3 μ h; rw [f_X6_borne_2] at h; cases h
  | succ n ih =>
    intro x3 μ h
    rw [f_X6_borne_2] at h
    refine j_iload_n C dX6_borne_2 rfl 3 rfl ?_
    refine j_iload_n C dX6_borne_3 rfl 2 rfl ?_
    refine j_icmp_gt (tgt := 67) C dX6_borne_4 rfl (by decide) (fun c1_ => ?_) (fun c1_ => ?_)
    · replace h := if_t h c1_
      refine j_iload_n C dX6_borne_67 rfl 2 rfl ?_
      obtain rfl := Option.some.inj h
      exact j_iret E dX6_borne_68
    · replace h := if_f h c1_
      refine j_iconst (v := (nI 0)) C dX6_borne_7 rfl (by decide) ?_
      refine j_istore (lv' := [(4, .int (nI 0)), (0, .ref 65), (1, .ref k1), (2, .int a2), (3, .int x3)]) C dX6_borne_8 rfl (by decide) rfl ?_
      refine j_lv [1, 2, 3, 4, 0] rfl ?_
      exact w_X6_borne_10 C hk1 E (fun x3 μ h => w_X6_borne_61 C hk1 E ih x3 μ h) zfu x3 (nI 0) μ h
def f_X6_borne (k1 : Nat) (a2 : Int32) (μ : Mem) : Option (Int32 × Mem) := f_X6_borne_2 k1 a2 zfu (nI 0) μ
set_option maxHeartbeats 4000000 in
set_option maxRecDepth 100000 in
theorem w_X6_borne {Γ : jG} (C : jC Γ 5 cX6_borne RX6 rmX6_borne) {k1 : Nat} {a2 : Int32} (hk1 : isLaw k1) {ρ : Int32 × Mem} (E : jEI Γ cX6_borne ρ.1 ρ.2) (μ : Mem) (h : f_X6_borne k1 a2 μ = some ρ) : jJ Γ 5 0 [(0, .ref 65), (1, .ref k1), (2, .int a2)] [] μ := by
  unfold f_X6_borne at h
  refine j_iconst (v := (nI 0)) C dX6_borne_0 rfl (by decide) ?_
  refine j_istore_n (lv' := [(3, .int (nI 0)), (0, .ref 65), (1, .ref k1), (2, .int a2)]) C dX6_borne_1 rfl (by decide) rfl ?_
  refine j_lv [1, 2, 3, 0] rfl ?_
  exact w_X6_borne_2 C hk1 E zfu (nI 0) μ h
set_option maxRecDepth 100000 in
theorem c_X6_borne (l : Launch) (D : va_G) (ad : Nat → Nat) (cl : Nat → ClassId) {k1 : Nat} {a2 : Int32} (hk1 : isLaw k1) (μ : Mem) (ρ : Int32 × Mem) (h : f_X6_borne k1 a2 μ = some ρ) : CI l D ad cl yX6_borne wsX6_borne rmX6_borne [.ref 65, .ref k1, .int a2] μ ρ.1 ρ.2 := c_ofI (cc := cX6_borne) (nL := 5) rfl (by decide) (Nat.le_of_ble_eq_true rfl) (fun Γ C E => w_X6_borne C hk1 E μ h)
theorem gvX6_102 : jm_gv RX6 102 RX6 yX6_borne wsX6_borne 5 2 := ⟨_, _, gi_V gwt4_27 gwt4_29 gwp2_11 gwt1_7 gwt4_30, rfl, by decide +kernel⟩
/-! X6_mostBorne -/
def wsX6_mostBorne : List Cond := .code yX6_mostBorne cX6_mostBorne 1 (some .int) :: G0
def rmX6_mostBorne : Room := { frames := 6, cells := 0, slots := 0, locals := 149 }
def f_X6_mostBorne (μ : Mem) : Option (Int32 × Mem) := Option.bind (f_X6_borne 24 (nI 2) μ) fun p1_ => some (p1_.1, p1_.2)
set_option maxHeartbeats 4000000 in
set_option maxRecDepth 100000 in
theorem w_X6_mostBorne {Γ : jG} (C : jC Γ 1 cX6_mostBorne RX6 rmX6_mostBorne) {ρ : Int32 × Mem} (E : jEI Γ cX6_mostBorne ρ.1 ρ.2) (μ : Mem) (h : f_X6_mostBorne μ = some ρ) : jJ Γ 1 0 [(0, .ref 65)] [] μ := by
  unfold f_X6_mostBorne at h
  refine j_aload_n C dX6_mostBorne_0 rfl 0 rfl ?_
  refine j_aload_n C dX6_mostBorne_1 rfl 0 rfl ?_
  refine j_getR (c := 24) C dX6_mostBorne_2 rfl lkX6_42 is_65 rfl ?_
  refine j_iconst (v := (nI 2)) C dX6_mostBorne_5 rfl (by decide) ?_
  replace h := bd_e h
  obtain ⟨p1_, h2_, h⟩ := h
  refine j_cVI (av := [.ref 24, .int (nI 2)]) (rest := []) C dX6_mostBorne_6 rfl (c_X6_borne _ _ _ _ isW24 μ p1_ h2_) gvX6_102 ⟨⟨rfl, rfl⟩, Nat.le_of_ble_eq_true rfl, Nat.le_of_ble_eq_true rfl⟩ rfl is_65 rfl rfl (Nat.le_of_ble_eq_true rfl) ?_
  obtain rfl := Option.some.inj h
  exact j_iret E dX6_mostBorne_9
set_option maxRecDepth 100000 in
theorem c_X6_mostBorne (l : Launch) (D : va_G) (ad : Nat → Nat) (cl : Nat → ClassId) (μ : Mem) (ρ : Int32 × Mem) (h : f_X6_mostBorne μ = some ρ) : CI l D ad cl yX6_mostBorne wsX6_mostBorne rmX6_mostBorne [.ref 65] μ ρ.1 ρ.2 := c_ofI (cc := cX6_mostBorne) (nL := 1) rfl (by decide) (Nat.le_of_ble_eq_true rfl) (fun Γ C E => w_X6_mostBorne C E μ h)
theorem gvX6_112 : jm_gv RX6 112 RX0 yX0_becomeWithNumber wsX0_becomeWithNumber 3 2 := ⟨_, _, gi_V gwt4_48 gwt4_49 gwt4_50 gwt1_4 gwt4_51, rfl, by decide +kernel⟩
/-! X6_leastNumber -/
def wsX6_leastNumber : List Cond := .code yX6_leastNumber cX6_leastNumber 4 (some .int) :: G0
def rmX6_leastNumber : Room := { frames := 6, cells := 0, slots := 0, locals := 149 }
def f_X6_leastNumber_54 (a1 : Int32) (a2 : Int32) (kb2 : Int32 → Mem → Option (Int32 × Mem)) (x3 : Int32) (μ : Mem) : Option (Int32 × Mem) := kb2 (x3 + (nI 1)) μ
set_option maxHeartbeats 4000000 in
set_option maxRecDepth 100000 in
theorem w_X6_leastNumber_54 {Γ : jG} (C : jC Γ 4 cX6_leastNumber RX6 rmX6_leastNumber) {a1 : Int32} {a2 : Int32} {kb2 : Int32 → Mem → Option (Int32 × Mem)} {ρ : Int32 × Mem} (E : jEI Γ cX6_leastNumber ρ.1 ρ.2) (Hkb2 : ∀ (x3 : Int32) (μ : Mem), kb2 x3 μ = some ρ → jJ Γ 4 2 [(0, .ref 65), (1, .int a1), (2, .int a2), (3, .int x3)] [] μ) (x3 : Int32) (μ : Mem) (h : f_X6_leastNumber_54 a1 a2 kb2 x3 μ = some ρ) : jJ Γ 4 54 [(0, .ref 65), (1, .int a1), (2, .int a2), (3, .int x3)] [] μ := by
  unfold f_X6_leastNumber_54 at h
  refine j_iinc (d := (nI 1)) (v := x3 + (nI 1)) (lv' := [(3, .int (x3 + (nI 1))), (0, .ref 65), (1, .int a1), (2, .int a2)]) C dX6_leastNumber_54 rfl (by decide) 3 rfl (by decide) rfl rfl ?_
  refine j_goto (pc' := 2) C dX6_leastNumber_57 (by decide) ?_
  refine j_lv [1, 2, 3, 0] rfl ?_
  exact (Hkb2) (x3 + (nI 1)) μ h
def f_X6_leastNumber_2 (a1 : Int32) (a2 : Int32) : Nat → Int32 → Mem → Option (Int32 × Mem)
  | 0, _, _ => none
  | n + 1, x3, μ => (if (nI 9) < x3 then some ((-4), μ) else Option.bind (f_X0_becomeWithNumber 88 24 x3 μ) fun p2_ => Option.bind (f_X6_begin (nI 0) p2_) fun p4_ => Option.bind (f_X6_until 88 (nI 0) (nI 0) p4_) fun p6_ => (if a2 < p6_.1 then f_X6_leastNumber_54 a1 a2 (fun x3 μ => f_X6_leastNumber_2 a1 a2 n x3 μ) x3 p6_.2 else Option.bind (f_X6_borne 88 a1 p6_.2) fun p9_ => (if p9_.1 = a1 then some (x3, p9_.2) else f_X6_leastNumber_54 a1 a2 (fun x3 μ => f_X6_leastNumber_2 a1 a2 n x3 μ) x3 p9_.2)))
set_option maxHeartbeats 4000000 in
set_option maxRecDepth 100000 in
theorem w_X6_leastNumber_2 {Γ : jG} (C : jC Γ 4 cX6_leastNumber RX6 rmX6_leastNumber) {a1 : Int32} {a2 : Int32} {ρ : Int32 × Mem} (E : jEI Γ cX6_leastNumber ρ.1 ρ.2) : ∀ (n : Nat) (x3 : Int32) (μ : Mem), f_X6_leastNumber_2 a1 a2 n x3 μ = some ρ → jJ Γ 4 2 [(0, .ref 65), (1, .int a1), (2, .int a2), (3, .int x3)] [] μ := by
  intro n
  induction n with
  | zero => intro x3 μ h; rw [f_X6_leastNumber_2] at h; cases h
  | succ n ih =>
    intro x3 μ h
    rw [f_X6_leastNumber_2] at h
    refine j_iload_n C dX6_leastNumber_2 rfl 3 rfl ?_
    refine j_bipush (v := (nI 9)) C dX6_leastNumber_3 rfl (by decide) ?_
    refine j_icmp_gt (tgt := 60) C dX6_leastNumber_5 rfl (by decide) (fun c1_ => ?_) (fun c1_ => ?_)
    · replace h := if_t h c1_
      refine j_bipush (v := (-4)) C dX6_leastNumber_60 rfl (by decide) ?_
      obtain rfl := Option.some.inj h
      exact j_iret E dX6_leastNumber_62
    · replace h := if_f h c1_
      refine j_aload_n C dX6_leastNumber_8 rfl 0 rfl ?_
      refine j_getR (c := 88) C dX6_leastNumber_9 rfl lkX6_21 is_65 rfl ?_
      refine j_aload_n C dX6_leastNumber_12 rfl 0 rfl ?_
      refine j_getR (c := 24) C dX6_leastNumber_13 rfl lkX6_42 is_65 rfl ?_
      refine j_iload_n C dX6_leastNumber_16 rfl 3 rfl ?_
      replace h := bd_e h
      obtain ⟨p2_, h3_, h⟩ := h
      refine j_cVV (av := [.ref 24, .int x3]) (rest := []) C dX6_leastNumber_17 rfl (c_X0_becomeWithNumber _ _ _ _ isW88 isW24 μ p2_ h3_) gvX6_112 ⟨⟨rfl, rfl⟩, Nat.le_of_ble_eq_true rfl, Nat.le_of_ble_eq_true rfl⟩ rfl (isW_0 isW88) rfl rfl (Nat.le_of_ble_eq_true rfl) ?_
      refine j_aload_n C dX6_leastNumber_20 rfl 0 rfl ?_
      refine j_iconst (v := (nI 0)) C dX6_leastNumber_21 rfl (by decide) ?_
      replace h := bd_e h
      obtain ⟨p4_, h5_, h⟩ := h
      refine j_cVV (av := [.int (nI 0)]) (rest := []) C dX6_leastNumber_22 rfl (c_X6_begin _ _ _ _ p2_ p4_ h5_) gvX6_56 ⟨⟨rfl, rfl⟩, Nat.le_of_ble_eq_true rfl, Nat.le_of_ble_eq_true rfl⟩ rfl is_65 rfl rfl (Nat.le_of_ble_eq_true rfl) ?_
      refine j_aload_n C dX6_leastNumber_25 rfl 0 rfl ?_
      refine j_aload_n C dX6_leastNumber_26 rfl 0 rfl ?_
      refine j_getR (c := 88) C dX6_leastNumber_27 rfl lkX6_21 is_65 rfl ?_
      refine j_iconst (v := (nI 0)) C dX6_leastNumber_30 rfl (by decide) ?_
      refine j_iconst (v := (nI 0)) C dX6_leastNumber_31 rfl (by decide) ?_
      replace h := bd_e h
      obtain ⟨p6_, h7_, h⟩ := h
      refine j_cVI (av := [.ref 88, .int (nI 0), .int (nI 0)]) (rest := []) C dX6_leastNumber_32 rfl (c_X6_until _ _ _ _ isW88 p4_ p6_ h7_) gvX6_87 ⟨⟨rfl, rfl⟩, Nat.le_of_ble_eq_true rfl, Nat.le_of_ble_eq_true rfl⟩ rfl is_65 rfl rfl (Nat.le_of_ble_eq_true rfl) ?_
      refine j_iload_n C dX6_leastNumber_35 rfl 2 rfl ?_
      refine j_icmp_gt (tgt := 54) C dX6_leastNumber_36 rfl (by decide) (fun c8_ => ?_) (fun c8_ => ?_)
      · replace h := if_t h c8_
        refine j_lv [0, 1, 2, 3] rfl ?_
        exact w_X6_leastNumber_54 C E ih x3 p6_.2 h
      · replace h := if_f h c8_
        refine j_aload_n C dX6_leastNumber_39 rfl 0 rfl ?_
        refine j_aload_n C dX6_leastNumber_40 rfl 0 rfl ?_
        refine j_getR (c := 88) C dX6_leastNumber_41 rfl lkX6_21 is_65 rfl ?_
        refine j_iload_n C dX6_leastNumber_44 rfl 1 rfl ?_
        replace h := bd_e h
        obtain ⟨p9_, h10_, h⟩ := h
        refine j_cVI (av := [.ref 88, .int a1]) (rest := []) C dX6_leastNumber_45 rfl (c_X6_borne _ _ _ _ isW88 p6_.2 p9_ h10_) gvX6_102 ⟨⟨rfl, rfl⟩, Nat.le_of_ble_eq_true rfl, Nat.le_of_ble_eq_true rfl⟩ rfl is_65 rfl rfl (Nat.le_of_ble_eq_true rfl) ?_
        refine j_iload_n C dX6_leastNumber_48 rfl 1 rfl ?_
        refine j_icmp_ne (tgt := 54) C dX6_leastNumber_49 rfl (by decide) (fun c11_ => ?_) (fun c11_ => ?_)
        · replace h := if_f h c11_
          refine j_lv [0, 1, 2, 3] rfl ?_
          exact w_X6_leastNumber_54 C E ih x3 p9_.2 h
        · replace h := if_t h c11_
          refine j_iload_n C dX6_leastNumber_52 rfl 3 rfl ?_
          obtain rfl := Option.some.inj h
          exact j_iret E dX6_leastNumber_53
def f_X6_leastNumber (a1 : Int32) (a2 : Int32) (μ : Mem) : Option (Int32 × Mem) := f_X6_leastNumber_2 a1 a2 zfu (nI 0) μ
set_option maxHeartbeats 4000000 in
set_option maxRecDepth 100000 in
theorem w_X6_leastNumber {Γ : jG} (C : jC Γ 4 cX6_leastNumber RX6 rmX6_leastNumber) {a1 : Int32} {a2 : Int32} {ρ : Int32 × Mem} (E : jEI Γ cX6_leastNumber ρ.1 ρ.2) (μ : Mem) (h : f_X6_leastNumber a1 a2 μ = some ρ) : jJ Γ 4 0 [(0, .ref 65), (1, .int a1), (2, .int a2)] [] μ := by
  unfold f_X6_leastNumber at h
  refine j_iconst (v := (nI 0)) C dX6_leastNumber_0 rfl (by decide) ?_
  refine j_istore_n (lv' := [(3, .int (nI 0)), (0, .ref 65), (1, .int a1), (2, .int a2)]) C dX6_leastNumber_1 rfl (by decide) rfl ?_
  refine j_lv [1, 2, 3, 0] rfl ?_
  exact w_X6_leastNumber_2 C E zfu (nI 0) μ h
set_option maxRecDepth 100000 in
theorem c_X6_leastNumber (l : Launch) (D : va_G) (ad : Nat → Nat) (cl : Nat → ClassId) {a1 : Int32} {a2 : Int32} (μ : Mem) (ρ : Int32 × Mem) (h : f_X6_leastNumber a1 a2 μ = some ρ) : CI l D ad cl yX6_leastNumber wsX6_leastNumber rmX6_leastNumber [.ref 65, .int a1, .int a2] μ ρ.1 ρ.2 := c_ofI (cc := cX6_leastNumber) (nL := 4) rfl (by decide) (Nat.le_of_ble_eq_true rfl) (fun Γ C E => w_X6_leastNumber C E μ h)
theorem gvX6_122 : jm_gv RX6 122 RX0 yX0_becomeWithout wsX0_becomeWithout 4 2 := ⟨_, _, gi_V gwt4_66 gwt3_67 gwt3_68 gwt1_4 gwt3_69, rfl, by decide +kernel⟩
theorem gvX6_115 : jm_gv RX6 115 RX2 yX2_outcome wsX2_outcome 3 0 := ⟨_, _, gi_V gwt4_62 gwt4_63 gwt4_64 gwt1_3 gwt4_65, rfl, by decide +kernel⟩
/-! X6_spareRules -/
def wsX6_spareRules : List Cond := .code yX6_spareRules cX6_spareRules 4 (some .int) :: G0
def rmX6_spareRules : Room := { frames := 5, cells := 0, slots := 0, locals := 124 }
def f_X6_spareRules_72 (kb22 : Int32 → Int32 → Int32 → Mem → Option (Int32 × Mem)) (x1 : Int32) (x2 : Int32) (x3 : Int32) (μ : Mem) : Option (Int32 × Mem) := kb22 x1 x2 (x3 + (nI 1)) μ
set_option maxHeartbeats 4000000 in
set_option maxRecDepth 100000 in
theorem w_X6_spareRules_72 {Γ : jG} (C : jC Γ 4 cX6_spareRules RX6 rmX6_spareRules) {kb22 : Int32 → Int32 → Int32 → Mem → Option (Int32 × Mem)} {ρ : Int32 × Mem} (E : jEI Γ cX6_spareRules ρ.1 ρ.2) (Hkb22 : ∀ (x1 : Int32) (x2 : Int32) (x3 : Int32) (μ : Mem), kb22 x1 x2 x3 μ = some ρ → jJ Γ 4 22 [(0, .ref 65), (1, .int x1), (2, .int x2), (3, .int x3)] [] μ) (x1 : Int32) (x2 : Int32) (x3 : Int32) (μ : Mem) (h : f_X6_spareRules_72 kb22 x1 x2 x3 μ = some ρ) : jJ Γ 4 72 [(0, .ref 65), (1, .int x1), (2, .int x2), (3, .int x3)] [] μ := by
  unfold f_X6_spareRules_72 at h
  refine j_iinc (d := (nI 1)) (v := x3 + (nI 1)) (lv' := [(3, .int (x3 + (nI 1))), (0, .ref 65), (1, .int x1), (2, .int x2)]) C dX6_spareRules_72 rfl (by decide) 3 rfl (by decide) rfl rfl ?_
  refine j_goto (pc' := 22) C dX6_spareRules_75 (by decide) ?_
  refine j_lv [1, 2, 3, 0] rfl ?_
  exact (Hkb22) x1 x2 (x3 + (nI 1)) μ h
def f_X6_spareRules_22 : Nat → Int32 → Int32 → Int32 → Mem → Option (Int32 × Mem)
  | 0, _, _, _, _ => none
  | n + 1, x1, x2, x3, μ => (if (μ.1 24 0) ≤ x3 then some (x2, μ) else Option.bind (f_X0_becomeWithout 88 24 x3 μ) fun p2_ => Option.bind (f_X6_run 88 (nI 60) p2_) fun p4_ => Option.bind (f_X2_outcome 66 p4_) fun p6_ => (if p6_.1 = x1 then zl (x2 ||| ((nI 1) <<< (x3 &&& 31))) fun x9_ => f_X6_spareRules_72 (fun x1 x2 x3 μ => f_X6_spareRules_22 n x1 x2 x3 μ) x1 x9_ x3 p6_.2 else f_X6_spareRules_72 (fun x1 x2 x3 μ => f_X6_spareRules_22 n x1 x2 x3 μ) x1 x2 x3 p6_.2))
set_option maxHeartbeats 4000000 in
set_option maxRecDepth 100000 in
theorem w_X6_spareRules_22 {Γ : jG} (C : jC Γ 4 cX6_spareRules RX6 rmX6_spareRules) {ρ : Int32 × Mem} (E : jEI Γ cX6_spareRules ρ.1 ρ.2) : ∀ (n : Nat) (x1 : Int32) (x2 : Int32) (x3 : Int32) (μ : Mem), f_X6_spareRules_22 n x1 x2 x3 μ = some ρ → jJ Γ 4 22 [(0, .ref 65), (1, .int x1), (2, .int x2), (3, .int x3)] [] μ := by
  intro n
  induction n with
  | zero => intro x1 x2 x3 μ h; rw [f_X6_spareRules_22] at h; cases h
  | succ n ih =>
    intro x1 x2 x3 μ h
    rw [f_X6_spareRules_22] at h
    refine j_iload_n C dX6_spareRules_22 rfl 3 rfl ?_
    refine j_aload_n C dX6_spareRules_23 rfl 0 rfl ?_
    refine j_getR (c := 24) C dX6_spareRules_24 rfl lkX6_42 is_65 rfl ?_
    refine j_getI C dX6_spareRules_27 rfl lkX6_119 (isW_0 isW24) rfl ?_
    refine j_icmp_ge (tgt := 78) C dX6_spareRules_30 rfl (by decide) (fun c1_ => ?_) (fun c1_ => ?_)
    · replace h := if_t h c1_
      refine j_iload_n C dX6_spareRules_78 rfl 2 rfl ?_
      obtain rfl := Option.some.inj h
      exact j_iret E dX6_spareRules_79
    · replace h := if_f h c1_
      refine j_aload_n C dX6_spareRules_33 rfl 0 rfl ?_
      refine j_getR (c := 88) C dX6_spareRules_34 rfl lkX6_21 is_65 rfl ?_
      refine j_aload_n C dX6_spareRules_37 rfl 0 rfl ?_
      refine j_getR (c := 24) C dX6_spareRules_38 rfl lkX6_42 is_65 rfl ?_
      refine j_iload_n C dX6_spareRules_41 rfl 3 rfl ?_
      replace h := bd_e h
      obtain ⟨p2_, h3_, h⟩ := h
      refine j_cVV (av := [.ref 24, .int x3]) (rest := []) C dX6_spareRules_42 rfl (c_X0_becomeWithout _ _ _ _ isW88 isW24 μ p2_ h3_) gvX6_122 ⟨⟨rfl, rfl⟩, Nat.le_of_ble_eq_true rfl, Nat.le_of_ble_eq_true rfl⟩ rfl (isW_0 isW88) rfl rfl (Nat.le_of_ble_eq_true rfl) ?_
      refine j_aload_n C dX6_spareRules_45 rfl 0 rfl ?_
      refine j_aload_n C dX6_spareRules_46 rfl 0 rfl ?_
      refine j_getR (c := 88) C dX6_spareRules_47 rfl lkX6_21 is_65 rfl ?_
      refine j_bipush (v := (nI 60)) C dX6_spareRules_50 rfl (by decide) ?_
      replace h := bd_e h
      obtain ⟨p4_, h5_, h⟩ := h
      refine j_cVV (av := [.ref 88, .int (nI 60)]) (rest := []) C dX6_spareRules_52 rfl (c_X6_run _ _ _ _ isW88 p2_ p4_ h5_) gvX6_83 ⟨⟨rfl, rfl⟩, Nat.le_of_ble_eq_true rfl, Nat.le_of_ble_eq_true rfl⟩ rfl is_65 rfl rfl (Nat.le_of_ble_eq_true rfl) ?_
      refine j_aload_n C dX6_spareRules_55 rfl 0 rfl ?_
      refine j_getR (c := 66) C dX6_spareRules_56 rfl lkX6_12 is_65 rfl ?_
      replace h := bd_e h
      obtain ⟨p6_, h7_, h⟩ := h
      refine j_cVI (av := []) (rest := []) C dX6_spareRules_59 rfl (c_X2_outcome _ _ _ _ isN66 p4_ p6_ h7_) gvX6_115 ⟨⟨rfl, rfl⟩, Nat.le_of_ble_eq_true rfl, Nat.le_of_ble_eq_true rfl⟩ rfl (isN_0 isN66) rfl rfl (Nat.le_of_ble_eq_true rfl) ?_
      refine j_iload_n C dX6_spareRules_62 rfl 1 rfl ?_
      refine j_icmp_ne (tgt := 72) C dX6_spareRules_63 rfl (by decide) (fun c8_ => ?_) (fun c8_ => ?_)
      · replace h := if_f h c8_
        refine j_lv [0, 1, 2, 3] rfl ?_
        exact w_X6_spareRules_72 C E ih x1 x2 x3 p6_.2 h
      · replace h := if_t h c8_
        refine j_iload_n C dX6_spareRules_66 rfl 2 rfl ?_
        refine j_iconst (v := (nI 1)) C dX6_spareRules_67 rfl (by decide) ?_
        refine j_iload_n C dX6_spareRules_68 rfl 3 rfl ?_
        refine j_ishl C dX6_spareRules_69 rfl ?_
        refine j_ior C dX6_spareRules_70 rfl ?_
        refine j_topi (fun x9_ e10_ => ?_)
        replace h := zl_u h e10_
        refine j_istore_n (lv' := [(2, .int x9_), (0, .ref 65), (1, .int x1), (3, .int x3)]) C dX6_spareRules_71 rfl (by decide) rfl ?_
        refine j_lv [1, 2, 0, 3] rfl ?_
        exact w_X6_spareRules_72 C E ih x1 x9_ x3 p6_.2 h
def f_X6_spareRules (μ : Mem) : Option (Int32 × Mem) := Option.bind (f_X6_run 24 (nI 60) μ) fun p1_ => Option.bind (f_X2_outcome 66 p1_) fun p3_ => f_X6_spareRules_22 zfu p3_.1 (nI 0) (nI 0) p3_.2
set_option maxHeartbeats 4000000 in
set_option maxRecDepth 100000 in
theorem w_X6_spareRules {Γ : jG} (C : jC Γ 4 cX6_spareRules RX6 rmX6_spareRules) {ρ : Int32 × Mem} (E : jEI Γ cX6_spareRules ρ.1 ρ.2) (μ : Mem) (h : f_X6_spareRules μ = some ρ) : jJ Γ 4 0 [(0, .ref 65)] [] μ := by
  unfold f_X6_spareRules at h
  refine j_aload_n C dX6_spareRules_0 rfl 0 rfl ?_
  refine j_aload_n C dX6_spareRules_1 rfl 0 rfl ?_
  refine j_getR (c := 24) C dX6_spareRules_2 rfl lkX6_42 is_65 rfl ?_
  refine j_bipush (v := (nI 60)) C dX6_spareRules_5 rfl (by decide) ?_
  replace h := bd_e h
  obtain ⟨p1_, h2_, h⟩ := h
  refine j_cVV (av := [.ref 24, .int (nI 60)]) (rest := []) C dX6_spareRules_7 rfl (c_X6_run _ _ _ _ isW24 μ p1_ h2_) gvX6_83 ⟨⟨rfl, rfl⟩, Nat.le_of_ble_eq_true rfl, Nat.le_of_ble_eq_true rfl⟩ rfl is_65 rfl rfl (Nat.le_of_ble_eq_true rfl) ?_
  refine j_aload_n C dX6_spareRules_10 rfl 0 rfl ?_
  refine j_getR (c := 66) C dX6_spareRules_11 rfl lkX6_12 is_65 rfl ?_
  replace h := bd_e h
  obtain ⟨p3_, h4_, h⟩ := h
  refine j_cVI (av := []) (rest := []) C dX6_spareRules_14 rfl (c_X2_outcome _ _ _ _ isN66 p1_ p3_ h4_) gvX6_115 ⟨⟨rfl, rfl⟩, Nat.le_of_ble_eq_true rfl, Nat.le_of_ble_eq_true rfl⟩ rfl (isN_0 isN66) rfl rfl (Nat.le_of_ble_eq_true rfl) ?_
  refine j_istore_n (lv' := [(1, .int p3_.1), (0, .ref 65)]) C dX6_spareRules_17 rfl (by decide) rfl ?_
  refine j_iconst (v := (nI 0)) C dX6_spareRules_18 rfl (by decide) ?_
  refine j_istore_n (lv' := [(2, .int (nI 0)), (1, .int p3_.1), (0, .ref 65)]) C dX6_spareRules_19 rfl (by decide) rfl ?_
  refine j_iconst (v := (nI 0)) C dX6_spareRules_20 rfl (by decide) ?_
  refine j_istore_n (lv' := [(3, .int (nI 0)), (2, .int (nI 0)), (1, .int p3_.1), (0, .ref 65)]) C dX6_spareRules_21 rfl (by decide) rfl ?_
  refine j_lv [3, 2, 1, 0] rfl ?_
  exact w_X6_spareRules_22 C E zfu p3_.1 (nI 0) (nI 0) p3_.2 h
set_option maxRecDepth 100000 in
theorem c_X6_spareRules (l : Launch) (D : va_G) (ad : Nat → Nat) (cl : Nat → ClassId) (μ : Mem) (ρ : Int32 × Mem) (h : f_X6_spareRules μ = some ρ) : CI l D ad cl yX6_spareRules wsX6_spareRules rmX6_spareRules [.ref 65] μ ρ.1 ρ.2 := c_ofI (cc := cX6_spareRules) (nL := 4) rfl (by decide) (Nat.le_of_ble_eq_true rfl) (fun Γ C E => w_X6_spareRules C E μ h)
