theorem gvX7_188 : jm_gv RX7 188 RX2 yX2_pass wsX2_pass 5 2 := ⟨_, _, gi_V gwt3_130 gwt3_131 gwt3_132 gwt1_3 gwt3_133, rfl, by decide +kernel⟩
/-! X7_minute -/
def wsX7_minute : List Cond := .code yX7_minute cX7_minute 1 (some .int) :: G0
def rmX7_minute : Room := { frames := 4, cells := 0, slots := 0, locals := 101 }
def f_X7_minute (μ : Mem) : Option (Int32 × Mem) := (if (μ.1 2 1) < (nI 999) then Option.bind (f_X2_pass 2 24 (nI 0) μ) fun p2_ => some (p2_.1, p2_.2) else some ((-3), μ))
set_option maxHeartbeats 4000000 in
set_option maxRecDepth 100000 in
theorem w_X7_minute {Γ : jG} (C : jC Γ 1 cX7_minute RX7 rmX7_minute) {ρ : Int32 × Mem} (E : jEI Γ cX7_minute ρ.1 ρ.2) (μ : Mem) (h : f_X7_minute μ = some ρ) : jJ Γ 1 0 [(0, .ref 0)] [] μ := by
  unfold f_X7_minute at h
  refine j_aload_n C dX7_minute_0 rfl 0 rfl ?_
  refine j_getR (c := 1) C dX7_minute_1 rfl lkX7_10 is_0 rfl ?_
  refine j_getR (c := 2) C dX7_minute_4 rfl lkX7_38 (isT_0 isT1) rfl ?_
  refine j_getI C dX7_minute_7 rfl lkX7_165 (isN_0 (isT_n isT1)) rfl ?_
  refine j_sipush (v := (nI 999)) C dX7_minute_10 rfl (by decide) ?_
  refine j_icmp_lt (tgt := 21) C dX7_minute_13 rfl (by decide) (fun c1_ => ?_) (fun c1_ => ?_)
  · replace h := if_t h c1_
    refine j_aload_n C dX7_minute_21 rfl 0 rfl ?_
    refine j_getR (c := 1) C dX7_minute_22 rfl lkX7_10 is_0 rfl ?_
    refine j_getR (c := 2) C dX7_minute_25 rfl lkX7_38 (isT_0 isT1) rfl ?_
    refine j_aload_n C dX7_minute_28 rfl 0 rfl ?_
    refine j_getR (c := 1) C dX7_minute_29 rfl lkX7_10 is_0 rfl ?_
    refine j_getR (c := 24) C dX7_minute_32 rfl lkX7_42 (isT_0 isT1) rfl ?_
    refine j_iconst (v := (nI 0)) C dX7_minute_35 rfl (by decide) ?_
    replace h := bd_e h
    obtain ⟨p2_, h3_, h⟩ := h
    refine j_cVI (av := [.ref 24, .int (nI 0)]) (rest := []) C dX7_minute_36 rfl (c_X2_pass _ _ _ _ (isT_n isT1) (isT_w isT1) μ p2_ h3_) gvX7_188 ⟨⟨rfl, rfl⟩, Nat.le_of_ble_eq_true rfl, Nat.le_of_ble_eq_true rfl⟩ rfl (isN_0 (isT_n isT1)) rfl rfl (Nat.le_of_ble_eq_true rfl) ?_
    obtain rfl := Option.some.inj h
    exact j_iret E dX7_minute_39
  · replace h := if_f h c1_
    refine j_bipush (v := (-3)) C dX7_minute_16 rfl (by decide) ?_
    refine j_goto (pc' := 39) C dX7_minute_18 (by decide) ?_
    obtain rfl := Option.some.inj h
    exact j_iret E dX7_minute_39
set_option maxRecDepth 100000 in
theorem c_X7_minute (l : Launch) (D : va_G) (ad : Nat → Nat) (cl : Nat → ClassId) (μ : Mem) (ρ : Int32 × Mem) (h : f_X7_minute μ = some ρ) : CI l D ad cl yX7_minute wsX7_minute rmX7_minute [.ref 0] μ ρ.1 ρ.2 := c_ofI (cc := cX7_minute) (nL := 1) rfl (by decide) (Nat.le_of_ble_eq_true rfl) (fun Γ C E => w_X7_minute C E μ h)
/-! X7_passMinutes -/
def wsX7_passMinutes : List Cond := .code yX7_passMinutes cX7_passMinutes 5 (some .int) :: G0
def rmX7_passMinutes : Room := { frames := 4, cells := 0, slots := 0, locals := 101 }
def f_X7_passMinutes_38 (a1 : Int32) (a2 : Int32) : Nat → Int32 → Int32 → Mem → Option (Int32 × Mem)
  | 0, _, _, _ => none
  | n + 1, x3, x4, μ => (if a1 ≤ x4 then some (x3, μ) else Option.bind (f_X2_pass 2 24 a2 μ) fun p2_ => zl (x3 + p2_.1) fun x4_ => f_X7_passMinutes_38 a1 a2 n x4_ (x4 + (nI 1)) p2_.2)
set_option maxHeartbeats 4000000 in
set_option maxRecDepth 100000 in
theorem w_X7_passMinutes_38 {Γ : jG} (C : jC Γ 5 cX7_passMinutes RX7 rmX7_passMinutes) {a1 : Int32} {a2 : Int32} {ρ : Int32 × Mem} (E : jEI Γ cX7_passMinutes ρ.1 ρ.2) : ∀ (n : Nat) (x3 : Int32) (x4 : Int32) (μ : Mem), f_X7_passMinutes_38 a1 a2 n x3 x4 μ = some ρ → jJ Γ 5 38 [(0, .ref 0), (1, .int a1), (2, .int a2), (3, .int x3), (4, .int x4)] [] μ := by
  intro n
  induction n with
  | zero => intro x3 x4 μ h; rw [f_X7_passMinutes_38] at h; cases h
  | succ n ih =>
    intro x3 x4 μ h
    rw [f_X7_passMinutes_38] at h
    refine j_iload C dX7_passMinutes_38 rfl 4 rfl ?_
    refine j_iload_n C dX7_passMinutes_40 rfl 1 rfl ?_
    refine j_icmp_ge (tgt := 71) C dX7_passMinutes_41 rfl (by decide) (fun c1_ => ?_) (fun c1_ => ?_)
    · replace h := if_t h c1_
      refine j_iload_n C dX7_passMinutes_71 rfl 3 rfl ?_
      obtain rfl := Option.some.inj h
      exact j_iret E dX7_passMinutes_72
    · replace h := if_f h c1_
      refine j_iload_n C dX7_passMinutes_44 rfl 3 rfl ?_
      refine j_aload_n C dX7_passMinutes_45 rfl 0 rfl ?_
      refine j_getR (c := 1) C dX7_passMinutes_46 rfl lkX7_10 is_0 rfl ?_
      refine j_getR (c := 2) C dX7_passMinutes_49 rfl lkX7_38 (isT_0 isT1) rfl ?_
      refine j_aload_n C dX7_passMinutes_52 rfl 0 rfl ?_
      refine j_getR (c := 1) C dX7_passMinutes_53 rfl lkX7_10 is_0 rfl ?_
      refine j_getR (c := 24) C dX7_passMinutes_56 rfl lkX7_42 (isT_0 isT1) rfl ?_
      refine j_iload_n C dX7_passMinutes_59 rfl 2 rfl ?_
      replace h := bd_e h
      obtain ⟨p2_, h3_, h⟩ := h
      refine j_cVI (av := [.ref 24, .int a2]) (rest := [.int x3]) C dX7_passMinutes_60 rfl (c_X2_pass _ _ _ _ (isT_n isT1) (isT_w isT1) μ p2_ h3_) gvX7_188 ⟨⟨rfl, rfl⟩, Nat.le_of_ble_eq_true rfl, Nat.le_of_ble_eq_true rfl⟩ rfl (isN_0 (isT_n isT1)) rfl rfl (Nat.le_of_ble_eq_true rfl) ?_
      refine j_iadd C dX7_passMinutes_63 rfl ?_
      refine j_topi (fun x4_ e5_ => ?_)
      replace h := zl_u h e5_
      refine j_istore_n (lv' := [(3, .int x4_), (0, .ref 0), (1, .int a1), (2, .int a2), (4, .int x4)]) C dX7_passMinutes_64 rfl (by decide) rfl ?_
      refine j_iinc (d := (nI 1)) (v := x4 + (nI 1)) (lv' := [(4, .int (x4 + (nI 1))), (3, .int x4_), (0, .ref 0), (1, .int a1), (2, .int a2)]) C dX7_passMinutes_65 rfl (by decide) 4 rfl (by decide) rfl rfl ?_
      refine j_goto (pc' := 38) C dX7_passMinutes_68 (by decide) ?_
      refine j_lv [2, 3, 4, 1, 0] rfl ?_
      exact (ih) x4_ (x4 + (nI 1)) p2_.2 h
def f_X7_passMinutes (a1 : Int32) (a2 : Int32) (μ : Mem) : Option (Int32 × Mem) := Option.bind (f_X7_within a1 (nI 1) (nI 60) μ) fun p1_ => (if p1_.1 = 0 then some ((-1), p1_.2) else (if ((p1_.2.1 2 1) + a1) ≤ (nI 999) then f_X7_passMinutes_38 a1 a2 zfu (nI 0) (nI 0) p1_.2 else some ((-3), p1_.2)))
set_option maxHeartbeats 4000000 in
set_option maxRecDepth 100000 in
theorem w_X7_passMinutes {Γ : jG} (C : jC Γ 5 cX7_passMinutes RX7 rmX7_passMinutes) {a1 : Int32} {a2 : Int32} {ρ : Int32 × Mem} (E : jEI Γ cX7_passMinutes ρ.1 ρ.2) (μ : Mem) (h : f_X7_passMinutes a1 a2 μ = some ρ) : jJ Γ 5 0 [(0, .ref 0), (1, .int a1), (2, .int a2)] [] μ := by
  unfold f_X7_passMinutes at h
  refine j_iload_n C dX7_passMinutes_0 rfl 1 rfl ?_
  refine j_iconst (v := (nI 1)) C dX7_passMinutes_1 rfl (by decide) ?_
  refine j_bipush (v := (nI 60)) C dX7_passMinutes_2 rfl (by decide) ?_
  replace h := bd_e h
  obtain ⟨p1_, h2_, h⟩ := h
  refine j_cSI (av := [.int a1, .int (nI 1), .int (nI 60)]) (rest := []) C dX7_passMinutes_4 rfl (c_X7_within _ _ _ _ μ p1_ h2_) gsX7_54 ⟨⟨rfl, rfl⟩, Nat.le_of_ble_eq_true rfl, Nat.le_of_ble_eq_true rfl⟩ rfl rfl (Nat.le_of_ble_eq_true rfl) ?_
  refine j_if_ne (tgt := 12) C dX7_passMinutes_7 rfl (by decide) (fun c3_ => ?_) (fun c3_ => ?_)
  · replace h := if_f h c3_
    refine j_aload_n C dX7_passMinutes_12 rfl 0 rfl ?_
    refine j_getR (c := 1) C dX7_passMinutes_13 rfl lkX7_10 is_0 rfl ?_
    refine j_getR (c := 2) C dX7_passMinutes_16 rfl lkX7_38 (isT_0 isT1) rfl ?_
    refine j_getI C dX7_passMinutes_19 rfl lkX7_165 (isN_0 (isT_n isT1)) rfl ?_
    refine j_iload_n C dX7_passMinutes_22 rfl 1 rfl ?_
    refine j_iadd C dX7_passMinutes_23 rfl ?_
    refine j_sipush (v := (nI 999)) C dX7_passMinutes_24 rfl (by decide) ?_
    refine j_icmp_le (tgt := 33) C dX7_passMinutes_27 rfl (by decide) (fun c4_ => ?_) (fun c4_ => ?_)
    · replace h := if_t h c4_
      refine j_iconst (v := (nI 0)) C dX7_passMinutes_33 rfl (by decide) ?_
      refine j_istore_n (lv' := [(3, .int (nI 0)), (0, .ref 0), (1, .int a1), (2, .int a2)]) C dX7_passMinutes_34 rfl (by decide) rfl ?_
      refine j_iconst (v := (nI 0)) C dX7_passMinutes_35 rfl (by decide) ?_
      refine j_istore (lv' := [(4, .int (nI 0)), (3, .int (nI 0)), (0, .ref 0), (1, .int a1), (2, .int a2)]) C dX7_passMinutes_36 rfl (by decide) rfl ?_
      refine j_lv [2, 3, 4, 1, 0] rfl ?_
      exact w_X7_passMinutes_38 C E zfu (nI 0) (nI 0) p1_.2 h
    · replace h := if_f h c4_
      refine j_bipush (v := (-3)) C dX7_passMinutes_30 rfl (by decide) ?_
      obtain rfl := Option.some.inj h
      exact j_iret E dX7_passMinutes_32
  · replace h := if_t h c3_
    refine j_iconst (v := (-1)) C dX7_passMinutes_10 rfl (by decide) ?_
    obtain rfl := Option.some.inj h
    exact j_iret E dX7_passMinutes_11
set_option maxRecDepth 100000 in
theorem c_X7_passMinutes (l : Launch) (D : va_G) (ad : Nat → Nat) (cl : Nat → ClassId) {a1 : Int32} {a2 : Int32} (μ : Mem) (ρ : Int32 × Mem) (h : f_X7_passMinutes a1 a2 μ = some ρ) : CI l D ad cl yX7_passMinutes wsX7_passMinutes rmX7_passMinutes [.ref 0, .int a1, .int a2] μ ρ.1 ρ.2 := c_ofI (cc := cX7_passMinutes) (nL := 5) rfl (by decide) (Nat.le_of_ble_eq_true rfl) (fun Γ C E => w_X7_passMinutes C E μ h)
theorem gvX7_192 : jm_gv RX7 192 RX7 yX7_passMinutes wsX7_passMinutes 5 2 := ⟨_, _, gi_V gwt3_172 gwt3_174 gwp2_4 gwt1_1 gwt3_175, rfl, by decide +kernel⟩
/-! X7_night -/
def wsX7_night : List Cond := .code yX7_night cX7_night 2 (some .int) :: G0
def rmX7_night : Room := { frames := 5, cells := 0, slots := 0, locals := 125 }
def f_X7_night (a1 : Int32) (μ : Mem) : Option (Int32 × Mem) := Option.bind (f_X7_passMinutes a1 (nI 0) μ) fun p1_ => some (p1_.1, p1_.2)
set_option maxHeartbeats 4000000 in
set_option maxRecDepth 100000 in
theorem w_X7_night {Γ : jG} (C : jC Γ 2 cX7_night RX7 rmX7_night) {a1 : Int32} {ρ : Int32 × Mem} (E : jEI Γ cX7_night ρ.1 ρ.2) (μ : Mem) (h : f_X7_night a1 μ = some ρ) : jJ Γ 2 0 [(0, .ref 0), (1, .int a1)] [] μ := by
  unfold f_X7_night at h
  refine j_aload_n C dX7_night_0 rfl 0 rfl ?_
  refine j_iload_n C dX7_night_1 rfl 1 rfl ?_
  refine j_iconst (v := (nI 0)) C dX7_night_2 rfl (by decide) ?_
  replace h := bd_e h
  obtain ⟨p1_, h2_, h⟩ := h
  refine j_cVI (av := [.int a1, .int (nI 0)]) (rest := []) C dX7_night_3 rfl (c_X7_passMinutes _ _ _ _ μ p1_ h2_) gvX7_192 ⟨⟨rfl, rfl⟩, Nat.le_of_ble_eq_true rfl, Nat.le_of_ble_eq_true rfl⟩ rfl is_0 rfl rfl (Nat.le_of_ble_eq_true rfl) ?_
  obtain rfl := Option.some.inj h
  exact j_iret E dX7_night_6
set_option maxRecDepth 100000 in
theorem c_X7_night (l : Launch) (D : va_G) (ad : Nat → Nat) (cl : Nat → ClassId) {a1 : Int32} (μ : Mem) (ρ : Int32 × Mem) (h : f_X7_night a1 μ = some ρ) : CI l D ad cl yX7_night wsX7_night rmX7_night [.ref 0, .int a1] μ ρ.1 ρ.2 := c_ofI (cc := cX7_night) (nL := 2) rfl (by decide) (Nat.le_of_ble_eq_true rfl) (fun Γ C E => w_X7_night C E μ h)
/-! X7_lots -/
def wsX7_lots : List Cond := .code yX7_lots cX7_lots 2 (some .int) :: G0
def rmX7_lots : Room := { frames := 5, cells := 0, slots := 0, locals := 125 }
def f_X7_lots (a1 : Int32) (μ : Mem) : Option (Int32 × Mem) := Option.bind (f_X7_passMinutes a1 (nI 1) μ) fun p1_ => some (p1_.1, p1_.2)
set_option maxHeartbeats 4000000 in
set_option maxRecDepth 100000 in
theorem w_X7_lots {Γ : jG} (C : jC Γ 2 cX7_lots RX7 rmX7_lots) {a1 : Int32} {ρ : Int32 × Mem} (E : jEI Γ cX7_lots ρ.1 ρ.2) (μ : Mem) (h : f_X7_lots a1 μ = some ρ) : jJ Γ 2 0 [(0, .ref 0), (1, .int a1)] [] μ := by
  unfold f_X7_lots at h
  refine j_aload_n C dX7_lots_0 rfl 0 rfl ?_
  refine j_iload_n C dX7_lots_1 rfl 1 rfl ?_
  refine j_iconst (v := (nI 1)) C dX7_lots_2 rfl (by decide) ?_
  replace h := bd_e h
  obtain ⟨p1_, h2_, h⟩ := h
  refine j_cVI (av := [.int a1, .int (nI 1)]) (rest := []) C dX7_lots_3 rfl (c_X7_passMinutes _ _ _ _ μ p1_ h2_) gvX7_192 ⟨⟨rfl, rfl⟩, Nat.le_of_ble_eq_true rfl, Nat.le_of_ble_eq_true rfl⟩ rfl is_0 rfl rfl (Nat.le_of_ble_eq_true rfl) ?_
  obtain rfl := Option.some.inj h
  exact j_iret E dX7_lots_6
set_option maxRecDepth 100000 in
theorem c_X7_lots (l : Launch) (D : va_G) (ad : Nat → Nat) (cl : Nat → ClassId) {a1 : Int32} (μ : Mem) (ρ : Int32 × Mem) (h : f_X7_lots a1 μ = some ρ) : CI l D ad cl yX7_lots wsX7_lots rmX7_lots [.ref 0, .int a1] μ ρ.1 ρ.2 := c_ofI (cc := cX7_lots) (nL := 2) rfl (by decide) (Nat.le_of_ble_eq_true rfl) (fun Γ C E => w_X7_lots C E μ h)
/-! X7_seed -/
def wsX7_seed : List Cond := .code yX7_seed cX7_seed 3 (some .int) :: G0
def rmX7_seed : Room := { frames := 0, cells := 0, slots := 0, locals := 0 }
def f_X7_seed (a1 : Int32) (μ : Mem) : Option (Int32 × Mem) := (if 0 ≤ a1 then zl (μ.1 2 3) fun x2_ => zl (sI μ 2 3 a1) fun μ4_ => some (x2_, μ4_) else some ((-1), μ))
set_option maxHeartbeats 4000000 in
set_option maxRecDepth 100000 in
theorem w_X7_seed {Γ : jG} (C : jC Γ 3 cX7_seed RX7 rmX7_seed) {a1 : Int32} {ρ : Int32 × Mem} (E : jEI Γ cX7_seed ρ.1 ρ.2) (μ : Mem) (h : f_X7_seed a1 μ = some ρ) : jJ Γ 3 0 [(0, .ref 0), (1, .int a1)] [] μ := by
  unfold f_X7_seed at h
  refine j_iload_n C dX7_seed_0 rfl 1 rfl ?_
  refine j_if_ge (tgt := 6) C dX7_seed_1 rfl (by decide) (fun c1_ => ?_) (fun c1_ => ?_)
  · replace h := if_t h c1_
    refine j_aload_n C dX7_seed_6 rfl 0 rfl ?_
    refine j_getR (c := 1) C dX7_seed_7 rfl lkX7_10 is_0 rfl ?_
    refine j_getR (c := 2) C dX7_seed_10 rfl lkX7_38 (isT_0 isT1) rfl ?_
    refine j_getI C dX7_seed_13 rfl lkX7_196 (isN_0 (isT_n isT1)) rfl ?_
    refine j_topi (fun x2_ e3_ => ?_)
    replace h := zl_u h e3_
    refine j_istore_n (lv' := [(2, .int x2_), (0, .ref 0), (1, .int a1)]) C dX7_seed_16 rfl (by decide) rfl ?_
    refine j_aload_n C dX7_seed_17 rfl 1 rfl ?_
    refine j_getR (c := 1) C dX7_seed_18 rfl lkX7_10 is_0 rfl ?_
    refine j_getR (c := 2) C dX7_seed_21 rfl lkX7_38 (isT_0 isT1) rfl ?_
    refine j_iload_n C dX7_seed_24 rfl 2 rfl ?_
    refine j_putI C dX7_seed_25 rfl lpX7_196 (isN_0 (isT_n isT1)) rfl ?_
    refine j_mem (fun μ4_ e5_ => ?_)
    replace h := zl_u h e5_
    refine j_iload_n C dX7_seed_28 rfl 0 rfl ?_
    obtain rfl := Option.some.inj h
    exact j_iret E dX7_seed_29
  · replace h := if_f h c1_
    refine j_iconst (v := (-1)) C dX7_seed_4 rfl (by decide) ?_
    obtain rfl := Option.some.inj h
    exact j_iret E dX7_seed_5
set_option maxRecDepth 100000 in
theorem c_X7_seed (l : Launch) (D : va_G) (ad : Nat → Nat) (cl : Nat → ClassId) {a1 : Int32} (μ : Mem) (ρ : Int32 × Mem) (h : f_X7_seed a1 μ = some ρ) : CI l D ad cl yX7_seed wsX7_seed rmX7_seed [.ref 0, .int a1] μ ρ.1 ρ.2 := c_ofI (cc := cX7_seed) (nL := 3) rfl (by decide) (Nat.le_of_ble_eq_true rfl) (fun Γ C E => w_X7_seed C E μ h)
theorem gvX7_199 : jm_gv RX7 199 RX6 yX6_later wsX6_later 2 1 := ⟨_, _, gi_V gwt3_188 gwt3_189 gwt3_190 gwt1_7 gwt3_191, rfl, by decide +kernel⟩
/-! X7_behind -/
def wsX7_behind : List Cond := .code yX7_behind cX7_behind 5 (some .int) :: G0
def rmX7_behind : Room := { frames := 6, cells := 0, slots := 0, locals := 145 }
def f_X7_behind (a1 : Int32) (a2 : Int32) (a3 : Int32) (μ : Mem) : Option (Int32 × Mem) := Option.bind (f_X7_isRock a1 μ) fun p1_ => (if p1_.1 = 0 then some ((-1), p1_.2) else Option.bind (f_X7_within a2 (nI 0) (nI 60) p1_.2) fun p4_ => (if p4_.1 = 0 then some ((-1), p4_.2) else Option.bind (f_X7_within a3 (nI 0) (nI 1) p4_.2) fun p7_ => (if p7_.1 = 0 then some ((-1), p7_.2) else Option.bind (f_X6_later a2 p7_.2) fun p10_ => gd (decide (p10_.1 = 66)) <| (if a3 = 0 then gd (inb a1 9) <| some (p10_.2.1 68 (Int32.toNatClampNeg a1), p10_.2) else Option.bind (f_X2_believed 66 a1 p10_.2) fun p14_ => some (p14_.1, p14_.2)))))
set_option maxHeartbeats 4000000 in
set_option maxRecDepth 100000 in
theorem w_X7_behind {Γ : jG} (C : jC Γ 5 cX7_behind RX7 rmX7_behind) {a1 : Int32} {a2 : Int32} {a3 : Int32} {ρ : Int32 × Mem} (E : jEI Γ cX7_behind ρ.1 ρ.2) (μ : Mem) (h : f_X7_behind a1 a2 a3 μ = some ρ) : jJ Γ 5 0 [(0, .ref 0), (1, .int a1), (2, .int a2), (3, .int a3)] [] μ := by
  unfold f_X7_behind at h
  refine j_aload_n C dX7_behind_0 rfl 0 rfl ?_
  refine j_iload_n C dX7_behind_1 rfl 1 rfl ?_
  replace h := bd_e h
  obtain ⟨p1_, h2_, h⟩ := h
  refine j_cVI (av := [.int a1]) (rest := []) C dX7_behind_2 rfl (c_X7_isRock _ _ _ _ μ p1_ h2_) gvX7_72 ⟨⟨rfl, rfl⟩, Nat.le_of_ble_eq_true rfl, Nat.le_of_ble_eq_true rfl⟩ rfl is_0 rfl rfl (Nat.le_of_ble_eq_true rfl) ?_
  refine j_if_eq (tgt := 27) C dX7_behind_5 rfl (by decide) (fun c3_ => ?_) (fun c3_ => ?_)
  · replace h := if_t h c3_
    refine j_iconst (v := (-1)) C dX7_behind_27 rfl (by decide) ?_
    obtain rfl := Option.some.inj h
    exact j_iret E dX7_behind_28
  · replace h := if_f h c3_
    refine j_iload_n C dX7_behind_8 rfl 2 rfl ?_
    refine j_iconst (v := (nI 0)) C dX7_behind_9 rfl (by decide) ?_
    refine j_bipush (v := (nI 60)) C dX7_behind_10 rfl (by decide) ?_
    replace h := bd_e h
    obtain ⟨p4_, h5_, h⟩ := h
    refine j_cSI (av := [.int a2, .int (nI 0), .int (nI 60)]) (rest := []) C dX7_behind_12 rfl (c_X7_within _ _ _ _ p1_.2 p4_ h5_) gsX7_54 ⟨⟨rfl, rfl⟩, Nat.le_of_ble_eq_true rfl, Nat.le_of_ble_eq_true rfl⟩ rfl rfl (Nat.le_of_ble_eq_true rfl) ?_
    refine j_if_eq (tgt := 27) C dX7_behind_15 rfl (by decide) (fun c6_ => ?_) (fun c6_ => ?_)
    · replace h := if_t h c6_
      refine j_iconst (v := (-1)) C dX7_behind_27 rfl (by decide) ?_
      obtain rfl := Option.some.inj h
      exact j_iret E dX7_behind_28
    · replace h := if_f h c6_
      refine j_iload_n C dX7_behind_18 rfl 3 rfl ?_
      refine j_iconst (v := (nI 0)) C dX7_behind_19 rfl (by decide) ?_
      refine j_iconst (v := (nI 1)) C dX7_behind_20 rfl (by decide) ?_
      replace h := bd_e h
      obtain ⟨p7_, h8_, h⟩ := h
      refine j_cSI (av := [.int a3, .int (nI 0), .int (nI 1)]) (rest := []) C dX7_behind_21 rfl (c_X7_within _ _ _ _ p4_.2 p7_ h8_) gsX7_54 ⟨⟨rfl, rfl⟩, Nat.le_of_ble_eq_true rfl, Nat.le_of_ble_eq_true rfl⟩ rfl rfl (Nat.le_of_ble_eq_true rfl) ?_
      refine j_if_ne (tgt := 29) C dX7_behind_24 rfl (by decide) (fun c9_ => ?_) (fun c9_ => ?_)
      · replace h := if_f h c9_
        refine j_aload_n C dX7_behind_29 rfl 0 rfl ?_
        refine j_getR (c := 65) C dX7_behind_30 rfl lkX7_49 is_0 rfl ?_
        refine j_iload_n C dX7_behind_33 rfl 2 rfl ?_
        replace h := bd_e h
        obtain ⟨p10_, h11_, h⟩ := h
        refine j_cVR (av := [.int a2]) (rest := []) C dX7_behind_34 rfl (c_X6_later _ _ _ _ p7_.2 p10_ h11_) gvX7_199 ⟨⟨rfl, rfl⟩, Nat.le_of_ble_eq_true rfl, Nat.le_of_ble_eq_true rfl⟩ rfl is_65 rfl rfl (Nat.le_of_ble_eq_true rfl) ?_
        replace h := gd_e h
        obtain ⟨g12_, h⟩ := h
        rw [of_decide_eq_true g12_]
        refine j_astore (lv' := [(4, .ref 66), (0, .ref 0), (1, .int a1), (2, .int a2), (3, .int a3)]) C dX7_behind_37 rfl (by decide) rfl ?_
        refine j_iload_n C dX7_behind_39 rfl 4 rfl ?_
        refine j_if_ne (tgt := 53) C dX7_behind_40 rfl (by decide) (fun c13_ => ?_) (fun c13_ => ?_)
        · replace h := if_f h c13_
          refine j_aload C dX7_behind_53 rfl 0 rfl ?_
          refine j_iload_n C dX7_behind_55 rfl 2 rfl ?_
          replace h := bd_e h
          obtain ⟨p14_, h15_, h⟩ := h
          refine j_cVI (av := [.int a1]) (rest := []) C dX7_behind_56 rfl (c_X2_believed _ _ _ _ isN66 p10_.2 p14_ h15_) gvX7_101 ⟨⟨rfl, rfl⟩, Nat.le_of_ble_eq_true rfl, Nat.le_of_ble_eq_true rfl⟩ rfl (isN_0 isN66) rfl rfl (Nat.le_of_ble_eq_true rfl) ?_
          obtain rfl := Option.some.inj h
          exact j_iret E dX7_behind_59
        · replace h := if_t h c13_
          refine j_aload C dX7_behind_43 rfl 0 rfl ?_
          refine j_getR (c := 68) C dX7_behind_45 rfl lkX7_105 (isN_0 isN66) rfl ?_
          refine j_iload_n C dX7_behind_48 rfl 2 rfl ?_
          replace h := gd_e h
          obtain ⟨g16_, h⟩ := h
          refine j_iald C dX7_behind_49 rfl (isN_a2 isN66) g16_ ?_
          refine j_goto (pc' := 59) C dX7_behind_50 (by decide) ?_
          obtain rfl := Option.some.inj h
          exact j_iret E dX7_behind_59
      · replace h := if_t h c9_
        refine j_iconst (v := (-1)) C dX7_behind_27 rfl (by decide) ?_
        obtain rfl := Option.some.inj h
        exact j_iret E dX7_behind_28
set_option maxRecDepth 100000 in
theorem c_X7_behind (l : Launch) (D : va_G) (ad : Nat → Nat) (cl : Nat → ClassId) {a1 : Int32} {a2 : Int32} {a3 : Int32} (μ : Mem) (ρ : Int32 × Mem) (h : f_X7_behind a1 a2 a3 μ = some ρ) : CI l D ad cl yX7_behind wsX7_behind rmX7_behind [.ref 0, .int a1, .int a2, .int a3] μ ρ.1 ρ.2 := c_ofI (cc := cX7_behind) (nL := 5) rfl (by decide) (Nat.le_of_ble_eq_true rfl) (fun Γ C E => w_X7_behind C E μ h)
theorem gvX7_203 : jm_gv RX7 203 RX6 yX6_doneFromNow wsX6_doneFromNow 1 0 := ⟨_, _, gi_V gwt3_217 gwt3_218 gwt3_219 gwt1_7 gwt3_220, rfl, by decide +kernel⟩
theorem gvX7_206 : jm_gv RX7 206 RX6 yX6_unlikeWith wsX6_unlikeWith 2 1 := ⟨_, _, gi_V gwt3_235 gwt3_236 gwt3_237 gwt1_7 gwt3_238, rfl, by decide +kernel⟩
/-! X7_when -/
def wsX7_when : List Cond := .code yX7_when cX7_when 3 (some .int) :: G0
def rmX7_when : Room := { frames := 6, cells := 0, slots := 0, locals := 146 }
def f_X7_when_33 (a1 : Int32) (t0 : Int32) (μ : Mem) : Option (Int32 × Mem) := (if t0 = (nI 61) then some ((-4), μ) else some (t0, μ))
set_option maxHeartbeats 4000000 in
set_option maxRecDepth 100000 in
theorem w_X7_when_33 {Γ : jG} (C : jC Γ 3 cX7_when RX7 rmX7_when) {a1 : Int32} {ρ : Int32 × Mem} (E : jEI Γ cX7_when ρ.1 ρ.2) (t0 : Int32) (μ : Mem) (h : f_X7_when_33 a1 t0 μ = some ρ) : jJ Γ 3 33 [] [.int t0] μ := by
  unfold f_X7_when_33 at h
  refine j_istore_n (lv' := [(2, .int t0)]) C dX7_when_33 rfl (by decide) rfl ?_
  refine j_iload_n C dX7_when_34 rfl 0 rfl ?_
  refine j_bipush (v := (nI 61)) C dX7_when_35 rfl (by decide) ?_
  refine j_icmp_ne (tgt := 45) C dX7_when_37 rfl (by decide) (fun c1_ => ?_) (fun c1_ => ?_)
  · replace h := if_f h c1_
    refine j_iload_n C dX7_when_45 rfl 0 rfl ?_
    obtain rfl := Option.some.inj h
    exact j_iret E dX7_when_46
  · replace h := if_t h c1_
    refine j_bipush (v := (-4)) C dX7_when_40 rfl (by decide) ?_
    refine j_goto (pc' := 46) C dX7_when_42 (by decide) ?_
    obtain rfl := Option.some.inj h
    exact j_iret E dX7_when_46
def f_X7_when (a1 : Int32) (μ : Mem) : Option (Int32 × Mem) := Option.bind (f_X7_within a1 (nI 0) (nI 1) μ) fun p1_ => (if p1_.1 = 0 then some ((-1), p1_.2) else (if a1 = 0 then Option.bind (f_X6_doneFromNow p1_.2) fun p7_ => f_X7_when_33 a1 p7_.1 p7_.2 else Option.bind (f_X6_unlikeWith (nI 0) p1_.2) fun p5_ => f_X7_when_33 a1 p5_.1 p5_.2))
set_option maxHeartbeats 4000000 in
set_option maxRecDepth 100000 in
theorem w_X7_when {Γ : jG} (C : jC Γ 3 cX7_when RX7 rmX7_when) {a1 : Int32} {ρ : Int32 × Mem} (E : jEI Γ cX7_when ρ.1 ρ.2) (μ : Mem) (h : f_X7_when a1 μ = some ρ) : jJ Γ 3 0 [(0, .ref 0), (1, .int a1)] [] μ := by
  unfold f_X7_when at h
  refine j_iload_n C dX7_when_0 rfl 1 rfl ?_
  refine j_iconst (v := (nI 0)) C dX7_when_1 rfl (by decide) ?_
  refine j_iconst (v := (nI 1)) C dX7_when_2 rfl (by decide) ?_
  replace h := bd_e h
  obtain ⟨p1_, h2_, h⟩ := h
  refine j_cSI (av := [.int a1, .int (nI 0), .int (nI 1)]) (rest := []) C dX7_when_3 rfl (c_X7_within _ _ _ _ μ p1_ h2_) gsX7_54 ⟨⟨rfl, rfl⟩, Nat.le_of_ble_eq_true rfl, Nat.le_of_ble_eq_true rfl⟩ rfl rfl (Nat.le_of_ble_eq_true rfl) ?_
  refine j_if_ne (tgt := 11) C dX7_when_6 rfl (by decide) (fun c3_ => ?_) (fun c3_ => ?_)
  · replace h := if_f h c3_
    refine j_iload_n C dX7_when_11 rfl 1 rfl ?_
    refine j_if_ne (tgt := 25) C dX7_when_12 rfl (by decide) (fun c4_ => ?_) (fun c4_ => ?_)
    · replace h := if_f h c4_
      refine j_aload_n C dX7_when_25 rfl 0 rfl ?_
      refine j_getR (c := 65) C dX7_when_26 rfl lkX7_49 is_0 rfl ?_
      refine j_iconst (v := (nI 0)) C dX7_when_29 rfl (by decide) ?_
      replace h := bd_e h
      obtain ⟨p5_, h6_, h⟩ := h
      refine j_cVI (av := [.int (nI 0)]) (rest := []) C dX7_when_30 rfl (c_X6_unlikeWith _ _ _ _ p1_.2 p5_ h6_) gvX7_206 ⟨⟨rfl, rfl⟩, Nat.le_of_ble_eq_true rfl, Nat.le_of_ble_eq_true rfl⟩ rfl is_65 rfl rfl (Nat.le_of_ble_eq_true rfl) ?_
      refine j_lv [] rfl ?_
      exact w_X7_when_33 C E p5_.1 p5_.2 h
    · replace h := if_t h c4_
      refine j_aload_n C dX7_when_15 rfl 0 rfl ?_
      refine j_getR (c := 65) C dX7_when_16 rfl lkX7_49 is_0 rfl ?_
      replace h := bd_e h
      obtain ⟨p7_, h8_, h⟩ := h
      refine j_cVI (av := []) (rest := []) C dX7_when_19 rfl (c_X6_doneFromNow _ _ _ _ p1_.2 p7_ h8_) gvX7_203 ⟨⟨rfl, rfl⟩, Nat.le_of_ble_eq_true rfl, Nat.le_of_ble_eq_true rfl⟩ rfl is_65 rfl rfl (Nat.le_of_ble_eq_true rfl) ?_
      refine j_goto (pc' := 33) C dX7_when_22 (by decide) ?_
      refine j_lv [] rfl ?_
      exact w_X7_when_33 C E p7_.1 p7_.2 h
  · replace h := if_t h c3_
    refine j_iconst (v := (-1)) C dX7_when_9 rfl (by decide) ?_
    obtain rfl := Option.some.inj h
    exact j_iret E dX7_when_10
set_option maxRecDepth 100000 in
theorem c_X7_when (l : Launch) (D : va_G) (ad : Nat → Nat) (cl : Nat → ClassId) {a1 : Int32} (μ : Mem) (ρ : Int32 × Mem) (h : f_X7_when a1 μ = some ρ) : CI l D ad cl yX7_when wsX7_when rmX7_when [.ref 0, .int a1] μ ρ.1 ρ.2 := c_ofI (cc := cX7_when) (nL := 3) rfl (by decide) (Nat.le_of_ble_eq_true rfl) (fun Γ C E => w_X7_when C E μ h)
theorem gvX7_209 : jm_gv RX7 209 RX6 yX6_findDarkest wsX6_findDarkest 2 0 := ⟨_, _, gi_V gwt4_3 gwt4_4 gwt4_5 gwt1_7 gwt4_6, rfl, by decide +kernel⟩
/-! X7_darkest -/
def wsX7_darkest : List Cond := .code yX7_darkest cX7_darkest 2 (some .int) :: G0
def rmX7_darkest : Room := { frames := 6, cells := 0, slots := 0, locals := 146 }
def f_X7_darkest (a1 : Int32) (μ : Mem) : Option (Int32 × Mem) := Option.bind (f_X7_within a1 (nI 0) (nI 1) μ) fun p1_ => (if p1_.1 = 0 then some ((-1), p1_.2) else (if (p1_.2.1 2 0) = 0 then some ((-4), p1_.2) else Option.bind (f_X6_findDarkest p1_.2) fun p5_ => (if a1 = 0 then some (p5_.1 65 6, p5_) else some (p5_.1 65 7, p5_))))
set_option maxHeartbeats 4000000 in
set_option maxRecDepth 100000 in
theorem w_X7_darkest {Γ : jG} (C : jC Γ 2 cX7_darkest RX7 rmX7_darkest) {a1 : Int32} {ρ : Int32 × Mem} (E : jEI Γ cX7_darkest ρ.1 ρ.2) (μ : Mem) (h : f_X7_darkest a1 μ = some ρ) : jJ Γ 2 0 [(0, .ref 0), (1, .int a1)] [] μ := by
  unfold f_X7_darkest at h
  refine j_iload_n C dX7_darkest_0 rfl 1 rfl ?_
  refine j_iconst (v := (nI 0)) C dX7_darkest_1 rfl (by decide) ?_
  refine j_iconst (v := (nI 1)) C dX7_darkest_2 rfl (by decide) ?_
  replace h := bd_e h
  obtain ⟨p1_, h2_, h⟩ := h
  refine j_cSI (av := [.int a1, .int (nI 0), .int (nI 1)]) (rest := []) C dX7_darkest_3 rfl (c_X7_within _ _ _ _ μ p1_ h2_) gsX7_54 ⟨⟨rfl, rfl⟩, Nat.le_of_ble_eq_true rfl, Nat.le_of_ble_eq_true rfl⟩ rfl rfl (Nat.le_of_ble_eq_true rfl) ?_
  refine j_if_ne (tgt := 11) C dX7_darkest_6 rfl (by decide) (fun c3_ => ?_) (fun c3_ => ?_)
  · replace h := if_f h c3_
    refine j_aload_n C dX7_darkest_11 rfl 0 rfl ?_
    refine j_getR (c := 1) C dX7_darkest_12 rfl lkX7_10 is_0 rfl ?_
    refine j_getR (c := 2) C dX7_darkest_15 rfl lkX7_38 (isT_0 isT1) rfl ?_
    refine j_getI C dX7_darkest_18 rfl lkX7_58 (isN_0 (isT_n isT1)) rfl ?_
    refine j_if_ne (tgt := 27) C dX7_darkest_21 rfl (by decide) (fun c4_ => ?_) (fun c4_ => ?_)
    · replace h := if_f h c4_
      refine j_aload_n C dX7_darkest_27 rfl 0 rfl ?_
      refine j_getR (c := 65) C dX7_darkest_28 rfl lkX7_49 is_0 rfl ?_
      replace h := bd_e h
      obtain ⟨p5_, h6_, h⟩ := h
      refine j_cVV (av := []) (rest := []) C dX7_darkest_31 rfl (c_X6_findDarkest _ _ _ _ p1_.2 p5_ h6_) gvX7_209 ⟨⟨rfl, rfl⟩, Nat.le_of_ble_eq_true rfl, Nat.le_of_ble_eq_true rfl⟩ rfl is_65 rfl rfl (Nat.le_of_ble_eq_true rfl) ?_
      refine j_iload_n C dX7_darkest_34 rfl 1 rfl ?_
      refine j_if_ne (tgt := 48) C dX7_darkest_35 rfl (by decide) (fun c7_ => ?_) (fun c7_ => ?_)
      · replace h := if_f h c7_
        refine j_aload_n C dX7_darkest_48 rfl 0 rfl ?_
        refine j_getR (c := 65) C dX7_darkest_49 rfl lkX7_49 is_0 rfl ?_
        refine j_getI C dX7_darkest_52 rfl lkX7_215 is_65 rfl ?_
        obtain rfl := Option.some.inj h
        exact j_iret E dX7_darkest_55
      · replace h := if_t h c7_
        refine j_aload_n C dX7_darkest_38 rfl 0 rfl ?_
        refine j_getR (c := 65) C dX7_darkest_39 rfl lkX7_49 is_0 rfl ?_
        refine j_getI C dX7_darkest_42 rfl lkX7_212 is_65 rfl ?_
        refine j_goto (pc' := 55) C dX7_darkest_45 (by decide) ?_
        obtain rfl := Option.some.inj h
        exact j_iret E dX7_darkest_55
    · replace h := if_t h c4_
      refine j_bipush (v := (-4)) C dX7_darkest_24 rfl (by decide) ?_
      obtain rfl := Option.some.inj h
      exact j_iret E dX7_darkest_26
  · replace h := if_t h c3_
    refine j_iconst (v := (-1)) C dX7_darkest_9 rfl (by decide) ?_
    obtain rfl := Option.some.inj h
    exact j_iret E dX7_darkest_10
set_option maxRecDepth 100000 in
theorem c_X7_darkest (l : Launch) (D : va_G) (ad : Nat → Nat) (cl : Nat → ClassId) {a1 : Int32} (μ : Mem) (ρ : Int32 × Mem) (h : f_X7_darkest a1 μ = some ρ) : CI l D ad cl yX7_darkest wsX7_darkest rmX7_darkest [.ref 0, .int a1] μ ρ.1 ρ.2 := c_ofI (cc := cX7_darkest) (nL := 2) rfl (by decide) (Nat.le_of_ble_eq_true rfl) (fun Γ C E => w_X7_darkest C E μ h)
/-! X7_isSet -/
def wsX7_isSet : List Cond := .code yX7_isSet cX7_isSet 2 (some .boolean) :: G0
def rmX7_isSet : Room := { frames := 1, cells := 0, slots := 0, locals := 22 }
def f_X7_isSet (a1 : Int32) (μ : Mem) : Option (Int32 × Mem) := Option.bind (f_X7_within a1 (nI 0) (((nI 1) <<< ((μ.1 2 0) &&& 31)) - (nI 1)) μ) fun p1_ => gd (isB p1_.1) <| some (p1_.1, p1_.2)
set_option maxHeartbeats 4000000 in
set_option maxRecDepth 100000 in
theorem w_X7_isSet {Γ : jG} (C : jC Γ 2 cX7_isSet RX7 rmX7_isSet) {a1 : Int32} {ρ : Int32 × Mem} (E : (isB ρ.1 = true → jEI Γ cX7_isSet ρ.1 ρ.2)) (μ : Mem) (h : f_X7_isSet a1 μ = some ρ) : jJ Γ 2 0 [(0, .ref 0), (1, .int a1)] [] μ := by
  unfold f_X7_isSet at h
  refine j_iload_n C dX7_isSet_0 rfl 1 rfl ?_
  refine j_iconst (v := (nI 0)) C dX7_isSet_1 rfl (by decide) ?_
  refine j_iconst (v := (nI 1)) C dX7_isSet_2 rfl (by decide) ?_
  refine j_aload_n C dX7_isSet_3 rfl 0 rfl ?_
  refine j_getR (c := 1) C dX7_isSet_4 rfl lkX7_10 is_0 rfl ?_
  refine j_getR (c := 2) C dX7_isSet_7 rfl lkX7_38 (isT_0 isT1) rfl ?_
  refine j_getI C dX7_isSet_10 rfl lkX7_58 (isN_0 (isT_n isT1)) rfl ?_
  refine j_ishl C dX7_isSet_13 rfl ?_
  refine j_iconst (v := (nI 1)) C dX7_isSet_14 rfl (by decide) ?_
  refine j_isub C dX7_isSet_15 rfl ?_
  replace h := bd_e h
  obtain ⟨p1_, h2_, h⟩ := h
  refine j_cSI (av := [.int a1, .int (nI 0), .int (((nI 1) <<< ((μ.1 2 0) &&& 31)) - (nI 1))]) (rest := []) C dX7_isSet_16 rfl (c_X7_within _ _ _ _ μ p1_ h2_) gsX7_54 ⟨⟨rfl, rfl⟩, Nat.le_of_ble_eq_true rfl, Nat.le_of_ble_eq_true rfl⟩ rfl rfl (Nat.le_of_ble_eq_true rfl) ?_
  replace h := gd_e h
  obtain ⟨g3_, h⟩ := h
  obtain rfl := Option.some.inj h
  exact j_iret (E g3_) dX7_isSet_19
set_option maxRecDepth 100000 in
theorem c_X7_isSet (l : Launch) (D : va_G) (ad : Nat → Nat) (cl : Nat → ClassId) {a1 : Int32} (μ : Mem) (ρ : Int32 × Mem) (h : f_X7_isSet a1 μ = some ρ) : CI l D ad cl yX7_isSet wsX7_isSet rmX7_isSet [.ref 0, .int a1] μ ρ.1 ρ.2 := c_ofZ (cc := cX7_isSet) (nL := 2) rfl (by decide) (Nat.le_of_ble_eq_true rfl) (fun Γ C E => w_X7_isSet C E μ h)
theorem gvX7_218 : jm_gv RX7 218 RX7 yX7_isSet wsX7_isSet 2 1 := ⟨_, _, gi_V gwt4_15 gwt4_17 gwp2_10 gwt1_1 gwt4_18, rfl, by decide +kernel⟩
/-! X7_holds -/
def wsX7_holds : List Cond := .code yX7_holds cX7_holds 2 (some .int) :: G0
def rmX7_holds : Room := { frames := 6, cells := 0, slots := 0, locals := 146 }
def f_X7_holds_28 (a1 : Int32) (t0 : Int32) (μ : Mem) : Option (Int32 × Mem) := Option.bind (f_X7_asNumber t0 μ) fun p1_ => some (p1_.1, p1_.2)
set_option maxHeartbeats 4000000 in
set_option maxRecDepth 100000 in
theorem w_X7_holds_28 {Γ : jG} (C : jC Γ 2 cX7_holds RX7 rmX7_holds) {a1 : Int32} {ρ : Int32 × Mem} (E : jEI Γ cX7_holds ρ.1 ρ.2) (t0 : Int32) (μ : Mem) (h : f_X7_holds_28 a1 t0 μ = some ρ) : jJ Γ 2 28 [] [.int t0] μ := by
  unfold f_X7_holds_28 at h
  replace h := bd_e h
  obtain ⟨p1_, h2_, h⟩ := h
  refine j_cSI (av := [.int t0]) (rest := []) C dX7_holds_28 rfl (c_X7_asNumber _ _ _ _ μ p1_ h2_) gsX7_89 ⟨⟨rfl, rfl⟩, Nat.le_of_ble_eq_true rfl, Nat.le_of_ble_eq_true rfl⟩ rfl rfl (Nat.le_of_ble_eq_true rfl) ?_
  obtain rfl := Option.some.inj h
  exact j_iret E dX7_holds_31
def f_X7_holds (a1 : Int32) (μ : Mem) : Option (Int32 × Mem) := Option.bind (f_X7_isSet a1 μ) fun p1_ => (if p1_.1 = 0 then some ((-1), p1_.2) else Option.bind (f_X6_unlikeWith a1 p1_.2) fun p4_ => (if p4_.1 = (nI 61) then f_X7_holds_28 a1 (nI 1) p4_.2 else f_X7_holds_28 a1 (nI 0) p4_.2))
set_option maxHeartbeats 4000000 in
set_option maxRecDepth 100000 in
theorem w_X7_holds {Γ : jG} (C : jC Γ 2 cX7_holds RX7 rmX7_holds) {a1 : Int32} {ρ : Int32 × Mem} (E : jEI Γ cX7_holds ρ.1 ρ.2) (μ : Mem) (h : f_X7_holds a1 μ = some ρ) : jJ Γ 2 0 [(0, .ref 0), (1, .int a1)] [] μ := by
  unfold f_X7_holds at h
  refine j_aload_n C dX7_holds_0 rfl 0 rfl ?_
  refine j_iload_n C dX7_holds_1 rfl 1 rfl ?_
  replace h := bd_e h
  obtain ⟨p1_, h2_, h⟩ := h
  refine j_cVI (av := [.int a1]) (rest := []) C dX7_holds_2 rfl (c_X7_isSet _ _ _ _ μ p1_ h2_) gvX7_218 ⟨⟨rfl, rfl⟩, Nat.le_of_ble_eq_true rfl, Nat.le_of_ble_eq_true rfl⟩ rfl is_0 rfl rfl (Nat.le_of_ble_eq_true rfl) ?_
  refine j_if_ne (tgt := 10) C dX7_holds_5 rfl (by decide) (fun c3_ => ?_) (fun c3_ => ?_)
  · replace h := if_f h c3_
    refine j_aload_n C dX7_holds_10 rfl 0 rfl ?_
    refine j_getR (c := 65) C dX7_holds_11 rfl lkX7_49 is_0 rfl ?_
    refine j_iload_n C dX7_holds_14 rfl 1 rfl ?_
    replace h := bd_e h
    obtain ⟨p4_, h5_, h⟩ := h
    refine j_cVI (av := [.int a1]) (rest := []) C dX7_holds_15 rfl (c_X6_unlikeWith _ _ _ _ p1_.2 p4_ h5_) gvX7_206 ⟨⟨rfl, rfl⟩, Nat.le_of_ble_eq_true rfl, Nat.le_of_ble_eq_true rfl⟩ rfl is_65 rfl rfl (Nat.le_of_ble_eq_true rfl) ?_
    refine j_bipush (v := (nI 61)) C dX7_holds_18 rfl (by decide) ?_
    refine j_icmp_ne (tgt := 27) C dX7_holds_20 rfl (by decide) (fun c6_ => ?_) (fun c6_ => ?_)
    · replace h := if_f h c6_
      refine j_iconst (v := (nI 0)) C dX7_holds_27 rfl (by decide) ?_
      refine j_lv [] rfl ?_
      exact w_X7_holds_28 C E (nI 0) p4_.2 h
    · replace h := if_t h c6_
      refine j_iconst (v := (nI 1)) C dX7_holds_23 rfl (by decide) ?_
      refine j_goto (pc' := 28) C dX7_holds_24 (by decide) ?_
      refine j_lv [] rfl ?_
      exact w_X7_holds_28 C E (nI 1) p4_.2 h
  · replace h := if_t h c3_
    refine j_iconst (v := (-1)) C dX7_holds_8 rfl (by decide) ?_
    obtain rfl := Option.some.inj h
    exact j_iret E dX7_holds_9
set_option maxRecDepth 100000 in
theorem c_X7_holds (l : Launch) (D : va_G) (ad : Nat → Nat) (cl : Nat → ClassId) {a1 : Int32} (μ : Mem) (ρ : Int32 × Mem) (h : f_X7_holds a1 μ = some ρ) : CI l D ad cl yX7_holds wsX7_holds rmX7_holds [.ref 0, .int a1] μ ρ.1 ρ.2 := c_ofI (cc := cX7_holds) (nL := 2) rfl (by decide) (Nat.le_of_ble_eq_true rfl) (fun Γ C E => w_X7_holds C E μ h)
theorem gvX7_221 : jm_gv RX7 221 RX6 yX6_mostBorne wsX6_mostBorne 1 0 := ⟨_, _, gi_V gwt4_23 gwt4_24 gwt4_25 gwt1_7 gwt4_26, rfl, by decide +kernel⟩
/-! X7_bears -/
def wsX7_bears : List Cond := .code yX7_bears cX7_bears 2 (some .int) :: G0
def rmX7_bears : Room := { frames := 7, cells := 0, slots := 0, locals := 169 }
def f_X7_bears (μ : Mem) : Option (Int32 × Mem) := Option.bind (f_X6_mostBorne μ) fun p1_ => (if 0 ≤ p1_.1 then some (p1_.1, p1_.2) else some ((-4), p1_.2))
set_option maxHeartbeats 4000000 in
set_option maxRecDepth 100000 in
theorem w_X7_bears {Γ : jG} (C : jC Γ 2 cX7_bears RX7 rmX7_bears) {ρ : Int32 × Mem} (E : jEI Γ cX7_bears ρ.1 ρ.2) (μ : Mem) (h : f_X7_bears μ = some ρ) : jJ Γ 2 0 [(0, .ref 0)] [] μ := by
  unfold f_X7_bears at h
  refine j_aload_n C dX7_bears_0 rfl 0 rfl ?_
  refine j_getR (c := 65) C dX7_bears_1 rfl lkX7_49 is_0 rfl ?_
  replace h := bd_e h
  obtain ⟨p1_, h2_, h⟩ := h
  refine j_cVI (av := []) (rest := []) C dX7_bears_4 rfl (c_X6_mostBorne _ _ _ _ μ p1_ h2_) gvX7_221 ⟨⟨rfl, rfl⟩, Nat.le_of_ble_eq_true rfl, Nat.le_of_ble_eq_true rfl⟩ rfl is_65 rfl rfl (Nat.le_of_ble_eq_true rfl) ?_
  refine j_istore_n (lv' := [(1, .int p1_.1), (0, .ref 0)]) C dX7_bears_7 rfl (by decide) rfl ?_
  refine j_iload_n C dX7_bears_8 rfl 0 rfl ?_
  refine j_if_ge (tgt := 17) C dX7_bears_9 rfl (by decide) (fun c3_ => ?_) (fun c3_ => ?_)
  · replace h := if_t h c3_
    refine j_iload_n C dX7_bears_17 rfl 0 rfl ?_
    obtain rfl := Option.some.inj h
    exact j_iret E dX7_bears_18
  · replace h := if_f h c3_
    refine j_bipush (v := (-4)) C dX7_bears_12 rfl (by decide) ?_
    refine j_goto (pc' := 18) C dX7_bears_14 (by decide) ?_
    obtain rfl := Option.some.inj h
    exact j_iret E dX7_bears_18
set_option maxRecDepth 100000 in
theorem c_X7_bears (l : Launch) (D : va_G) (ad : Nat → Nat) (cl : Nat → ClassId) (μ : Mem) (ρ : Int32 × Mem) (h : f_X7_bears μ = some ρ) : CI l D ad cl yX7_bears wsX7_bears rmX7_bears [.ref 0] μ ρ.1 ρ.2 := c_ofI (cc := cX7_bears) (nL := 2) rfl (by decide) (Nat.le_of_ble_eq_true rfl) (fun Γ C E => w_X7_bears C E μ h)
theorem gvX7_224 : jm_gv RX7 224 RX6 yX6_findWorst wsX6_findWorst 3 0 := ⟨_, _, gi_V gwt4_36 gwt4_37 gwt4_38 gwt1_7 gwt4_39, rfl, by decide +kernel⟩
/-! X7_worst -/
def wsX7_worst : List Cond := .code yX7_worst cX7_worst 2 (some .int) :: G0
def rmX7_worst : Room := { frames := 6, cells := 0, slots := 0, locals := 147 }
def f_X7_worst (a1 : Int32) (μ : Mem) : Option (Int32 × Mem) := Option.bind (f_X7_within a1 (nI 0) (nI 1) μ) fun p1_ => (if p1_.1 = 0 then some ((-1), p1_.2) else (if (nI 2) ≤ (p1_.2.1 2 0) then Option.bind (f_X6_findWorst p1_.2) fun p5_ => (if a1 = 0 then some (p5_.1 65 6, p5_) else some (p5_.1 65 7, p5_)) else some ((-4), p1_.2)))
set_option maxHeartbeats 4000000 in
set_option maxRecDepth 100000 in
theorem w_X7_worst {Γ : jG} (C : jC Γ 2 cX7_worst RX7 rmX7_worst) {a1 : Int32} {ρ : Int32 × Mem} (E : jEI Γ cX7_worst ρ.1 ρ.2) (μ : Mem) (h : f_X7_worst a1 μ = some ρ) : jJ Γ 2 0 [(0, .ref 0), (1, .int a1)] [] μ := by
  unfold f_X7_worst at h
  refine j_iload_n C dX7_worst_0 rfl 1 rfl ?_
  refine j_iconst (v := (nI 0)) C dX7_worst_1 rfl (by decide) ?_
  refine j_iconst (v := (nI 1)) C dX7_worst_2 rfl (by decide) ?_
  replace h := bd_e h
  obtain ⟨p1_, h2_, h⟩ := h
  refine j_cSI (av := [.int a1, .int (nI 0), .int (nI 1)]) (rest := []) C dX7_worst_3 rfl (c_X7_within _ _ _ _ μ p1_ h2_) gsX7_54 ⟨⟨rfl, rfl⟩, Nat.le_of_ble_eq_true rfl, Nat.le_of_ble_eq_true rfl⟩ rfl rfl (Nat.le_of_ble_eq_true rfl) ?_
  refine j_if_ne (tgt := 11) C dX7_worst_6 rfl (by decide) (fun c3_ => ?_) (fun c3_ => ?_)
  · replace h := if_f h c3_
    refine j_aload_n C dX7_worst_11 rfl 0 rfl ?_
    refine j_getR (c := 1) C dX7_worst_12 rfl lkX7_10 is_0 rfl ?_
    refine j_getR (c := 2) C dX7_worst_15 rfl lkX7_38 (isT_0 isT1) rfl ?_
    refine j_getI C dX7_worst_18 rfl lkX7_58 (isN_0 (isT_n isT1)) rfl ?_
    refine j_iconst (v := (nI 2)) C dX7_worst_21 rfl (by decide) ?_
    refine j_icmp_ge (tgt := 28) C dX7_worst_22 rfl (by decide) (fun c4_ => ?_) (fun c4_ => ?_)
    · replace h := if_t h c4_
      refine j_aload_n C dX7_worst_28 rfl 0 rfl ?_
      refine j_getR (c := 65) C dX7_worst_29 rfl lkX7_49 is_0 rfl ?_
      replace h := bd_e h
      obtain ⟨p5_, h6_, h⟩ := h
      refine j_cVV (av := []) (rest := []) C dX7_worst_32 rfl (c_X6_findWorst _ _ _ _ p1_.2 p5_ h6_) gvX7_224 ⟨⟨rfl, rfl⟩, Nat.le_of_ble_eq_true rfl, Nat.le_of_ble_eq_true rfl⟩ rfl is_65 rfl rfl (Nat.le_of_ble_eq_true rfl) ?_
      refine j_iload_n C dX7_worst_35 rfl 1 rfl ?_
      refine j_if_ne (tgt := 49) C dX7_worst_36 rfl (by decide) (fun c7_ => ?_) (fun c7_ => ?_)
      · replace h := if_f h c7_
        refine j_aload_n C dX7_worst_49 rfl 0 rfl ?_
        refine j_getR (c := 65) C dX7_worst_50 rfl lkX7_49 is_0 rfl ?_
        refine j_getI C dX7_worst_53 rfl lkX7_215 is_65 rfl ?_
        obtain rfl := Option.some.inj h
        exact j_iret E dX7_worst_56
      · replace h := if_t h c7_
        refine j_aload_n C dX7_worst_39 rfl 0 rfl ?_
        refine j_getR (c := 65) C dX7_worst_40 rfl lkX7_49 is_0 rfl ?_
        refine j_getI C dX7_worst_43 rfl lkX7_212 is_65 rfl ?_
        refine j_goto (pc' := 56) C dX7_worst_46 (by decide) ?_
        obtain rfl := Option.some.inj h
        exact j_iret E dX7_worst_56
    · replace h := if_f h c4_
      refine j_bipush (v := (-4)) C dX7_worst_25 rfl (by decide) ?_
      obtain rfl := Option.some.inj h
      exact j_iret E dX7_worst_27
  · replace h := if_t h c3_
    refine j_iconst (v := (-1)) C dX7_worst_9 rfl (by decide) ?_
    obtain rfl := Option.some.inj h
    exact j_iret E dX7_worst_10
set_option maxRecDepth 100000 in
theorem c_X7_worst (l : Launch) (D : va_G) (ad : Nat → Nat) (cl : Nat → ClassId) {a1 : Int32} (μ : Mem) (ρ : Int32 × Mem) (h : f_X7_worst a1 μ = some ρ) : CI l D ad cl yX7_worst wsX7_worst rmX7_worst [.ref 0, .int a1] μ ρ.1 ρ.2 := c_ofI (cc := cX7_worst) (nL := 2) rfl (by decide) (Nat.le_of_ble_eq_true rfl) (fun Γ C E => w_X7_worst C E μ h)
theorem gvX7_227 : jm_gv RX7 227 RX6 yX6_leastNumber wsX6_leastNumber 4 2 := ⟨_, _, gi_V gwt4_44 gwt4_45 gwt4_46 gwt1_7 gwt4_47, rfl, by decide +kernel⟩
/-! X7_least -/
def wsX7_least : List Cond := .code yX7_least cX7_least 3 (some .int) :: G0
def rmX7_least : Room := { frames := 7, cells := 0, slots := 0, locals := 172 }
def f_X7_least (a1 : Int32) (a2 : Int32) (μ : Mem) : Option (Int32 × Mem) := Option.bind (f_X7_within a1 (nI 0) (nI 2) μ) fun p1_ => (if p1_.1 = 0 then some ((-1), p1_.2) else Option.bind (f_X7_within a2 (nI 0) (nI 60) p1_.2) fun p4_ => (if p4_.1 = 0 then some ((-1), p4_.2) else Option.bind (f_X6_leastNumber a1 a2 p4_.2) fun p7_ => some (p7_.1, p7_.2)))
set_option maxHeartbeats 4000000 in
set_option maxRecDepth 100000 in
theorem w_X7_least {Γ : jG} (C : jC Γ 3 cX7_least RX7 rmX7_least) {a1 : Int32} {a2 : Int32} {ρ : Int32 × Mem} (E : jEI Γ cX7_least ρ.1 ρ.2) (μ : Mem) (h : f_X7_least a1 a2 μ = some ρ) : jJ Γ 3 0 [(0, .ref 0), (1, .int a1), (2, .int a2)] [] μ := by
  unfold f_X7_least at h
  refine j_iload_n C dX7_least_0 rfl 1 rfl ?_
  refine j_iconst (v := (nI 0)) C dX7_least_1 rfl (by decide) ?_
  refine j_iconst (v := (nI 2)) C dX7_least_2 rfl (by decide) ?_
  replace h := bd_e h
  obtain ⟨p1_, h2_, h⟩ := h
  refine j_cSI (av := [.int a1, .int (nI 0), .int (nI 2)]) (rest := []) C dX7_least_3 rfl (c_X7_within _ _ _ _ μ p1_ h2_) gsX7_54 ⟨⟨rfl, rfl⟩, Nat.le_of_ble_eq_true rfl, Nat.le_of_ble_eq_true rfl⟩ rfl rfl (Nat.le_of_ble_eq_true rfl) ?_
  refine j_if_eq (tgt := 19) C dX7_least_6 rfl (by decide) (fun c3_ => ?_) (fun c3_ => ?_)
  · replace h := if_t h c3_
    refine j_iconst (v := (-1)) C dX7_least_19 rfl (by decide) ?_
    obtain rfl := Option.some.inj h
    exact j_iret E dX7_least_20
  · replace h := if_f h c3_
    refine j_iload_n C dX7_least_9 rfl 2 rfl ?_
    refine j_iconst (v := (nI 0)) C dX7_least_10 rfl (by decide) ?_
    refine j_bipush (v := (nI 60)) C dX7_least_11 rfl (by decide) ?_
    replace h := bd_e h
    obtain ⟨p4_, h5_, h⟩ := h
    refine j_cSI (av := [.int a2, .int (nI 0), .int (nI 60)]) (rest := []) C dX7_least_13 rfl (c_X7_within _ _ _ _ p1_.2 p4_ h5_) gsX7_54 ⟨⟨rfl, rfl⟩, Nat.le_of_ble_eq_true rfl, Nat.le_of_ble_eq_true rfl⟩ rfl rfl (Nat.le_of_ble_eq_true rfl) ?_
    refine j_if_ne (tgt := 21) C dX7_least_16 rfl (by decide) (fun c6_ => ?_) (fun c6_ => ?_)
    · replace h := if_f h c6_
      refine j_aload_n C dX7_least_21 rfl 0 rfl ?_
      refine j_getR (c := 65) C dX7_least_22 rfl lkX7_49 is_0 rfl ?_
      refine j_iload_n C dX7_least_25 rfl 1 rfl ?_
      refine j_iload_n C dX7_least_26 rfl 2 rfl ?_
      replace h := bd_e h
      obtain ⟨p7_, h8_, h⟩ := h
      refine j_cVI (av := [.int a1, .int a2]) (rest := []) C dX7_least_27 rfl (c_X6_leastNumber _ _ _ _ p4_.2 p7_ h8_) gvX7_227 ⟨⟨rfl, rfl⟩, Nat.le_of_ble_eq_true rfl, Nat.le_of_ble_eq_true rfl⟩ rfl is_65 rfl rfl (Nat.le_of_ble_eq_true rfl) ?_
      obtain rfl := Option.some.inj h
      exact j_iret E dX7_least_30
    · replace h := if_t h c6_
      refine j_iconst (v := (-1)) C dX7_least_19 rfl (by decide) ?_
      obtain rfl := Option.some.inj h
      exact j_iret E dX7_least_20
set_option maxRecDepth 100000 in
theorem c_X7_least (l : Launch) (D : va_G) (ad : Nat → Nat) (cl : Nat → ClassId) {a1 : Int32} {a2 : Int32} (μ : Mem) (ρ : Int32 × Mem) (h : f_X7_least a1 a2 μ = some ρ) : CI l D ad cl yX7_least wsX7_least rmX7_least [.ref 0, .int a1, .int a2] μ ρ.1 ρ.2 := c_ofI (cc := cX7_least) (nL := 3) rfl (by decide) (Nat.le_of_ble_eq_true rfl) (fun Γ C E => w_X7_least C E μ h)
theorem gvX7_230 : jm_gv RX7 230 RX6 yX6_spareRules wsX6_spareRules 4 0 := ⟨_, _, gi_V gwt4_58 gwt4_59 gwt4_60 gwt1_7 gwt4_61, rfl, by decide +kernel⟩
/-! X7_spare -/
def wsX7_spare : List Cond := .code yX7_spare cX7_spare 1 (some .int) :: G0
def rmX7_spare : Room := { frames := 6, cells := 0, slots := 0, locals := 147 }
def f_X7_spare (μ : Mem) : Option (Int32 × Mem) := Option.bind (f_X6_spareRules μ) fun p1_ => some (p1_.1, p1_.2)
set_option maxHeartbeats 4000000 in
set_option maxRecDepth 100000 in
theorem w_X7_spare {Γ : jG} (C : jC Γ 1 cX7_spare RX7 rmX7_spare) {ρ : Int32 × Mem} (E : jEI Γ cX7_spare ρ.1 ρ.2) (μ : Mem) (h : f_X7_spare μ = some ρ) : jJ Γ 1 0 [(0, .ref 0)] [] μ := by
  unfold f_X7_spare at h
  refine j_aload_n C dX7_spare_0 rfl 0 rfl ?_
  refine j_getR (c := 65) C dX7_spare_1 rfl lkX7_49 is_0 rfl ?_
  replace h := bd_e h
  obtain ⟨p1_, h2_, h⟩ := h
  refine j_cVI (av := []) (rest := []) C dX7_spare_4 rfl (c_X6_spareRules _ _ _ _ μ p1_ h2_) gvX7_230 ⟨⟨rfl, rfl⟩, Nat.le_of_ble_eq_true rfl, Nat.le_of_ble_eq_true rfl⟩ rfl is_65 rfl rfl (Nat.le_of_ble_eq_true rfl) ?_
  obtain rfl := Option.some.inj h
  exact j_iret E dX7_spare_7
set_option maxRecDepth 100000 in
theorem c_X7_spare (l : Launch) (D : va_G) (ad : Nat → Nat) (cl : Nat → ClassId) (μ : Mem) (ρ : Int32 × Mem) (h : f_X7_spare μ = some ρ) : CI l D ad cl yX7_spare wsX7_spare rmX7_spare [.ref 0] μ ρ.1 ρ.2 := c_ofI (cc := cX7_spare) (nL := 1) rfl (by decide) (Nat.le_of_ble_eq_true rfl) (fun Γ C E => w_X7_spare C E μ h)
theorem gvX7_233 : jm_gv RX7 233 RX1 yX1_append wsX1_append 4 3 := ⟨_, _, gi_V gwt4_71 gwt4_72 gwt4_73 gwt1_5 gwt4_74, rfl, by decide +kernel⟩
/-! X7_log -/
def wsX7_log : List Cond := .code yX7_log cX7_log 4 (some .int) :: G0
def rmX7_log : Room := { frames := 1, cells := 0, slots := 0, locals := 23 }
def f_X7_log (a1 : Int32) (a2 : Int32) (a3 : Int32) (μ : Mem) : Option (Int32 × Mem) := Option.bind (f_X7_within a1 (nI 0) (nI 8) μ) fun p1_ => (if p1_.1 = 0 then some ((-1), p1_.2) else Option.bind (f_X7_within a2 (nI 0) (nI 8) p1_.2) fun p4_ => (if p4_.1 = 0 then some ((-1), p4_.2) else (if a1 = a2 then some ((-1), p4_.2) else Option.bind (f_X7_within a3 (nI 0) (nI 1) p4_.2) fun p8_ => (if p8_.1 = 0 then some ((-1), p8_.2) else (if (p8_.2.1 29 0) < (nI 12) then Option.bind (f_X1_append 29 a1 a2 a3 p8_.2) fun p12_ => some (p12_.1, p12_.2) else some ((-3), p8_.2))))))
set_option maxHeartbeats 4000000 in
set_option maxRecDepth 100000 in
theorem w_X7_log {Γ : jG} (C : jC Γ 4 cX7_log RX7 rmX7_log) {a1 : Int32} {a2 : Int32} {a3 : Int32} {ρ : Int32 × Mem} (E : jEI Γ cX7_log ρ.1 ρ.2) (μ : Mem) (h : f_X7_log a1 a2 a3 μ = some ρ) : jJ Γ 4 0 [(0, .ref 0), (1, .int a1), (2, .int a2), (3, .int a3)] [] μ := by
  unfold f_X7_log at h
  refine j_iload_n C dX7_log_0 rfl 1 rfl ?_
  refine j_iconst (v := (nI 0)) C dX7_log_1 rfl (by decide) ?_
  refine j_bipush (v := (nI 8)) C dX7_log_2 rfl (by decide) ?_
  replace h := bd_e h
  obtain ⟨p1_, h2_, h⟩ := h
  refine j_cSI (av := [.int a1, .int (nI 0), .int (nI 8)]) (rest := []) C dX7_log_4 rfl (c_X7_within _ _ _ _ μ p1_ h2_) gsX7_54 ⟨⟨rfl, rfl⟩, Nat.le_of_ble_eq_true rfl, Nat.le_of_ble_eq_true rfl⟩ rfl rfl (Nat.le_of_ble_eq_true rfl) ?_
  refine j_if_eq (tgt := 34) C dX7_log_7 rfl (by decide) (fun c3_ => ?_) (fun c3_ => ?_)
  · replace h := if_t h c3_
    refine j_iconst (v := (-1)) C dX7_log_34 rfl (by decide) ?_
    obtain rfl := Option.some.inj h
    exact j_iret E dX7_log_35
  · replace h := if_f h c3_
    refine j_iload_n C dX7_log_10 rfl 2 rfl ?_
    refine j_iconst (v := (nI 0)) C dX7_log_11 rfl (by decide) ?_
    refine j_bipush (v := (nI 8)) C dX7_log_12 rfl (by decide) ?_
    replace h := bd_e h
    obtain ⟨p4_, h5_, h⟩ := h
    refine j_cSI (av := [.int a2, .int (nI 0), .int (nI 8)]) (rest := []) C dX7_log_14 rfl (c_X7_within _ _ _ _ p1_.2 p4_ h5_) gsX7_54 ⟨⟨rfl, rfl⟩, Nat.le_of_ble_eq_true rfl, Nat.le_of_ble_eq_true rfl⟩ rfl rfl (Nat.le_of_ble_eq_true rfl) ?_
    refine j_if_eq (tgt := 34) C dX7_log_17 rfl (by decide) (fun c6_ => ?_) (fun c6_ => ?_)
    · replace h := if_t h c6_
      refine j_iconst (v := (-1)) C dX7_log_34 rfl (by decide) ?_
      obtain rfl := Option.some.inj h
      exact j_iret E dX7_log_35
    · replace h := if_f h c6_
      refine j_iload_n C dX7_log_20 rfl 1 rfl ?_
      refine j_iload_n C dX7_log_21 rfl 2 rfl ?_
      refine j_icmp_eq (tgt := 34) C dX7_log_22 rfl (by decide) (fun c7_ => ?_) (fun c7_ => ?_)
      · replace h := if_t h c7_
        refine j_iconst (v := (-1)) C dX7_log_34 rfl (by decide) ?_
        obtain rfl := Option.some.inj h
        exact j_iret E dX7_log_35
      · replace h := if_f h c7_
        refine j_iload_n C dX7_log_25 rfl 3 rfl ?_
        refine j_iconst (v := (nI 0)) C dX7_log_26 rfl (by decide) ?_
        refine j_iconst (v := (nI 1)) C dX7_log_27 rfl (by decide) ?_
        replace h := bd_e h
        obtain ⟨p8_, h9_, h⟩ := h
        refine j_cSI (av := [.int a3, .int (nI 0), .int (nI 1)]) (rest := []) C dX7_log_28 rfl (c_X7_within _ _ _ _ p4_.2 p8_ h9_) gsX7_54 ⟨⟨rfl, rfl⟩, Nat.le_of_ble_eq_true rfl, Nat.le_of_ble_eq_true rfl⟩ rfl rfl (Nat.le_of_ble_eq_true rfl) ?_
        refine j_if_ne (tgt := 36) C dX7_log_31 rfl (by decide) (fun c10_ => ?_) (fun c10_ => ?_)
        · replace h := if_f h c10_
          refine j_aload_n C dX7_log_36 rfl 0 rfl ?_
          refine j_getR (c := 1) C dX7_log_37 rfl lkX7_10 is_0 rfl ?_
          refine j_getR (c := 29) C dX7_log_40 rfl lkX7_171 (isT_0 isT1) rfl ?_
          refine j_getI C dX7_log_43 rfl lkX7_175 (isG_0 (isT_g isT1)) rfl ?_
          refine j_bipush (v := (nI 12)) C dX7_log_46 rfl (by decide) ?_
          refine j_icmp_lt (tgt := 54) C dX7_log_48 rfl (by decide) (fun c11_ => ?_) (fun c11_ => ?_)
          · replace h := if_t h c11_
            refine j_aload_n C dX7_log_54 rfl 0 rfl ?_
            refine j_getR (c := 1) C dX7_log_55 rfl lkX7_10 is_0 rfl ?_
            refine j_getR (c := 29) C dX7_log_58 rfl lkX7_171 (isT_0 isT1) rfl ?_
            refine j_iload_n C dX7_log_61 rfl 1 rfl ?_
            refine j_iload_n C dX7_log_62 rfl 2 rfl ?_
            refine j_iload_n C dX7_log_63 rfl 3 rfl ?_
            replace h := bd_e h
            obtain ⟨p12_, h13_, h⟩ := h
            refine j_cVI (av := [.int a1, .int a2, .int a3]) (rest := []) C dX7_log_64 rfl (c_X1_append _ _ _ _ (isT_g isT1) p8_.2 p12_ h13_) gvX7_233 ⟨⟨rfl, rfl⟩, Nat.le_of_ble_eq_true rfl, Nat.le_of_ble_eq_true rfl⟩ rfl (isG_0 (isT_g isT1)) rfl rfl (Nat.le_of_ble_eq_true rfl) ?_
            obtain rfl := Option.some.inj h
            exact j_iret E dX7_log_67
          · replace h := if_f h c11_
            refine j_bipush (v := (-3)) C dX7_log_51 rfl (by decide) ?_
            obtain rfl := Option.some.inj h
            exact j_iret E dX7_log_53
        · replace h := if_t h c10_
          refine j_iconst (v := (-1)) C dX7_log_34 rfl (by decide) ?_
          obtain rfl := Option.some.inj h
          exact j_iret E dX7_log_35
set_option maxRecDepth 100000 in
theorem c_X7_log (l : Launch) (D : va_G) (ad : Nat → Nat) (cl : Nat → ClassId) {a1 : Int32} {a2 : Int32} {a3 : Int32} (μ : Mem) (ρ : Int32 × Mem) (h : f_X7_log a1 a2 a3 μ = some ρ) : CI l D ad cl yX7_log wsX7_log rmX7_log [.ref 0, .int a1, .int a2, .int a3] μ ρ.1 ρ.2 := c_ofI (cc := cX7_log) (nL := 4) rfl (by decide) (Nat.le_of_ble_eq_true rfl) (fun Γ C E => w_X7_log C E μ h)
/-! X7_burn -/
def wsX7_burn : List Cond := .code yX7_burn cX7_burn 2 (some .int) :: G0
def rmX7_burn : Room := { frames := 0, cells := 0, slots := 0, locals := 0 }
def f_X7_burn (μ : Mem) : Option (Int32 × Mem) := zl (μ.1 29 0) fun x1_ => zl (sI μ 29 0 (nI 0)) fun μ3_ => some (x1_, μ3_)
set_option maxHeartbeats 4000000 in
set_option maxRecDepth 100000 in
theorem w_X7_burn {Γ : jG} (C : jC Γ 2 cX7_burn RX7 rmX7_burn) {ρ : Int32 × Mem} (E : jEI Γ cX7_burn ρ.1 ρ.2) (μ : Mem) (h : f_X7_burn μ = some ρ) : jJ Γ 2 0 [(0, .ref 0)] [] μ := by
  unfold f_X7_burn at h
  refine j_aload_n C dX7_burn_0 rfl 0 rfl ?_
  refine j_getR (c := 1) C dX7_burn_1 rfl lkX7_10 is_0 rfl ?_
  refine j_getR (c := 29) C dX7_burn_4 rfl lkX7_171 (isT_0 isT1) rfl ?_
  refine j_getI C dX7_burn_7 rfl lkX7_175 (isG_0 (isT_g isT1)) rfl ?_
  refine j_topi (fun x1_ e2_ => ?_)
  replace h := zl_u h e2_
  refine j_istore_n (lv' := [(1, .int x1_), (0, .ref 0)]) C dX7_burn_10 rfl (by decide) rfl ?_
  refine j_aload_n C dX7_burn_11 rfl 1 rfl ?_
  refine j_getR (c := 1) C dX7_burn_12 rfl lkX7_10 is_0 rfl ?_
  refine j_getR (c := 29) C dX7_burn_15 rfl lkX7_171 (isT_0 isT1) rfl ?_
  refine j_iconst (v := (nI 0)) C dX7_burn_18 rfl (by decide) ?_
  refine j_putI C dX7_burn_19 rfl lpX7_175 (isG_0 (isT_g isT1)) rfl ?_
  refine j_mem (fun μ3_ e4_ => ?_)
  replace h := zl_u h e4_
  refine j_iload_n C dX7_burn_22 rfl 0 rfl ?_
  obtain rfl := Option.some.inj h
  exact j_iret E dX7_burn_23
set_option maxRecDepth 100000 in
theorem c_X7_burn (l : Launch) (D : va_G) (ad : Nat → Nat) (cl : Nat → ClassId) (μ : Mem) (ρ : Int32 × Mem) (h : f_X7_burn μ = some ρ) : CI l D ad cl yX7_burn wsX7_burn rmX7_burn [.ref 0] μ ρ.1 ρ.2 := c_ofI (cc := cX7_burn) (nL := 2) rfl (by decide) (Nat.le_of_ble_eq_true rfl) (fun Γ C E => w_X7_burn C E μ h)
theorem gvX7_235 : jm_gv RX7 235 RX1 yX1_sureLiars wsX1_sureLiars 4 0 := ⟨_, _, gi_V gwt4_83 gwt4_84 gwt4_85 gwt1_5 gwt4_86, rfl, by decide +kernel⟩
/-! X7_sure -/
def wsX7_sure : List Cond := .code yX7_sure cX7_sure 1 (some .int) :: G0
def rmX7_sure : Room := { frames := 1, cells := 0, slots := 0, locals := 23 }
def f_X7_sure (μ : Mem) : Option (Int32 × Mem) := Option.bind (f_X1_sureLiars 29 μ) fun p1_ => some (p1_.1, p1_.2)
set_option maxHeartbeats 4000000 in
set_option maxRecDepth 100000 in
theorem w_X7_sure {Γ : jG} (C : jC Γ 1 cX7_sure RX7 rmX7_sure) {ρ : Int32 × Mem} (E : jEI Γ cX7_sure ρ.1 ρ.2) (μ : Mem) (h : f_X7_sure μ = some ρ) : jJ Γ 1 0 [(0, .ref 0)] [] μ := by
  unfold f_X7_sure at h
  refine j_aload_n C dX7_sure_0 rfl 0 rfl ?_
  refine j_getR (c := 1) C dX7_sure_1 rfl lkX7_10 is_0 rfl ?_
  refine j_getR (c := 29) C dX7_sure_4 rfl lkX7_171 (isT_0 isT1) rfl ?_
  replace h := bd_e h
  obtain ⟨p1_, h2_, h⟩ := h
  refine j_cVI (av := []) (rest := []) C dX7_sure_7 rfl (c_X1_sureLiars _ _ _ _ (isT_g isT1) μ p1_ h2_) gvX7_235 ⟨⟨rfl, rfl⟩, Nat.le_of_ble_eq_true rfl, Nat.le_of_ble_eq_true rfl⟩ rfl (isG_0 (isT_g isT1)) rfl rfl (Nat.le_of_ble_eq_true rfl) ?_
  obtain rfl := Option.some.inj h
  exact j_iret E dX7_sure_10
set_option maxRecDepth 100000 in
theorem c_X7_sure (l : Launch) (D : va_G) (ad : Nat → Nat) (cl : Nat → ClassId) (μ : Mem) (ρ : Int32 × Mem) (h : f_X7_sure μ = some ρ) : CI l D ad cl yX7_sure wsX7_sure rmX7_sure [.ref 0] μ ρ.1 ρ.2 := c_ofI (cc := cX7_sure) (nL := 1) rfl (by decide) (Nat.le_of_ble_eq_true rfl) (fun Γ C E => w_X7_sure C E μ h)
/-! X7_choose -/
def wsX7_choose : List Cond := .code yX7_choose cX7_choose 4 (some .int) :: G0
def rmX7_choose : Room := { frames := 0, cells := 0, slots := 0, locals := 0 }
def f_X7_choose_15 (a0 : Int32) (a1 : Int32) : Nat → Int32 → Int32 → Mem → Option (Int32 × Mem)
  | 0, _, _, _ => none
  | n + 1, x2, x3, μ => (if a1 < x3 then some (x2, μ) else gd (nz x3) <| zl ((x2 * ((a0 - a1) + x3)) / x3) fun x3_ => f_X7_choose_15 a0 a1 n x3_ (x3 + (nI 1)) μ)
set_option maxHeartbeats 4000000 in
set_option maxRecDepth 100000 in
theorem w_X7_choose_15 {Γ : jG} (C : jC Γ 4 cX7_choose RX7 rmX7_choose) {a0 : Int32} {a1 : Int32} {ρ : Int32 × Mem} (E : jEI Γ cX7_choose ρ.1 ρ.2) : ∀ (n : Nat) (x2 : Int32) (x3 : Int32) (μ : Mem), f_X7_choose_15 a0 a1 n x2 x3 μ = some ρ → jJ Γ 4 15 [(0, .int a0), (1, .int a1), (2, .int x2), (3, .int x3)] [] μ := by
  intro n
  induction n with
  | zero => intro x2 x3 μ h; rw [f_X7_choose_15] at h; cases h
  | succ n ih =>
    intro x2 x3 μ h
    rw [f_X7_choose_15] at h
    refine j_iload_n C dX7_choose_15 rfl 3 rfl ?_
    refine j_iload_n C dX7_choose_16 rfl 1 rfl ?_
    refine j_icmp_gt (tgt := 36) C dX7_choose_17 rfl (by decide) (fun c1_ => ?_) (fun c1_ => ?_)
    · replace h := if_t h c1_
      refine j_iload_n C dX7_choose_36 rfl 2 rfl ?_
      obtain rfl := Option.some.inj h
      exact j_iret E dX7_choose_37
    · replace h := if_f h c1_
      refine j_iload_n C dX7_choose_20 rfl 2 rfl ?_
      refine j_iload_n C dX7_choose_21 rfl 0 rfl ?_
      refine j_iload_n C dX7_choose_22 rfl 1 rfl ?_
      refine j_isub C dX7_choose_23 rfl ?_
      refine j_iload_n C dX7_choose_24 rfl 3 rfl ?_
      refine j_iadd C dX7_choose_25 rfl ?_
      refine j_imul C dX7_choose_26 rfl ?_
      refine j_iload_n C dX7_choose_27 rfl 3 rfl ?_
      replace h := gd_e h
      obtain ⟨g2_, h⟩ := h
      refine j_idiv C dX7_choose_28 rfl (nz_e g2_) ?_
      refine j_topi (fun x3_ e4_ => ?_)
      replace h := zl_u h e4_
      refine j_istore_n (lv' := [(2, .int x3_), (0, .int a0), (1, .int a1), (3, .int x3)]) C dX7_choose_29 rfl (by decide) rfl ?_
      refine j_iinc (d := (nI 1)) (v := x3 + (nI 1)) (lv' := [(3, .int (x3 + (nI 1))), (2, .int x3_), (0, .int a0), (1, .int a1)]) C dX7_choose_30 rfl (by decide) 3 rfl (by decide) rfl rfl ?_
      refine j_goto (pc' := 15) C dX7_choose_33 (by decide) ?_
      refine j_lv [2, 3, 1, 0] rfl ?_
      exact (ih) x3_ (x3 + (nI 1)) μ h
def f_X7_choose (a0 : Int32) (a1 : Int32) (μ : Mem) : Option (Int32 × Mem) := (if a1 < 0 then some ((nI 0), μ) else (if a1 ≤ a0 then f_X7_choose_15 a0 a1 zfu (nI 1) (nI 1) μ else some ((nI 0), μ)))
set_option maxHeartbeats 4000000 in
set_option maxRecDepth 100000 in
theorem w_X7_choose {Γ : jG} (C : jC Γ 4 cX7_choose RX7 rmX7_choose) {a0 : Int32} {a1 : Int32} {ρ : Int32 × Mem} (E : jEI Γ cX7_choose ρ.1 ρ.2) (μ : Mem) (h : f_X7_choose a0 a1 μ = some ρ) : jJ Γ 4 0 [(0, .int a0), (1, .int a1)] [] μ := by
  unfold f_X7_choose at h
  refine j_iload_n C dX7_choose_0 rfl 1 rfl ?_
  refine j_if_lt (tgt := 9) C dX7_choose_1 rfl (by decide) (fun c1_ => ?_) (fun c1_ => ?_)
  · replace h := if_t h c1_
    refine j_iconst (v := (nI 0)) C dX7_choose_9 rfl (by decide) ?_
    obtain rfl := Option.some.inj h
    exact j_iret E dX7_choose_10
  · replace h := if_f h c1_
    refine j_iload_n C dX7_choose_4 rfl 1 rfl ?_
    refine j_iload_n C dX7_choose_5 rfl 0 rfl ?_
    refine j_icmp_le (tgt := 11) C dX7_choose_6 rfl (by decide) (fun c2_ => ?_) (fun c2_ => ?_)
    · replace h := if_t h c2_
      refine j_iconst (v := (nI 1)) C dX7_choose_11 rfl (by decide) ?_
      refine j_istore_n (lv' := [(2, .int (nI 1)), (0, .int a0), (1, .int a1)]) C dX7_choose_12 rfl (by decide) rfl ?_
      refine j_iconst (v := (nI 1)) C dX7_choose_13 rfl (by decide) ?_
      refine j_istore_n (lv' := [(3, .int (nI 1)), (2, .int (nI 1)), (0, .int a0), (1, .int a1)]) C dX7_choose_14 rfl (by decide) rfl ?_
      refine j_lv [2, 3, 1, 0] rfl ?_
      exact w_X7_choose_15 C E zfu (nI 1) (nI 1) μ h
    · replace h := if_f h c2_
      refine j_iconst (v := (nI 0)) C dX7_choose_9 rfl (by decide) ?_
      obtain rfl := Option.some.inj h
      exact j_iret E dX7_choose_10
set_option maxRecDepth 100000 in
theorem c_X7_choose (l : Launch) (D : va_G) (ad : Nat → Nat) (cl : Nat → ClassId) {a0 : Int32} {a1 : Int32} (μ : Mem) (ρ : Int32 × Mem) (h : f_X7_choose a0 a1 μ = some ρ) : CI l D ad cl yX7_choose wsX7_choose rmX7_choose [.int a0, .int a1] μ ρ.1 ρ.2 := c_ofI (cc := cX7_choose) (nL := 4) rfl (by decide) (Nat.le_of_ble_eq_true rfl) (fun Γ C E => w_X7_choose C E μ h)
theorem gsX7_238 : jm_gs RX7 238 yJ6_bitCount_0f7a4 wsJ6_bitCount_0f7a4 1 1 := ⟨_, _, gi_S gwt4_91 gwt2_134 gwt1_10 gwt2_135, rfl, by decide +kernel⟩
theorem gsX7_243 : jm_gs RX7 243 yX7_choose wsX7_choose 4 2 := ⟨_, _, gi_S gwt4_92 gwt4_93 gwt1_1 gwt4_94, rfl, by decide +kernel⟩
/-! X7_fits -/
def wsX7_fits : List Cond := .code yX7_fits cX7_fits 4 (some .int) :: G0
def rmX7_fits : Room := { frames := 2, cells := 0, slots := 0, locals := 43 }
def f_X7_fits (a1 : Int32) (μ : Mem) : Option (Int32 × Mem) := Option.bind (f_X7_within a1 (nI 0) (nI 9) μ) fun p1_ => (if p1_.1 = 0 then some ((-1), p1_.2) else Option.bind (f_X1_sureLiars 29 p1_.2) fun p4_ => Option.bind (f_X7_isSet p4_.1 p4_.2) fun p6_ => (if p6_.1 = 0 then some ((nI 0), p6_.2) else Option.bind (f_J6_bitCount_0f7a4 p4_.1 p6_.2) fun p9_ => Option.bind (f_X7_choose ((p9_.2.1 2 0) - p9_.1) (a1 - p9_.1) p9_.2) fun p11_ => some (p11_.1, p11_.2)))
set_option maxHeartbeats 4000000 in
set_option maxRecDepth 100000 in
theorem w_X7_fits {Γ : jG} (C : jC Γ 4 cX7_fits RX7 rmX7_fits) {a1 : Int32} {ρ : Int32 × Mem} (E : jEI Γ cX7_fits ρ.1 ρ.2) (μ : Mem) (h : f_X7_fits a1 μ = some ρ) : jJ Γ 4 0 [(0, .ref 0), (1, .int a1)] [] μ := by
  unfold f_X7_fits at h
  refine j_iload_n C dX7_fits_0 rfl 1 rfl ?_
  refine j_iconst (v := (nI 0)) C dX7_fits_1 rfl (by decide) ?_
  refine j_bipush (v := (nI 9)) C dX7_fits_2 rfl (by decide) ?_
  replace h := bd_e h
  obtain ⟨p1_, h2_, h⟩ := h
  refine j_cSI (av := [.int a1, .int (nI 0), .int (nI 9)]) (rest := []) C dX7_fits_4 rfl (c_X7_within _ _ _ _ μ p1_ h2_) gsX7_54 ⟨⟨rfl, rfl⟩, Nat.le_of_ble_eq_true rfl, Nat.le_of_ble_eq_true rfl⟩ rfl rfl (Nat.le_of_ble_eq_true rfl) ?_
  refine j_if_ne (tgt := 12) C dX7_fits_7 rfl (by decide) (fun c3_ => ?_) (fun c3_ => ?_)
  · replace h := if_f h c3_
    refine j_aload_n C dX7_fits_12 rfl 0 rfl ?_
    refine j_getR (c := 1) C dX7_fits_13 rfl lkX7_10 is_0 rfl ?_
    refine j_getR (c := 29) C dX7_fits_16 rfl lkX7_171 (isT_0 isT1) rfl ?_
    replace h := bd_e h
    obtain ⟨p4_, h5_, h⟩ := h
    refine j_cVI (av := []) (rest := []) C dX7_fits_19 rfl (c_X1_sureLiars _ _ _ _ (isT_g isT1) p1_.2 p4_ h5_) gvX7_235 ⟨⟨rfl, rfl⟩, Nat.le_of_ble_eq_true rfl, Nat.le_of_ble_eq_true rfl⟩ rfl (isG_0 (isT_g isT1)) rfl rfl (Nat.le_of_ble_eq_true rfl) ?_
    refine j_istore_n (lv' := [(2, .int p4_.1), (0, .ref 0), (1, .int a1)]) C dX7_fits_22 rfl (by decide) rfl ?_
    refine j_aload_n C dX7_fits_23 rfl 1 rfl ?_
    refine j_iload_n C dX7_fits_24 rfl 0 rfl ?_
    replace h := bd_e h
    obtain ⟨p6_, h7_, h⟩ := h
    refine j_cVI (av := [.int p4_.1]) (rest := []) C dX7_fits_25 rfl (c_X7_isSet _ _ _ _ p4_.2 p6_ h7_) gvX7_218 ⟨⟨rfl, rfl⟩, Nat.le_of_ble_eq_true rfl, Nat.le_of_ble_eq_true rfl⟩ rfl is_0 rfl rfl (Nat.le_of_ble_eq_true rfl) ?_
    refine j_if_ne (tgt := 33) C dX7_fits_28 rfl (by decide) (fun c8_ => ?_) (fun c8_ => ?_)
    · replace h := if_f h c8_
      refine j_iload_n C dX7_fits_33 rfl 0 rfl ?_
      replace h := bd_e h
      obtain ⟨p9_, h10_, h⟩ := h
      refine j_cSI (av := [.int p4_.1]) (rest := []) C dX7_fits_34 rfl (c_J6_bitCount_0f7a4 _ _ _ _ p6_.2 p9_ h10_) gsX7_238 ⟨⟨rfl, rfl⟩, Nat.le_of_ble_eq_true rfl, Nat.le_of_ble_eq_true rfl⟩ rfl rfl (Nat.le_of_ble_eq_true rfl) ?_
      refine j_istore_n (lv' := [(3, .int p9_.1), (2, .int p4_.1), (0, .ref 0), (1, .int a1)]) C dX7_fits_37 rfl (by decide) rfl ?_
      refine j_aload_n C dX7_fits_38 rfl 2 rfl ?_
      refine j_getR (c := 1) C dX7_fits_39 rfl lkX7_10 is_0 rfl ?_
      refine j_getR (c := 2) C dX7_fits_42 rfl lkX7_38 (isT_0 isT1) rfl ?_
      refine j_getI C dX7_fits_45 rfl lkX7_58 (isN_0 (isT_n isT1)) rfl ?_
      refine j_iload_n C dX7_fits_48 rfl 0 rfl ?_
      refine j_isub C dX7_fits_49 rfl ?_
      refine j_iload_n C dX7_fits_50 rfl 3 rfl ?_
      refine j_iload_n C dX7_fits_51 rfl 0 rfl ?_
      refine j_isub C dX7_fits_52 rfl ?_
      replace h := bd_e h
      obtain ⟨p11_, h12_, h⟩ := h
      refine j_cSI (av := [.int ((p9_.2.1 2 0) - p9_.1), .int (a1 - p9_.1)]) (rest := []) C dX7_fits_53 rfl (c_X7_choose _ _ _ _ p9_.2 p11_ h12_) gsX7_243 ⟨⟨rfl, rfl⟩, Nat.le_of_ble_eq_true rfl, Nat.le_of_ble_eq_true rfl⟩ rfl rfl (Nat.le_of_ble_eq_true rfl) ?_
      obtain rfl := Option.some.inj h
      exact j_iret E dX7_fits_56
    · replace h := if_t h c8_
      refine j_iconst (v := (nI 0)) C dX7_fits_31 rfl (by decide) ?_
      obtain rfl := Option.some.inj h
      exact j_iret E dX7_fits_32
  · replace h := if_t h c3_
    refine j_iconst (v := (-1)) C dX7_fits_10 rfl (by decide) ?_
    obtain rfl := Option.some.inj h
    exact j_iret E dX7_fits_11
set_option maxRecDepth 100000 in
theorem c_X7_fits (l : Launch) (D : va_G) (ad : Nat → Nat) (cl : Nat → ClassId) {a1 : Int32} (μ : Mem) (ρ : Int32 × Mem) (h : f_X7_fits a1 μ = some ρ) : CI l D ad cl yX7_fits wsX7_fits rmX7_fits [.ref 0, .int a1] μ ρ.1 ρ.2 := c_ofI (cc := cX7_fits) (nL := 4) rfl (by decide) (Nat.le_of_ble_eq_true rfl) (fun Γ C E => w_X7_fits C E μ h)
theorem gvX7_246 : jm_gv RX7 246 RX1 yX1_pairToAsk wsX1_pairToAsk 8 1 := ⟨_, _, gi_V gwt4_99 gwt4_100 gwt4_101 gwt1_5 gwt4_102, rfl, by decide +kernel⟩
/-! X7_ask -/
def wsX7_ask : List Cond := .code yX7_ask cX7_ask 1 (some .int) :: G0
def rmX7_ask : Room := { frames := 3, cells := 0, slots := 0, locals := 73 }
def f_X7_ask (μ : Mem) : Option (Int32 × Mem) := Option.bind (f_X1_pairToAsk 29 (μ.1 2 0) μ) fun p1_ => some (p1_.1, p1_.2)
set_option maxHeartbeats 4000000 in
set_option maxRecDepth 100000 in
theorem w_X7_ask {Γ : jG} (C : jC Γ 1 cX7_ask RX7 rmX7_ask) {ρ : Int32 × Mem} (E : jEI Γ cX7_ask ρ.1 ρ.2) (μ : Mem) (h : f_X7_ask μ = some ρ) : jJ Γ 1 0 [(0, .ref 0)] [] μ := by
  unfold f_X7_ask at h
  refine j_aload_n C dX7_ask_0 rfl 0 rfl ?_
  refine j_getR (c := 1) C dX7_ask_1 rfl lkX7_10 is_0 rfl ?_
  refine j_getR (c := 29) C dX7_ask_4 rfl lkX7_171 (isT_0 isT1) rfl ?_
  refine j_aload_n C dX7_ask_7 rfl 0 rfl ?_
  refine j_getR (c := 1) C dX7_ask_8 rfl lkX7_10 is_0 rfl ?_
  refine j_getR (c := 2) C dX7_ask_11 rfl lkX7_38 (isT_0 isT1) rfl ?_
  refine j_getI C dX7_ask_14 rfl lkX7_58 (isN_0 (isT_n isT1)) rfl ?_
  replace h := bd_e h
  obtain ⟨p1_, h2_, h⟩ := h
  refine j_cVI (av := [.int (μ.1 2 0)]) (rest := []) C dX7_ask_17 rfl (c_X1_pairToAsk _ _ _ _ (isT_g isT1) μ p1_ h2_) gvX7_246 ⟨⟨rfl, rfl⟩, Nat.le_of_ble_eq_true rfl, Nat.le_of_ble_eq_true rfl⟩ rfl (isG_0 (isT_g isT1)) rfl rfl (Nat.le_of_ble_eq_true rfl) ?_
  obtain rfl := Option.some.inj h
  exact j_iret E dX7_ask_20
set_option maxRecDepth 100000 in
theorem c_X7_ask (l : Launch) (D : va_G) (ad : Nat → Nat) (cl : Nat → ClassId) (μ : Mem) (ρ : Int32 × Mem) (h : f_X7_ask μ = some ρ) : CI l D ad cl yX7_ask wsX7_ask rmX7_ask [.ref 0] μ ρ.1 ρ.2 := c_ofI (cc := cX7_ask) (nL := 1) rfl (by decide) (Nat.le_of_ble_eq_true rfl) (fun Γ C E => w_X7_ask C E μ h)
theorem gvX7_249 : jm_gv RX7 249 RX2 yX2_howManyShow wsX2_howManyShow 5 2 := ⟨_, _, gi_V gwt4_120 gwt3_115 gwt3_116 gwt1_3 gwt3_117, rfl, by decide +kernel⟩
/-! X7_ship -/
def wsX7_ship : List Cond := .code yX7_ship cX7_ship 5 (some .int) :: G0
def rmX7_ship : Room := { frames := 2, cells := 0, slots := 0, locals := 43 }
def f_X7_ship_59 (a1 : Int32) (a2 : Int32) (x3 : Int32) (x4 : Int32) (μ : Mem) : Option (Int32 × Mem) := (if x4 ≤ a2 then some ((-4), μ) else (if a2 < x3 then some ((-4), μ) else some ((nI 1), μ)))
set_option maxHeartbeats 4000000 in
set_option maxRecDepth 100000 in
theorem w_X7_ship_59 {Γ : jG} (C : jC Γ 5 cX7_ship RX7 rmX7_ship) {a1 : Int32} {a2 : Int32} {ρ : Int32 × Mem} (E : jEI Γ cX7_ship ρ.1 ρ.2) (x3 : Int32) (x4 : Int32) (μ : Mem) (h : f_X7_ship_59 a1 a2 x3 x4 μ = some ρ) : jJ Γ 5 59 [(2, .int a2), (3, .int x3), (4, .int x4)] [] μ := by
  unfold f_X7_ship_59 at h
  refine j_iload C dX7_ship_59 rfl 2 rfl ?_
  refine j_iload_n C dX7_ship_61 rfl 0 rfl ?_
  refine j_icmp_le (tgt := 74) C dX7_ship_62 rfl (by decide) (fun c1_ => ?_) (fun c1_ => ?_)
  · replace h := if_t h c1_
    refine j_bipush (v := (-4)) C dX7_ship_74 rfl (by decide) ?_
    obtain rfl := Option.some.inj h
    exact j_iret E dX7_ship_76
  · replace h := if_f h c1_
    refine j_iload_n C dX7_ship_65 rfl 1 rfl ?_
    refine j_iload_n C dX7_ship_66 rfl 0 rfl ?_
    refine j_icmp_gt (tgt := 74) C dX7_ship_67 rfl (by decide) (fun c2_ => ?_) (fun c2_ => ?_)
    · replace h := if_t h c2_
      refine j_bipush (v := (-4)) C dX7_ship_74 rfl (by decide) ?_
      obtain rfl := Option.some.inj h
      exact j_iret E dX7_ship_76
    · replace h := if_f h c2_
      refine j_iconst (v := (nI 1)) C dX7_ship_70 rfl (by decide) ?_
      refine j_goto (pc' := 76) C dX7_ship_71 (by decide) ?_
      obtain rfl := Option.some.inj h
      exact j_iret E dX7_ship_76
def f_X7_ship (a1 : Int32) (a2 : Int32) (μ : Mem) : Option (Int32 × Mem) := Option.bind (f_X7_isSet a1 μ) fun p1_ => (if p1_.1 = 0 then some ((-1), p1_.2) else Option.bind (f_X7_within a2 (nI 0) (nI 4) p1_.2) fun p4_ => (if p4_.1 = 0 then some ((-1), p4_.2) else Option.bind (f_X2_howManyShow 2 a1 (nI 0) p4_.2) fun p7_ => Option.bind (f_X2_howManyShow 2 a1 (nI 1) p7_.2) fun p9_ => (if p7_.1 ≤ a2 then f_X7_ship_59 a1 a2 p7_.1 p9_.1 p9_.2 else (if a2 < p9_.1 then f_X7_ship_59 a1 a2 p7_.1 p9_.1 p9_.2 else some ((nI 0), p9_.2)))))
set_option maxHeartbeats 4000000 in
set_option maxRecDepth 100000 in
theorem w_X7_ship {Γ : jG} (C : jC Γ 5 cX7_ship RX7 rmX7_ship) {a1 : Int32} {a2 : Int32} {ρ : Int32 × Mem} (E : jEI Γ cX7_ship ρ.1 ρ.2) (μ : Mem) (h : f_X7_ship a1 a2 μ = some ρ) : jJ Γ 5 0 [(0, .ref 0), (1, .int a1), (2, .int a2)] [] μ := by
  unfold f_X7_ship at h
  refine j_aload_n C dX7_ship_0 rfl 0 rfl ?_
  refine j_iload_n C dX7_ship_1 rfl 1 rfl ?_
  replace h := bd_e h
  obtain ⟨p1_, h2_, h⟩ := h
  refine j_cVI (av := [.int a1]) (rest := []) C dX7_ship_2 rfl (c_X7_isSet _ _ _ _ μ p1_ h2_) gvX7_218 ⟨⟨rfl, rfl⟩, Nat.le_of_ble_eq_true rfl, Nat.le_of_ble_eq_true rfl⟩ rfl is_0 rfl rfl (Nat.le_of_ble_eq_true rfl) ?_
  refine j_if_eq (tgt := 17) C dX7_ship_5 rfl (by decide) (fun c3_ => ?_) (fun c3_ => ?_)
  · replace h := if_t h c3_
    refine j_iconst (v := (-1)) C dX7_ship_17 rfl (by decide) ?_
    obtain rfl := Option.some.inj h
    exact j_iret E dX7_ship_18
  · replace h := if_f h c3_
    refine j_iload_n C dX7_ship_8 rfl 2 rfl ?_
    refine j_iconst (v := (nI 0)) C dX7_ship_9 rfl (by decide) ?_
    refine j_iconst (v := (nI 4)) C dX7_ship_10 rfl (by decide) ?_
    replace h := bd_e h
    obtain ⟨p4_, h5_, h⟩ := h
    refine j_cSI (av := [.int a2, .int (nI 0), .int (nI 4)]) (rest := []) C dX7_ship_11 rfl (c_X7_within _ _ _ _ p1_.2 p4_ h5_) gsX7_54 ⟨⟨rfl, rfl⟩, Nat.le_of_ble_eq_true rfl, Nat.le_of_ble_eq_true rfl⟩ rfl rfl (Nat.le_of_ble_eq_true rfl) ?_
    refine j_if_ne (tgt := 19) C dX7_ship_14 rfl (by decide) (fun c6_ => ?_) (fun c6_ => ?_)
    · replace h := if_f h c6_
      refine j_aload_n C dX7_ship_19 rfl 0 rfl ?_
      refine j_getR (c := 1) C dX7_ship_20 rfl lkX7_10 is_0 rfl ?_
      refine j_getR (c := 2) C dX7_ship_23 rfl lkX7_38 (isT_0 isT1) rfl ?_
      refine j_iload_n C dX7_ship_26 rfl 1 rfl ?_
      refine j_iconst (v := (nI 0)) C dX7_ship_27 rfl (by decide) ?_
      replace h := bd_e h
      obtain ⟨p7_, h8_, h⟩ := h
      refine j_cVI (av := [.int a1, .int (nI 0)]) (rest := []) C dX7_ship_28 rfl (c_X2_howManyShow _ _ _ _ (isT_n isT1) p4_.2 p7_ h8_) gvX7_249 ⟨⟨rfl, rfl⟩, Nat.le_of_ble_eq_true rfl, Nat.le_of_ble_eq_true rfl⟩ rfl (isN_0 (isT_n isT1)) rfl rfl (Nat.le_of_ble_eq_true rfl) ?_
      refine j_istore_n (lv' := [(3, .int p7_.1), (0, .ref 0), (1, .int a1), (2, .int a2)]) C dX7_ship_31 rfl (by decide) rfl ?_
      refine j_aload_n C dX7_ship_32 rfl 1 rfl ?_
      refine j_getR (c := 1) C dX7_ship_33 rfl lkX7_10 is_0 rfl ?_
      refine j_getR (c := 2) C dX7_ship_36 rfl lkX7_38 (isT_0 isT1) rfl ?_
      refine j_iload_n C dX7_ship_39 rfl 2 rfl ?_
      refine j_iconst (v := (nI 1)) C dX7_ship_40 rfl (by decide) ?_
      replace h := bd_e h
      obtain ⟨p9_, h10_, h⟩ := h
      refine j_cVI (av := [.int a1, .int (nI 1)]) (rest := []) C dX7_ship_41 rfl (c_X2_howManyShow _ _ _ _ (isT_n isT1) p7_.2 p9_ h10_) gvX7_249 ⟨⟨rfl, rfl⟩, Nat.le_of_ble_eq_true rfl, Nat.le_of_ble_eq_true rfl⟩ rfl (isN_0 (isT_n isT1)) rfl rfl (Nat.le_of_ble_eq_true rfl) ?_
      refine j_istore (lv' := [(4, .int p9_.1), (3, .int p7_.1), (0, .ref 0), (1, .int a1), (2, .int a2)]) C dX7_ship_44 rfl (by decide) rfl ?_
      refine j_iload_n C dX7_ship_46 rfl 1 rfl ?_
      refine j_iload_n C dX7_ship_47 rfl 4 rfl ?_
      refine j_icmp_le (tgt := 59) C dX7_ship_48 rfl (by decide) (fun c11_ => ?_) (fun c11_ => ?_)
      · replace h := if_t h c11_
        refine j_lv [4, 1, 0] rfl ?_
        exact w_X7_ship_59 C E p7_.1 p9_.1 p9_.2 h
      · replace h := if_f h c11_
        refine j_iload C dX7_ship_51 rfl 0 rfl ?_
        refine j_iload_n C dX7_ship_53 rfl 4 rfl ?_
        refine j_icmp_gt (tgt := 59) C dX7_ship_54 rfl (by decide) (fun c12_ => ?_) (fun c12_ => ?_)
        · replace h := if_t h c12_
          refine j_lv [4, 1, 0] rfl ?_
          exact w_X7_ship_59 C E p7_.1 p9_.1 p9_.2 h
        · replace h := if_f h c12_
          refine j_iconst (v := (nI 0)) C dX7_ship_57 rfl (by decide) ?_
          obtain rfl := Option.some.inj h
          exact j_iret E dX7_ship_58
    · replace h := if_t h c6_
      refine j_iconst (v := (-1)) C dX7_ship_17 rfl (by decide) ?_
      obtain rfl := Option.some.inj h
      exact j_iret E dX7_ship_18
set_option maxRecDepth 100000 in
theorem c_X7_ship (l : Launch) (D : va_G) (ad : Nat → Nat) (cl : Nat → ClassId) {a1 : Int32} {a2 : Int32} (μ : Mem) (ρ : Int32 × Mem) (h : f_X7_ship a1 a2 μ = some ρ) : CI l D ad cl yX7_ship wsX7_ship rmX7_ship [.ref 0, .int a1, .int a2] μ ρ.1 ρ.2 := c_ofI (cc := cX7_ship) (nL := 5) rfl (by decide) (Nat.le_of_ble_eq_true rfl) (fun Γ C E => w_X7_ship C E μ h)
theorem gvX7_252 : jm_gv RX7 252 RX4 yX4_become wsX4_become 2 1 := ⟨_, _, gi_V gwt4_125 gwt4_126 gwt4_127 gwt1_2 gwt4_128, rfl, by decide +kernel⟩
/-! X7_image -/
def wsX7_image : List Cond := .code yX7_image cX7_image 1 (some .int) :: G0
def rmX7_image : Room := { frames := 4, cells := 0, slots := 0, locals := 89 }
def f_X7_image (μ : Mem) : Option (Int32 × Mem) := Option.bind (f_X4_become 33 1 μ) fun p1_ => zl (sI p1_ 0 2 (nI 1)) fun μ3_ => some ((nI 1), μ3_)
set_option maxHeartbeats 4000000 in
set_option maxRecDepth 100000 in
theorem w_X7_image {Γ : jG} (C : jC Γ 1 cX7_image RX7 rmX7_image) {ρ : Int32 × Mem} (E : jEI Γ cX7_image ρ.1 ρ.2) (μ : Mem) (h : f_X7_image μ = some ρ) : jJ Γ 1 0 [(0, .ref 0)] [] μ := by
  unfold f_X7_image at h
  refine j_aload_n C dX7_image_0 rfl 0 rfl ?_
  refine j_getR (c := 33) C dX7_image_1 rfl lkX7_16 is_0 rfl ?_
  refine j_aload_n C dX7_image_4 rfl 0 rfl ?_
  refine j_getR (c := 1) C dX7_image_5 rfl lkX7_10 is_0 rfl ?_
  replace h := bd_e h
  obtain ⟨p1_, h2_, h⟩ := h
  refine j_cVV (av := [.ref 1]) (rest := []) C dX7_image_8 rfl (c_X4_become _ _ _ _ isT33 isT1 μ p1_ h2_) gvX7_252 ⟨⟨rfl, rfl⟩, Nat.le_of_ble_eq_true rfl, Nat.le_of_ble_eq_true rfl⟩ rfl (isT_0 isT33) rfl rfl (Nat.le_of_ble_eq_true rfl) ?_
  refine j_aload_n C dX7_image_11 rfl 0 rfl ?_
  refine j_iconst (v := (nI 1)) C dX7_image_12 rfl (by decide) ?_
  refine j_putZ C dX7_image_13 rfl lpX7_19 is_0 rfl (by decide) ?_
  refine j_mem (fun μ3_ e4_ => ?_)
  replace h := zl_u h e4_
  refine j_iconst (v := (nI 1)) C dX7_image_16 rfl (by decide) ?_
  obtain rfl := Option.some.inj h
  exact j_iret E dX7_image_17
set_option maxRecDepth 100000 in
theorem c_X7_image (l : Launch) (D : va_G) (ad : Nat → Nat) (cl : Nat → ClassId) (μ : Mem) (ρ : Int32 × Mem) (h : f_X7_image μ = some ρ) : CI l D ad cl yX7_image wsX7_image rmX7_image [.ref 0] μ ρ.1 ρ.2 := c_ofI (cc := cX7_image) (nL := 1) rfl (by decide) (Nat.le_of_ble_eq_true rfl) (fun Γ C E => w_X7_image C E μ h)
/-! X7_restore -/
def wsX7_restore : List Cond := .code yX7_restore cX7_restore 1 (some .int) :: G0
def rmX7_restore : Room := { frames := 4, cells := 0, slots := 0, locals := 89 }
def f_X7_restore (μ : Mem) : Option (Int32 × Mem) := (if (μ.1 0 2) = 0 then some ((-4), μ) else Option.bind (f_X4_become 1 33 μ) fun p2_ => some ((nI 1), p2_))
set_option maxHeartbeats 4000000 in
set_option maxRecDepth 100000 in
theorem w_X7_restore {Γ : jG} (C : jC Γ 1 cX7_restore RX7 rmX7_restore) {ρ : Int32 × Mem} (E : jEI Γ cX7_restore ρ.1 ρ.2) (μ : Mem) (h : f_X7_restore μ = some ρ) : jJ Γ 1 0 [(0, .ref 0)] [] μ := by
  unfold f_X7_restore at h
  refine j_aload_n C dX7_restore_0 rfl 0 rfl ?_
  refine j_getI C dX7_restore_1 rfl lkX7_19 is_0 rfl ?_
  refine j_if_ne (tgt := 10) C dX7_restore_4 rfl (by decide) (fun c1_ => ?_) (fun c1_ => ?_)
  · replace h := if_f h c1_
    refine j_aload_n C dX7_restore_10 rfl 0 rfl ?_
    refine j_getR (c := 1) C dX7_restore_11 rfl lkX7_10 is_0 rfl ?_
    refine j_aload_n C dX7_restore_14 rfl 0 rfl ?_
    refine j_getR (c := 33) C dX7_restore_15 rfl lkX7_16 is_0 rfl ?_
    replace h := bd_e h
    obtain ⟨p2_, h3_, h⟩ := h
    refine j_cVV (av := [.ref 33]) (rest := []) C dX7_restore_18 rfl (c_X4_become _ _ _ _ isT1 isT33 μ p2_ h3_) gvX7_252 ⟨⟨rfl, rfl⟩, Nat.le_of_ble_eq_true rfl, Nat.le_of_ble_eq_true rfl⟩ rfl (isT_0 isT1) rfl rfl (Nat.le_of_ble_eq_true rfl) ?_
    refine j_iconst (v := (nI 1)) C dX7_restore_21 rfl (by decide) ?_
    obtain rfl := Option.some.inj h
    exact j_iret E dX7_restore_22
  · replace h := if_t h c1_
    refine j_bipush (v := (-4)) C dX7_restore_7 rfl (by decide) ?_
    obtain rfl := Option.some.inj h
    exact j_iret E dX7_restore_9
set_option maxRecDepth 100000 in
theorem c_X7_restore (l : Launch) (D : va_G) (ad : Nat → Nat) (cl : Nat → ClassId) (μ : Mem) (ρ : Int32 × Mem) (h : f_X7_restore μ = some ρ) : CI l D ad cl yX7_restore wsX7_restore rmX7_restore [.ref 0] μ ρ.1 ρ.2 := c_ofI (cc := cX7_restore) (nL := 1) rfl (by decide) (Nat.le_of_ble_eq_true rfl) (fun Γ C E => w_X7_restore C E μ h)
theorem gvX7_283 : jm_gv RX7 283 RX3 yX3_hasRow wsX3_hasRow 3 2 := ⟨_, _, gi_V gwt4_148 gwt4_149 gwt4_150 gwt1_8 gwt4_151, rfl, by decide +kernel⟩
/-! X7_refusalOfRow -/
def wsX7_refusalOfRow : List Cond := .code yX7_refusalOfRow cX7_refusalOfRow 5 (some .int) :: G0
def rmX7_refusalOfRow : Room := { frames := 1, cells := 0, slots := 0, locals := 22 }
def f_X7_refusalOfRow (a1 : Int32) (a2 : Int32) (a3 : Int32) (a4 : Int32) (μ : Mem) : Option (Int32 × Mem) := Option.bind (f_X7_within a1 (nI 0) (nI 3) μ) fun p1_ => (if p1_.1 = 0 then some ((-1), p1_.2) else Option.bind (f_X7_within a2 (nI 0) (nI 3) p1_.2) fun p4_ => (if p4_.1 = 0 then some ((-1), p4_.2) else gd (inb a1 4) <| (if (p4_.2.1 (105 + (Int32.toNatClampNeg a1)) 0) = 0 then some ((-11), p4_.2) else (if (p4_.2.1 (105 + (Int32.toNatClampNeg a1)) 1) = a2 then Option.bind (f_X3_hasRow (105 + (Int32.toNatClampNeg a1)) a3 a4 p4_.2) fun p10_ => (if p10_.1 = 0 then some ((-13), p10_.2) else some ((nI 0), p10_.2)) else some ((-12), p4_.2)))))
set_option maxHeartbeats 4000000 in
set_option maxRecDepth 100000 in
theorem w_X7_refusalOfRow {Γ : jG} (C : jC Γ 5 cX7_refusalOfRow RX7 rmX7_refusalOfRow) {a1 : Int32} {a2 : Int32} {a3 : Int32} {a4 : Int32} {ρ : Int32 × Mem} (E : jEI Γ cX7_refusalOfRow ρ.1 ρ.2) (μ : Mem) (h : f_X7_refusalOfRow a1 a2 a3 a4 μ = some ρ) : jJ Γ 5 0 [(0, .ref 0), (1, .int a1), (2, .int a2), (3, .int a3), (4, .int a4)] [] μ := by
  unfold f_X7_refusalOfRow at h
  refine j_iload_n C dX7_refusalOfRow_0 rfl 1 rfl ?_
  refine j_iconst (v := (nI 0)) C dX7_refusalOfRow_1 rfl (by decide) ?_
  refine j_iconst (v := (nI 3)) C dX7_refusalOfRow_2 rfl (by decide) ?_
  replace h := bd_e h
  obtain ⟨p1_, h2_, h⟩ := h
  refine j_cSI (av := [.int a1, .int (nI 0), .int (nI 3)]) (rest := []) C dX7_refusalOfRow_3 rfl (c_X7_within _ _ _ _ μ p1_ h2_) gsX7_54 ⟨⟨rfl, rfl⟩, Nat.le_of_ble_eq_true rfl, Nat.le_of_ble_eq_true rfl⟩ rfl rfl (Nat.le_of_ble_eq_true rfl) ?_
  refine j_if_eq (tgt := 18) C dX7_refusalOfRow_6 rfl (by decide) (fun c3_ => ?_) (fun c3_ => ?_)
  · replace h := if_t h c3_
    refine j_iconst (v := (-1)) C dX7_refusalOfRow_18 rfl (by decide) ?_
    obtain rfl := Option.some.inj h
    exact j_iret E dX7_refusalOfRow_19
  · replace h := if_f h c3_
    refine j_iload_n C dX7_refusalOfRow_9 rfl 2 rfl ?_
    refine j_iconst (v := (nI 0)) C dX7_refusalOfRow_10 rfl (by decide) ?_
    refine j_iconst (v := (nI 3)) C dX7_refusalOfRow_11 rfl (by decide) ?_
    replace h := bd_e h
    obtain ⟨p4_, h5_, h⟩ := h
    refine j_cSI (av := [.int a2, .int (nI 0), .int (nI 3)]) (rest := []) C dX7_refusalOfRow_12 rfl (c_X7_within _ _ _ _ p1_.2 p4_ h5_) gsX7_54 ⟨⟨rfl, rfl⟩, Nat.le_of_ble_eq_true rfl, Nat.le_of_ble_eq_true rfl⟩ rfl rfl (Nat.le_of_ble_eq_true rfl) ?_
    refine j_if_ne (tgt := 20) C dX7_refusalOfRow_15 rfl (by decide) (fun c6_ => ?_) (fun c6_ => ?_)
    · replace h := if_f h c6_
      refine j_aload_n C dX7_refusalOfRow_20 rfl 0 rfl ?_
      refine j_getR (c := 104) C dX7_refusalOfRow_21 rfl lkX7_32 is_0 rfl ?_
      refine j_iload_n C dX7_refusalOfRow_24 rfl 1 rfl ?_
      replace h := gd_e h
      obtain ⟨g7_, h⟩ := h
      refine j_aald C dX7_refusalOfRow_25 rfl (Or.inr rfl) is_104 g7_ ?_
      refine j_getI C dX7_refusalOfRow_26 rfl lkX7_272 (isS_0 (isS_of g7_)) rfl ?_
      refine j_if_ne (tgt := 35) C dX7_refusalOfRow_29 rfl (by decide) (fun c8_ => ?_) (fun c8_ => ?_)
      · replace h := if_f h c8_
        refine j_aload_n C dX7_refusalOfRow_35 rfl 0 rfl ?_
        refine j_getR (c := 104) C dX7_refusalOfRow_36 rfl lkX7_32 is_0 rfl ?_
        refine j_iload_n C dX7_refusalOfRow_39 rfl 1 rfl ?_
        refine j_aald C dX7_refusalOfRow_40 rfl (Or.inr rfl) is_104 g7_ ?_
        refine j_getI C dX7_refusalOfRow_41 rfl lkX7_280 (isS_0 (isS_of g7_)) rfl ?_
        refine j_iload_n C dX7_refusalOfRow_44 rfl 2 rfl ?_
        refine j_icmp_eq (tgt := 51) C dX7_refusalOfRow_45 rfl (by decide) (fun c9_ => ?_) (fun c9_ => ?_)
        · replace h := if_t h c9_
          refine j_aload_n C dX7_refusalOfRow_51 rfl 0 rfl ?_
          refine j_getR (c := 104) C dX7_refusalOfRow_52 rfl lkX7_32 is_0 rfl ?_
          refine j_iload_n C dX7_refusalOfRow_55 rfl 1 rfl ?_
          refine j_aald C dX7_refusalOfRow_56 rfl (Or.inr rfl) is_104 g7_ ?_
          refine j_iload_n C dX7_refusalOfRow_57 rfl 3 rfl ?_
          refine j_iload C dX7_refusalOfRow_58 rfl 4 rfl ?_
          replace h := bd_e h
          obtain ⟨p10_, h11_, h⟩ := h
          refine j_cVI (av := [.int a3, .int a4]) (rest := []) C dX7_refusalOfRow_60 rfl (c_X3_hasRow _ _ _ _ (isS_of g7_) p4_.2 p10_ h11_) gvX7_283 ⟨⟨rfl, rfl⟩, Nat.le_of_ble_eq_true rfl, Nat.le_of_ble_eq_true rfl⟩ rfl (isS_0 (isS_of g7_)) rfl rfl (Nat.le_of_ble_eq_true rfl) ?_
          refine j_if_eq (tgt := 70) C dX7_refusalOfRow_63 rfl (by decide) (fun c12_ => ?_) (fun c12_ => ?_)
          · replace h := if_t h c12_
            refine j_bipush (v := (-13)) C dX7_refusalOfRow_70 rfl (by decide) ?_
            obtain rfl := Option.some.inj h
            exact j_iret E dX7_refusalOfRow_72
          · replace h := if_f h c12_
            refine j_iconst (v := (nI 0)) C dX7_refusalOfRow_66 rfl (by decide) ?_
            refine j_goto (pc' := 72) C dX7_refusalOfRow_67 (by decide) ?_
            obtain rfl := Option.some.inj h
            exact j_iret E dX7_refusalOfRow_72
        · replace h := if_f h c9_
          refine j_bipush (v := (-12)) C dX7_refusalOfRow_48 rfl (by decide) ?_
          obtain rfl := Option.some.inj h
          exact j_iret E dX7_refusalOfRow_50
      · replace h := if_t h c8_
        refine j_bipush (v := (-11)) C dX7_refusalOfRow_32 rfl (by decide) ?_
        obtain rfl := Option.some.inj h
        exact j_iret E dX7_refusalOfRow_34
    · replace h := if_t h c6_
      refine j_iconst (v := (-1)) C dX7_refusalOfRow_18 rfl (by decide) ?_
      obtain rfl := Option.some.inj h
      exact j_iret E dX7_refusalOfRow_19
set_option maxRecDepth 100000 in
theorem c_X7_refusalOfRow (l : Launch) (D : va_G) (ad : Nat → Nat) (cl : Nat → ClassId) {a1 : Int32} {a2 : Int32} {a3 : Int32} {a4 : Int32} (μ : Mem) (ρ : Int32 × Mem) (h : f_X7_refusalOfRow a1 a2 a3 a4 μ = some ρ) : CI l D ad cl yX7_refusalOfRow wsX7_refusalOfRow rmX7_refusalOfRow [.ref 0, .int a1, .int a2, .int a3, .int a4] μ ρ.1 ρ.2 := c_ofI (cc := cX7_refusalOfRow) (nL := 5) rfl (by decide) (Nat.le_of_ble_eq_true rfl) (fun Γ C E => w_X7_refusalOfRow C E μ h)
