/-! X8_spare -/
def wsX8_spare : List Cond := .code yX8_spare cX8_spare 5 (some .int) :: G0
def rmX8_spare : Room := { frames := 5, cells := 0, slots := 0, locals := 127 }
def f_X8_spare_248 (kb70 : Int32 → Int32 → Mem → Option (Int32 × Mem)) (x2 : Int32) (t0 : Int32) (t1 : Int32) (μ : Mem) : Option (Int32 × Mem) := zl (t0 ||| t1) fun x1_ => kb70 x1_ (x2 + (nI 1)) μ
set_option maxHeartbeats 4000000 in
set_option maxRecDepth 100000 in
theorem w_X8_spare_248 {Γ : jG} (C : jC Γ 5 cX8_spare RX8 rmX8_spare) {kb70 : Int32 → Int32 → Mem → Option (Int32 × Mem)} {ρ : Int32 × Mem} (E : jEI Γ cX8_spare ρ.1 ρ.2) (Hkb70 : ∀ (x1 : Int32) (x2 : Int32) (μ : Mem), kb70 x1 x2 μ = some ρ → jJ Γ 5 70 [(0, .ref 113), (1, .int x1), (2, .int x2)] [] μ) (x2 : Int32) (t0 : Int32) (t1 : Int32) (μ : Mem) (h : f_X8_spare_248 kb70 x2 t0 t1 μ = some ρ) : jJ Γ 5 248 [(0, .ref 113), (2, .int x2)] [.int t1, .int t0] μ := by
  unfold f_X8_spare_248 at h
  refine j_ior C dX8_spare_248 rfl ?_
  refine j_topi (fun x1_ e2_ => ?_)
  replace h := zl_u h e2_
  refine j_istore_n (lv' := [(1, .int x1_), (0, .ref 113), (2, .int x2)]) C dX8_spare_249 rfl (by decide) rfl ?_
  refine j_iinc (d := (nI 1)) (v := x2 + (nI 1)) (lv' := [(2, .int (x2 + (nI 1))), (1, .int x1_), (0, .ref 113)]) C dX8_spare_250 rfl (by decide) 2 rfl (by decide) rfl rfl ?_
  refine j_goto (pc' := 70) C dX8_spare_253 (by decide) ?_
  refine j_lv [2, 1, 0] rfl ?_
  exact (Hkb70) x1_ (x2 + (nI 1)) μ h
def f_X8_spare_236 (kb70 : Int32 → Int32 → Mem → Option (Int32 × Mem)) (x1 : Int32) (x2 : Int32) (x3 : Int32) (μ : Mem) : Option (Int32 × Mem) := (if x3 = 0 then f_X8_spare_248 kb70 x2 x1 (nI 0) μ else f_X8_spare_248 kb70 x2 x1 ((nI 1) <<< (x2 &&& 31)) μ)
set_option maxHeartbeats 4000000 in
set_option maxRecDepth 100000 in
theorem w_X8_spare_236 {Γ : jG} (C : jC Γ 5 cX8_spare RX8 rmX8_spare) {kb70 : Int32 → Int32 → Mem → Option (Int32 × Mem)} {ρ : Int32 × Mem} (E : jEI Γ cX8_spare ρ.1 ρ.2) (Hkb70 : ∀ (x1 : Int32) (x2 : Int32) (μ : Mem), kb70 x1 x2 μ = some ρ → jJ Γ 5 70 [(0, .ref 113), (1, .int x1), (2, .int x2)] [] μ) (x1 : Int32) (x2 : Int32) (x3 : Int32) (μ : Mem) (h : f_X8_spare_236 kb70 x1 x2 x3 μ = some ρ) : jJ Γ 5 236 [(0, .ref 113), (1, .int x1), (2, .int x2), (3, .int x3)] [] μ := by
  unfold f_X8_spare_236 at h
  refine j_iload_n C dX8_spare_236 rfl 1 rfl ?_
  refine j_iload_n C dX8_spare_237 rfl 3 rfl ?_
  refine j_if_eq (tgt := 247) C dX8_spare_238 rfl (by decide) (fun c1_ => ?_) (fun c1_ => ?_)
  · replace h := if_t h c1_
    refine j_iconst (v := (nI 0)) C dX8_spare_247 rfl (by decide) ?_
    refine j_lv [0, 2] rfl ?_
    exact w_X8_spare_248 C E Hkb70 x2 x1 (nI 0) μ h
  · replace h := if_f h c1_
    refine j_iconst (v := (nI 1)) C dX8_spare_241 rfl (by decide) ?_
    refine j_iload_n C dX8_spare_242 rfl 2 rfl ?_
    refine j_ishl C dX8_spare_243 rfl ?_
    refine j_goto (pc' := 248) C dX8_spare_244 (by decide) ?_
    refine j_lv [0, 2] rfl ?_
    exact w_X8_spare_248 C E Hkb70 x2 x1 ((nI 1) <<< (x2 &&& 31)) μ h
def f_X8_spare_229 (kb154 : Int32 → Int32 → Int32 → Int32 → Mem → Option (Int32 × Mem)) (kx236 : Int32 → Int32 → Int32 → Mem → Option (Int32 × Mem)) (x1 : Int32) (x2 : Int32) (x4 : Int32) (t0 : Int32) (μ : Mem) : Option (Int32 × Mem) := kb154 x1 x2 t0 (x4 + (nI 1)) μ
set_option maxHeartbeats 4000000 in
set_option maxRecDepth 100000 in
theorem w_X8_spare_229 {Γ : jG} (C : jC Γ 5 cX8_spare RX8 rmX8_spare) {kb154 : Int32 → Int32 → Int32 → Int32 → Mem → Option (Int32 × Mem)} {kx236 : Int32 → Int32 → Int32 → Mem → Option (Int32 × Mem)} {ρ : Int32 × Mem} (E : jEI Γ cX8_spare ρ.1 ρ.2) (Hkb154 : ∀ (x1 : Int32) (x2 : Int32) (x3 : Int32) (x4 : Int32) (μ : Mem), kb154 x1 x2 x3 x4 μ = some ρ → jJ Γ 5 154 [(0, .ref 113), (1, .int x1), (2, .int x2), (3, .int x3), (4, .int x4)] [] μ) (Hkx236 : ∀ (x1 : Int32) (x2 : Int32) (x3 : Int32) (μ : Mem), kx236 x1 x2 x3 μ = some ρ → jJ Γ 5 236 [(0, .ref 113), (1, .int x1), (2, .int x2), (3, .int x3)] [] μ) (x1 : Int32) (x2 : Int32) (x4 : Int32) (t0 : Int32) (μ : Mem) (h : f_X8_spare_229 kb154 kx236 x1 x2 x4 t0 μ = some ρ) : jJ Γ 5 229 [(0, .ref 113), (1, .int x1), (2, .int x2), (4, .int x4)] [.int t0] μ := by
  unfold f_X8_spare_229 at h
  refine j_istore_n (lv' := [(3, .int t0), (0, .ref 113), (1, .int x1), (2, .int x2), (4, .int x4)]) C dX8_spare_229 rfl (by decide) rfl ?_
  refine j_iinc (d := (nI 1)) (v := x4 + (nI 1)) (lv' := [(4, .int (x4 + (nI 1))), (3, .int t0), (0, .ref 113), (1, .int x1), (2, .int x2)]) C dX8_spare_230 rfl (by decide) 4 rfl (by decide) rfl rfl ?_
  refine j_goto (pc' := 154) C dX8_spare_233 (by decide) ?_
  refine j_lv [2, 3, 4, 1, 0] rfl ?_
  exact (Hkb154) x1 x2 t0 (x4 + (nI 1)) μ h
def f_X8_spare_228 (kb154 : Int32 → Int32 → Int32 → Int32 → Mem → Option (Int32 × Mem)) (kx236 : Int32 → Int32 → Int32 → Mem → Option (Int32 × Mem)) (x1 : Int32) (x2 : Int32) (x4 : Int32) (μ : Mem) : Option (Int32 × Mem) := f_X8_spare_229 kb154 kx236 x1 x2 x4 (nI 0) μ
set_option maxHeartbeats 4000000 in
set_option maxRecDepth 100000 in
theorem w_X8_spare_228 {Γ : jG} (C : jC Γ 5 cX8_spare RX8 rmX8_spare) {kb154 : Int32 → Int32 → Int32 → Int32 → Mem → Option (Int32 × Mem)} {kx236 : Int32 → Int32 → Int32 → Mem → Option (Int32 × Mem)} {ρ : Int32 × Mem} (E : jEI Γ cX8_spare ρ.1 ρ.2) (Hkb154 : ∀ (x1 : Int32) (x2 : Int32) (x3 : Int32) (x4 : Int32) (μ : Mem), kb154 x1 x2 x3 x4 μ = some ρ → jJ Γ 5 154 [(0, .ref 113), (1, .int x1), (2, .int x2), (3, .int x3), (4, .int x4)] [] μ) (Hkx236 : ∀ (x1 : Int32) (x2 : Int32) (x3 : Int32) (μ : Mem), kx236 x1 x2 x3 μ = some ρ → jJ Γ 5 236 [(0, .ref 113), (1, .int x1), (2, .int x2), (3, .int x3)] [] μ) (x1 : Int32) (x2 : Int32) (x4 : Int32) (μ : Mem) (h : f_X8_spare_228 kb154 kx236 x1 x2 x4 μ = some ρ) : jJ Γ 5 228 [(0, .ref 113), (1, .int x1), (2, .int x2), (4, .int x4)] [] μ := by
  unfold f_X8_spare_228 at h
  refine j_iconst (v := (nI 0)) C dX8_spare_228 rfl (by decide) ?_
  refine j_lv [0, 1, 2, 3] rfl ?_
  exact w_X8_spare_229 C E Hkb154 Hkx236 x1 x2 x4 (nI 0) μ h
def f_X8_spare_224 (kb154 : Int32 → Int32 → Int32 → Int32 → Mem → Option (Int32 × Mem)) (kx236 : Int32 → Int32 → Int32 → Mem → Option (Int32 × Mem)) (x1 : Int32) (x2 : Int32) (x4 : Int32) (μ : Mem) : Option (Int32 × Mem) := f_X8_spare_229 kb154 kx236 x1 x2 x4 (nI 1) μ
set_option maxHeartbeats 4000000 in
set_option maxRecDepth 100000 in
theorem w_X8_spare_224 {Γ : jG} (C : jC Γ 5 cX8_spare RX8 rmX8_spare) {kb154 : Int32 → Int32 → Int32 → Int32 → Mem → Option (Int32 × Mem)} {kx236 : Int32 → Int32 → Int32 → Mem → Option (Int32 × Mem)} {ρ : Int32 × Mem} (E : jEI Γ cX8_spare ρ.1 ρ.2) (Hkb154 : ∀ (x1 : Int32) (x2 : Int32) (x3 : Int32) (x4 : Int32) (μ : Mem), kb154 x1 x2 x3 x4 μ = some ρ → jJ Γ 5 154 [(0, .ref 113), (1, .int x1), (2, .int x2), (3, .int x3), (4, .int x4)] [] μ) (Hkx236 : ∀ (x1 : Int32) (x2 : Int32) (x3 : Int32) (μ : Mem), kx236 x1 x2 x3 μ = some ρ → jJ Γ 5 236 [(0, .ref 113), (1, .int x1), (2, .int x2), (3, .int x3)] [] μ) (x1 : Int32) (x2 : Int32) (x4 : Int32) (μ : Mem) (h : f_X8_spare_224 kb154 kx236 x1 x2 x4 μ = some ρ) : jJ Γ 5 224 [(0, .ref 113), (1, .int x1), (2, .int x2), (4, .int x4)] [] μ := by
  unfold f_X8_spare_224 at h
  refine j_iconst (v := (nI 1)) C dX8_spare_224 rfl (by decide) ?_
  refine j_goto (pc' := 229) C dX8_spare_225 (by decide) ?_
  refine j_lv [0, 1, 2, 3] rfl ?_
  exact w_X8_spare_229 C E Hkb154 Hkx236 x1 x2 x4 (nI 1) μ h
def f_X8_spare_154 (kx236 : Int32 → Int32 → Int32 → Mem → Option (Int32 × Mem)) : Nat → Int32 → Int32 → Int32 → Int32 → Mem → Option (Int32 × Mem)
  | 0, _, _, _, _, _ => none
  | n + 1, x1, x2, x3, x4, μ => gd (inb (nI 0) 1829) <| (if (μ.1 114 (Int32.toNatClampNeg (nI 0))) ≤ x4 then kx236 x1 x2 x3 μ else (if x3 = 0 then f_X8_spare_228 (fun x1 x2 x3 x4 μ => f_X8_spare_154 kx236 n x1 x2 x3 x4 μ) kx236 x1 x2 x4 μ else Option.bind (f_X8_isTrue 114 x4 μ) fun p4_ => (if p4_.1 = 0 then f_X8_spare_224 (fun x1 x2 x3 x4 μ => f_X8_spare_154 kx236 n x1 x2 x3 x4 μ) kx236 x1 x2 x4 p4_.2 else gd (inb x4 9) <| gd (inb (((nI 6) + ((nI 6) * x4)) + (nI 2)) 1829) <| gd (inb (((nI 6) + ((nI 6) * x4)) + (nI 1)) 1829) <| (if (p4_.2.1 123 (Int32.toNatClampNeg x4)) = (((nI 3) * (p4_.2.1 116 (Int32.toNatClampNeg (((nI 6) + ((nI 6) * x4)) + (nI 2))))) + (p4_.2.1 116 (Int32.toNatClampNeg (((nI 6) + ((nI 6) * x4)) + (nI 1))))) then f_X8_spare_224 (fun x1 x2 x3 x4 μ => f_X8_spare_154 kx236 n x1 x2 x3 x4 μ) kx236 x1 x2 x4 p4_.2 else f_X8_spare_228 (fun x1 x2 x3 x4 μ => f_X8_spare_154 kx236 n x1 x2 x3 x4 μ) kx236 x1 x2 x4 p4_.2))))
set_option maxHeartbeats 4000000 in
set_option maxRecDepth 100000 in
theorem w_X8_spare_154 {Γ : jG} (C : jC Γ 5 cX8_spare RX8 rmX8_spare) {kx236 : Int32 → Int32 → Int32 → Mem → Option (Int32 × Mem)} {ρ : Int32 × Mem} (E : jEI Γ cX8_spare ρ.1 ρ.2) (Hkx236 : ∀ (x1 : Int32) (x2 : Int32) (x3 : Int32) (μ : Mem), kx236 x1 x2 x3 μ = some ρ → jJ Γ 5 236 [(0, .ref 113), (1, .int x1), (2, .int x2), (3, .int x3)] [] μ) : ∀ (n : Nat) (x1 : Int32) (x2 : Int32) (x3 : Int32) (x4 : Int32) (μ : Mem), f_X8_spare_154 kx236 n x1 x2 x3 x4 μ = some ρ → jJ Γ 5 154 [(0, .ref 113), (1, .int x1), (2, .int x2), (3, .int x3), (4, .int x4)] [] μ := by
  intro n
  induction n with
  | zero => intro x1 x2 x3 x4 μ h; rw [f_X8_spare_154] at h; cases h
  | succ n ih =>
    intro x1 x2 x3 x4 μ h
    rw [f_X8_spare_154] at h
    refine j_iload C dX8_spare_154 rfl 4 rfl ?_
    refine j_aload_n C dX8_spare_156 rfl 0 rfl ?_
    refine j_getR (c := 114) C dX8_spare_157 rfl lkX8_7 is_113 rfl ?_
    refine j_iconst (v := (nI 0)) C dX8_spare_160 rfl (by decide) ?_
    replace h := gd_e h
    obtain ⟨g1_, h⟩ := h
    refine j_iald C dX8_spare_161 rfl is_114 g1_ ?_
    refine j_icmp_ge (tgt := 236) C dX8_spare_162 rfl (by decide) (fun c2_ => ?_) (fun c2_ => ?_)
    · replace h := if_t h c2_
      refine j_lv [0, 1, 2, 3] rfl ?_
      exact (Hkx236) x1 x2 x3 μ h
    · replace h := if_f h c2_
      refine j_iload_n C dX8_spare_165 rfl 3 rfl ?_
      refine j_if_eq (tgt := 228) C dX8_spare_166 rfl (by decide) (fun c3_ => ?_) (fun c3_ => ?_)
      · replace h := if_t h c3_
        refine j_lv [0, 1, 2, 4] rfl ?_
        exact w_X8_spare_228 C E ih Hkx236 x1 x2 x4 μ h
      · replace h := if_f h c3_
        refine j_aload_n C dX8_spare_169 rfl 0 rfl ?_
        refine j_getR (c := 114) C dX8_spare_170 rfl lkX8_7 is_113 rfl ?_
        refine j_iload C dX8_spare_173 rfl 4 rfl ?_
        replace h := bd_e h
        obtain ⟨p4_, h5_, h⟩ := h
        refine j_cSI (av := [.ref 114, .int x4]) (rest := []) C dX8_spare_175 rfl (c_X8_isTrue _ _ _ _ isRow114 μ p4_ h5_) gsX8_81 ⟨⟨rfl, rfl⟩, Nat.le_of_ble_eq_true rfl, Nat.le_of_ble_eq_true rfl⟩ rfl rfl (Nat.le_of_ble_eq_true rfl) ?_
        refine j_if_eq (tgt := 224) C dX8_spare_178 rfl (by decide) (fun c6_ => ?_) (fun c6_ => ?_)
        · replace h := if_t h c6_
          refine j_lv [0, 1, 2, 4] rfl ?_
          exact w_X8_spare_224 C E ih Hkx236 x1 x2 x4 p4_.2 h
        · replace h := if_f h c6_
          refine j_aload_n C dX8_spare_181 rfl 0 rfl ?_
          refine j_getR (c := 123) C dX8_spare_182 rfl lkX8_42 is_113 rfl ?_
          refine j_iload C dX8_spare_185 rfl 4 rfl ?_
          replace h := gd_e h
          obtain ⟨g7_, h⟩ := h
          refine j_iald C dX8_spare_187 rfl is_123 g7_ ?_
          refine j_iconst (v := (nI 3)) C dX8_spare_188 rfl (by decide) ?_
          refine j_aload_n C dX8_spare_189 rfl 0 rfl ?_
          refine j_getR (c := 116) C dX8_spare_190 rfl lkX8_16 is_113 rfl ?_
          refine j_bipush (v := (nI 6)) C dX8_spare_193 rfl (by decide) ?_
          refine j_bipush (v := (nI 6)) C dX8_spare_195 rfl (by decide) ?_
          refine j_iload C dX8_spare_197 rfl 4 rfl ?_
          refine j_imul C dX8_spare_199 rfl ?_
          refine j_iadd C dX8_spare_200 rfl ?_
          refine j_iconst (v := (nI 2)) C dX8_spare_201 rfl (by decide) ?_
          refine j_iadd C dX8_spare_202 rfl ?_
          replace h := gd_e h
          obtain ⟨g8_, h⟩ := h
          refine j_iald C dX8_spare_203 rfl is_116 g8_ ?_
          refine j_imul C dX8_spare_204 rfl ?_
          refine j_aload_n C dX8_spare_205 rfl 0 rfl ?_
          refine j_getR (c := 116) C dX8_spare_206 rfl lkX8_16 is_113 rfl ?_
          refine j_bipush (v := (nI 6)) C dX8_spare_209 rfl (by decide) ?_
          refine j_bipush (v := (nI 6)) C dX8_spare_211 rfl (by decide) ?_
          refine j_iload C dX8_spare_213 rfl 4 rfl ?_
          refine j_imul C dX8_spare_215 rfl ?_
          refine j_iadd C dX8_spare_216 rfl ?_
          refine j_iconst (v := (nI 1)) C dX8_spare_217 rfl (by decide) ?_
          refine j_iadd C dX8_spare_218 rfl ?_
          replace h := gd_e h
          obtain ⟨g9_, h⟩ := h
          refine j_iald C dX8_spare_219 rfl is_116 g9_ ?_
          refine j_iadd C dX8_spare_220 rfl ?_
          refine j_icmp_ne (tgt := 228) C dX8_spare_221 rfl (by decide) (fun c10_ => ?_) (fun c10_ => ?_)
          · replace h := if_f h c10_
            refine j_lv [0, 1, 2, 4] rfl ?_
            exact w_X8_spare_228 C E ih Hkx236 x1 x2 x4 p4_.2 h
          · replace h := if_t h c10_
            refine j_lv [0, 1, 2, 4] rfl ?_
            exact w_X8_spare_224 C E ih Hkx236 x1 x2 x4 p4_.2 h
def f_X8_spare_129 (kb70 : Int32 → Int32 → Mem → Option (Int32 × Mem)) (x1 : Int32) (x2 : Int32) (μ : Mem) : Option (Int32 × Mem) := gd (inb (nI 3) 1829) <| zl (sI μ 115 (Int32.toNatClampNeg (nI 3)) ((μ.1 115 (Int32.toNatClampNeg (nI 3))) - (nI 1))) fun μ2_ => Option.bind (f_X8_tries 115 (nI 60) μ2_) fun p4_ => f_X8_spare_154 (fun x1 x2 x3 μ => f_X8_spare_236 kb70 x1 x2 x3 μ) zfu x1 x2 (nI 1) (nI 0) p4_
set_option maxHeartbeats 4000000 in
set_option maxRecDepth 100000 in
theorem w_X8_spare_129 {Γ : jG} (C : jC Γ 5 cX8_spare RX8 rmX8_spare) {kb70 : Int32 → Int32 → Mem → Option (Int32 × Mem)} {ρ : Int32 × Mem} (E : jEI Γ cX8_spare ρ.1 ρ.2) (Hkb70 : ∀ (x1 : Int32) (x2 : Int32) (μ : Mem), kb70 x1 x2 μ = some ρ → jJ Γ 5 70 [(0, .ref 113), (1, .int x1), (2, .int x2)] [] μ) (x1 : Int32) (x2 : Int32) (μ : Mem) (h : f_X8_spare_129 kb70 x1 x2 μ = some ρ) : jJ Γ 5 129 [(0, .ref 113), (1, .int x1), (2, .int x2)] [] μ := by
  unfold f_X8_spare_129 at h
  refine j_aload_n C dX8_spare_129 rfl 0 rfl ?_
  refine j_getR (c := 115) C dX8_spare_130 rfl lkX8_13 is_113 rfl ?_
  refine j_iconst (v := (nI 3)) C dX8_spare_133 rfl (by decide) ?_
  refine j_dup2 C dX8_spare_134 rfl rfl rfl ?_
  replace h := gd_e h
  obtain ⟨g1_, h⟩ := h
  refine j_iald C dX8_spare_135 rfl is_115 g1_ ?_
  refine j_iconst (v := (nI 1)) C dX8_spare_136 rfl (by decide) ?_
  refine j_isub C dX8_spare_137 rfl ?_
  refine j_iast C dX8_spare_138 rfl is_115 g1_ ?_
  refine j_mem (fun μ2_ e3_ => ?_)
  replace h := zl_u h e3_
  refine j_aload_n C dX8_spare_139 rfl 0 rfl ?_
  refine j_aload_n C dX8_spare_140 rfl 0 rfl ?_
  refine j_getR (c := 115) C dX8_spare_141 rfl lkX8_13 is_113 rfl ?_
  refine j_bipush (v := (nI 60)) C dX8_spare_144 rfl (by decide) ?_
  replace h := bd_e h
  obtain ⟨p4_, h5_, h⟩ := h
  refine j_cVV (av := [.ref 115, .int (nI 60)]) (rest := []) C dX8_spare_146 rfl (c_X8_tries _ _ _ _ isRow115 μ2_ p4_ h5_) gvX8_200 ⟨⟨rfl, rfl⟩, Nat.le_of_ble_eq_true rfl, Nat.le_of_ble_eq_true rfl⟩ rfl is_113 rfl rfl (Nat.le_of_ble_eq_true rfl) ?_
  refine j_iconst (v := (nI 1)) C dX8_spare_149 rfl (by decide) ?_
  refine j_istore_n (lv' := [(3, .int (nI 1)), (0, .ref 113), (1, .int x1), (2, .int x2)]) C dX8_spare_150 rfl (by decide) rfl ?_
  refine j_iconst (v := (nI 0)) C dX8_spare_151 rfl (by decide) ?_
  refine j_istore (lv' := [(4, .int (nI 0)), (3, .int (nI 1)), (0, .ref 113), (1, .int x1), (2, .int x2)]) C dX8_spare_152 rfl (by decide) rfl ?_
  refine j_lv [2, 3, 4, 1, 0] rfl ?_
  exact w_X8_spare_154 C E (fun x1 x2 x3 μ h => w_X8_spare_236 C E Hkb70 x1 x2 x3 μ h) zfu x1 x2 (nI 1) (nI 0) p4_ h
def f_X8_spare_95 (kx129 : Int32 → Int32 → Mem → Option (Int32 × Mem)) : Nat → Int32 → Int32 → Int32 → Mem → Option (Int32 × Mem)
  | 0, _, _, _, _ => none
  | n + 1, x1, x2, x3, μ => (if (nI 28) ≤ x3 then kx129 x1 x2 μ else gd (inb (((nI 1761) + x3) + (nI 4)) 1829) <| gd (inb ((nI 1761) + x3) 1829) <| zl (sI μ 115 (Int32.toNatClampNeg ((nI 1761) + x3)) (μ.1 115 (Int32.toNatClampNeg (((nI 1761) + x3) + (nI 4))))) fun μ4_ => f_X8_spare_95 kx129 n x1 x2 (x3 + (nI 1)) μ4_)
set_option maxHeartbeats 4000000 in
set_option maxRecDepth 100000 in
theorem w_X8_spare_95 {Γ : jG} (C : jC Γ 5 cX8_spare RX8 rmX8_spare) {kx129 : Int32 → Int32 → Mem → Option (Int32 × Mem)} {ρ : Int32 × Mem} (E : jEI Γ cX8_spare ρ.1 ρ.2) (Hkx129 : ∀ (x1 : Int32) (x2 : Int32) (μ : Mem), kx129 x1 x2 μ = some ρ → jJ Γ 5 129 [(0, .ref 113), (1, .int x1), (2, .int x2)] [] μ) : ∀ (n : Nat) (x1 : Int32) (x2 : Int32) (x3 : Int32) (μ : Mem), f_X8_spare_95 kx129 n x1 x2 x3 μ = some ρ → jJ Γ 5 95 [(0, .ref 113), (1, .int x1), (2, .int x2), (3, .int x3)] [] μ := by
  intro n
  induction n with
  | zero => intro x1 x2 x3 μ h; rw [f_X8_spare_95] at h; cases h
  | succ n ih =>
    intro x1 x2 x3 μ h
    rw [f_X8_spare_95] at h
    refine j_iload_n C dX8_spare_95 rfl 3 rfl ?_
    refine j_bipush (v := (nI 28)) C dX8_spare_96 rfl (by decide) ?_
    refine j_icmp_ge (tgt := 129) C dX8_spare_98 rfl (by decide) (fun c1_ => ?_) (fun c1_ => ?_)
    · replace h := if_t h c1_
      refine j_lv [0, 1, 2] rfl ?_
      exact (Hkx129) x1 x2 μ h
    · replace h := if_f h c1_
      refine j_aload_n C dX8_spare_101 rfl 0 rfl ?_
      refine j_getR (c := 115) C dX8_spare_102 rfl lkX8_13 is_113 rfl ?_
      refine j_sipush (v := (nI 1761)) C dX8_spare_105 rfl (by decide) ?_
      refine j_iload_n C dX8_spare_108 rfl 3 rfl ?_
      refine j_iadd C dX8_spare_109 rfl ?_
      refine j_aload_n C dX8_spare_110 rfl 0 rfl ?_
      refine j_getR (c := 115) C dX8_spare_111 rfl lkX8_13 is_113 rfl ?_
      refine j_sipush (v := (nI 1761)) C dX8_spare_114 rfl (by decide) ?_
      refine j_iload_n C dX8_spare_117 rfl 3 rfl ?_
      refine j_iadd C dX8_spare_118 rfl ?_
      refine j_iconst (v := (nI 4)) C dX8_spare_119 rfl (by decide) ?_
      refine j_iadd C dX8_spare_120 rfl ?_
      replace h := gd_e h
      obtain ⟨g2_, h⟩ := h
      refine j_iald C dX8_spare_121 rfl is_115 g2_ ?_
      replace h := gd_e h
      obtain ⟨g3_, h⟩ := h
      refine j_iast C dX8_spare_122 rfl is_115 g3_ ?_
      refine j_mem (fun μ4_ e5_ => ?_)
      replace h := zl_u h e5_
      refine j_iinc (d := (nI 1)) (v := x3 + (nI 1)) (lv' := [(3, .int (x3 + (nI 1))), (0, .ref 113), (1, .int x1), (2, .int x2)]) C dX8_spare_123 rfl (by decide) 3 rfl (by decide) rfl rfl ?_
      refine j_goto (pc' := 95) C dX8_spare_126 (by decide) ?_
      refine j_lv [1, 2, 3, 0] rfl ?_
      exact (ih) x1 x2 (x3 + (nI 1)) μ4_ h
def f_X8_spare_70 : Nat → Int32 → Int32 → Mem → Option (Int32 × Mem)
  | 0, _, _, _ => none
  | n + 1, x1, x2, μ => gd (inb (nI 3) 1829) <| (if (μ.1 114 (Int32.toNatClampNeg (nI 3))) ≤ x2 then some (x1, μ) else Option.bind (f_X8_copies 114 115 μ) fun p3_ => zl ((nI 4) * x2) fun x5_ => f_X8_spare_95 (fun x1 x2 μ => f_X8_spare_129 (fun x1 x2 μ => f_X8_spare_70 n x1 x2 μ) x1 x2 μ) zfu x1 x2 x5_ p3_)
set_option maxHeartbeats 4000000 in
set_option maxRecDepth 100000 in
theorem w_X8_spare_70 {Γ : jG} (C : jC Γ 5 cX8_spare RX8 rmX8_spare) {ρ : Int32 × Mem} (E : jEI Γ cX8_spare ρ.1 ρ.2) : ∀ (n : Nat) (x1 : Int32) (x2 : Int32) (μ : Mem), f_X8_spare_70 n x1 x2 μ = some ρ → jJ Γ 5 70 [(0, .ref 113), (1, .int x1), (2, .int x2)] [] μ := by
  intro n
  induction n with
  | zero => intro x1 x2 μ h; rw [f_X8_spare_70] at h; cases h
  | succ n ih =>
    intro x1 x2 μ h
    rw [f_X8_spare_70] at h
    refine j_iload_n C dX8_spare_70 rfl 2 rfl ?_
    refine j_aload_n C dX8_spare_71 rfl 0 rfl ?_
    refine j_getR (c := 114) C dX8_spare_72 rfl lkX8_7 is_113 rfl ?_
    refine j_iconst (v := (nI 3)) C dX8_spare_75 rfl (by decide) ?_
    replace h := gd_e h
    obtain ⟨g1_, h⟩ := h
    refine j_iald C dX8_spare_76 rfl is_114 g1_ ?_
    refine j_icmp_ge (tgt := 256) C dX8_spare_77 rfl (by decide) (fun c2_ => ?_) (fun c2_ => ?_)
    · replace h := if_t h c2_
      refine j_iload_n C dX8_spare_256 rfl 1 rfl ?_
      obtain rfl := Option.some.inj h
      exact j_iret E dX8_spare_257
    · replace h := if_f h c2_
      refine j_aload_n C dX8_spare_80 rfl 0 rfl ?_
      refine j_getR (c := 114) C dX8_spare_81 rfl lkX8_7 is_113 rfl ?_
      refine j_aload_n C dX8_spare_84 rfl 0 rfl ?_
      refine j_getR (c := 115) C dX8_spare_85 rfl lkX8_13 is_113 rfl ?_
      replace h := bd_e h
      obtain ⟨p3_, h4_, h⟩ := h
      refine j_cSV (av := [.ref 114, .ref 115]) (rest := []) C dX8_spare_88 rfl (c_X8_copies _ _ _ _ isRow114 isRow115 μ p3_ h4_) gsX8_196 ⟨⟨rfl, rfl⟩, Nat.le_of_ble_eq_true rfl, Nat.le_of_ble_eq_true rfl⟩ rfl rfl (Nat.le_of_ble_eq_true rfl) ?_
      refine j_iconst (v := (nI 4)) C dX8_spare_91 rfl (by decide) ?_
      refine j_iload_n C dX8_spare_92 rfl 2 rfl ?_
      refine j_imul C dX8_spare_93 rfl ?_
      refine j_topi (fun x5_ e6_ => ?_)
      replace h := zl_u h e6_
      refine j_istore_n (lv' := [(3, .int x5_), (0, .ref 113), (1, .int x1), (2, .int x2)]) C dX8_spare_94 rfl (by decide) rfl ?_
      refine j_lv [1, 2, 3, 0] rfl ?_
      exact w_X8_spare_95 C E (fun x1 x2 μ h => w_X8_spare_129 C E ih x1 x2 μ h) zfu x1 x2 x5_ p3_ h
def f_X8_spare_68 (x1 : Int32) (μ : Mem) : Option (Int32 × Mem) := f_X8_spare_70 zfu x1 (nI 0) μ
set_option maxHeartbeats 4000000 in
set_option maxRecDepth 100000 in
theorem w_X8_spare_68 {Γ : jG} (C : jC Γ 5 cX8_spare RX8 rmX8_spare) {ρ : Int32 × Mem} (E : jEI Γ cX8_spare ρ.1 ρ.2) (x1 : Int32) (μ : Mem) (h : f_X8_spare_68 x1 μ = some ρ) : jJ Γ 5 68 [(0, .ref 113), (1, .int x1)] [] μ := by
  unfold f_X8_spare_68 at h
  refine j_iconst (v := (nI 0)) C dX8_spare_68 rfl (by decide) ?_
  refine j_istore_n (lv' := [(2, .int (nI 0)), (0, .ref 113), (1, .int x1)]) C dX8_spare_69 rfl (by decide) rfl ?_
  refine j_lv [1, 2, 0] rfl ?_
  exact w_X8_spare_70 C E zfu x1 (nI 0) μ h
def f_X8_spare_19 (kx68 : Int32 → Mem → Option (Int32 × Mem)) : Nat → Int32 → Int32 → Mem → Option (Int32 × Mem)
  | 0, _, _, _ => none
  | n + 1, x1, x2, μ => (if (nI 9) ≤ x2 then kx68 x1 μ else gd (inb (((nI 6) + ((nI 6) * x2)) + (nI 2)) 1829) <| gd (inb (((nI 6) + ((nI 6) * x2)) + (nI 1)) 1829) <| gd (inb x2 9) <| zl (sI μ 123 (Int32.toNatClampNeg x2) (((nI 3) * (μ.1 116 (Int32.toNatClampNeg (((nI 6) + ((nI 6) * x2)) + (nI 2))))) + (μ.1 116 (Int32.toNatClampNeg (((nI 6) + ((nI 6) * x2)) + (nI 1)))))) fun μ5_ => f_X8_spare_19 kx68 n x1 (x2 + (nI 1)) μ5_)
set_option maxHeartbeats 4000000 in
set_option maxRecDepth 100000 in
theorem w_X8_spare_19 {Γ : jG} (C : jC Γ 5 cX8_spare RX8 rmX8_spare) {kx68 : Int32 → Mem → Option (Int32 × Mem)} {ρ : Int32 × Mem} (E : jEI Γ cX8_spare ρ.1 ρ.2) (Hkx68 : ∀ (x1 : Int32) (μ : Mem), kx68 x1 μ = some ρ → jJ Γ 5 68 [(0, .ref 113), (1, .int x1)] [] μ) : ∀ (n : Nat) (x1 : Int32) (x2 : Int32) (μ : Mem), f_X8_spare_19 kx68 n x1 x2 μ = some ρ → jJ Γ 5 19 [(0, .ref 113), (1, .int x1), (2, .int x2)] [] μ := by
  intro n
  induction n with
  | zero => intro x1 x2 μ h; rw [f_X8_spare_19] at h; cases h
  | succ n ih =>
    intro x1 x2 μ h
    rw [f_X8_spare_19] at h
    refine j_iload_n C dX8_spare_19 rfl 2 rfl ?_
    refine j_bipush (v := (nI 9)) C dX8_spare_20 rfl (by decide) ?_
    refine j_icmp_ge (tgt := 68) C dX8_spare_22 rfl (by decide) (fun c1_ => ?_) (fun c1_ => ?_)
    · replace h := if_t h c1_
      refine j_lv [0, 1] rfl ?_
      exact (Hkx68) x1 μ h
    · replace h := if_f h c1_
      refine j_aload_n C dX8_spare_25 rfl 0 rfl ?_
      refine j_getR (c := 123) C dX8_spare_26 rfl lkX8_42 is_113 rfl ?_
      refine j_iload_n C dX8_spare_29 rfl 2 rfl ?_
      refine j_iconst (v := (nI 3)) C dX8_spare_30 rfl (by decide) ?_
      refine j_aload_n C dX8_spare_31 rfl 0 rfl ?_
      refine j_getR (c := 116) C dX8_spare_32 rfl lkX8_16 is_113 rfl ?_
      refine j_bipush (v := (nI 6)) C dX8_spare_35 rfl (by decide) ?_
      refine j_bipush (v := (nI 6)) C dX8_spare_37 rfl (by decide) ?_
      refine j_iload_n C dX8_spare_39 rfl 2 rfl ?_
      refine j_imul C dX8_spare_40 rfl ?_
      refine j_iadd C dX8_spare_41 rfl ?_
      refine j_iconst (v := (nI 2)) C dX8_spare_42 rfl (by decide) ?_
      refine j_iadd C dX8_spare_43 rfl ?_
      replace h := gd_e h
      obtain ⟨g2_, h⟩ := h
      refine j_iald C dX8_spare_44 rfl is_116 g2_ ?_
      refine j_imul C dX8_spare_45 rfl ?_
      refine j_aload_n C dX8_spare_46 rfl 0 rfl ?_
      refine j_getR (c := 116) C dX8_spare_47 rfl lkX8_16 is_113 rfl ?_
      refine j_bipush (v := (nI 6)) C dX8_spare_50 rfl (by decide) ?_
      refine j_bipush (v := (nI 6)) C dX8_spare_52 rfl (by decide) ?_
      refine j_iload_n C dX8_spare_54 rfl 2 rfl ?_
      refine j_imul C dX8_spare_55 rfl ?_
      refine j_iadd C dX8_spare_56 rfl ?_
      refine j_iconst (v := (nI 1)) C dX8_spare_57 rfl (by decide) ?_
      refine j_iadd C dX8_spare_58 rfl ?_
      replace h := gd_e h
      obtain ⟨g3_, h⟩ := h
      refine j_iald C dX8_spare_59 rfl is_116 g3_ ?_
      refine j_iadd C dX8_spare_60 rfl ?_
      replace h := gd_e h
      obtain ⟨g4_, h⟩ := h
      refine j_iast C dX8_spare_61 rfl is_123 g4_ ?_
      refine j_mem (fun μ5_ e6_ => ?_)
      replace h := zl_u h e6_
      refine j_iinc (d := (nI 1)) (v := x2 + (nI 1)) (lv' := [(2, .int (x2 + (nI 1))), (0, .ref 113), (1, .int x1)]) C dX8_spare_62 rfl (by decide) 2 rfl (by decide) rfl rfl ?_
      refine j_goto (pc' := 19) C dX8_spare_65 (by decide) ?_
      refine j_lv [1, 2, 0] rfl ?_
      exact (ih) x1 (x2 + (nI 1)) μ5_ h
def f_X8_spare (μ : Mem) : Option (Int32 × Mem) := zl (sI μ 113 0 (nI 0)) fun μ1_ => Option.bind (f_X8_tries 114 (nI 60) μ1_) fun p3_ => f_X8_spare_19 (fun x1 μ => f_X8_spare_68 x1 μ) zfu (nI 0) (nI 0) p3_
set_option maxHeartbeats 4000000 in
set_option maxRecDepth 100000 in
theorem w_X8_spare {Γ : jG} (C : jC Γ 5 cX8_spare RX8 rmX8_spare) {ρ : Int32 × Mem} (E : jEI Γ cX8_spare ρ.1 ρ.2) (μ : Mem) (h : f_X8_spare μ = some ρ) : jJ Γ 5 0 [(0, .ref 113)] [] μ := by
  unfold f_X8_spare at h
  refine j_aload_n C dX8_spare_0 rfl 0 rfl ?_
  refine j_iconst (v := (nI 0)) C dX8_spare_1 rfl (by decide) ?_
  refine j_putI C dX8_spare_2 rfl lpX8_48 is_113 rfl ?_
  refine j_mem (fun μ1_ e2_ => ?_)
  replace h := zl_u h e2_
  refine j_aload_n C dX8_spare_5 rfl 0 rfl ?_
  refine j_aload_n C dX8_spare_6 rfl 0 rfl ?_
  refine j_getR (c := 114) C dX8_spare_7 rfl lkX8_7 is_113 rfl ?_
  refine j_bipush (v := (nI 60)) C dX8_spare_10 rfl (by decide) ?_
  replace h := bd_e h
  obtain ⟨p3_, h4_, h⟩ := h
  refine j_cVV (av := [.ref 114, .int (nI 60)]) (rest := []) C dX8_spare_12 rfl (c_X8_tries _ _ _ _ isRow114 μ1_ p3_ h4_) gvX8_200 ⟨⟨rfl, rfl⟩, Nat.le_of_ble_eq_true rfl, Nat.le_of_ble_eq_true rfl⟩ rfl is_113 rfl rfl (Nat.le_of_ble_eq_true rfl) ?_
  refine j_iconst (v := (nI 0)) C dX8_spare_15 rfl (by decide) ?_
  refine j_istore_n (lv' := [(1, .int (nI 0)), (0, .ref 113)]) C dX8_spare_16 rfl (by decide) rfl ?_
  refine j_iconst (v := (nI 0)) C dX8_spare_17 rfl (by decide) ?_
  refine j_istore_n (lv' := [(2, .int (nI 0)), (1, .int (nI 0)), (0, .ref 113)]) C dX8_spare_18 rfl (by decide) rfl ?_
  refine j_lv [2, 1, 0] rfl ?_
  exact w_X8_spare_19 C E (fun x1 μ h => w_X8_spare_68 C E x1 μ h) zfu (nI 0) (nI 0) p3_ h
set_option maxRecDepth 100000 in
theorem c_X8_spare (l : Launch) (D : va_G) (ad : Nat → Nat) (cl : Nat → ClassId) (μ : Mem) (ρ : Int32 × Mem) (h : f_X8_spare μ = some ρ) : CI l D ad cl yX8_spare wsX8_spare rmX8_spare [.ref 113] μ ρ.1 ρ.2 := c_ofI (cc := cX8_spare) (nL := 5) rfl (by decide) (Nat.le_of_ble_eq_true rfl) (fun Γ C E => w_X8_spare C E μ h)
/-! X8_log -/
def wsX8_log : List Cond := .code yX8_log cX8_log 5 (some .int) :: G0
def rmX8_log : Room := { frames := 1, cells := 0, slots := 0, locals := 25 }
def f_X8_log (a1 : Int32) (a2 : Int32) (a3 : Int32) (μ : Mem) : Option (Int32 × Mem) := zl (sI μ 113 0 (nI 0)) fun μ1_ => Option.bind (f_X8_in (Int32.toInt64 a1) 0 8 μ1_) fun p3_ => (if p3_.1 = 0 then some ((-1), p3_.2) else Option.bind (f_X8_in (Int32.toInt64 a2) 0 8 p3_.2) fun p6_ => (if p6_.1 = 0 then some ((-1), p6_.2) else (if a1 = a2 then some ((-1), p6_.2) else Option.bind (f_X8_in (Int32.toInt64 a3) 0 1 p6_.2) fun p10_ => (if p10_.1 = 0 then some ((-1), p10_.2) else gd (inb (nI 4) 1829) <| (if (p10_.2.1 114 (Int32.toNatClampNeg (nI 4))) = (nI 12) then some ((-3), p10_.2) else zl ((nI 1793) + ((nI 3) * (p10_.2.1 114 (Int32.toNatClampNeg (nI 4))))) fun x15_ => gd (inb x15_ 1829) <| zl (sI p10_.2 114 (Int32.toNatClampNeg x15_) a1) fun μ18_ => gd (inb (x15_ + (nI 1)) 1829) <| zl (sI μ18_ 114 (Int32.toNatClampNeg (x15_ + (nI 1))) a2) fun μ21_ => gd (inb (x15_ + (nI 2)) 1829) <| zl (sI μ21_ 114 (Int32.toNatClampNeg (x15_ + (nI 2))) a3) fun μ24_ => zl (sI μ24_ 114 (Int32.toNatClampNeg (nI 4)) ((μ24_.1 114 (Int32.toNatClampNeg (nI 4))) + (nI 1))) fun μ26_ => some (μ26_.1 114 (Int32.toNatClampNeg (nI 4)), μ26_))))))
set_option maxHeartbeats 4000000 in
set_option maxRecDepth 100000 in
theorem w_X8_log {Γ : jG} (C : jC Γ 5 cX8_log RX8 rmX8_log) {a1 : Int32} {a2 : Int32} {a3 : Int32} {ρ : Int32 × Mem} (E : jEI Γ cX8_log ρ.1 ρ.2) (μ : Mem) (h : f_X8_log a1 a2 a3 μ = some ρ) : jJ Γ 5 0 [(0, .ref 113), (1, .int a1), (2, .int a2), (3, .int a3)] [] μ := by
  unfold f_X8_log at h
  refine j_aload_n C dX8_log_0 rfl 0 rfl ?_
  refine j_iconst (v := (nI 0)) C dX8_log_1 rfl (by decide) ?_
  refine j_putI C dX8_log_2 rfl lpX8_48 is_113 rfl ?_
  refine j_mem (fun μ1_ e2_ => ?_)
  replace h := zl_u h e2_
  refine j_iload_n C dX8_log_5 rfl 1 rfl ?_
  refine j_i2l C dX8_log_6 rfl ?_
  refine j_lconst (v := 0) C dX8_log_7 rfl (by decide) ?_
  refine j_ldc2 (v := 8) C dX8_log_8 rfl gwt6_28 ?_
  replace h := bd_e h
  obtain ⟨p3_, h4_, h⟩ := h
  refine j_cSI (av := [.long (Int32.toInt64 a1), .long 0, .long 8]) (rest := []) C dX8_log_11 rfl (c_X8_in _ _ _ _ μ1_ p3_ h4_) gsX8_51 ⟨⟨rfl, rfl⟩, Nat.le_of_ble_eq_true rfl, Nat.le_of_ble_eq_true rfl⟩ rfl rfl (Nat.le_of_ble_eq_true rfl) ?_
  refine j_if_eq (tgt := 44) C dX8_log_14 rfl (by decide) (fun c5_ => ?_) (fun c5_ => ?_)
  · replace h := if_t h c5_
    refine j_iconst (v := (-1)) C dX8_log_44 rfl (by decide) ?_
    obtain rfl := Option.some.inj h
    exact j_iret E dX8_log_45
  · replace h := if_f h c5_
    refine j_iload_n C dX8_log_17 rfl 2 rfl ?_
    refine j_i2l C dX8_log_18 rfl ?_
    refine j_lconst (v := 0) C dX8_log_19 rfl (by decide) ?_
    refine j_ldc2 (v := 8) C dX8_log_20 rfl gwt6_28 ?_
    replace h := bd_e h
    obtain ⟨p6_, h7_, h⟩ := h
    refine j_cSI (av := [.long (Int32.toInt64 a2), .long 0, .long 8]) (rest := []) C dX8_log_23 rfl (c_X8_in _ _ _ _ p3_.2 p6_ h7_) gsX8_51 ⟨⟨rfl, rfl⟩, Nat.le_of_ble_eq_true rfl, Nat.le_of_ble_eq_true rfl⟩ rfl rfl (Nat.le_of_ble_eq_true rfl) ?_
    refine j_if_eq (tgt := 44) C dX8_log_26 rfl (by decide) (fun c8_ => ?_) (fun c8_ => ?_)
    · replace h := if_t h c8_
      refine j_iconst (v := (-1)) C dX8_log_44 rfl (by decide) ?_
      obtain rfl := Option.some.inj h
      exact j_iret E dX8_log_45
    · replace h := if_f h c8_
      refine j_iload_n C dX8_log_29 rfl 1 rfl ?_
      refine j_iload_n C dX8_log_30 rfl 2 rfl ?_
      refine j_icmp_eq (tgt := 44) C dX8_log_31 rfl (by decide) (fun c9_ => ?_) (fun c9_ => ?_)
      · replace h := if_t h c9_
        refine j_iconst (v := (-1)) C dX8_log_44 rfl (by decide) ?_
        obtain rfl := Option.some.inj h
        exact j_iret E dX8_log_45
      · replace h := if_f h c9_
        refine j_iload_n C dX8_log_34 rfl 3 rfl ?_
        refine j_i2l C dX8_log_35 rfl ?_
        refine j_lconst (v := 0) C dX8_log_36 rfl (by decide) ?_
        refine j_lconst (v := 1) C dX8_log_37 rfl (by decide) ?_
        replace h := bd_e h
        obtain ⟨p10_, h11_, h⟩ := h
        refine j_cSI (av := [.long (Int32.toInt64 a3), .long 0, .long 1]) (rest := []) C dX8_log_38 rfl (c_X8_in _ _ _ _ p6_.2 p10_ h11_) gsX8_51 ⟨⟨rfl, rfl⟩, Nat.le_of_ble_eq_true rfl, Nat.le_of_ble_eq_true rfl⟩ rfl rfl (Nat.le_of_ble_eq_true rfl) ?_
        refine j_if_ne (tgt := 46) C dX8_log_41 rfl (by decide) (fun c12_ => ?_) (fun c12_ => ?_)
        · replace h := if_f h c12_
          refine j_aload_n C dX8_log_46 rfl 0 rfl ?_
          refine j_getR (c := 114) C dX8_log_47 rfl lkX8_7 is_113 rfl ?_
          refine j_iconst (v := (nI 4)) C dX8_log_50 rfl (by decide) ?_
          replace h := gd_e h
          obtain ⟨g13_, h⟩ := h
          refine j_iald C dX8_log_51 rfl is_114 g13_ ?_
          refine j_bipush (v := (nI 12)) C dX8_log_52 rfl (by decide) ?_
          refine j_icmp_ne (tgt := 60) C dX8_log_54 rfl (by decide) (fun c14_ => ?_) (fun c14_ => ?_)
          · replace h := if_f h c14_
            refine j_sipush (v := (nI 1793)) C dX8_log_60 rfl (by decide) ?_
            refine j_iconst (v := (nI 3)) C dX8_log_63 rfl (by decide) ?_
            refine j_aload_n C dX8_log_64 rfl 0 rfl ?_
            refine j_getR (c := 114) C dX8_log_65 rfl lkX8_7 is_113 rfl ?_
            refine j_iconst (v := (nI 4)) C dX8_log_68 rfl (by decide) ?_
            refine j_iald C dX8_log_69 rfl is_114 g13_ ?_
            refine j_imul C dX8_log_70 rfl ?_
            refine j_iadd C dX8_log_71 rfl ?_
            refine j_topi (fun x15_ e16_ => ?_)
            replace h := zl_u h e16_
            refine j_istore (lv' := [(4, .int x15_), (0, .ref 113), (1, .int a1), (2, .int a2), (3, .int a3)]) C dX8_log_72 rfl (by decide) rfl ?_
            refine j_aload_n C dX8_log_74 rfl 1 rfl ?_
            refine j_getR (c := 114) C dX8_log_75 rfl lkX8_7 is_113 rfl ?_
            refine j_iload C dX8_log_78 rfl 0 rfl ?_
            refine j_iload_n C dX8_log_80 rfl 2 rfl ?_
            replace h := gd_e h
            obtain ⟨g17_, h⟩ := h
            refine j_iast C dX8_log_81 rfl is_114 g17_ ?_
            refine j_mem (fun μ18_ e19_ => ?_)
            replace h := zl_u h e19_
            refine j_aload_n C dX8_log_82 rfl 1 rfl ?_
            refine j_getR (c := 114) C dX8_log_83 rfl lkX8_7 is_113 rfl ?_
            refine j_iload C dX8_log_86 rfl 0 rfl ?_
            refine j_iconst (v := (nI 1)) C dX8_log_88 rfl (by decide) ?_
            refine j_iadd C dX8_log_89 rfl ?_
            refine j_iload_n C dX8_log_90 rfl 3 rfl ?_
            replace h := gd_e h
            obtain ⟨g20_, h⟩ := h
            refine j_iast C dX8_log_91 rfl is_114 g20_ ?_
            refine j_mem (fun μ21_ e22_ => ?_)
            replace h := zl_u h e22_
            refine j_aload_n C dX8_log_92 rfl 1 rfl ?_
            refine j_getR (c := 114) C dX8_log_93 rfl lkX8_7 is_113 rfl ?_
            refine j_iload C dX8_log_96 rfl 0 rfl ?_
            refine j_iconst (v := (nI 2)) C dX8_log_98 rfl (by decide) ?_
            refine j_iadd C dX8_log_99 rfl ?_
            refine j_iload_n C dX8_log_100 rfl 4 rfl ?_
            replace h := gd_e h
            obtain ⟨g23_, h⟩ := h
            refine j_iast C dX8_log_101 rfl is_114 g23_ ?_
            refine j_mem (fun μ24_ e25_ => ?_)
            replace h := zl_u h e25_
            refine j_aload_n C dX8_log_102 rfl 1 rfl ?_
            refine j_getR (c := 114) C dX8_log_103 rfl lkX8_7 is_113 rfl ?_
            refine j_iconst (v := (nI 4)) C dX8_log_106 rfl (by decide) ?_
            refine j_dup2 C dX8_log_107 rfl rfl rfl ?_
            refine j_iald C dX8_log_108 rfl is_114 g13_ ?_
            refine j_iconst (v := (nI 1)) C dX8_log_109 rfl (by decide) ?_
            refine j_iadd C dX8_log_110 rfl ?_
            refine j_iast C dX8_log_111 rfl is_114 g13_ ?_
            refine j_mem (fun μ26_ e27_ => ?_)
            replace h := zl_u h e27_
            refine j_aload_n C dX8_log_112 rfl 1 rfl ?_
            refine j_getR (c := 114) C dX8_log_113 rfl lkX8_7 is_113 rfl ?_
            refine j_iconst (v := (nI 4)) C dX8_log_116 rfl (by decide) ?_
            refine j_iald C dX8_log_117 rfl is_114 g13_ ?_
            obtain rfl := Option.some.inj h
            exact j_iret E dX8_log_118
          · replace h := if_t h c14_
            refine j_bipush (v := (-3)) C dX8_log_57 rfl (by decide) ?_
            obtain rfl := Option.some.inj h
            exact j_iret E dX8_log_59
        · replace h := if_t h c12_
          refine j_iconst (v := (-1)) C dX8_log_44 rfl (by decide) ?_
          obtain rfl := Option.some.inj h
          exact j_iret E dX8_log_45
set_option maxRecDepth 100000 in
theorem c_X8_log (l : Launch) (D : va_G) (ad : Nat → Nat) (cl : Nat → ClassId) {a1 : Int32} {a2 : Int32} {a3 : Int32} (μ : Mem) (ρ : Int32 × Mem) (h : f_X8_log a1 a2 a3 μ = some ρ) : CI l D ad cl yX8_log wsX8_log rmX8_log [.ref 113, .int a1, .int a2, .int a3] μ ρ.1 ρ.2 := c_ofI (cc := cX8_log) (nL := 5) rfl (by decide) (Nat.le_of_ble_eq_true rfl) (fun Γ C E => w_X8_log C E μ h)
/-! X8_burn -/
def wsX8_burn : List Cond := .code yX8_burn cX8_burn 2 (some .int) :: G0
def rmX8_burn : Room := { frames := 0, cells := 0, slots := 0, locals := 0 }
def f_X8_burn (μ : Mem) : Option (Int32 × Mem) := zl (sI μ 113 0 (nI 0)) fun μ1_ => gd (inb (nI 4) 1829) <| zl (μ1_.1 114 (Int32.toNatClampNeg (nI 4))) fun x4_ => zl (sI μ1_ 114 (Int32.toNatClampNeg (nI 4)) (nI 0)) fun μ6_ => some (x4_, μ6_)
set_option maxHeartbeats 4000000 in
set_option maxRecDepth 100000 in
theorem w_X8_burn {Γ : jG} (C : jC Γ 2 cX8_burn RX8 rmX8_burn) {ρ : Int32 × Mem} (E : jEI Γ cX8_burn ρ.1 ρ.2) (μ : Mem) (h : f_X8_burn μ = some ρ) : jJ Γ 2 0 [(0, .ref 113)] [] μ := by
  unfold f_X8_burn at h
  refine j_aload_n C dX8_burn_0 rfl 0 rfl ?_
  refine j_iconst (v := (nI 0)) C dX8_burn_1 rfl (by decide) ?_
  refine j_putI C dX8_burn_2 rfl lpX8_48 is_113 rfl ?_
  refine j_mem (fun μ1_ e2_ => ?_)
  replace h := zl_u h e2_
  refine j_aload_n C dX8_burn_5 rfl 0 rfl ?_
  refine j_getR (c := 114) C dX8_burn_6 rfl lkX8_7 is_113 rfl ?_
  refine j_iconst (v := (nI 4)) C dX8_burn_9 rfl (by decide) ?_
  replace h := gd_e h
  obtain ⟨g3_, h⟩ := h
  refine j_iald C dX8_burn_10 rfl is_114 g3_ ?_
  refine j_topi (fun x4_ e5_ => ?_)
  replace h := zl_u h e5_
  refine j_istore_n (lv' := [(1, .int x4_), (0, .ref 113)]) C dX8_burn_11 rfl (by decide) rfl ?_
  refine j_aload_n C dX8_burn_12 rfl 1 rfl ?_
  refine j_getR (c := 114) C dX8_burn_13 rfl lkX8_7 is_113 rfl ?_
  refine j_iconst (v := (nI 4)) C dX8_burn_16 rfl (by decide) ?_
  refine j_iconst (v := (nI 0)) C dX8_burn_17 rfl (by decide) ?_
  refine j_iast C dX8_burn_18 rfl is_114 g3_ ?_
  refine j_mem (fun μ6_ e7_ => ?_)
  replace h := zl_u h e7_
  refine j_iload_n C dX8_burn_19 rfl 0 rfl ?_
  obtain rfl := Option.some.inj h
  exact j_iret E dX8_burn_20
set_option maxRecDepth 100000 in
theorem c_X8_burn (l : Launch) (D : va_G) (ad : Nat → Nat) (cl : Nat → ClassId) (μ : Mem) (ρ : Int32 × Mem) (h : f_X8_burn μ = some ρ) : CI l D ad cl yX8_burn wsX8_burn rmX8_burn [.ref 113] μ ρ.1 ρ.2 := c_ofI (cc := cX8_burn) (nL := 2) rfl (by decide) (Nat.le_of_ble_eq_true rfl) (fun Γ C E => w_X8_burn C E μ h)
/-! X8_sureOnes -/
def wsX8_sureOnes : List Cond := .code yX8_sureOnes cX8_sureOnes 5 (some .int) :: G0
def rmX8_sureOnes : Room := { frames := 0, cells := 0, slots := 0, locals := 0 }
def f_X8_sureOnes_80 (kb6 : Int32 → Int32 → Int32 → Mem → Option (Int32 × Mem)) (x1 : Int32) (x3 : Int32) (t0 : Int32) (t1 : Int32) (μ : Mem) : Option (Int32 × Mem) := zl (t0 ||| t1) fun x1_ => kb6 x1 x1_ (x3 + (nI 1)) μ
set_option maxHeartbeats 4000000 in
set_option maxRecDepth 100000 in
theorem w_X8_sureOnes_80 {Γ : jG} (C : jC Γ 5 cX8_sureOnes RX8 rmX8_sureOnes) {kb6 : Int32 → Int32 → Int32 → Mem → Option (Int32 × Mem)} {ρ : Int32 × Mem} (E : jEI Γ cX8_sureOnes ρ.1 ρ.2) (Hkb6 : ∀ (x1 : Int32) (x2 : Int32) (x3 : Int32) (μ : Mem), kb6 x1 x2 x3 μ = some ρ → jJ Γ 5 6 [(0, .ref 113), (1, .int x1), (2, .int x2), (3, .int x3)] [] μ) (x1 : Int32) (x3 : Int32) (t0 : Int32) (t1 : Int32) (μ : Mem) (h : f_X8_sureOnes_80 kb6 x1 x3 t0 t1 μ = some ρ) : jJ Γ 5 80 [(0, .ref 113), (1, .int x1), (3, .int x3)] [.int t1, .int t0] μ := by
  unfold f_X8_sureOnes_80 at h
  refine j_ior C dX8_sureOnes_80 rfl ?_
  refine j_topi (fun x1_ e2_ => ?_)
  replace h := zl_u h e2_
  refine j_istore_n (lv' := [(2, .int x1_), (0, .ref 113), (1, .int x1), (3, .int x3)]) C dX8_sureOnes_81 rfl (by decide) rfl ?_
  refine j_iinc (d := (nI 1)) (v := x3 + (nI 1)) (lv' := [(3, .int (x3 + (nI 1))), (2, .int x1_), (0, .ref 113), (1, .int x1)]) C dX8_sureOnes_82 rfl (by decide) 3 rfl (by decide) rfl rfl ?_
  refine j_goto (pc' := 6) C dX8_sureOnes_85 (by decide) ?_
  refine j_lv [2, 3, 1, 0] rfl ?_
  exact (Hkb6) x1 x1_ (x3 + (nI 1)) μ h
def f_X8_sureOnes_51 (kb6 : Int32 → Int32 → Int32 → Mem → Option (Int32 × Mem)) (x2 : Int32) (x3 : Int32) (x4 : Int32) (t0 : Int32) (t1 : Int32) (μ : Mem) : Option (Int32 × Mem) := zl (t0 ||| t1) fun x1_ => gd (inb (x4 + (nI 2)) 1829) <| (if (μ.1 114 (Int32.toNatClampNeg (x4 + (nI 2)))) = (nI 1) then gd (inb x4 1829) <| f_X8_sureOnes_80 kb6 x1_ x3 x2 ((nI 1) <<< ((μ.1 114 (Int32.toNatClampNeg x4)) &&& 31)) μ else f_X8_sureOnes_80 kb6 x1_ x3 x2 (nI 0) μ)
set_option maxHeartbeats 4000000 in
set_option maxRecDepth 100000 in
theorem w_X8_sureOnes_51 {Γ : jG} (C : jC Γ 5 cX8_sureOnes RX8 rmX8_sureOnes) {kb6 : Int32 → Int32 → Int32 → Mem → Option (Int32 × Mem)} {ρ : Int32 × Mem} (E : jEI Γ cX8_sureOnes ρ.1 ρ.2) (Hkb6 : ∀ (x1 : Int32) (x2 : Int32) (x3 : Int32) (μ : Mem), kb6 x1 x2 x3 μ = some ρ → jJ Γ 5 6 [(0, .ref 113), (1, .int x1), (2, .int x2), (3, .int x3)] [] μ) (x2 : Int32) (x3 : Int32) (x4 : Int32) (t0 : Int32) (t1 : Int32) (μ : Mem) (h : f_X8_sureOnes_51 kb6 x2 x3 x4 t0 t1 μ = some ρ) : jJ Γ 5 51 [(0, .ref 113), (2, .int x2), (3, .int x3), (4, .int x4)] [.int t1, .int t0] μ := by
  unfold f_X8_sureOnes_51 at h
  refine j_ior C dX8_sureOnes_51 rfl ?_
  refine j_topi (fun x1_ e2_ => ?_)
  replace h := zl_u h e2_
  refine j_istore_n (lv' := [(1, .int x1_), (0, .ref 113), (2, .int x2), (3, .int x3), (4, .int x4)]) C dX8_sureOnes_52 rfl (by decide) rfl ?_
  refine j_iload_n C dX8_sureOnes_53 rfl 2 rfl ?_
  refine j_aload_n C dX8_sureOnes_54 rfl 1 rfl ?_
  refine j_getR (c := 114) C dX8_sureOnes_55 rfl lkX8_7 is_113 rfl ?_
  refine j_iload C dX8_sureOnes_58 rfl 4 rfl ?_
  refine j_iconst (v := (nI 2)) C dX8_sureOnes_60 rfl (by decide) ?_
  refine j_iadd C dX8_sureOnes_61 rfl ?_
  replace h := gd_e h
  obtain ⟨g3_, h⟩ := h
  refine j_iald C dX8_sureOnes_62 rfl is_114 g3_ ?_
  refine j_iconst (v := (nI 1)) C dX8_sureOnes_63 rfl (by decide) ?_
  refine j_icmp_ne (tgt := 79) C dX8_sureOnes_64 rfl (by decide) (fun c4_ => ?_) (fun c4_ => ?_)
  · replace h := if_f h c4_
    refine j_iconst (v := (nI 0)) C dX8_sureOnes_79 rfl (by decide) ?_
    refine j_lv [1, 0, 3] rfl ?_
    exact w_X8_sureOnes_80 C E Hkb6 x1_ x3 x2 (nI 0) μ h
  · replace h := if_t h c4_
    refine j_iconst (v := (nI 1)) C dX8_sureOnes_67 rfl (by decide) ?_
    refine j_aload_n C dX8_sureOnes_68 rfl 1 rfl ?_
    refine j_getR (c := 114) C dX8_sureOnes_69 rfl lkX8_7 is_113 rfl ?_
    refine j_iload C dX8_sureOnes_72 rfl 4 rfl ?_
    replace h := gd_e h
    obtain ⟨g5_, h⟩ := h
    refine j_iald C dX8_sureOnes_74 rfl is_114 g5_ ?_
    refine j_ishl C dX8_sureOnes_75 rfl ?_
    refine j_goto (pc' := 80) C dX8_sureOnes_76 (by decide) ?_
    refine j_lv [1, 0, 3] rfl ?_
    exact w_X8_sureOnes_80 C E Hkb6 x1_ x3 x2 ((nI 1) <<< ((μ.1 114 (Int32.toNatClampNeg x4)) &&& 31)) μ h
def f_X8_sureOnes_6 : Nat → Int32 → Int32 → Int32 → Mem → Option (Int32 × Mem)
  | 0, _, _, _, _ => none
  | n + 1, x1, x2, x3, μ => gd (inb (nI 4) 1829) <| (if (μ.1 114 (Int32.toNatClampNeg (nI 4))) ≤ x3 then some (x1 &&& x2, μ) else zl ((nI 1793) + ((nI 3) * x3)) fun x3_ => gd (inb (x3_ + (nI 2)) 1829) <| (if (μ.1 114 (Int32.toNatClampNeg (x3_ + (nI 2)))) = 0 then gd (inb x3_ 1829) <| f_X8_sureOnes_51 (fun x1 x2 x3 μ => f_X8_sureOnes_6 n x1 x2 x3 μ) x2 x3 x3_ x1 ((nI 1) <<< ((μ.1 114 (Int32.toNatClampNeg x3_)) &&& 31)) μ else f_X8_sureOnes_51 (fun x1 x2 x3 μ => f_X8_sureOnes_6 n x1 x2 x3 μ) x2 x3 x3_ x1 (nI 0) μ))
set_option maxHeartbeats 4000000 in
set_option maxRecDepth 100000 in
theorem w_X8_sureOnes_6 {Γ : jG} (C : jC Γ 5 cX8_sureOnes RX8 rmX8_sureOnes) {ρ : Int32 × Mem} (E : jEI Γ cX8_sureOnes ρ.1 ρ.2) : ∀ (n : Nat) (x1 : Int32) (x2 : Int32) (x3 : Int32) (μ : Mem), f_X8_sureOnes_6 n x1 x2 x3 μ = some ρ → jJ Γ 5 6 [(0, .ref 113), (1, .int x1), (2, .int x2), (3, .int x3)] [] μ := by
  intro n
  induction n with
  | zero => intro x1 x2 x3 μ h; rw [f_X8_sureOnes_6] at h; cases h
  | succ n ih =>
    intro x1 x2 x3 μ h
    rw [f_X8_sureOnes_6] at h
    refine j_iload_n C dX8_sureOnes_6 rfl 3 rfl ?_
    refine j_aload_n C dX8_sureOnes_7 rfl 0 rfl ?_
    refine j_getR (c := 114) C dX8_sureOnes_8 rfl lkX8_7 is_113 rfl ?_
    refine j_iconst (v := (nI 4)) C dX8_sureOnes_11 rfl (by decide) ?_
    replace h := gd_e h
    obtain ⟨g1_, h⟩ := h
    refine j_iald C dX8_sureOnes_12 rfl is_114 g1_ ?_
    refine j_icmp_ge (tgt := 88) C dX8_sureOnes_13 rfl (by decide) (fun c2_ => ?_) (fun c2_ => ?_)
    · replace h := if_t h c2_
      refine j_iload_n C dX8_sureOnes_88 rfl 1 rfl ?_
      refine j_iload_n C dX8_sureOnes_89 rfl 2 rfl ?_
      refine j_iand C dX8_sureOnes_90 rfl ?_
      obtain rfl := Option.some.inj h
      exact j_iret E dX8_sureOnes_91
    · replace h := if_f h c2_
      refine j_sipush (v := (nI 1793)) C dX8_sureOnes_16 rfl (by decide) ?_
      refine j_iconst (v := (nI 3)) C dX8_sureOnes_19 rfl (by decide) ?_
      refine j_iload_n C dX8_sureOnes_20 rfl 3 rfl ?_
      refine j_imul C dX8_sureOnes_21 rfl ?_
      refine j_iadd C dX8_sureOnes_22 rfl ?_
      refine j_topi (fun x3_ e4_ => ?_)
      replace h := zl_u h e4_
      refine j_istore (lv' := [(4, .int x3_), (0, .ref 113), (1, .int x1), (2, .int x2), (3, .int x3)]) C dX8_sureOnes_23 rfl (by decide) rfl ?_
      refine j_iload_n C dX8_sureOnes_25 rfl 2 rfl ?_
      refine j_aload_n C dX8_sureOnes_26 rfl 1 rfl ?_
      refine j_getR (c := 114) C dX8_sureOnes_27 rfl lkX8_7 is_113 rfl ?_
      refine j_iload C dX8_sureOnes_30 rfl 0 rfl ?_
      refine j_iconst (v := (nI 2)) C dX8_sureOnes_32 rfl (by decide) ?_
      refine j_iadd C dX8_sureOnes_33 rfl ?_
      replace h := gd_e h
      obtain ⟨g5_, h⟩ := h
      refine j_iald C dX8_sureOnes_34 rfl is_114 g5_ ?_
      refine j_if_ne (tgt := 50) C dX8_sureOnes_35 rfl (by decide) (fun c6_ => ?_) (fun c6_ => ?_)
      · replace h := if_f h c6_
        refine j_iconst (v := (nI 0)) C dX8_sureOnes_50 rfl (by decide) ?_
        refine j_lv [1, 3, 4, 0] rfl ?_
        exact w_X8_sureOnes_51 C E ih x2 x3 x3_ x1 (nI 0) μ h
      · replace h := if_t h c6_
        refine j_iconst (v := (nI 1)) C dX8_sureOnes_38 rfl (by decide) ?_
        refine j_aload_n C dX8_sureOnes_39 rfl 1 rfl ?_
        refine j_getR (c := 114) C dX8_sureOnes_40 rfl lkX8_7 is_113 rfl ?_
        refine j_iload C dX8_sureOnes_43 rfl 0 rfl ?_
        replace h := gd_e h
        obtain ⟨g7_, h⟩ := h
        refine j_iald C dX8_sureOnes_45 rfl is_114 g7_ ?_
        refine j_ishl C dX8_sureOnes_46 rfl ?_
        refine j_goto (pc' := 51) C dX8_sureOnes_47 (by decide) ?_
        refine j_lv [1, 3, 4, 0] rfl ?_
        exact w_X8_sureOnes_51 C E ih x2 x3 x3_ x1 ((nI 1) <<< ((μ.1 114 (Int32.toNatClampNeg x3_)) &&& 31)) μ h
def f_X8_sureOnes (μ : Mem) : Option (Int32 × Mem) := f_X8_sureOnes_6 zfu (nI 0) (nI 0) (nI 0) μ
set_option maxHeartbeats 4000000 in
set_option maxRecDepth 100000 in
theorem w_X8_sureOnes {Γ : jG} (C : jC Γ 5 cX8_sureOnes RX8 rmX8_sureOnes) {ρ : Int32 × Mem} (E : jEI Γ cX8_sureOnes ρ.1 ρ.2) (μ : Mem) (h : f_X8_sureOnes μ = some ρ) : jJ Γ 5 0 [(0, .ref 113)] [] μ := by
  unfold f_X8_sureOnes at h
  refine j_iconst (v := (nI 0)) C dX8_sureOnes_0 rfl (by decide) ?_
  refine j_istore_n (lv' := [(1, .int (nI 0)), (0, .ref 113)]) C dX8_sureOnes_1 rfl (by decide) rfl ?_
  refine j_iconst (v := (nI 0)) C dX8_sureOnes_2 rfl (by decide) ?_
  refine j_istore_n (lv' := [(2, .int (nI 0)), (1, .int (nI 0)), (0, .ref 113)]) C dX8_sureOnes_3 rfl (by decide) rfl ?_
  refine j_iconst (v := (nI 0)) C dX8_sureOnes_4 rfl (by decide) ?_
  refine j_istore_n (lv' := [(3, .int (nI 0)), (2, .int (nI 0)), (1, .int (nI 0)), (0, .ref 113)]) C dX8_sureOnes_5 rfl (by decide) rfl ?_
  refine j_lv [3, 2, 1, 0] rfl ?_
  exact w_X8_sureOnes_6 C E zfu (nI 0) (nI 0) (nI 0) μ h
set_option maxRecDepth 100000 in
theorem c_X8_sureOnes (l : Launch) (D : va_G) (ad : Nat → Nat) (cl : Nat → ClassId) (μ : Mem) (ρ : Int32 × Mem) (h : f_X8_sureOnes μ = some ρ) : CI l D ad cl yX8_sureOnes wsX8_sureOnes rmX8_sureOnes [.ref 113] μ ρ.1 ρ.2 := c_ofI (cc := cX8_sureOnes) (nL := 5) rfl (by decide) (Nat.le_of_ble_eq_true rfl) (fun Γ C E => w_X8_sureOnes C E μ h)
theorem gvX8_218 : jm_gv RX8 218 RX8 yX8_sureOnes wsX8_sureOnes 5 0 := ⟨_, _, gi_V gwt6_37 gwt6_39 gwp4_4 gwt1_9 gwt6_40, rfl, by decide +kernel⟩
/-! X8_sure -/
def wsX8_sure : List Cond := .code yX8_sure cX8_sure 1 (some .int) :: G0
def rmX8_sure : Room := { frames := 1, cells := 0, slots := 0, locals := 24 }
def f_X8_sure (μ : Mem) : Option (Int32 × Mem) := zl (sI μ 113 0 (nI 0)) fun μ1_ => Option.bind (f_X8_sureOnes μ1_) fun p3_ => some (p3_.1, p3_.2)
set_option maxHeartbeats 4000000 in
set_option maxRecDepth 100000 in
theorem w_X8_sure {Γ : jG} (C : jC Γ 1 cX8_sure RX8 rmX8_sure) {ρ : Int32 × Mem} (E : jEI Γ cX8_sure ρ.1 ρ.2) (μ : Mem) (h : f_X8_sure μ = some ρ) : jJ Γ 1 0 [(0, .ref 113)] [] μ := by
  unfold f_X8_sure at h
  refine j_aload_n C dX8_sure_0 rfl 0 rfl ?_
  refine j_iconst (v := (nI 0)) C dX8_sure_1 rfl (by decide) ?_
  refine j_putI C dX8_sure_2 rfl lpX8_48 is_113 rfl ?_
  refine j_mem (fun μ1_ e2_ => ?_)
  replace h := zl_u h e2_
  refine j_aload_n C dX8_sure_5 rfl 0 rfl ?_
  replace h := bd_e h
  obtain ⟨p3_, h4_, h⟩ := h
  refine j_cVI (av := []) (rest := []) C dX8_sure_6 rfl (c_X8_sureOnes _ _ _ _ μ1_ p3_ h4_) gvX8_218 ⟨⟨rfl, rfl⟩, Nat.le_of_ble_eq_true rfl, Nat.le_of_ble_eq_true rfl⟩ rfl is_113 rfl rfl (Nat.le_of_ble_eq_true rfl) ?_
  obtain rfl := Option.some.inj h
  exact j_iret E dX8_sure_9
set_option maxRecDepth 100000 in
theorem c_X8_sure (l : Launch) (D : va_G) (ad : Nat → Nat) (cl : Nat → ClassId) (μ : Mem) (ρ : Int32 × Mem) (h : f_X8_sure μ = some ρ) : CI l D ad cl yX8_sure wsX8_sure rmX8_sure [.ref 113] μ ρ.1 ρ.2 := c_ofI (cc := cX8_sure) (nL := 1) rfl (by decide) (Nat.le_of_ble_eq_true rfl) (fun Γ C E => w_X8_sure C E μ h)
/-! X8_fits -/
def wsX8_fits : List Cond := .code yX8_fits cX8_fits 5 (some .int) :: G0
def rmX8_fits : Room := { frames := 1, cells := 0, slots := 0, locals := 25 }
def f_X8_fits_66 (a1 : Int32) (kb29 : Int32 → Int32 → Int32 → Mem → Option (Int32 × Mem)) (x2 : Int32) (x4 : Int32) (t0 : Int32) (t1 : Int32) (μ : Mem) : Option (Int32 × Mem) := zl (t0 + t1) fun x1_ => kb29 x2 x1_ (x4 + (nI 1)) μ
set_option maxHeartbeats 4000000 in
set_option maxRecDepth 100000 in
theorem w_X8_fits_66 {Γ : jG} (C : jC Γ 5 cX8_fits RX8 rmX8_fits) {a1 : Int32} {kb29 : Int32 → Int32 → Int32 → Mem → Option (Int32 × Mem)} {ρ : Int32 × Mem} (E : jEI Γ cX8_fits ρ.1 ρ.2) (Hkb29 : ∀ (x2 : Int32) (x3 : Int32) (x4 : Int32) (μ : Mem), kb29 x2 x3 x4 μ = some ρ → jJ Γ 5 29 [(0, .ref 113), (1, .int a1), (2, .int x2), (3, .int x3), (4, .int x4)] [] μ) (x2 : Int32) (x4 : Int32) (t0 : Int32) (t1 : Int32) (μ : Mem) (h : f_X8_fits_66 a1 kb29 x2 x4 t0 t1 μ = some ρ) : jJ Γ 5 66 [(0, .ref 113), (1, .int a1), (2, .int x2), (4, .int x4)] [.int t1, .int t0] μ := by
  unfold f_X8_fits_66 at h
  refine j_iadd C dX8_fits_66 rfl ?_
  refine j_topi (fun x1_ e2_ => ?_)
  replace h := zl_u h e2_
  refine j_istore_n (lv' := [(3, .int x1_), (0, .ref 113), (1, .int a1), (2, .int x2), (4, .int x4)]) C dX8_fits_67 rfl (by decide) rfl ?_
  refine j_iinc (d := (nI 1)) (v := x4 + (nI 1)) (lv' := [(4, .int (x4 + (nI 1))), (3, .int x1_), (0, .ref 113), (1, .int a1), (2, .int x2)]) C dX8_fits_68 rfl (by decide) 4 rfl (by decide) rfl rfl ?_
  refine j_goto (pc' := 29) C dX8_fits_71 (by decide) ?_
  refine j_lv [2, 3, 4, 1, 0] rfl ?_
  exact (Hkb29) x2 x1_ (x4 + (nI 1)) μ h
def f_X8_fits_65 (a1 : Int32) (kb29 : Int32 → Int32 → Int32 → Mem → Option (Int32 × Mem)) (x2 : Int32) (x4 : Int32) (t0 : Int32) (μ : Mem) : Option (Int32 × Mem) := f_X8_fits_66 a1 kb29 x2 x4 t0 (nI 0) μ
set_option maxHeartbeats 4000000 in
set_option maxRecDepth 100000 in
theorem w_X8_fits_65 {Γ : jG} (C : jC Γ 5 cX8_fits RX8 rmX8_fits) {a1 : Int32} {kb29 : Int32 → Int32 → Int32 → Mem → Option (Int32 × Mem)} {ρ : Int32 × Mem} (E : jEI Γ cX8_fits ρ.1 ρ.2) (Hkb29 : ∀ (x2 : Int32) (x3 : Int32) (x4 : Int32) (μ : Mem), kb29 x2 x3 x4 μ = some ρ → jJ Γ 5 29 [(0, .ref 113), (1, .int a1), (2, .int x2), (3, .int x3), (4, .int x4)] [] μ) (x2 : Int32) (x4 : Int32) (t0 : Int32) (μ : Mem) (h : f_X8_fits_65 a1 kb29 x2 x4 t0 μ = some ρ) : jJ Γ 5 65 [(0, .ref 113), (1, .int a1), (2, .int x2), (4, .int x4)] [.int t0] μ := by
  unfold f_X8_fits_65 at h
  refine j_iconst (v := (nI 0)) C dX8_fits_65 rfl (by decide) ?_
  refine j_lv [0, 1, 2, 3] rfl ?_
  exact w_X8_fits_66 C E Hkb29 x2 x4 t0 (nI 0) μ h
def f_X8_fits_29 (a1 : Int32) : Nat → Int32 → Int32 → Int32 → Mem → Option (Int32 × Mem)
  | 0, _, _, _, _ => none
  | n + 1, x2, x3, x4, μ => gd (inb (nI 0) 1829) <| (if ((nI 1) <<< ((μ.1 114 (Int32.toNatClampNeg (nI 0))) &&& 31)) ≤ x4 then some (x3, μ) else Option.bind (f_X8_ones x4 μ) fun p3_ => (if p3_.1 = a1 then (if (x2 &&& (x4 ^^^ (-1))) = 0 then f_X8_fits_66 a1 (fun x2 x3 x4 μ => f_X8_fits_29 a1 n x2 x3 x4 μ) x2 x4 x3 (nI 1) p3_.2 else f_X8_fits_65 a1 (fun x2 x3 x4 μ => f_X8_fits_29 a1 n x2 x3 x4 μ) x2 x4 x3 p3_.2) else f_X8_fits_65 a1 (fun x2 x3 x4 μ => f_X8_fits_29 a1 n x2 x3 x4 μ) x2 x4 x3 p3_.2))
set_option maxHeartbeats 4000000 in
set_option maxRecDepth 100000 in
theorem w_X8_fits_29 {Γ : jG} (C : jC Γ 5 cX8_fits RX8 rmX8_fits) {a1 : Int32} {ρ : Int32 × Mem} (E : jEI Γ cX8_fits ρ.1 ρ.2) : ∀ (n : Nat) (x2 : Int32) (x3 : Int32) (x4 : Int32) (μ : Mem), f_X8_fits_29 a1 n x2 x3 x4 μ = some ρ → jJ Γ 5 29 [(0, .ref 113), (1, .int a1), (2, .int x2), (3, .int x3), (4, .int x4)] [] μ := by
  intro n
  induction n with
  | zero => intro x2 x3 x4 μ h; rw [f_X8_fits_29] at h; cases h
  | succ n ih =>
    intro x2 x3 x4 μ h
    rw [f_X8_fits_29] at h
    refine j_iload C dX8_fits_29 rfl 4 rfl ?_
    refine j_iconst (v := (nI 1)) C dX8_fits_31 rfl (by decide) ?_
    refine j_aload_n C dX8_fits_32 rfl 0 rfl ?_
    refine j_getR (c := 114) C dX8_fits_33 rfl lkX8_7 is_113 rfl ?_
    refine j_iconst (v := (nI 0)) C dX8_fits_36 rfl (by decide) ?_
    replace h := gd_e h
    obtain ⟨g1_, h⟩ := h
    refine j_iald C dX8_fits_37 rfl is_114 g1_ ?_
    refine j_ishl C dX8_fits_38 rfl ?_
    refine j_icmp_ge (tgt := 74) C dX8_fits_39 rfl (by decide) (fun c2_ => ?_) (fun c2_ => ?_)
    · replace h := if_t h c2_
      refine j_iload_n C dX8_fits_74 rfl 3 rfl ?_
      obtain rfl := Option.some.inj h
      exact j_iret E dX8_fits_75
    · replace h := if_f h c2_
      refine j_iload_n C dX8_fits_42 rfl 3 rfl ?_
      refine j_iload C dX8_fits_43 rfl 4 rfl ?_
      replace h := bd_e h
      obtain ⟨p3_, h4_, h⟩ := h
      refine j_cSI (av := [.int x4]) (rest := [.int x3]) C dX8_fits_45 rfl (c_X8_ones _ _ _ _ μ p3_ h4_) gsX8_210 ⟨⟨rfl, rfl⟩, Nat.le_of_ble_eq_true rfl, Nat.le_of_ble_eq_true rfl⟩ rfl rfl (Nat.le_of_ble_eq_true rfl) ?_
      refine j_iload_n C dX8_fits_48 rfl 1 rfl ?_
      refine j_icmp_ne (tgt := 65) C dX8_fits_49 rfl (by decide) (fun c5_ => ?_) (fun c5_ => ?_)
      · replace h := if_f h c5_
        refine j_lv [0, 1, 2, 4] rfl ?_
        exact w_X8_fits_65 C E ih x2 x4 x3 p3_.2 h
      · replace h := if_t h c5_
        refine j_iload_n C dX8_fits_52 rfl 2 rfl ?_
        refine j_iload C dX8_fits_53 rfl 4 rfl ?_
        refine j_iconst (v := (-1)) C dX8_fits_55 rfl (by decide) ?_
        refine j_ixor C dX8_fits_56 rfl ?_
        refine j_iand C dX8_fits_57 rfl ?_
        refine j_if_ne (tgt := 65) C dX8_fits_58 rfl (by decide) (fun c6_ => ?_) (fun c6_ => ?_)
        · replace h := if_f h c6_
          refine j_lv [0, 1, 2, 4] rfl ?_
          exact w_X8_fits_65 C E ih x2 x4 x3 p3_.2 h
        · replace h := if_t h c6_
          refine j_iconst (v := (nI 1)) C dX8_fits_61 rfl (by decide) ?_
          refine j_goto (pc' := 66) C dX8_fits_62 (by decide) ?_
          refine j_lv [0, 1, 2, 4] rfl ?_
          exact w_X8_fits_66 C E ih x2 x4 x3 (nI 1) p3_.2 h
def f_X8_fits (a1 : Int32) (μ : Mem) : Option (Int32 × Mem) := zl (sI μ 113 0 (nI 0)) fun μ1_ => Option.bind (f_X8_in (Int32.toInt64 a1) 0 9 μ1_) fun p3_ => (if p3_.1 = 0 then some ((-1), p3_.2) else Option.bind (f_X8_sureOnes p3_.2) fun p6_ => f_X8_fits_29 a1 zfu p6_.1 (nI 0) (nI 0) p6_.2)
set_option maxHeartbeats 4000000 in
set_option maxRecDepth 100000 in
theorem w_X8_fits {Γ : jG} (C : jC Γ 5 cX8_fits RX8 rmX8_fits) {a1 : Int32} {ρ : Int32 × Mem} (E : jEI Γ cX8_fits ρ.1 ρ.2) (μ : Mem) (h : f_X8_fits a1 μ = some ρ) : jJ Γ 5 0 [(0, .ref 113), (1, .int a1)] [] μ := by
  unfold f_X8_fits at h
  refine j_aload_n C dX8_fits_0 rfl 0 rfl ?_
  refine j_iconst (v := (nI 0)) C dX8_fits_1 rfl (by decide) ?_
  refine j_putI C dX8_fits_2 rfl lpX8_48 is_113 rfl ?_
  refine j_mem (fun μ1_ e2_ => ?_)
  replace h := zl_u h e2_
  refine j_iload_n C dX8_fits_5 rfl 1 rfl ?_
  refine j_i2l C dX8_fits_6 rfl ?_
  refine j_lconst (v := 0) C dX8_fits_7 rfl (by decide) ?_
  refine j_ldc2 (v := 9) C dX8_fits_8 rfl gwt5_62 ?_
  replace h := bd_e h
  obtain ⟨p3_, h4_, h⟩ := h
  refine j_cSI (av := [.long (Int32.toInt64 a1), .long 0, .long 9]) (rest := []) C dX8_fits_11 rfl (c_X8_in _ _ _ _ μ1_ p3_ h4_) gsX8_51 ⟨⟨rfl, rfl⟩, Nat.le_of_ble_eq_true rfl, Nat.le_of_ble_eq_true rfl⟩ rfl rfl (Nat.le_of_ble_eq_true rfl) ?_
  refine j_if_ne (tgt := 19) C dX8_fits_14 rfl (by decide) (fun c5_ => ?_) (fun c5_ => ?_)
  · replace h := if_f h c5_
    refine j_aload_n C dX8_fits_19 rfl 0 rfl ?_
    replace h := bd_e h
    obtain ⟨p6_, h7_, h⟩ := h
    refine j_cVI (av := []) (rest := []) C dX8_fits_20 rfl (c_X8_sureOnes _ _ _ _ p3_.2 p6_ h7_) gvX8_218 ⟨⟨rfl, rfl⟩, Nat.le_of_ble_eq_true rfl, Nat.le_of_ble_eq_true rfl⟩ rfl is_113 rfl rfl (Nat.le_of_ble_eq_true rfl) ?_
    refine j_istore_n (lv' := [(2, .int p6_.1), (0, .ref 113), (1, .int a1)]) C dX8_fits_23 rfl (by decide) rfl ?_
    refine j_iconst (v := (nI 0)) C dX8_fits_24 rfl (by decide) ?_
    refine j_istore_n (lv' := [(3, .int (nI 0)), (2, .int p6_.1), (0, .ref 113), (1, .int a1)]) C dX8_fits_25 rfl (by decide) rfl ?_
    refine j_iconst (v := (nI 0)) C dX8_fits_26 rfl (by decide) ?_
    refine j_istore (lv' := [(4, .int (nI 0)), (3, .int (nI 0)), (2, .int p6_.1), (0, .ref 113), (1, .int a1)]) C dX8_fits_27 rfl (by decide) rfl ?_
    refine j_lv [3, 4, 2, 1, 0] rfl ?_
    exact w_X8_fits_29 C E zfu p6_.1 (nI 0) (nI 0) p6_.2 h
  · replace h := if_t h c5_
    refine j_iconst (v := (-1)) C dX8_fits_17 rfl (by decide) ?_
    obtain rfl := Option.some.inj h
    exact j_iret E dX8_fits_18
set_option maxRecDepth 100000 in
theorem c_X8_fits (l : Launch) (D : va_G) (ad : Nat → Nat) (cl : Nat → ClassId) {a1 : Int32} (μ : Mem) (ρ : Int32 × Mem) (h : f_X8_fits a1 μ = some ρ) : CI l D ad cl yX8_fits wsX8_fits rmX8_fits [.ref 113, .int a1] μ ρ.1 ρ.2 := c_ofI (cc := cX8_fits) (nL := 5) rfl (by decide) (Nat.le_of_ble_eq_true rfl) (fun Γ C E => w_X8_fits C E μ h)
/-! X8_isLogged -/
def wsX8_isLogged : List Cond := .code yX8_isLogged cX8_isLogged 5 (some .boolean) :: G0
def rmX8_isLogged : Room := { frames := 0, cells := 0, slots := 0, locals := 0 }
def f_X8_isLogged_61 (a1 : Int32) (a2 : Int32) (kb5 : Int32 → Int32 → Mem → Option (Int32 × Mem)) (x4 : Int32) (t0 : Int32) (μ : Mem) : Option (Int32 × Mem) := kb5 t0 (x4 + (nI 1)) μ
set_option maxHeartbeats 4000000 in
set_option maxRecDepth 100000 in
theorem w_X8_isLogged_61 {Γ : jG} (C : jC Γ 5 cX8_isLogged RX8 rmX8_isLogged) {a1 : Int32} {a2 : Int32} {kb5 : Int32 → Int32 → Mem → Option (Int32 × Mem)} {ρ : Int32 × Mem} (E : (isB ρ.1 = true → jEI Γ cX8_isLogged ρ.1 ρ.2)) (Hkb5 : ∀ (x3 : Int32) (x4 : Int32) (μ : Mem), kb5 x3 x4 μ = some ρ → jJ Γ 5 5 [(0, .ref 113), (1, .int a1), (2, .int a2), (3, .int x3), (4, .int x4)] [] μ) (x4 : Int32) (t0 : Int32) (μ : Mem) (h : f_X8_isLogged_61 a1 a2 kb5 x4 t0 μ = some ρ) : jJ Γ 5 61 [(0, .ref 113), (1, .int a1), (2, .int a2), (4, .int x4)] [.int t0] μ := by
  unfold f_X8_isLogged_61 at h
  refine j_istore_n (lv' := [(3, .int t0), (0, .ref 113), (1, .int a1), (2, .int a2), (4, .int x4)]) C dX8_isLogged_61 rfl (by decide) rfl ?_
  refine j_iinc (d := (nI 1)) (v := x4 + (nI 1)) (lv' := [(4, .int (x4 + (nI 1))), (3, .int t0), (0, .ref 113), (1, .int a1), (2, .int a2)]) C dX8_isLogged_62 rfl (by decide) 4 rfl (by decide) rfl rfl ?_
  refine j_goto (pc' := 5) C dX8_isLogged_65 (by decide) ?_
  refine j_lv [2, 3, 4, 1, 0] rfl ?_
  exact (Hkb5) t0 (x4 + (nI 1)) μ h
def f_X8_isLogged_60 (a1 : Int32) (a2 : Int32) (kb5 : Int32 → Int32 → Mem → Option (Int32 × Mem)) (x4 : Int32) (μ : Mem) : Option (Int32 × Mem) := f_X8_isLogged_61 a1 a2 kb5 x4 (nI 0) μ
set_option maxHeartbeats 4000000 in
set_option maxRecDepth 100000 in
theorem w_X8_isLogged_60 {Γ : jG} (C : jC Γ 5 cX8_isLogged RX8 rmX8_isLogged) {a1 : Int32} {a2 : Int32} {kb5 : Int32 → Int32 → Mem → Option (Int32 × Mem)} {ρ : Int32 × Mem} (E : (isB ρ.1 = true → jEI Γ cX8_isLogged ρ.1 ρ.2)) (Hkb5 : ∀ (x3 : Int32) (x4 : Int32) (μ : Mem), kb5 x3 x4 μ = some ρ → jJ Γ 5 5 [(0, .ref 113), (1, .int a1), (2, .int a2), (3, .int x3), (4, .int x4)] [] μ) (x4 : Int32) (μ : Mem) (h : f_X8_isLogged_60 a1 a2 kb5 x4 μ = some ρ) : jJ Γ 5 60 [(0, .ref 113), (1, .int a1), (2, .int a2), (4, .int x4)] [] μ := by
  unfold f_X8_isLogged_60 at h
  refine j_iconst (v := (nI 0)) C dX8_isLogged_60 rfl (by decide) ?_
  refine j_lv [0, 1, 2, 3] rfl ?_
  exact w_X8_isLogged_61 C E Hkb5 x4 (nI 0) μ h
def f_X8_isLogged_56 (a1 : Int32) (a2 : Int32) (kb5 : Int32 → Int32 → Mem → Option (Int32 × Mem)) (x4 : Int32) (μ : Mem) : Option (Int32 × Mem) := f_X8_isLogged_61 a1 a2 kb5 x4 (nI 1) μ
set_option maxHeartbeats 4000000 in
set_option maxRecDepth 100000 in
theorem w_X8_isLogged_56 {Γ : jG} (C : jC Γ 5 cX8_isLogged RX8 rmX8_isLogged) {a1 : Int32} {a2 : Int32} {kb5 : Int32 → Int32 → Mem → Option (Int32 × Mem)} {ρ : Int32 × Mem} (E : (isB ρ.1 = true → jEI Γ cX8_isLogged ρ.1 ρ.2)) (Hkb5 : ∀ (x3 : Int32) (x4 : Int32) (μ : Mem), kb5 x3 x4 μ = some ρ → jJ Γ 5 5 [(0, .ref 113), (1, .int a1), (2, .int a2), (3, .int x3), (4, .int x4)] [] μ) (x4 : Int32) (μ : Mem) (h : f_X8_isLogged_56 a1 a2 kb5 x4 μ = some ρ) : jJ Γ 5 56 [(0, .ref 113), (1, .int a1), (2, .int a2), (4, .int x4)] [] μ := by
  unfold f_X8_isLogged_56 at h
  refine j_iconst (v := (nI 1)) C dX8_isLogged_56 rfl (by decide) ?_
  refine j_goto (pc' := 61) C dX8_isLogged_57 (by decide) ?_
  refine j_lv [0, 1, 2, 3] rfl ?_
  exact w_X8_isLogged_61 C E Hkb5 x4 (nI 1) μ h
def f_X8_isLogged_5 (a1 : Int32) (a2 : Int32) : Nat → Int32 → Int32 → Mem → Option (Int32 × Mem)
  | 0, _, _, _ => none
  | n + 1, x3, x4, μ => gd (inb (nI 4) 1829) <| (if (μ.1 114 (Int32.toNatClampNeg (nI 4))) ≤ x4 then gd (isB x3) <| some (x3, μ) else (if x3 = 0 then gd (inb ((nI 1793) + ((nI 3) * x4)) 1829) <| (if (μ.1 114 (Int32.toNatClampNeg ((nI 1793) + ((nI 3) * x4)))) = a1 then gd (inb (((nI 1793) + ((nI 3) * x4)) + (nI 1)) 1829) <| (if (μ.1 114 (Int32.toNatClampNeg (((nI 1793) + ((nI 3) * x4)) + (nI 1)))) = a2 then f_X8_isLogged_56 a1 a2 (fun x3 x4 μ => f_X8_isLogged_5 a1 a2 n x3 x4 μ) x4 μ else f_X8_isLogged_60 a1 a2 (fun x3 x4 μ => f_X8_isLogged_5 a1 a2 n x3 x4 μ) x4 μ) else f_X8_isLogged_60 a1 a2 (fun x3 x4 μ => f_X8_isLogged_5 a1 a2 n x3 x4 μ) x4 μ) else f_X8_isLogged_56 a1 a2 (fun x3 x4 μ => f_X8_isLogged_5 a1 a2 n x3 x4 μ) x4 μ))
set_option maxHeartbeats 4000000 in
set_option maxRecDepth 100000 in
theorem w_X8_isLogged_5 {Γ : jG} (C : jC Γ 5 cX8_isLogged RX8 rmX8_isLogged) {a1 : Int32} {a2 : Int32} {ρ : Int32 × Mem} (E : (isB ρ.1 = true → jEI Γ cX8_isLogged ρ.1 ρ.2)) : ∀ (n : Nat) (x3 : Int32) (x4 : Int32) (μ : Mem), f_X8_isLogged_5 a1 a2 n x3 x4 μ = some ρ → jJ Γ 5 5 [(0, .ref 113), (1, .int a1), (2, .int a2), (3, .int x3), (4, .int x4)] [] μ := by
  intro n
  induction n with
  | zero => intro x3 x4 μ h; rw [f_X8_isLogged_5] at h; cases h
  | succ n ih =>
    intro x3 x4 μ h
    rw [f_X8_isLogged_5] at h
    refine j_iload C dX8_isLogged_5 rfl 4 rfl ?_
    refine j_aload_n C dX8_isLogged_7 rfl 0 rfl ?_
    refine j_getR (c := 114) C dX8_isLogged_8 rfl lkX8_7 is_113 rfl ?_
    refine j_iconst (v := (nI 4)) C dX8_isLogged_11 rfl (by decide) ?_
    replace h := gd_e h
    obtain ⟨g1_, h⟩ := h
    refine j_iald C dX8_isLogged_12 rfl is_114 g1_ ?_
    refine j_icmp_ge (tgt := 68) C dX8_isLogged_13 rfl (by decide) (fun c2_ => ?_) (fun c2_ => ?_)
    · replace h := if_t h c2_
      refine j_iload_n C dX8_isLogged_68 rfl 3 rfl ?_
      replace h := gd_e h
      obtain ⟨g3_, h⟩ := h
      obtain rfl := Option.some.inj h
      exact j_iret (E g3_) dX8_isLogged_69
    · replace h := if_f h c2_
      refine j_iload_n C dX8_isLogged_16 rfl 3 rfl ?_
      refine j_if_ne (tgt := 56) C dX8_isLogged_17 rfl (by decide) (fun c4_ => ?_) (fun c4_ => ?_)
      · replace h := if_f h c4_
        refine j_lv [0, 1, 2, 4] rfl ?_
        exact w_X8_isLogged_56 C E ih x4 μ h
      · replace h := if_t h c4_
        refine j_aload_n C dX8_isLogged_20 rfl 0 rfl ?_
        refine j_getR (c := 114) C dX8_isLogged_21 rfl lkX8_7 is_113 rfl ?_
        refine j_sipush (v := (nI 1793)) C dX8_isLogged_24 rfl (by decide) ?_
        refine j_iconst (v := (nI 3)) C dX8_isLogged_27 rfl (by decide) ?_
        refine j_iload C dX8_isLogged_28 rfl 4 rfl ?_
        refine j_imul C dX8_isLogged_30 rfl ?_
        refine j_iadd C dX8_isLogged_31 rfl ?_
        replace h := gd_e h
        obtain ⟨g5_, h⟩ := h
        refine j_iald C dX8_isLogged_32 rfl is_114 g5_ ?_
        refine j_iload_n C dX8_isLogged_33 rfl 1 rfl ?_
        refine j_icmp_ne (tgt := 60) C dX8_isLogged_34 rfl (by decide) (fun c6_ => ?_) (fun c6_ => ?_)
        · replace h := if_f h c6_
          refine j_lv [0, 1, 2, 4] rfl ?_
          exact w_X8_isLogged_60 C E ih x4 μ h
        · replace h := if_t h c6_
          refine j_aload_n C dX8_isLogged_37 rfl 0 rfl ?_
          refine j_getR (c := 114) C dX8_isLogged_38 rfl lkX8_7 is_113 rfl ?_
          refine j_sipush (v := (nI 1793)) C dX8_isLogged_41 rfl (by decide) ?_
          refine j_iconst (v := (nI 3)) C dX8_isLogged_44 rfl (by decide) ?_
          refine j_iload C dX8_isLogged_45 rfl 4 rfl ?_
          refine j_imul C dX8_isLogged_47 rfl ?_
          refine j_iadd C dX8_isLogged_48 rfl ?_
          refine j_iconst (v := (nI 1)) C dX8_isLogged_49 rfl (by decide) ?_
          refine j_iadd C dX8_isLogged_50 rfl ?_
          replace h := gd_e h
          obtain ⟨g7_, h⟩ := h
          refine j_iald C dX8_isLogged_51 rfl is_114 g7_ ?_
          refine j_iload_n C dX8_isLogged_52 rfl 2 rfl ?_
          refine j_icmp_ne (tgt := 60) C dX8_isLogged_53 rfl (by decide) (fun c8_ => ?_) (fun c8_ => ?_)
          · replace h := if_f h c8_
            refine j_lv [0, 1, 2, 4] rfl ?_
            exact w_X8_isLogged_60 C E ih x4 μ h
          · replace h := if_t h c8_
            refine j_lv [0, 1, 2, 4] rfl ?_
            exact w_X8_isLogged_56 C E ih x4 μ h
def f_X8_isLogged (a1 : Int32) (a2 : Int32) (μ : Mem) : Option (Int32 × Mem) := f_X8_isLogged_5 a1 a2 zfu (nI 0) (nI 0) μ
set_option maxHeartbeats 4000000 in
set_option maxRecDepth 100000 in
theorem w_X8_isLogged {Γ : jG} (C : jC Γ 5 cX8_isLogged RX8 rmX8_isLogged) {a1 : Int32} {a2 : Int32} {ρ : Int32 × Mem} (E : (isB ρ.1 = true → jEI Γ cX8_isLogged ρ.1 ρ.2)) (μ : Mem) (h : f_X8_isLogged a1 a2 μ = some ρ) : jJ Γ 5 0 [(0, .ref 113), (1, .int a1), (2, .int a2)] [] μ := by
  unfold f_X8_isLogged at h
  refine j_iconst (v := (nI 0)) C dX8_isLogged_0 rfl (by decide) ?_
  refine j_istore_n (lv' := [(3, .int (nI 0)), (0, .ref 113), (1, .int a1), (2, .int a2)]) C dX8_isLogged_1 rfl (by decide) rfl ?_
  refine j_iconst (v := (nI 0)) C dX8_isLogged_2 rfl (by decide) ?_
  refine j_istore (lv' := [(4, .int (nI 0)), (3, .int (nI 0)), (0, .ref 113), (1, .int a1), (2, .int a2)]) C dX8_isLogged_3 rfl (by decide) rfl ?_
  refine j_lv [2, 3, 4, 1, 0] rfl ?_
  exact w_X8_isLogged_5 C E zfu (nI 0) (nI 0) μ h
set_option maxRecDepth 100000 in
theorem c_X8_isLogged (l : Launch) (D : va_G) (ad : Nat → Nat) (cl : Nat → ClassId) {a1 : Int32} {a2 : Int32} (μ : Mem) (ρ : Int32 × Mem) (h : f_X8_isLogged a1 a2 μ = some ρ) : CI l D ad cl yX8_isLogged wsX8_isLogged rmX8_isLogged [.ref 113, .int a1, .int a2] μ ρ.1 ρ.2 := c_ofZ (cc := cX8_isLogged) (nL := 5) rfl (by decide) (Nat.le_of_ble_eq_true rfl) (fun Γ C E => w_X8_isLogged C E μ h)
/-! X8_logsOf -/
def wsX8_logsOf : List Cond := .code yX8_logsOf cX8_logsOf 4 (some .int) :: G0
def rmX8_logsOf : Room := { frames := 0, cells := 0, slots := 0, locals := 0 }
def f_X8_logsOf_36 (a1 : Int32) (kb4 : Int32 → Int32 → Mem → Option (Int32 × Mem)) (x3 : Int32) (t0 : Int32) (t1 : Int32) (μ : Mem) : Option (Int32 × Mem) := zl (t0 + t1) fun x1_ => kb4 x1_ (x3 + (nI 1)) μ
set_option maxHeartbeats 4000000 in
set_option maxRecDepth 100000 in
theorem w_X8_logsOf_36 {Γ : jG} (C : jC Γ 4 cX8_logsOf RX8 rmX8_logsOf) {a1 : Int32} {kb4 : Int32 → Int32 → Mem → Option (Int32 × Mem)} {ρ : Int32 × Mem} (E : jEI Γ cX8_logsOf ρ.1 ρ.2) (Hkb4 : ∀ (x2 : Int32) (x3 : Int32) (μ : Mem), kb4 x2 x3 μ = some ρ → jJ Γ 4 4 [(0, .ref 113), (1, .int a1), (2, .int x2), (3, .int x3)] [] μ) (x3 : Int32) (t0 : Int32) (t1 : Int32) (μ : Mem) (h : f_X8_logsOf_36 a1 kb4 x3 t0 t1 μ = some ρ) : jJ Γ 4 36 [(0, .ref 113), (1, .int a1), (3, .int x3)] [.int t1, .int t0] μ := by
  unfold f_X8_logsOf_36 at h
  refine j_iadd C dX8_logsOf_36 rfl ?_
  refine j_topi (fun x1_ e2_ => ?_)
  replace h := zl_u h e2_
  refine j_istore_n (lv' := [(2, .int x1_), (0, .ref 113), (1, .int a1), (3, .int x3)]) C dX8_logsOf_37 rfl (by decide) rfl ?_
  refine j_iinc (d := (nI 1)) (v := x3 + (nI 1)) (lv' := [(3, .int (x3 + (nI 1))), (2, .int x1_), (0, .ref 113), (1, .int a1)]) C dX8_logsOf_38 rfl (by decide) 3 rfl (by decide) rfl rfl ?_
  refine j_goto (pc' := 4) C dX8_logsOf_41 (by decide) ?_
  refine j_lv [2, 3, 1, 0] rfl ?_
  exact (Hkb4) x1_ (x3 + (nI 1)) μ h
def f_X8_logsOf_4 (a1 : Int32) : Nat → Int32 → Int32 → Mem → Option (Int32 × Mem)
  | 0, _, _, _ => none
  | n + 1, x2, x3, μ => gd (inb (nI 4) 1829) <| (if (μ.1 114 (Int32.toNatClampNeg (nI 4))) ≤ x3 then some (x2, μ) else gd (inb ((nI 1793) + ((nI 3) * x3)) 1829) <| (if (μ.1 114 (Int32.toNatClampNeg ((nI 1793) + ((nI 3) * x3)))) = a1 then f_X8_logsOf_36 a1 (fun x2 x3 μ => f_X8_logsOf_4 a1 n x2 x3 μ) x3 x2 (nI 1) μ else f_X8_logsOf_36 a1 (fun x2 x3 μ => f_X8_logsOf_4 a1 n x2 x3 μ) x3 x2 (nI 0) μ))
set_option maxHeartbeats 4000000 in
set_option maxRecDepth 100000 in
theorem w_X8_logsOf_4 {Γ : jG} (C : jC Γ 4 cX8_logsOf RX8 rmX8_logsOf) {a1 : Int32} {ρ : Int32 × Mem} (E : jEI Γ cX8_logsOf ρ.1 ρ.2) : ∀ (n : Nat) (x2 : Int32) (x3 : Int32) (μ : Mem), f_X8_logsOf_4 a1 n x2 x3 μ = some ρ → jJ Γ 4 4 [(0, .ref 113), (1, .int a1), (2, .int x2), (3, .int x3)] [] μ := by
  intro n
  induction n with
  | zero => intro x2 x3 μ h; rw [f_X8_logsOf_4] at h; cases h
  | succ n ih =>
    intro x2 x3 μ h
    rw [f_X8_logsOf_4] at h
    refine j_iload_n C dX8_logsOf_4 rfl 3 rfl ?_
    refine j_aload_n C dX8_logsOf_5 rfl 0 rfl ?_
    refine j_getR (c := 114) C dX8_logsOf_6 rfl lkX8_7 is_113 rfl ?_
    refine j_iconst (v := (nI 4)) C dX8_logsOf_9 rfl (by decide) ?_
    replace h := gd_e h
    obtain ⟨g1_, h⟩ := h
    refine j_iald C dX8_logsOf_10 rfl is_114 g1_ ?_
    refine j_icmp_ge (tgt := 44) C dX8_logsOf_11 rfl (by decide) (fun c2_ => ?_) (fun c2_ => ?_)
    · replace h := if_t h c2_
      refine j_iload_n C dX8_logsOf_44 rfl 2 rfl ?_
      obtain rfl := Option.some.inj h
      exact j_iret E dX8_logsOf_45
    · replace h := if_f h c2_
      refine j_iload_n C dX8_logsOf_14 rfl 2 rfl ?_
      refine j_aload_n C dX8_logsOf_15 rfl 0 rfl ?_
      refine j_getR (c := 114) C dX8_logsOf_16 rfl lkX8_7 is_113 rfl ?_
      refine j_sipush (v := (nI 1793)) C dX8_logsOf_19 rfl (by decide) ?_
      refine j_iconst (v := (nI 3)) C dX8_logsOf_22 rfl (by decide) ?_
      refine j_iload_n C dX8_logsOf_23 rfl 3 rfl ?_
      refine j_imul C dX8_logsOf_24 rfl ?_
      refine j_iadd C dX8_logsOf_25 rfl ?_
      replace h := gd_e h
      obtain ⟨g3_, h⟩ := h
      refine j_iald C dX8_logsOf_26 rfl is_114 g3_ ?_
      refine j_iload_n C dX8_logsOf_27 rfl 1 rfl ?_
      refine j_icmp_ne (tgt := 35) C dX8_logsOf_28 rfl (by decide) (fun c4_ => ?_) (fun c4_ => ?_)
      · replace h := if_f h c4_
        refine j_iconst (v := (nI 0)) C dX8_logsOf_35 rfl (by decide) ?_
        refine j_lv [0, 1, 3] rfl ?_
        exact w_X8_logsOf_36 C E ih x3 x2 (nI 0) μ h
      · replace h := if_t h c4_
        refine j_iconst (v := (nI 1)) C dX8_logsOf_31 rfl (by decide) ?_
        refine j_goto (pc' := 36) C dX8_logsOf_32 (by decide) ?_
        refine j_lv [0, 1, 3] rfl ?_
        exact w_X8_logsOf_36 C E ih x3 x2 (nI 1) μ h
def f_X8_logsOf (a1 : Int32) (μ : Mem) : Option (Int32 × Mem) := f_X8_logsOf_4 a1 zfu (nI 0) (nI 0) μ
set_option maxHeartbeats 4000000 in
set_option maxRecDepth 100000 in
theorem w_X8_logsOf {Γ : jG} (C : jC Γ 4 cX8_logsOf RX8 rmX8_logsOf) {a1 : Int32} {ρ : Int32 × Mem} (E : jEI Γ cX8_logsOf ρ.1 ρ.2) (μ : Mem) (h : f_X8_logsOf a1 μ = some ρ) : jJ Γ 4 0 [(0, .ref 113), (1, .int a1)] [] μ := by
  unfold f_X8_logsOf at h
  refine j_iconst (v := (nI 0)) C dX8_logsOf_0 rfl (by decide) ?_
  refine j_istore_n (lv' := [(2, .int (nI 0)), (0, .ref 113), (1, .int a1)]) C dX8_logsOf_1 rfl (by decide) rfl ?_
  refine j_iconst (v := (nI 0)) C dX8_logsOf_2 rfl (by decide) ?_
  refine j_istore_n (lv' := [(3, .int (nI 0)), (2, .int (nI 0)), (0, .ref 113), (1, .int a1)]) C dX8_logsOf_3 rfl (by decide) rfl ?_
  refine j_lv [2, 3, 1, 0] rfl ?_
  exact w_X8_logsOf_4 C E zfu (nI 0) (nI 0) μ h
set_option maxRecDepth 100000 in
theorem c_X8_logsOf (l : Launch) (D : va_G) (ad : Nat → Nat) (cl : Nat → ClassId) {a1 : Int32} (μ : Mem) (ρ : Int32 × Mem) (h : f_X8_logsOf a1 μ = some ρ) : CI l D ad cl yX8_logsOf wsX8_logsOf rmX8_logsOf [.ref 113, .int a1] μ ρ.1 ρ.2 := c_ofI (cc := cX8_logsOf) (nL := 4) rfl (by decide) (Nat.le_of_ble_eq_true rfl) (fun Γ C E => w_X8_logsOf C E μ h)
theorem gvX8_224 : jm_gv RX8 224 RX8 yX8_isLogged wsX8_isLogged 5 2 := ⟨_, _, gi_V gwt6_53 gwt6_55 gwp4_6 gwt1_9 gwt6_56, rfl, by decide +kernel⟩
theorem gvX8_221 : jm_gv RX8 221 RX8 yX8_logsOf wsX8_logsOf 4 1 := ⟨_, _, gi_V gwt6_49 gwt6_51 gwp4_5 gwt1_9 gwt6_52, rfl, by decide +kernel⟩
/-! X8_ask -/
def wsX8_ask : List Cond := .code yX8_ask cX8_ask 6 (some .int) :: G0
def rmX8_ask : Room := { frames := 1, cells := 0, slots := 0, locals := 24 }
def f_X8_ask_99 (kb13 : Int32 → Int32 → Int32 → Mem → Option (Int32 × Mem)) (x1 : Int32) (x2 : Int32) (x3 : Int32) (μ : Mem) : Option (Int32 × Mem) := kb13 x1 x2 (x3 + (nI 1)) μ
set_option maxHeartbeats 4000000 in
set_option maxRecDepth 100000 in
theorem w_X8_ask_99 {Γ : jG} (C : jC Γ 6 cX8_ask RX8 rmX8_ask) {kb13 : Int32 → Int32 → Int32 → Mem → Option (Int32 × Mem)} {ρ : Int32 × Mem} (E : jEI Γ cX8_ask ρ.1 ρ.2) (Hkb13 : ∀ (x1 : Int32) (x2 : Int32) (x3 : Int32) (μ : Mem), kb13 x1 x2 x3 μ = some ρ → jJ Γ 6 13 [(0, .ref 113), (1, .int x1), (2, .int x2), (3, .int x3)] [] μ) (x1 : Int32) (x2 : Int32) (x3 : Int32) (μ : Mem) (h : f_X8_ask_99 kb13 x1 x2 x3 μ = some ρ) : jJ Γ 6 99 [(0, .ref 113), (1, .int x1), (2, .int x2), (3, .int x3)] [] μ := by
  unfold f_X8_ask_99 at h
  refine j_iinc (d := (nI 1)) (v := x3 + (nI 1)) (lv' := [(3, .int (x3 + (nI 1))), (0, .ref 113), (1, .int x1), (2, .int x2)]) C dX8_ask_99 rfl (by decide) 3 rfl (by decide) rfl rfl ?_
  refine j_goto (pc' := 13) C dX8_ask_102 (by decide) ?_
  refine j_lv [1, 2, 3, 0] rfl ?_
  exact (Hkb13) x1 x2 (x3 + (nI 1)) μ h
def f_X8_ask_93 (kb33 : Int32 → Int32 → Int32 → Int32 → Int32 → Mem → Option (Int32 × Mem)) (kx99 : Int32 → Int32 → Int32 → Mem → Option (Int32 × Mem)) (x1 : Int32) (x2 : Int32) (x3 : Int32) (x4 : Int32) (x5 : Int32) (μ : Mem) : Option (Int32 × Mem) := kb33 x1 x2 x3 x4 (x5 + (nI 1)) μ
set_option maxHeartbeats 4000000 in
set_option maxRecDepth 100000 in
theorem w_X8_ask_93 {Γ : jG} (C : jC Γ 6 cX8_ask RX8 rmX8_ask) {kb33 : Int32 → Int32 → Int32 → Int32 → Int32 → Mem → Option (Int32 × Mem)} {kx99 : Int32 → Int32 → Int32 → Mem → Option (Int32 × Mem)} {ρ : Int32 × Mem} (E : jEI Γ cX8_ask ρ.1 ρ.2) (Hkb33 : ∀ (x1 : Int32) (x2 : Int32) (x3 : Int32) (x4 : Int32) (x5 : Int32) (μ : Mem), kb33 x1 x2 x3 x4 x5 μ = some ρ → jJ Γ 6 33 [(0, .ref 113), (1, .int x1), (2, .int x2), (3, .int x3), (4, .int x4), (5, .int x5)] [] μ) (Hkx99 : ∀ (x1 : Int32) (x2 : Int32) (x3 : Int32) (μ : Mem), kx99 x1 x2 x3 μ = some ρ → jJ Γ 6 99 [(0, .ref 113), (1, .int x1), (2, .int x2), (3, .int x3)] [] μ) (x1 : Int32) (x2 : Int32) (x3 : Int32) (x4 : Int32) (x5 : Int32) (μ : Mem) (h : f_X8_ask_93 kb33 kx99 x1 x2 x3 x4 x5 μ = some ρ) : jJ Γ 6 93 [(0, .ref 113), (1, .int x1), (2, .int x2), (3, .int x3), (4, .int x4), (5, .int x5)] [] μ := by
  unfold f_X8_ask_93 at h
  refine j_iinc (d := (nI 1)) (v := x5 + (nI 1)) (lv' := [(5, .int (x5 + (nI 1))), (0, .ref 113), (1, .int x1), (2, .int x2), (3, .int x3), (4, .int x4)]) C dX8_ask_93 rfl (by decide) 5 rfl (by decide) rfl rfl ?_
  refine j_goto (pc' := 33) C dX8_ask_96 (by decide) ?_
  refine j_lv [1, 2, 3, 4, 5, 0] rfl ?_
  exact (Hkb33) x1 x2 x3 x4 (x5 + (nI 1)) μ h
def f_X8_ask_33 (kx99 : Int32 → Int32 → Int32 → Mem → Option (Int32 × Mem)) : Nat → Int32 → Int32 → Int32 → Int32 → Int32 → Mem → Option (Int32 × Mem)
  | 0, _, _, _, _, _, _ => none
  | n + 1, x1, x2, x3, x4, x5, μ => gd (inb (nI 0) 1829) <| (if (μ.1 114 (Int32.toNatClampNeg (nI 0))) ≤ x5 then kx99 x1 x2 x3 μ else (if x4 ≤ 0 then kx99 x1 x2 x3 μ else Option.bind (f_X8_sureOnes μ) fun p4_ => (if ((p4_.1 >>> (x3 &&& 31)) &&& (nI 1)) = 0 then (if x5 = x3 then f_X8_ask_93 (fun x1 x2 x3 x4 x5 μ => f_X8_ask_33 kx99 n x1 x2 x3 x4 x5 μ) kx99 x1 x2 x3 x4 x5 p4_.2 else Option.bind (f_X8_isLogged x3 x5 p4_.2) fun p8_ => (if p8_.1 = 0 then (if x2 ≤ x4 then f_X8_ask_93 (fun x1 x2 x3 x4 x5 μ => f_X8_ask_33 kx99 n x1 x2 x3 x4 x5 μ) kx99 x1 x2 x3 x4 x5 p8_.2 else zl (((nI 10) * x3) + x5) fun x12_ => f_X8_ask_93 (fun x1 x2 x3 x4 x5 μ => f_X8_ask_33 kx99 n x1 x2 x3 x4 x5 μ) kx99 x12_ x4 x3 x4 x5 p8_.2) else f_X8_ask_93 (fun x1 x2 x3 x4 x5 μ => f_X8_ask_33 kx99 n x1 x2 x3 x4 x5 μ) kx99 x1 x2 x3 x4 x5 p8_.2)) else kx99 x1 x2 x3 p4_.2)))
set_option maxHeartbeats 4000000 in
set_option maxRecDepth 100000 in
theorem w_X8_ask_33 {Γ : jG} (C : jC Γ 6 cX8_ask RX8 rmX8_ask) {kx99 : Int32 → Int32 → Int32 → Mem → Option (Int32 × Mem)} {ρ : Int32 × Mem} (E : jEI Γ cX8_ask ρ.1 ρ.2) (Hkx99 : ∀ (x1 : Int32) (x2 : Int32) (x3 : Int32) (μ : Mem), kx99 x1 x2 x3 μ = some ρ → jJ Γ 6 99 [(0, .ref 113), (1, .int x1), (2, .int x2), (3, .int x3)] [] μ) : ∀ (n : Nat) (x1 : Int32) (x2 : Int32) (x3 : Int32) (x4 : Int32) (x5 : Int32) (μ : Mem), f_X8_ask_33 kx99 n x1 x2 x3 x4 x5 μ = some ρ → jJ Γ 6 33 [(0, .ref 113), (1, .int x1), (2, .int x2), (3, .int x3), (4, .int x4), (5, .int x5)] [] μ := by
  intro n
  induction n with
  | zero => intro x1 x2 x3 x4 x5 μ h; rw [f_X8_ask_33] at h; cases h
  | succ n ih =>
    intro x1 x2 x3 x4 x5 μ h
    rw [f_X8_ask_33] at h
    refine j_iload C dX8_ask_33 rfl 5 rfl ?_
    refine j_aload_n C dX8_ask_35 rfl 0 rfl ?_
    refine j_getR (c := 114) C dX8_ask_36 rfl lkX8_7 is_113 rfl ?_
    refine j_iconst (v := (nI 0)) C dX8_ask_39 rfl (by decide) ?_
    replace h := gd_e h
    obtain ⟨g1_, h⟩ := h
    refine j_iald C dX8_ask_40 rfl is_114 g1_ ?_
    refine j_icmp_ge (tgt := 99) C dX8_ask_41 rfl (by decide) (fun c2_ => ?_) (fun c2_ => ?_)
    · replace h := if_t h c2_
      refine j_lv [0, 1, 2, 3] rfl ?_
      exact (Hkx99) x1 x2 x3 μ h
    · replace h := if_f h c2_
      refine j_iload C dX8_ask_44 rfl 4 rfl ?_
      refine j_if_le (tgt := 99) C dX8_ask_46 rfl (by decide) (fun c3_ => ?_) (fun c3_ => ?_)
      · replace h := if_t h c3_
        refine j_lv [0, 1, 2, 3] rfl ?_
        exact (Hkx99) x1 x2 x3 μ h
      · replace h := if_f h c3_
        refine j_aload_n C dX8_ask_49 rfl 0 rfl ?_
        replace h := bd_e h
        obtain ⟨p4_, h5_, h⟩ := h
        refine j_cVI (av := []) (rest := []) C dX8_ask_50 rfl (c_X8_sureOnes _ _ _ _ μ p4_ h5_) gvX8_218 ⟨⟨rfl, rfl⟩, Nat.le_of_ble_eq_true rfl, Nat.le_of_ble_eq_true rfl⟩ rfl is_113 rfl rfl (Nat.le_of_ble_eq_true rfl) ?_
        refine j_iload_n C dX8_ask_53 rfl 3 rfl ?_
        refine j_ishr C dX8_ask_54 rfl ?_
        refine j_iconst (v := (nI 1)) C dX8_ask_55 rfl (by decide) ?_
        refine j_iand C dX8_ask_56 rfl ?_
        refine j_if_ne (tgt := 99) C dX8_ask_57 rfl (by decide) (fun c6_ => ?_) (fun c6_ => ?_)
        · replace h := if_f h c6_
          refine j_lv [0, 1, 2, 3] rfl ?_
          exact (Hkx99) x1 x2 x3 p4_.2 h
        · replace h := if_t h c6_
          refine j_iload C dX8_ask_60 rfl 5 rfl ?_
          refine j_iload_n C dX8_ask_62 rfl 3 rfl ?_
          refine j_icmp_eq (tgt := 93) C dX8_ask_63 rfl (by decide) (fun c7_ => ?_) (fun c7_ => ?_)
          · replace h := if_t h c7_
            refine j_lv [0, 1, 2, 3, 4, 5] rfl ?_
            exact w_X8_ask_93 C E ih Hkx99 x1 x2 x3 x4 x5 p4_.2 h
          · replace h := if_f h c7_
            refine j_aload_n C dX8_ask_66 rfl 0 rfl ?_
            refine j_iload_n C dX8_ask_67 rfl 3 rfl ?_
            refine j_iload C dX8_ask_68 rfl 5 rfl ?_
            replace h := bd_e h
            obtain ⟨p8_, h9_, h⟩ := h
            refine j_cVI (av := [.int x3, .int x5]) (rest := []) C dX8_ask_70 rfl (c_X8_isLogged _ _ _ _ p4_.2 p8_ h9_) gvX8_224 ⟨⟨rfl, rfl⟩, Nat.le_of_ble_eq_true rfl, Nat.le_of_ble_eq_true rfl⟩ rfl is_113 rfl rfl (Nat.le_of_ble_eq_true rfl) ?_
            refine j_if_ne (tgt := 93) C dX8_ask_73 rfl (by decide) (fun c10_ => ?_) (fun c10_ => ?_)
            · replace h := if_f h c10_
              refine j_lv [0, 1, 2, 3, 4, 5] rfl ?_
              exact w_X8_ask_93 C E ih Hkx99 x1 x2 x3 x4 x5 p8_.2 h
            · replace h := if_t h c10_
              refine j_iload C dX8_ask_76 rfl 4 rfl ?_
              refine j_iload_n C dX8_ask_78 rfl 2 rfl ?_
              refine j_icmp_ge (tgt := 93) C dX8_ask_79 rfl (by decide) (fun c11_ => ?_) (fun c11_ => ?_)
              · replace h := if_t h c11_
                refine j_lv [0, 1, 2, 3, 4, 5] rfl ?_
                exact w_X8_ask_93 C E ih Hkx99 x1 x2 x3 x4 x5 p8_.2 h
              · replace h := if_f h c11_
                refine j_bipush (v := (nI 10)) C dX8_ask_82 rfl (by decide) ?_
                refine j_iload_n C dX8_ask_84 rfl 3 rfl ?_
                refine j_imul C dX8_ask_85 rfl ?_
                refine j_iload C dX8_ask_86 rfl 5 rfl ?_
                refine j_iadd C dX8_ask_88 rfl ?_
                refine j_topi (fun x12_ e13_ => ?_)
                replace h := zl_u h e13_
                refine j_istore_n (lv' := [(1, .int x12_), (0, .ref 113), (2, .int x2), (3, .int x3), (4, .int x4), (5, .int x5)]) C dX8_ask_89 rfl (by decide) rfl ?_
                refine j_iload C dX8_ask_90 rfl 4 rfl ?_
                refine j_istore_n (lv' := [(2, .int x4), (1, .int x12_), (0, .ref 113), (3, .int x3), (4, .int x4), (5, .int x5)]) C dX8_ask_92 rfl (by decide) rfl ?_
                refine j_lv [2, 1, 0, 3, 4, 5] rfl ?_
                exact w_X8_ask_93 C E ih Hkx99 x12_ x4 x3 x4 x5 p8_.2 h
def f_X8_ask_13 : Nat → Int32 → Int32 → Int32 → Mem → Option (Int32 × Mem)
  | 0, _, _, _, _ => none
  | n + 1, x1, x2, x3, μ => gd (inb (nI 0) 1829) <| (if (μ.1 114 (Int32.toNatClampNeg (nI 0))) ≤ x3 then some (x1, μ) else Option.bind (f_X8_logsOf x3 μ) fun p3_ => f_X8_ask_33 (fun x1 x2 x3 μ => f_X8_ask_99 (fun x1 x2 x3 μ => f_X8_ask_13 n x1 x2 x3 μ) x1 x2 x3 μ) zfu x1 x2 x3 p3_.1 (nI 0) p3_.2)
set_option maxHeartbeats 4000000 in
set_option maxRecDepth 100000 in
theorem w_X8_ask_13 {Γ : jG} (C : jC Γ 6 cX8_ask RX8 rmX8_ask) {ρ : Int32 × Mem} (E : jEI Γ cX8_ask ρ.1 ρ.2) : ∀ (n : Nat) (x1 : Int32) (x2 : Int32) (x3 : Int32) (μ : Mem), f_X8_ask_13 n x1 x2 x3 μ = some ρ → jJ Γ 6 13 [(0, .ref 113), (1, .int x1), (2, .int x2), (3, .int x3)] [] μ := by
  intro n
  induction n with
  | zero => intro x1 x2 x3 μ h; rw [f_X8_ask_13] at h; cases h
  | succ n ih =>
    intro x1 x2 x3 μ h
    rw [f_X8_ask_13] at h
    refine j_iload_n C dX8_ask_13 rfl 3 rfl ?_
    refine j_aload_n C dX8_ask_14 rfl 0 rfl ?_
    refine j_getR (c := 114) C dX8_ask_15 rfl lkX8_7 is_113 rfl ?_
    refine j_iconst (v := (nI 0)) C dX8_ask_18 rfl (by decide) ?_
    replace h := gd_e h
    obtain ⟨g1_, h⟩ := h
    refine j_iald C dX8_ask_19 rfl is_114 g1_ ?_
    refine j_icmp_ge (tgt := 105) C dX8_ask_20 rfl (by decide) (fun c2_ => ?_) (fun c2_ => ?_)
    · replace h := if_t h c2_
      refine j_iload_n C dX8_ask_105 rfl 1 rfl ?_
      obtain rfl := Option.some.inj h
      exact j_iret E dX8_ask_106
    · replace h := if_f h c2_
      refine j_aload_n C dX8_ask_23 rfl 0 rfl ?_
      refine j_iload_n C dX8_ask_24 rfl 3 rfl ?_
      replace h := bd_e h
      obtain ⟨p3_, h4_, h⟩ := h
      refine j_cVI (av := [.int x3]) (rest := []) C dX8_ask_25 rfl (c_X8_logsOf _ _ _ _ μ p3_ h4_) gvX8_221 ⟨⟨rfl, rfl⟩, Nat.le_of_ble_eq_true rfl, Nat.le_of_ble_eq_true rfl⟩ rfl is_113 rfl rfl (Nat.le_of_ble_eq_true rfl) ?_
      refine j_istore (lv' := [(4, .int p3_.1), (0, .ref 113), (1, .int x1), (2, .int x2), (3, .int x3)]) C dX8_ask_28 rfl (by decide) rfl ?_
      refine j_iconst (v := (nI 0)) C dX8_ask_30 rfl (by decide) ?_
      refine j_istore (lv' := [(5, .int (nI 0)), (4, .int p3_.1), (0, .ref 113), (1, .int x1), (2, .int x2), (3, .int x3)]) C dX8_ask_31 rfl (by decide) rfl ?_
      refine j_lv [2, 3, 4, 5, 1, 0] rfl ?_
      exact w_X8_ask_33 C E (fun x1 x2 x3 μ h => w_X8_ask_99 C E ih x1 x2 x3 μ h) zfu x1 x2 x3 p3_.1 (nI 0) p3_.2 h
def f_X8_ask (μ : Mem) : Option (Int32 × Mem) := zl (sI μ 113 0 (nI 0)) fun μ1_ => f_X8_ask_13 zfu (-4) (nI 99) (nI 0) μ1_
set_option maxHeartbeats 4000000 in
set_option maxRecDepth 100000 in
theorem w_X8_ask {Γ : jG} (C : jC Γ 6 cX8_ask RX8 rmX8_ask) {ρ : Int32 × Mem} (E : jEI Γ cX8_ask ρ.1 ρ.2) (μ : Mem) (h : f_X8_ask μ = some ρ) : jJ Γ 6 0 [(0, .ref 113)] [] μ := by
  unfold f_X8_ask at h
  refine j_aload_n C dX8_ask_0 rfl 0 rfl ?_
  refine j_iconst (v := (nI 0)) C dX8_ask_1 rfl (by decide) ?_
  refine j_putI C dX8_ask_2 rfl lpX8_48 is_113 rfl ?_
  refine j_mem (fun μ1_ e2_ => ?_)
  replace h := zl_u h e2_
  refine j_bipush (v := (-4)) C dX8_ask_5 rfl (by decide) ?_
  refine j_istore_n (lv' := [(1, .int (-4)), (0, .ref 113)]) C dX8_ask_7 rfl (by decide) rfl ?_
  refine j_bipush (v := (nI 99)) C dX8_ask_8 rfl (by decide) ?_
  refine j_istore_n (lv' := [(2, .int (nI 99)), (1, .int (-4)), (0, .ref 113)]) C dX8_ask_10 rfl (by decide) rfl ?_
  refine j_iconst (v := (nI 0)) C dX8_ask_11 rfl (by decide) ?_
  refine j_istore_n (lv' := [(3, .int (nI 0)), (2, .int (nI 99)), (1, .int (-4)), (0, .ref 113)]) C dX8_ask_12 rfl (by decide) rfl ?_
  refine j_lv [3, 2, 1, 0] rfl ?_
  exact w_X8_ask_13 C E zfu (-4) (nI 99) (nI 0) μ1_ h
set_option maxRecDepth 100000 in
theorem c_X8_ask (l : Launch) (D : va_G) (ad : Nat → Nat) (cl : Nat → ClassId) (μ : Mem) (ρ : Int32 × Mem) (h : f_X8_ask μ = some ρ) : CI l D ad cl yX8_ask wsX8_ask rmX8_ask [.ref 113] μ ρ.1 ρ.2 := c_ofI (cc := cX8_ask) (nL := 6) rfl (by decide) (Nat.le_of_ble_eq_true rfl) (fun Γ C E => w_X8_ask C E μ h)
