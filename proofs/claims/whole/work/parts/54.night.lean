/-! PURE PART: the class's night against the abstract one -/
def NS (μ : Mem) (b : Nat) (σ : St) (h d : Nat) : Prop := μ.1 b 0 = nI (σ 0) ∧ μ.1 b 1 = nI (min (σ 1) 999) ∧ μ.1 b 2 = nI (σ 2) ∧ μ.1 b 3 = nI (σ 5) ∧ μ.1 b 4 = nI h ∧ h < 19 ∧ (∀ r, r < 9 → bt (μ.1 b 5) r = decide (r = d))
def NA (μ : Mem) (b : Nat) (σ : St) : Prop := (∀ r, r < σ 0 → μ.1 (b + 1) r = nI (σ (6 + 6 * r))) ∧ (∀ r, r < σ 0 → μ.1 (b + 2) r = nI (σ (6 + 6 * r + 2))) ∧ (∀ r, r < σ 0 → μ.1 (b + 3) r = nI (σ (6 + 6 * r + 3))) ∧ (∀ r, r < σ 0 → μ.1 (b + 4) r = nI (σ (6 + 6 * r + 4))) ∧ (∀ r, r < σ 0 → μ.1 (b + 5) r = nI (σ (6 + 6 * r + 5))) ∧ (∀ a c, a < σ 0 → c < σ 0 → a ≠ c → μ.1 (b + 7 + a) c = nI (σ (60 + 9 * a + c)))
def NH (μ : Mem) (b : Nat) (σ : St) : Prop := ∀ c r f, c < 2 → r < σ 0 → bt (μ.1 (b + 17 + c) r) f = decide (f < σ 0 ∧ a_hb σ r f = c)
def NR (μ : Mem) (b : Nat) (σ : St) (h : Nat) : Prop := ∀ c s t f, c < 2 → s < 19 → t < 9 → bt (μ.1 (b + 20 + c) ((h + s) % 19 * 9 + t)) f = decide (f < 9 ∧ σ (222 + 19 * (9 * f + t) + (σ 1 + s) % 19) = c + 1)
def NN (μ : Mem) (b : Nat) (σ : St) (h d : Nat) : Prop := NS μ b σ h d ∧ NA μ b σ ∧ NH μ b σ ∧ NR μ b σ h
def FB (b : Nat) (μ μ' : Mem) : Prop := μ'.2 = μ.2 ∧ ∀ k, (k < b ∨ b + 22 ≤ k) → μ'.1 k = μ.1 k
theorem FB.r {b : Nat} {μ : Mem} : FB b μ μ := ⟨rfl, fun _ _ => rfl⟩
theorem FB.t {b : Nat} {μ μ1 μ2 : Mem} (h : FB b μ μ1) (g : FB b μ1 μ2) : FB b μ μ2 := ⟨g.1.trans h.1, fun k hk => (g.2 k hk).trans (h.2 k hk)⟩
theorem FB.w {b k j : Nat} {μ : Mem} {v : Int32} (h1 : b ≤ k) (h2 : k < b + 22) : FB b μ (sI μ k j v) := ⟨rfl, fun k' hk => rd_k (by omega)⟩
theorem NS.mem {μ μ' : Mem} {b h d : Nat} {σ : St} (c : NS μ b σ h d) (e : ∀ j, j < 6 → μ'.1 b j = μ.1 b j) : NS μ' b σ h d := by
  obtain ⟨c0, c1, c2, c3, c4, c5, c6⟩ := c
  refine ⟨?_, ?_, ?_, ?_, ?_, c5, ?_⟩
  · rw [e 0 (by omega)]; exact c0
  · rw [e 1 (by omega)]; exact c1
  · rw [e 2 (by omega)]; exact c2
  · rw [e 3 (by omega)]; exact c3
  · rw [e 4 (by omega)]; exact c4
  · rw [e 5 (by omega)]; exact c6
theorem NS.st {μ : Mem} {b h d : Nat} {σ τ : St} (c : NS μ b σ h d) (e0 : τ 0 = σ 0) (e1 : τ 1 = σ 1) (e2 : τ 2 = σ 2) (e5 : τ 5 = σ 5) : NS μ b τ h d := by
  unfold NS
  rw [e0, e1, e2, e5]
  exact c
theorem NA.mem {μ μ' : Mem} {b : Nat} {σ : St} (c : NA μ b σ) (hn : σ 0 ≤ 9) (e : ∀ k, b + 1 ≤ k → k < b + 16 → μ'.1 k = μ.1 k) : NA μ' b σ := by
  obtain ⟨c1, c2, c3, c4, c5, c6⟩ := c
  refine ⟨?_, ?_, ?_, ?_, ?_, ?_⟩
  · rw [e (b + 1) (by omega) (by omega)]; exact c1
  · rw [e (b + 2) (by omega) (by omega)]; exact c2
  · rw [e (b + 3) (by omega) (by omega)]; exact c3
  · rw [e (b + 4) (by omega) (by omega)]; exact c4
  · rw [e (b + 5) (by omega) (by omega)]; exact c5
  · intro a x ha hx hne
    rw [e (b + 7 + a) (by omega) (by omega)]; exact c6 a x ha hx hne
theorem NA.st {μ : Mem} {b : Nat} {σ τ : St} (c : NA μ b σ) (hn : σ 0 ≤ 9) (e : ∀ j, (j = 0 ∨ (6 ≤ j ∧ j < 141 ∧ (60 ≤ j ∨ (j - 6) % 6 ≠ 1))) → τ j = σ j) : NA μ b τ := by
  obtain ⟨c1, c2, c3, c4, c5, c6⟩ := c
  unfold NA
  rw [e 0 (by omega)]
  refine ⟨fun r hr => ?_, fun r hr => ?_, fun r hr => ?_, fun r hr => ?_, fun r hr => ?_, fun a x ha hx hne => ?_⟩
  · rw [e _ (by omega)]; exact c1 r hr
  · rw [e _ (by omega)]; exact c2 r hr
  · rw [e _ (by omega)]; exact c3 r hr
  · rw [e _ (by omega)]; exact c4 r hr
  · rw [e _ (by omega)]; exact c5 r hr
  · rw [e _ (by omega)]; exact c6 a x ha hx hne
theorem NH.mem {μ μ' : Mem} {b : Nat} {σ : St} (c : NH μ b σ) (e : ∀ k, b + 17 ≤ k → k < b + 19 → μ'.1 k = μ.1 k) : NH μ' b σ := by
  intro q r f hq hr
  rw [e (b + 17 + q) (by omega) (by omega)]
  exact c q r f hq hr
theorem a_hb_st {σ τ : St} {r f : Nat} (h1 : τ (6 + 6 * r + 1) = σ (6 + 6 * r + 1)) (h2 : τ (141 + 9 * r + f) = σ (141 + 9 * r + f)) : a_hb τ r f = a_hb σ r f := by
  unfold a_hb
  rw [h1, h2]
theorem NH.st {μ : Mem} {b : Nat} {σ τ : St} (c : NH μ b σ) (hn : σ 0 ≤ 9) (e0 : τ 0 = σ 0) (e1 : ∀ r, r < 9 → τ (6 + 6 * r + 1) = σ (6 + 6 * r + 1)) (e : ∀ j, 141 ≤ j → j < 222 → τ j = σ j) : NH μ b τ := by
  intro q r f hq hr
  rw [e0] at hr
  rw [c q r f hq hr, e0]
  by_cases hf : f < σ 0
  · rw [a_hb_st (e1 r (by omega)) (e _ (by omega) (by omega))]
  · simp [hf]
theorem NR.mem {μ μ' : Mem} {b h : Nat} {σ : St} (c : NR μ b σ h) (e : ∀ k, b + 20 ≤ k → k < b + 22 → μ'.1 k = μ.1 k) : NR μ' b σ h := by
  intro q s t f hq hs ht
  rw [e (b + 20 + q) (by omega) (by omega)]
  exact c q s t f hq hs ht
theorem NR.st {μ : Mem} {b h : Nat} {σ τ : St} (c : NR μ b σ h) (e1 : τ 1 = σ 1) (e : ∀ j, 222 ≤ j → j < 1761 → τ j = σ j) : NR μ b τ h := by
  intro q s t f hq hs ht
  rw [c q s t f hq hs ht, e1]
  by_cases hf : f < 9
  · rw [e _ (by omega) (by omega)]
  · simp [hf]
/-! counting bits -/
def pc (p : Nat → Bool) : Nat → Nat
  | 0 => 0
  | k + 1 => pc p k + (if p k = true then 1 else 0)
theorem pc_cg {p q : Nat → Bool} {n : Nat} (h : ∀ k, k < n → p k = q k) : pc p n = pc q n := by
  induction n with
  | zero => rfl
  | succ n ih =>
    show pc p n + _ = pc q n + _
    rw [ih (fun k hk => h k (by omega)), h n (by omega)]
theorem pc_le {p : Nat → Bool} {n : Nat} : pc p n ≤ n := by
  induction n with
  | zero => exact Nat.le_refl 0
  | succ n ih =>
    show pc p n + _ ≤ n + 1
    split <;> omega
theorem bt_nI (m f : Nat) (hf : f < 32) : bt (nI m) f = m.testBit f := by
  unfold bt nI
  show (BitVec.ofNat 32 m).getLsbD f = _
  rw [BitVec.getLsbD_ofNat]
  simp [hf]
theorem small_nI {x : Int32} (h : ∀ f, 9 ≤ f → f < 32 → bt x f = false) : ∃ m, m < 512 ∧ x = nI m := by
  refine ⟨x.toBitVec.toNat % 2 ^ 9, Nat.mod_lt _ (by decide), ?_⟩
  apply bt_ext
  intro f hf
  rw [bt_nI _ _ hf, Nat.testBit_mod_two_pow, BitVec.testBit_toNat]
  by_cases h9 : f < 9
  · simp [h9, bt]
  · rw [h f (by omega) hf]
    simp [h9]
set_option maxRecDepth 20000 in
theorem bc_512 : ∀ m, m < 512 → (f_J6_bitCount_0f7a4 (nI m) mu0).map (·.1) = some (nI (pc (fun f => bt (nI m) f) 9)) := by decide +kernel
theorem bc_mu {x : Int32} {μ : Mem} : f_J6_bitCount_0f7a4 x μ = some (((f_J6_bitCount_0f7a4 x mu0).map (·.1)).getD 0, μ) := rfl
theorem bc_e {x : Int32} {μ : Mem} (h : ∀ f, 9 ≤ f → f < 32 → bt x f = false) : f_J6_bitCount_0f7a4 x μ = some (nI (pc (bt x) 9), μ) := by
  obtain ⟨m, hm, rfl⟩ := small_nI h
  rw [bc_mu, bc_512 m hm]
  rfl
theorem pc_cb {σ : St} {r c n : Nat} {p : Nat → Bool} (hp : ∀ k, k < 9 → p k = decide (k < n ∧ (if c = 2 then a_hb σ r k < 2 else a_hb σ r k = c))) : ∀ m, m ≤ 9 → pc p m = a_cb σ r c (min m n) := by
  intro m
  induction m with
  | zero => intro _; simp [pc, a_cb]
  | succ m ih =>
    intro hm
    show pc p m + _ = _
    rw [ih (by omega), hp m (by omega)]
    by_cases c1 : m < n
    · rw [show min m n = m by omega, show min (m + 1) n = m + 1 by omega]
      show _ = a_cb σ r c m + a_ci σ r c m
      unfold a_ci
      by_cases c2 : c = 2
      · simp [c1, c2]
      · simp [c1, c2]
    · rw [show min m n = n by omega, show min (m + 1) n = n by omega]
      simp [c1]
