/-! PURE PART: the invariant of the law's loop -/
def bw (a : Int32) (l h : Nat) : Bool := decide ((l : Int) ≤ a.toInt) && decide (a.toInt ≤ (h : Int))
def br (a : Int32) (n : Nat) : Bool := decide (0 ≤ a.toInt) && decide (a.toInt < (n : Int))
theorem bw_t {a : Int32} {l h : Nat} (e : bw a l h = true) : ∃ n, l ≤ n ∧ n ≤ h ∧ n < 2 ^ 31 ∧ a = nI n := by
  unfold bw at e
  rw [Bool.and_eq_true, decide_eq_true_eq, decide_eq_true_eq] at e
  exact bet_nI l h e.1 e.2
theorem br_t' {a : Int32} {n : Nat} (e : br a n = true) : ∃ m, m < n ∧ m < 2 ^ 31 ∧ a = nI m := by
  unfold br at e
  rw [Bool.and_eq_true, decide_eq_true_eq, decide_eq_true_eq] at e
  obtain ⟨m, h1, h2, h3, h4⟩ := bet_nI (a := a) 0 (n - 1) (by omega) (by omega)
  exact ⟨m, by omega, h3, h4⟩
theorem within_n {a : Int32} {l h : Nat} {μ : Mem} (hl : l < 2 ^ 31) (hh : h < 2 ^ 31) : f_X7_within a (nI l) (nI h) μ = some (nI (if bw a l h = true then 1 else 0), μ) := by
  rw [within_e, nI_toInt hl, nI_toInt hh]
  unfold bw
  simp only [Bool.and_eq_true, decide_eq_true_eq]
theorem within_r {a : Int32} {n : Nat} {μ : Mem} (hn : n < 2 ^ 30) : f_X7_within a (nI 0) (nI n - nI 1) μ = some (nI (if br a n = true then 1 else 0), μ) := by
  rw [within_e, nI_toInt (by omega), pk_sub_toInt hn (by omega)]
  unfold br
  simp only [Bool.and_eq_true, decide_eq_true_eq]
  have : (((0 : Nat) : Int) ≤ a.toInt ∧ a.toInt ≤ (n : Int) - ((1 : Nat) : Int)) ↔ (0 ≤ a.toInt ∧ a.toInt < (n : Int)) := by omega
  simp only [this]
theorem in_n {a : Int32} {lo hi : Int64} {l h : Nat} {μ : Mem} (hl : lo.toInt = (l : Int)) (hh : hi.toInt = (h : Int)) : f_X8_in a.toInt64 lo hi μ = some (nI (if bw a l h = true then 1 else 0), μ) := by
  rw [in_e, Int32.toInt_toInt64, hl, hh]
  unfold bw
  simp only [Bool.and_eq_true, decide_eq_true_eq]
theorem in_r {a : Int32} {n : Nat} {μ : Mem} (hn : n < 2 ^ 30) : f_X8_in a.toInt64 0 (nI n - nI 1).toInt64 μ = some (nI (if br a n = true then 1 else 0), μ) := by
  rw [in_e, Int32.toInt_toInt64, Int32.toInt_toInt64, pk_sub_toInt hn (by omega)]
  unfold br
  simp only [Bool.and_eq_true, decide_eq_true_eq]
  have z : (0 : Int64).toInt = 0 := by decide
  rw [z]
  have : (0 ≤ a.toInt ∧ a.toInt ≤ (n : Int) - ((1 : Nat) : Int)) ↔ (0 ≤ a.toInt ∧ a.toInt < (n : Int)) := by omega
  simp only [this]
theorem in_0_5 {a : Int32} {μ : Mem} : f_X8_in a.toInt64 0 5 μ = some (nI (if bw a 0 5 = true then 1 else 0), μ) := in_n (by decide) (by decide)
theorem in_0_1 {a : Int32} {μ : Mem} : f_X8_in a.toInt64 0 1 μ = some (nI (if bw a 0 1 = true then 1 else 0), μ) := in_n (by decide) (by decide)
theorem in_0_99 {a : Int32} {μ : Mem} : f_X8_in a.toInt64 0 99 μ = some (nI (if bw a 0 99 = true then 1 else 0), μ) := in_n (by decide) (by decide)
theorem in_0_100 {a : Int32} {μ : Mem} : f_X8_in a.toInt64 0 100 μ = some (nI (if bw a 0 100 = true then 1 else 0), μ) := in_n (by decide) (by decide)
theorem in_1_9 {a : Int32} {μ : Mem} : f_X8_in a.toInt64 1 9 μ = some (nI (if bw a 1 9 = true then 1 else 0), μ) := in_n (by decide) (by decide)
theorem in_0_7 {a : Int32} {μ : Mem} : f_X8_in a.toInt64 0 7 μ = some (nI (if bw a 0 7 = true then 1 else 0), μ) := in_n (by decide) (by decide)
theorem in_0_2 {a : Int32} {μ : Mem} : f_X8_in a.toInt64 0 2 μ = some (nI (if bw a 0 2 = true then 1 else 0), μ) := in_n (by decide) (by decide)
theorem in_0_18 {a : Int32} {μ : Mem} : f_X8_in a.toInt64 0 18 μ = some (nI (if bw a 0 18 = true then 1 else 0), μ) := in_n (by decide) (by decide)
theorem in_0_3 {a : Int32} {μ : Mem} : f_X8_in a.toInt64 0 3 μ = some (nI (if bw a 0 3 = true then 1 else 0), μ) := in_n (by decide) (by decide)
theorem in_0_9 {a : Int32} {μ : Mem} : f_X8_in a.toInt64 0 9 μ = some (nI (if bw a 0 9 = true then 1 else 0), μ) := in_n (by decide) (by decide)
theorem in_32_126 {a : Int32} {μ : Mem} : f_X8_in a.toInt64 32 126 μ = some (nI (if bw a 32 126 = true then 1 else 0), μ) := in_n (by decide) (by decide)
theorem in_48_57 {a : Int32} {μ : Mem} : f_X8_in a.toInt64 48 57 μ = some (nI (if bw a 48 57 = true then 1 else 0), μ) := in_n (by decide) (by decide)
theorem in_1_60 {a : Int32} {μ : Mem} : f_X8_in a.toInt64 1 60 μ = some (nI (if bw a 1 60 = true then 1 else 0), μ) := in_n (by decide) (by decide)
theorem in_0_60 {a : Int32} {μ : Mem} : f_X8_in a.toInt64 0 60 μ = some (nI (if bw a 0 60 = true then 1 else 0), μ) := in_n (by decide) (by decide)
theorem in_0_8 {a : Int32} {μ : Mem} : f_X8_in a.toInt64 0 8 μ = some (nI (if bw a 0 8 = true then 1 else 0), μ) := in_n (by decide) (by decide)
theorem in_0_4 {a : Int32} {μ : Mem} : f_X8_in a.toInt64 0 4 μ = some (nI (if bw a 0 4 = true then 1 else 0), μ) := in_n (by decide) (by decide)
/-! logs -/
def NG (μ : Mem) (k : Nat) (σ : St) : Prop := μ.1 k 0 = nI (σ 4) ∧ ∀ i, i < σ 4 → μ.1 (k + 1) i = nI (σ (1793 + 3 * i)) ∧ μ.1 (k + 2) i = nI (σ (1793 + 3 * i + 1)) ∧ μ.1 (k + 3) i = nI (σ (1793 + 3 * i + 2))
theorem NG.mem {μ μ' : Mem} {k : Nat} {σ : St} (c : NG μ k σ) (e : ∀ q, k ≤ q → q < k + 4 → μ'.1 q = μ.1 q) : NG μ' k σ := by
  obtain ⟨c0, c1⟩ := c
  refine ⟨by rw [e k (by omega) (by omega)]; exact c0, fun i hi => ?_⟩
  rw [e (k + 1) (by omega) (by omega), e (k + 2) (by omega) (by omega), e (k + 3) (by omega) (by omega)]
  exact c1 i hi
theorem NG.st {μ : Mem} {k : Nat} {σ τ : St} (c : NG μ k σ) (h12 : σ 4 ≤ 12) (e4 : τ 4 = σ 4) (e : ∀ j, 1793 ≤ j → j < 1829 → τ j = σ j) : NG μ k τ := by
  obtain ⟨c0, c1⟩ := c
  unfold NG
  rw [e4]
  refine ⟨c0, fun i hi => ?_⟩
  rw [e _ (by omega) (by omega), e _ (by omega) (by omega), e _ (by omega) (by omega)]
  exact c1 i hi
theorem NN.mem {μ μ' : Mem} {b h d : Nat} {σ : St} (c : NN μ b σ h d) (hn : σ 0 ≤ 9) (e : ∀ k, b ≤ k → k < b + 22 → μ'.1 k = μ.1 k) : NN μ' b σ h d :=
  ⟨c.1.mem (fun j _ => by rw [e b (by omega) (by omega)]), c.2.1.mem hn (fun k h1 h2 => e k (by omega) (by omega)), c.2.2.1.mem (fun k h1 h2 => e k (by omega) (by omega)), c.2.2.2.mem (fun k h1 h2 => e k (by omega) (by omega))⟩
theorem NN.st {μ : Mem} {b h d : Nat} {σ τ : St} (c : NN μ b σ h d) (hn : σ 0 ≤ 9) (e : ∀ j, j < 1761 → j ≠ 3 → j ≠ 4 → τ j = σ j) : NN μ b τ h d :=
  ⟨c.1.st (e 0 (by omega) (by omega) (by omega)) (e 1 (by omega) (by omega) (by omega)) (e 2 (by omega) (by omega) (by omega)) (e 5 (by omega) (by omega) (by omega)), c.2.1.st hn (fun j hj => e j (by omega) (by omega) (by omega)), c.2.2.1.st hn (e 0 (by omega) (by omega) (by omega)) (fun r hr => e _ (by omega) (by omega) (by omega)) (fun j h1 h2 => e j (by omega) (by omega) (by omega)), c.2.2.2.st (e 1 (by omega) (by omega) (by omega)) (fun j h1 h2 => e j (by omega) (by omega) (by omega))⟩
/-! one state: the reference's row, the class's night, law, logs -/
def IA (μ : Mem) (σ : St) (h rw_ bN bL bG : Nat) : Prop := RR μ rw_ σ ∧ WF σ ∧ ZR σ ∧ σ 1 ≤ 999 ∧ NN μ bN σ h 9 ∧ isB (μ.1 bN 6) = true ∧ NL μ bL σ ∧ NG μ bG σ
theorem IA.mem {μ μ' : Mem} {σ : St} {h rw_ bN bL bG : Nat} (a : IA μ σ h rw_ bN bL bG) (e0 : μ'.1 rw_ = μ.1 rw_) (e1 : ∀ k, bN ≤ k → k < bN + 22 → μ'.1 k = μ.1 k) (e2 : ∀ k, bL ≤ k → k < bL + 5 → μ'.1 k = μ.1 k) (e3 : ∀ k, bG ≤ k → k < bG + 4 → μ'.1 k = μ.1 k) : IA μ' σ h rw_ bN bL bG := by
  obtain ⟨r, w, z, m, n, s, l, g⟩ := a
  exact ⟨fun j hj => by rw [e0]; exact r j hj, w, z, m, n.mem w.n e1, by rw [e1 bN (by omega) (by omega)]; exact s, l.mem e2, g.mem e3⟩
def IK (μ : Mem) : Prop := (μ.1 0 2 = nI 0 ∧ μ.1 113 5 = nI 0) ∨ (μ.1 0 2 = nI 1 ∧ μ.1 113 5 = nI 1 ∧ ∃ σ h, IA μ σ h 117 34 56 61)
def IT (μ : Mem) : Prop := ∃ n, n ≤ 160 ∧ μ.1 93 0 = nI n ∧ μ.1 113 7 = nI n ∧ ∀ i, i < n → ∃ v, 32 ≤ v ∧ v ≤ 126 ∧ μ.1 103 i = nI v ∧ μ.1 118 i = nI v
def IS1 (μ : Mem) (s : Nat) : Prop := ((μ.1 (105 + s) 0 = nI 0 ∧ μ.1 120 s = -1) ∨ (μ.1 (105 + s) 0 = nI 1 ∧ ∃ l, l ≤ 3 ∧ μ.1 (105 + s) 1 = nI l ∧ μ.1 120 s = nI l)) ∧ (∃ z, z ≤ 24 ∧ μ.1 (105 + s) 2 = nI z ∧ μ.1 121 s = nI z) ∧ (∀ i, i < 24 → μ.2 (109 + s) i = μ.2 122 (24 * s + i))
def IS (μ : Mem) : Prop := ∀ s, s < 4 → IS1 μ s
def II (μ : Mem) : Prop := (∃ σ h, IA μ σ h 114 2 24 29) ∧ IK μ ∧ IT μ ∧ IS μ ∧ L16 μ false ∧ D17 μ 9
/-- what a call leaves as it was: all but the trials, the reference's rows of trial, its scratch -/
def FX (μ μ' : Mem) : Prop := (∀ k, (k < 65 ∨ (93 ≤ k ∧ k < 113) ∨ k = 114 ∨ k = 117 ∨ k = 118 ∨ k = 120 ∨ k = 121) → (k = 93 ∨ (94 ≤ k ∧ k < 103) ∨ μ'.1 k = μ.1 k)) ∧ μ'.1 93 0 = μ.1 93 0 ∧ (∀ j, (j = 5 ∨ j = 7 ∨ j = 16 ∨ j = 17) → μ'.1 113 j = μ.1 113 j) ∧ (∀ k, k ≠ 124 → μ'.2 k = μ.2 k)
theorem FX.r {μ : Mem} : FX μ μ := ⟨fun _ _ => Or.inr (Or.inr rfl), rfl, fun _ _ => rfl, fun _ _ => rfl⟩
theorem FX.e {μ μ' : Mem} (f : FX μ μ') {k : Nat} (h : k < 65 ∨ (103 ≤ k ∧ k < 113) ∨ k = 114 ∨ k = 117 ∨ k = 118 ∨ k = 120 ∨ k = 121) : μ'.1 k = μ.1 k := by
  rcases f.1 k (by omega) with e | e | e
  · omega
  · omega
  · exact e
theorem FX.t {μ μ1 μ2 : Mem} (f : FX μ μ1) (g : FX μ1 μ2) : FX μ μ2 := by
  refine ⟨fun k hk => ?_, g.2.1.trans f.2.1, fun j hj => (g.2.2.1 j hj).trans (f.2.2.1 j hj), fun k hk => (g.2.2.2 k hk).trans (f.2.2.2 k hk)⟩
  rcases f.1 k hk with e | e | e
  · exact Or.inl e
  · exact Or.inr (Or.inl e)
  · rcases g.1 k hk with e' | e' | e'
    · exact Or.inl e'
    · exact Or.inr (Or.inl e')
    · exact Or.inr (Or.inr (e'.trans e))
theorem FX.fb {μ μ' : Mem} (f : FB 66 μ μ') : FX μ μ' := ⟨fun k hk => Or.inr (Or.inr (f.2 k (by omega))), by rw [f.2 93 (by omega)], fun j _ => by rw [f.2 113 (by omega)], fun k _ => by rw [f.1]⟩
theorem FX.th {μ : Mem} {v : Int32} : FX μ (sI μ 113 0 v) := ⟨fun k hk => Or.inr (Or.inr (rd_k (by omega))), by rw [rd_k (by omega)], fun j hj => rd_j (by omega), fun _ _ => rfl⟩
theorem FX.rx {μ : Mem} {v : Int32} {τ : St} {k : Nat} (hk : k = 115 ∨ k = 116) : FX μ (rM (sI μ 113 18 v) k τ) := ⟨fun q hq => Or.inr (Or.inr (by rw [rM_k (by omega), rd_k (by omega)])), by rw [rM_k (by omega), rd_k (by omega)], fun j hj => by rw [rM_k (by omega), rd_j (by omega)], fun _ _ => rfl⟩
theorem FX.w {μ : Mem} {k j : Nat} {v : Int32} (h : (65 ≤ k ∧ k < 93) ∨ k = 115 ∨ k = 116 ∨ k = 119 ∨ (122 ≤ k)) : FX μ (sI μ k j v) := ⟨fun q hq => Or.inr (Or.inr (rd_k (by omega))), by rw [rd_k (by omega)], fun q hq => by rw [rd_k (by omega)], fun _ _ => rfl⟩
theorem FX.rm {μ : Mem} {τ : St} {k : Nat} (hk : k = 115 ∨ k = 116) : FX μ (rM μ k τ) := ⟨fun q hq => Or.inr (Or.inr (by rw [rM_k (by omega)])), by rw [rM_k (by omega)], fun j hj => by rw [rM_k (by omega)], fun _ _ => rfl⟩
theorem IT.fx {μ μ' : Mem} (a : IT μ) (f : FX μ μ') : IT μ' := by
  obtain ⟨n, h1, h2, h3, h4⟩ := a
  refine ⟨n, h1, by rw [f.2.1]; exact h2, by rw [f.2.2.1 7 (by omega)]; exact h3, fun i hi => ?_⟩
  rw [f.e (k := 103) (by omega), f.e (k := 118) (by omega)]
  exact h4 i hi
theorem IS.fx {μ μ' : Mem} (a : IS μ) (f : FX μ μ') : IS μ' := by
  intro s hs
  unfold IS1
  rw [f.e (k := 105 + s) (by omega), f.e (k := 120) (by omega), f.e (k := 121) (by omega), f.2.2.2 (109 + s) (by omega), f.2.2.2 122 (by omega)]
  exact a s hs
theorem IK.fx {μ μ' : Mem} (a : IK μ) (f : FX μ μ') : IK μ' := by
  unfold IK
  rw [f.e (k := 0) (by omega), f.2.2.1 5 (by omega)]
  rcases a with a | ⟨a1, a2, σ, h, a3⟩
  · exact Or.inl a
  · exact Or.inr ⟨a1, a2, σ, h, a3.mem (f.e (by omega)) (fun k h1 h2 => f.e (by omega)) (fun k h1 h2 => f.e (by omega)) (fun k h1 h2 => f.e (by omega))⟩
theorem II.fx {μ μ' : Mem} (a : II μ) (f : FX μ μ') : II μ' := by
  obtain ⟨⟨σ, h, a1⟩, a2, a3, a4, a5, a6⟩ := a
  refine ⟨⟨σ, h, a1.mem (f.e (by omega)) (fun k h1 h2 => f.e (by omega)) (fun k h1 h2 => f.e (by omega)) (fun k h1 h2 => f.e (by omega))⟩, a2.fx f, a3.fx f, a4.fx f, ?_, ?_⟩
  · unfold L16; rw [f.2.2.1 16 (by omega)]; exact a5
  · unfold D17; rw [f.2.2.1 17 (by omega)]; exact a6
/-- what a call that changes the state leaves: all but cells 1 to 32, 65 to 92, and the reference's 114 to 116 -/
def FS (μ μ' : Mem) : Prop := (∀ k, (k = 0 ∨ (33 ≤ k ∧ k < 65) ∨ (93 ≤ k ∧ k < 113) ∨ (117 ≤ k ∧ k < 122)) → μ'.1 k = μ.1 k) ∧ (∀ j, (j = 5 ∨ j = 7 ∨ j = 16 ∨ j = 17) → μ'.1 113 j = μ.1 113 j) ∧ μ'.2 = μ.2
theorem FS.r {μ : Mem} : FS μ μ := ⟨fun _ _ => rfl, fun _ _ => rfl, rfl⟩
theorem FS.t {μ μ1 μ2 : Mem} (f : FS μ μ1) (g : FS μ1 μ2) : FS μ μ2 := ⟨fun k hk => (g.1 k hk).trans (f.1 k hk), fun j hj => (g.2.1 j hj).trans (f.2.1 j hj), g.2.2.trans f.2.2⟩
theorem FS.w {μ : Mem} {k j : Nat} {v : Int32} (h : (1 ≤ k ∧ k < 33) ∨ (65 ≤ k ∧ k < 93) ∨ k = 114 ∨ k = 115 ∨ k = 116) : FS μ (sI μ k j v) := ⟨fun q hq => rd_k (by omega), fun q hq => by rw [rd_k (by omega)], rfl⟩
theorem FS.a {μ : Mem} {k : Nat} {f : Nat → Int32} (h : (1 ≤ k ∧ k < 33) ∨ (65 ≤ k ∧ k < 93) ∨ k = 114 ∨ k = 115 ∨ k = 116) : FS μ (sA μ k f) := ⟨fun q hq => rdA_k (by omega), fun q hq => by rw [rdA_k (by omega)], rfl⟩
theorem FS.th {μ : Mem} {j : Nat} {v : Int32} (hj : j = 0 ∨ j = 18) : FS μ (sI μ 113 j v) := ⟨fun k hk => rd_k (by omega), fun q hq => rd_j (by omega), rfl⟩
theorem FS.fb {μ μ' : Mem} (f : FB 2 μ μ') : FS μ μ' := ⟨fun k hk => f.2 k (by omega), fun j _ => by rw [f.2 113 (by omega)], f.1⟩
theorem FS.rm {μ : Mem} {σ : St} {k : Nat} (hk : k = 114 ∨ k = 115 ∨ k = 116) : FS μ (rM μ k σ) := ⟨fun q hq => rM_k (by omega), fun j hj => by rw [rM_k (by omega)], rfl⟩
theorem II.fs {μ μ' : Mem} {σ : St} {h : Nat} (a : II μ) (f : FS μ μ') (n : IA μ' σ h 114 2 24 29) : II μ' := by
  obtain ⟨_, a2, ⟨m, t1, t2, t3, t4⟩, a4, a5, a6⟩ := a
  refine ⟨⟨σ, h, n⟩, ?_, ⟨m, t1, by rw [f.1 93 (by omega)]; exact t2, by rw [f.2.1 7 (by omega)]; exact t3, fun i hi => ?_⟩, fun s hs => ?_, ?_, ?_⟩
  · unfold IK
    rw [f.1 0 (by omega), f.2.1 5 (by omega)]
    rcases a2 with a2 | ⟨b1, b2, σ, h, b3⟩
    · exact Or.inl a2
    · exact Or.inr ⟨b1, b2, σ, h, b3.mem (f.1 117 (by omega)) (fun k h1 h2 => f.1 k (by omega)) (fun k h1 h2 => f.1 k (by omega)) (fun k h1 h2 => f.1 k (by omega))⟩
  · rw [f.1 103 (by omega), f.1 118 (by omega)]
    exact t4 i hi
  · unfold IS1
    rw [f.1 (105 + s) (by omega), f.1 120 (by omega), f.1 121 (by omega), f.2.2]
    exact a4 s hs
  · unfold L16; rw [f.2.1 16 (by omega)]; exact a5
  · unfold D17; rw [f.2.1 17 (by omega)]; exact a6
/-! who is a rock -/
theorem x7_isRock {μ : Mem} {a : Int32} {n : Nat} (h : μ.1 2 0 = nI n) (hn : n ≤ 9) : f_X7_isRock a μ = some (nI (if br a n = true then 1 else 0), μ) := by
  unfold f_X7_isRock
  rw [h, within_r (by omega), bd_y, isB_if, gd_y]
theorem x8_isRock {μ : Mem} {a : Int32} {σ : St} (hn : σ 0 ≤ 9) : f_X8_isRock a (rM μ 114 σ) = some (nI (if br a (σ 0) = true then 1 else 0), rM μ 114 σ) := by
  unfold f_X8_isRock
  simp (disch := omega) only [nI_add, pk_mul, nI_clamp, nI_eqE, nI_leE, nI_ltE, nI_eq0, nI_le0, nI_lt0, nI_ge0, nI_gt0, pk_rem, pk_sub, inb_t, gd_y, zl_e, bd_y, isB_n0, isB_n1, n0_eq, n1_eq, if_n0, if_n1, isB_if, not_true_eq_false, not_false_eq_true, ite_true, ite_false, Nat.le_refl, Nat.lt_irrefl, rM_r, rM_k, rM_w, rM_c, rM_2, rd_s, rd_j, rd_k, sI_sI, in_r]
