/-! where the objects lie -/
def zfu : Nat := 2000
theorem isB_0 : isB 0 = true := by decide
theorem isB_1 : isB 1 = true := by decide
theorem if_t {α : Type} {c : Prop} [Decidable c] {a b : Option α} {r : α} (h : (if c then a else b) = some r) (q : c) : a = some r := by rw [if_pos q] at h; exact h
theorem if_f {α : Type} {c : Prop} [Decidable c] {a b : Option α} {r : α} (h : (if c then a else b) = some r) (q : ¬ c) : b = some r := by rw [if_neg q] at h; exact h
theorem i32_ne {x c : Int32} {z : Int} (h : ¬ x = c) (hc : c.toInt = z) : x.toInt ≠ z := fun q => h (Int32.toInt_inj.mp (q.trans hc.symm))
def nz (x : Int32) : Bool := decide (¬ x = 0)
theorem nz_e {x : Int32} (h : nz x = true) : ¬ x = 0 := of_decide_eq_true h
def isNight (b : Nat) : Prop := b = 2 ∨ b = 34 ∨ b = 66
def isLaw (b : Nat) : Prop := b = 24 ∨ b = 56 ∨ b = 88 ∨ b = 94
def isLogs (b : Nat) : Prop := b = 29 ∨ b = 61
def isState (b : Nat) : Prop := b = 1 ∨ b = 33
def isSheet (b : Nat) : Prop := 105 ≤ b ∧ b < 109
def isItems (k : Nat) : Prop := 109 ≤ k ∧ k < 113
def isRow (k : Nat) : Prop := 114 ≤ k ∧ k < 118
def isItB (k : Nat) : Bool := decide (109 ≤ k) && decide (k < 113)
theorem isItB_e {k : Nat} (h : isItB k = true) : isItems k := by
  unfold isItB at h
  simp only [Bool.and_eq_true, decide_eq_true_eq] at h
  exact h
theorem isItB_0 {k : Nat} (h : isItB k = true) : 0 < k := by have := (isItB_e h).1; omega
theorem isItB_1 {k : Nat} (h : isItB k = true) : k < 125 := by have := (isItB_e h).2; omega
theorem isN2 : isNight 2 := Or.inl rfl
theorem isN34 : isNight 34 := Or.inr (Or.inl rfl)
theorem isN66 : isNight 66 := Or.inr (Or.inr rfl)
theorem isW24 : isLaw 24 := Or.inl rfl
theorem isW56 : isLaw 56 := Or.inr (Or.inl rfl)
theorem isW88 : isLaw 88 := Or.inr (Or.inr (Or.inl rfl))
theorem isW94 : isLaw 94 := Or.inr (Or.inr (Or.inr rfl))
theorem isG29 : isLogs 29 := Or.inl rfl
theorem isG61 : isLogs 61 := Or.inr rfl
theorem isT1 : isState 1 := Or.inl rfl
theorem isT33 : isState 33 := Or.inr rfl
theorem isT_n {b : Nat} (h : isState b) : isNight (b + 1) := by rcases h with rfl | rfl; exact isN2; exact isN34
theorem isT_w {b : Nat} (h : isState b) : isLaw (b + 23) := by rcases h with rfl | rfl; exact isW24; exact isW56
theorem isT_g {b : Nat} (h : isState b) : isLogs (b + 28) := by rcases h with rfl | rfl; exact isG29; exact isG61
theorem isT_0 {b : Nat} (h : isState b) : jm_is b (.inr (4, [(2, b + 1), (2, b + 23), (2, b + 28)])) := by rcases h with rfl | rfl <;> exact ⟨by decide, rfl⟩
theorem isN_0 {b : Nat} (h : isNight b) : jm_is b (.inr (2, [(0, 0), (0, 0), (0, 0), (0, 0), (0, 0), (0, 0), (0, 0), (2, b + 1), (2, b + 2), (2, b + 3), (2, b + 4), (2, b + 5), (2, b + 6), (2, b + 16), (2, b + 19)])) := by rcases h with rfl | rfl | rfl <;> exact ⟨by decide, rfl⟩
theorem isN_a1 {b : Nat} (h : isNight b) : jm_is (b + 1) (.inl (0, 9, 0)) := by rcases h with rfl | rfl | rfl <;> exact ⟨by decide, rfl⟩
theorem isN_a2 {b : Nat} (h : isNight b) : jm_is (b + 2) (.inl (0, 9, 0)) := by rcases h with rfl | rfl | rfl <;> exact ⟨by decide, rfl⟩
theorem isN_a3 {b : Nat} (h : isNight b) : jm_is (b + 3) (.inl (0, 9, 0)) := by rcases h with rfl | rfl | rfl <;> exact ⟨by decide, rfl⟩
theorem isN_a4 {b : Nat} (h : isNight b) : jm_is (b + 4) (.inl (0, 9, 0)) := by rcases h with rfl | rfl | rfl <;> exact ⟨by decide, rfl⟩
theorem isN_a5 {b : Nat} (h : isNight b) : jm_is (b + 5) (.inl (0, 9, 0)) := by rcases h with rfl | rfl | rfl <;> exact ⟨by decide, rfl⟩
theorem isN_a6 {b : Nat} (h : isNight b) : jm_is (b + 6) (.inl (3, 9, b + 7)) := by rcases h with rfl | rfl | rfl <;> exact ⟨by decide, rfl⟩
theorem isN_a16 {b : Nat} (h : isNight b) : jm_is (b + 16) (.inl (3, 2, b + 17)) := by rcases h with rfl | rfl | rfl <;> exact ⟨by decide, rfl⟩
theorem isN_a19 {b : Nat} (h : isNight b) : jm_is (b + 19) (.inl (3, 2, b + 20)) := by rcases h with rfl | rfl | rfl <;> exact ⟨by decide, rfl⟩
theorem inb_lt {i : Int32} {n : Nat} (h : inb i n = true) : i.toNatClampNeg < n := Nat.not_le.mp fun q => inb_e h (Or.inr q)
theorem isN_dl0 : ∀ n, n < 9 → ∀ b ∈ [2, 34, 66], (b + 7 + n < 125 ∧ jm_lay (b + 7 + n) = .inl (0, 9, 0)) := by decide +kernel
theorem isN_hs0 : ∀ n, n < 2 → ∀ b ∈ [2, 34, 66], (b + 17 + n < 125 ∧ jm_lay (b + 17 + n) = .inl (0, 9, 0)) := by decide +kernel
theorem isN_rg0 : ∀ n, n < 2 → ∀ b ∈ [2, 34, 66], (b + 20 + n < 125 ∧ jm_lay (b + 20 + n) = .inl (0, 171, 0)) := by decide +kernel
theorem isN_mem {b : Nat} (h : isNight b) : b ∈ [2, 34, 66] := by rcases h with rfl | rfl | rfl <;> decide
theorem isN_dl {b : Nat} {i : Int32} (h : isNight b) (hi : inb i 9 = true) : jm_is (b + 7 + i.toNatClampNeg) (.inl (0, 9, 0)) := isN_dl0 _ (inb_lt hi) b (isN_mem h)
theorem isN_hs {b : Nat} {i : Int32} (h : isNight b) (hi : inb i 2 = true) : jm_is (b + 17 + i.toNatClampNeg) (.inl (0, 9, 0)) := isN_hs0 _ (inb_lt hi) b (isN_mem h)
theorem isN_rg {b : Nat} {i : Int32} (h : isNight b) (hi : inb i 2 = true) : jm_is (b + 20 + i.toNatClampNeg) (.inl (0, 171, 0)) := isN_rg0 _ (inb_lt hi) b (isN_mem h)
theorem isW_0 {b : Nat} (h : isLaw b) : jm_is b (.inr (0, [(0, 0), (2, b + 1), (2, b + 2), (2, b + 3), (2, b + 4)])) := by rcases h with rfl | rfl | rfl | rfl <;> exact ⟨by decide, rfl⟩
theorem isW_a1 {b : Nat} (h : isLaw b) : jm_is (b + 1) (.inl (0, 8, 0)) := by rcases h with rfl | rfl | rfl | rfl <;> exact ⟨by decide, rfl⟩
theorem isW_a2 {b : Nat} (h : isLaw b) : jm_is (b + 2) (.inl (0, 8, 0)) := by rcases h with rfl | rfl | rfl | rfl <;> exact ⟨by decide, rfl⟩
theorem isW_a3 {b : Nat} (h : isLaw b) : jm_is (b + 3) (.inl (0, 8, 0)) := by rcases h with rfl | rfl | rfl | rfl <;> exact ⟨by decide, rfl⟩
theorem isW_a4 {b : Nat} (h : isLaw b) : jm_is (b + 4) (.inl (0, 8, 0)) := by rcases h with rfl | rfl | rfl | rfl <;> exact ⟨by decide, rfl⟩
theorem isG_0 {b : Nat} (h : isLogs b) : jm_is b (.inr (1, [(0, 0), (2, b + 1), (2, b + 2), (2, b + 3)])) := by rcases h with rfl | rfl <;> exact ⟨by decide, rfl⟩
theorem isG_a1 {b : Nat} (h : isLogs b) : jm_is (b + 1) (.inl (0, 12, 0)) := by rcases h with rfl | rfl <;> exact ⟨by decide, rfl⟩
theorem isG_a2 {b : Nat} (h : isLogs b) : jm_is (b + 2) (.inl (0, 12, 0)) := by rcases h with rfl | rfl <;> exact ⟨by decide, rfl⟩
theorem isG_a3 {b : Nat} (h : isLogs b) : jm_is (b + 3) (.inl (0, 12, 0)) := by rcases h with rfl | rfl <;> exact ⟨by decide, rfl⟩
theorem isS_00 : ∀ n, n < 4 → (105 + n < 125 ∧ jm_lay (105 + n) = .inr (3, [(0, 0), (0, 0), (0, 0), (2, (105 + n) + 4)])) := by decide +kernel
theorem isS_0 {b : Nat} (h : isSheet b) : jm_is b (.inr (3, [(0, 0), (0, 0), (0, 0), (2, b + 4)])) := by
  obtain ⟨n, hn, rfl⟩ : ∃ n, n < 4 ∧ b = 105 + n := ⟨b - 105, by have := h.1; have := h.2; omega, by have := h.1; omega⟩
  exact isS_00 n hn
theorem isI_00 : ∀ n, n < 4 → (109 + n < 125 ∧ jm_lay (109 + n) = .inl (2, 24, 0)) := by decide +kernel
theorem isItems_is {k : Nat} (h : isItems k) : jm_is k (.inl (2, 24, 0)) := by
  obtain ⟨n, hn, rfl⟩ : ∃ n, n < 4 ∧ k = 109 + n := ⟨k - 109, by have := h.1; have := h.2; omega, by have := h.1; omega⟩
  exact isI_00 n hn
theorem isS_items {b : Nat} (h : isSheet b) : isItems (b + 4) := ⟨by have := h.1; omega, by have := h.2; omega⟩
theorem isS_it {b : Nat} (h : isSheet b) : jm_is (b + 4) (.inl (2, 24, 0)) := isItems_is (isS_items h)
theorem isS_of {i : Int32} (h : inb i 4 = true) : isSheet (105 + i.toNatClampNeg) := ⟨by omega, by have := inb_lt h; omega⟩
theorem isR_00 : ∀ n, n < 4 → (114 + n < 125 ∧ jm_lay (114 + n) = .inl (0, 1829, 0)) := by decide +kernel
theorem isRow_is {k : Nat} (h : isRow k) : jm_is k (.inl (0, 1829, 0)) := by
  obtain ⟨n, hn, rfl⟩ : ∃ n, n < 4 ∧ k = 114 + n := ⟨k - 114, by have := h.1; have := h.2; omega, by have := h.1; omega⟩
  exact isR_00 n hn
theorem isRow114 : isRow 114 := by unfold isRow; omega
theorem isRow115 : isRow 115 := by unfold isRow; omega
theorem isRow116 : isRow 116 := by unfold isRow; omega
theorem isRow117 : isRow 117 := by unfold isRow; omega
theorem is_0 : jm_is 0 (.inr (7, [(2, 1), (2, 33), (0, 0), (2, 65), (2, 93), (2, 104)])) := ⟨by decide, rfl⟩
theorem is_65 : jm_is 65 (.inr (6, [(2, 2), (2, 24), (2, 66), (2, 88), (1, 0), (0, 0), (0, 0), (0, 0)])) := ⟨by decide, rfl⟩
theorem is_93 : jm_is 93 (.inr (5, [(0, 0), (2, 94), (2, 99), (2, 100), (2, 101), (2, 102), (2, 103), (0, 0), (0, 0)])) := ⟨by decide, rfl⟩
theorem is_103 : jm_is 103 (.inl (1, 160, 0)) := ⟨by decide, rfl⟩
theorem is_104 : jm_is 104 (.inl (4, 4, 105)) := ⟨by decide, rfl⟩
theorem is_113 : jm_is 113 (.inr (8, [(0, 0), (2, 114), (2, 115), (2, 116), (2, 117), (0, 0), (2, 118), (0, 0), (0, 0), (0, 0), (0, 0), (2, 119), (0, 0), (2, 120), (2, 121), (2, 122), (0, 0), (0, 0), (0, 0), (2, 123), (2, 124)])) := ⟨by decide, rfl⟩
theorem is_118 : jm_is 118 (.inl (0, 160, 0)) := ⟨by decide, rfl⟩
theorem is_119 : jm_is 119 (.inl (0, 36, 0)) := ⟨by decide, rfl⟩
theorem is_120 : jm_is 120 (.inl (0, 4, 0)) := ⟨by decide, rfl⟩
theorem is_121 : jm_is 121 (.inl (0, 4, 0)) := ⟨by decide, rfl⟩
theorem is_122 : jm_is 122 (.inl (2, 96, 0)) := ⟨by decide, rfl⟩
theorem is_123 : jm_is 123 (.inl (0, 9, 0)) := ⟨by decide, rfl⟩
theorem is_124 : jm_is 124 (.inl (2, 24, 0)) := ⟨by decide, rfl⟩
theorem is_114 : jm_is 114 (.inl (0, 1829, 0)) := ⟨by decide, rfl⟩
theorem is_115 : jm_is 115 (.inl (0, 1829, 0)) := ⟨by decide, rfl⟩
theorem is_116 : jm_is 116 (.inl (0, 1829, 0)) := ⟨by decide, rfl⟩
theorem is_117 : jm_is 117 (.inl (0, 1829, 0)) := ⟨by decide, rfl⟩
theorem is_99 : jm_is 99 (.inl (0, 9, 0)) := ⟨by decide, rfl⟩
theorem is_100 : jm_is 100 (.inl (0, 9, 0)) := ⟨by decide, rfl⟩
theorem is_101 : jm_is 101 (.inl (0, 9, 0)) := ⟨by decide, rfl⟩
theorem is_102 : jm_is 102 (.inl (0, 9, 0)) := ⟨by decide, rfl⟩
