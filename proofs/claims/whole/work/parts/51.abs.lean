/-! PURE PART: the abstract night -/
def a_hb (σ : St) (r f : Nat) : Nat := if r = f then σ (6 + 6 * r + 1) else σ (141 + 9 * r + f)
def a_ci (σ : St) (r c k : Nat) : Nat := if c = 2 then (if a_hb σ r k < 2 then 1 else 0) else (if a_hb σ r k = c then 1 else 0)
def a_cb (σ : St) (r c : Nat) : Nat → Nat
  | 0 => 0
  | k + 1 => a_cb σ r c k + a_ci σ r c k
def a_dk (σ : St) (r : Nat) : Bool := decide (σ (6 + 6 * r + 4) ≤ σ 1) && decide (σ 1 < σ (6 + 6 * r + 5))
def a_out (d : Nat) (σ : St) (r : Nat) : Bool := decide (r = d) || a_dk σ r
def a_hX (d : Nat) (σ : St) (P : Nat → Nat → Bool) : St := fun j =>
  if 141 ≤ j ∧ j < 222 then
    (if P ((j - 141) % 9) ((j - 141) / 9) = true ∧ 0 < σ (222 + 19 * (9 * ((j - 141) % 9) + (j - 141) / 9) + σ 1 % 19) ∧ a_out d σ ((j - 141) / 9) = false then σ (222 + 19 * (9 * ((j - 141) % 9) + (j - 141) / 9) + σ 1 % 19) - 1 else σ j)
  else if 222 ≤ j ∧ j < 1761 then (if (j - 222) % 19 = σ 1 % 19 ∧ P ((j - 222) / 19 / 9) ((j - 222) / 19 % 9) = true then 0 else σ j)
  else σ j
theorem a_hX_o {d : Nat} {σ : St} {P : Nat → Nat → Bool} {j : Nat} (h : j < 141 ∨ 1761 ≤ j) : a_hX d σ P j = σ j := by
  unfold a_hX
  rw [if_neg (by omega), if_neg (by omega)]
theorem a_hX_h {d : Nat} {σ : St} {P : Nat → Nat → Bool} {f t : Nat} (hf : f < 9) (ht : t < 9) : a_hX d σ P (141 + 9 * t + f) = if P f t = true ∧ 0 < σ (222 + 19 * (9 * f + t) + σ 1 % 19) ∧ a_out d σ t = false then σ (222 + 19 * (9 * f + t) + σ 1 % 19) - 1 else σ (141 + 9 * t + f) := by
  have e1 : (141 + 9 * t + f - 141) % 9 = f := by omega
  have e2 : (141 + 9 * t + f - 141) / 9 = t := by omega
  unfold a_hX
  rw [if_pos (by omega), e1, e2]
theorem a_hX_d {d : Nat} {σ : St} {P : Nat → Nat → Bool} {f t s : Nat} (hf : f < 9) (ht : t < 9) (hs : s < 19) : a_hX d σ P (222 + 19 * (9 * f + t) + s) = if s = σ 1 % 19 ∧ P f t = true then 0 else σ (222 + 19 * (9 * f + t) + s) := by
  have e1 : (222 + 19 * (9 * f + t) + s - 222) % 19 = s := by omega
  have e2 : (222 + 19 * (9 * f + t) + s - 222) / 19 / 9 = f := by omega
  have e3 : (222 + 19 * (9 * f + t) + s - 222) / 19 % 9 = t := by omega
  unfold a_hX
  rw [if_neg (by omega), if_pos (by omega), e1, e2, e3]
theorem ix_h {j : Nat} (h1 : 141 ≤ j) (h2 : j < 222) : ∃ f t, f < 9 ∧ t < 9 ∧ j = 141 + 9 * t + f := ⟨(j - 141) % 9, (j - 141) / 9, by omega, by omega, by omega⟩
theorem ix_d {j : Nat} (h1 : 222 ≤ j) (h2 : j < 1761) : ∃ f t s, f < 9 ∧ t < 9 ∧ s < 19 ∧ j = 222 + 19 * (9 * f + t) + s := ⟨(j - 222) / 19 / 9, (j - 222) / 19 % 9, (j - 222) % 19, by omega, by omega, by omega, by omega⟩
theorem a_hX_ext {d : Nat} {σ : St} {P : Nat → Nat → Bool} {τ : St} (h1 : ∀ j, (j < 141 ∨ 1761 ≤ j) → τ j = σ j) (h2 : ∀ f t, f < 9 → t < 9 → τ (141 + 9 * t + f) = if P f t = true ∧ 0 < σ (222 + 19 * (9 * f + t) + σ 1 % 19) ∧ a_out d σ t = false then σ (222 + 19 * (9 * f + t) + σ 1 % 19) - 1 else σ (141 + 9 * t + f)) (h3 : ∀ f t s, f < 9 → t < 9 → s < 19 → τ (222 + 19 * (9 * f + t) + s) = if s = σ 1 % 19 ∧ P f t = true then 0 else σ (222 + 19 * (9 * f + t) + s)) : a_hX d σ P = τ := by
  funext j
  by_cases c1 : j < 141 ∨ 1761 ≤ j
  · rw [a_hX_o c1, h1 j c1]
  · by_cases c2 : j < 222
    · obtain ⟨f, t, hf, ht, rfl⟩ := ix_h (by omega) c2
      rw [a_hX_h hf ht, h2 f t hf ht]
    · obtain ⟨f, t, s, hf, ht, hs, rfl⟩ := ix_d (j := j) (by omega) (by omega)
      rw [a_hX_d hf ht hs, h3 f t s hf ht hs]
theorem a_hX_cg {d : Nat} {σ : St} {P Q : Nat → Nat → Bool} (h : ∀ f t, f < 9 → t < 9 → P f t = Q f t) : a_hX d σ P = a_hX d σ Q := a_hX_ext (fun j hj => a_hX_o hj) (fun f t hf ht => by rw [a_hX_h hf ht, h f t hf ht]) (fun f t s hf ht hs => by rw [a_hX_d hf ht hs, h f t hf ht])
theorem a_hX_0 {d : Nat} {σ : St} {P : Nat → Nat → Bool} (h : ∀ f t, f < 9 → t < 9 → P f t = false) : a_hX d σ P = σ := a_hX_ext (fun _ _ => rfl) (fun f t hf ht => by rw [h f t hf ht]; simp) (fun f t s hf ht hs => by rw [h f t hf ht]; simp)
theorem a_hX_step {d : Nat} {σ : St} {P Q : Nat → Nat → Bool} {f t : Nat} (hf : f < 9) (ht : t < 9) (hP : P f t = false) (hQ : ∀ f' t', f' < 9 → t' < 9 → Q f' t' = (P f' t' || (decide (f' = f) && decide (t' = t)))) : nu (if 0 < σ (222 + 19 * (9 * f + t) + σ 1 % 19) ∧ a_out d σ t = false then nu (a_hX d σ P) (141 + 9 * t + f) (σ (222 + 19 * (9 * f + t) + σ 1 % 19) - 1) else a_hX d σ P) (222 + 19 * (9 * f + t) + σ 1 % 19) 0 = a_hX d σ Q := by
  symm
  have hm : σ 1 % 19 < 19 := Nat.mod_lt _ (by decide)
  apply a_hX_ext
  · intro j hj
    rw [nu_n (by omega)]
    split
    · rw [nu_n (by omega), a_hX_o hj]
    · rw [a_hX_o hj]
  · intro f' t' hf' ht'
    rw [nu_n (by omega)]
    by_cases e : f' = f ∧ t' = t
    · obtain ⟨rfl, rfl⟩ := e
      have q : Q f' t' = true := by rw [hQ f' t' hf' ht']; simp
      split
      · rename_i c
        rw [nu_s, if_pos ⟨q, c⟩]
      · rename_i c
        rw [a_hX_h hf' ht', hP, if_neg (by simp), if_neg (fun z => c z.2)]
    · have q : Q f' t' = P f' t' := by
        rw [hQ f' t' hf' ht']
        by_cases e1 : f' = f
        · have e2 : t' ≠ t := fun z => e ⟨e1, z⟩
          simp [e2]
        · simp [e1]
      rw [q]
      split
      · rw [nu_n (by omega), a_hX_h hf' ht']
      · rw [a_hX_h hf' ht']
  · intro f' t' s hf' ht' hs
    by_cases e : f' = f ∧ t' = t
    · obtain ⟨rfl, rfl⟩ := e
      have q : Q f' t' = true := by rw [hQ f' t' hf' ht']; simp
      rw [q]
      by_cases c : s = σ 1 % 19
      · subst c; rw [nu_s, if_pos ⟨rfl, rfl⟩]
      · have c' : ¬ (s = σ 1 % 19 ∧ true = true) := fun z => c z.1
        rw [nu_n (by omega), if_neg c']
        split
        · rw [nu_n (by omega), a_hX_d hf' ht' hs, hP, if_neg (by simp)]
        · rw [a_hX_d hf' ht' hs, hP, if_neg (by simp)]
    · have q : Q f' t' = P f' t' := by
        rw [hQ f' t' hf' ht']
        by_cases e1 : f' = f
        · have e2 : t' ≠ t := fun z => e ⟨e1, z⟩
          simp [e2]
        · simp [e1]
      rw [q, nu_n (by omega)]
      split
      · rw [nu_n (by omega), a_hX_d hf' ht' hs]
      · rw [a_hX_d hf' ht' hs]
def a_hr (d : Nat) (σ : St) : St := a_hX d σ (fun f t => decide (f < σ 0) && decide (t < σ 0))
def a_dr (d : Nat) : Nat := (d * 1103515245 + 12345) % 2147483648
def a_sb (k r to c bf : Nat) : Nat := if k = 1 then (if r < to then 1 - c else c) else if k = 4 then (if to < r then 1 - c else c) else if k = 2 then (if bf < 2 then bf else c) else c
def a_t0 (lot : Bool) (σ : St) (r to : Nat) : Nat := if lot = true then a_dr (σ 5) / 65536 % 9 + 1 else σ (60 + 9 * r + to)
def a_tm (lot : Bool) (σ : St) (r to : Nat) : Nat := if σ (6 + 6 * r) = 3 then 2 * a_t0 lot σ r to else a_t0 lot σ r to
def a_dw (lot : Bool) (σ : St) : St := if lot = true then nu σ 5 (a_dr (σ 5)) else σ
def a_s1 (lot : Bool) (r c bf to : Nat) (s : St × Nat) : St × Nat :=
  if to = r then s else if s.1 (6 + 6 * r) = 5 then s
  else (nu (a_dw lot s.1) (222 + 19 * (9 * r + to) + (s.1 1 + a_tm lot s.1 r to) % 19) (a_sb (s.1 (6 + 6 * r)) r to c bf + 1), s.2 + 1)
def a_sN (lot : Bool) (r c bf : Nat) (s : St × Nat) : Nat → St × Nat
  | 0 => s
  | t + 1 => a_s1 lot r c bf t (a_sN lot r c bf s t)
def a_say (lot : Bool) (r c : Nat) (s : St × Nat) : St × Nat := if s.1 (6 + 6 * r + 3) = c then s else a_sN lot r c (s.1 (6 + 6 * r + 3)) (nu s.1 (6 + 6 * r + 3) c, s.2) (s.1 0)
def a_co (σ : St) (r i : Nat) : Nat := if σ (1761 + 4 * i + 3) = 2 then σ (6 + 6 * r + 1) else σ (1761 + 4 * i + 3)
def a_r1 (lot : Bool) (r i : Nat) (s : St × Nat) : St × Nat :=
  if a_cb s.1 r (s.1 (1761 + 4 * i)) (s.1 0) < s.1 (1761 + 4 * i + 1) then s
  else if s.1 (1761 + 4 * i + 2) = 0 then a_say lot r (a_co s.1 r i) s
  else if s.1 (1761 + 4 * i + 2) = 1 then (nu s.1 (6 + 6 * r + 1) (a_co s.1 r i), s.2)
  else if s.1 (6 + 6 * r + 2) = 2 then (nu s.1 (6 + 6 * r + 2) (a_co s.1 r i), s.2) else s
def a_aI (lot : Bool) (r : Nat) (s : St × Nat) : Nat → St × Nat
  | 0 => s
  | i + 1 => a_r1 lot r i (a_aI lot r s i)
def a_g1 (lot : Bool) (d r : Nat) (s : St × Nat) : St × Nat := if a_out d s.1 r = true then s else a_aI lot r s (s.1 3)
def a_gR (lot : Bool) (d : Nat) (s : St × Nat) : Nat → St × Nat
  | 0 => s
  | r + 1 => a_g1 lot d r (a_gR lot d s r)
def a_act (lot : Bool) (d : Nat) (σ : St) : St × Nat := a_gR lot d (a_hr d σ, 0) (σ 0)
def a_go (lot : Bool) (d : Nat) (σ : St) : St := nu (nu (a_act lot d σ).1 2 (if (a_act lot d σ).1 2 + (a_act lot d σ).2 ≤ 999999 then (a_act lot d σ).1 2 + (a_act lot d σ).2 else 999999)) 1 ((a_act lot d σ).1 1 + 1)
/-! bounds -/
def bd (j : Nat) : Nat := if j = 0 then 9 else if j = 1 then 5000 else if j = 2 then 999999 else if j = 3 then 8 else if j = 4 then 12 else if j = 5 then 2147483647 else if j < 60 then (if (j - 6) % 6 = 0 then 5 else if (j - 6) % 6 = 1 then 1 else if (j - 6) % 6 < 4 then 2 else if (j - 6) % 6 = 4 then 99 else 100) else if j < 141 then 9 else if j < 1761 then 2 else if j < 1793 then (if (j - 1761) % 4 = 1 then 9 else 2) else if (j - 1793) % 3 = 2 then 1 else 8
def WF (σ : St) : Prop := ∀ j, j < 1829 → σ j ≤ bd j
theorem WF.up {σ : St} {j v : Nat} (h : WF σ) (hv : v ≤ bd j) : WF (nu σ j v) := by
  intro i hi
  by_cases e : i = j
  · subst e; rw [nu_s]; exact hv
  · rw [nu_n e]; exact h i hi
theorem bd_0 : bd 0 = 9 := rfl
theorem bd_1 : bd 1 = 5000 := rfl
theorem bd_2 : bd 2 = 999999 := rfl
theorem bd_3 : bd 3 = 8 := rfl
theorem bd_4 : bd 4 = 12 := rfl
theorem bd_5 : bd 5 = 2147483647 := rfl
theorem bd_k {r : Nat} (h : r < 9) : bd (6 + 6 * r) = 5 := by
  have : ∀ r, r < 9 → bd (6 + 6 * r) = 5 := by decide
  exact this r h
theorem bd_b {r : Nat} (h : r < 9) : bd (6 + 6 * r + 1) = 1 := by
  have : ∀ r, r < 9 → bd (6 + 6 * r + 1) = 1 := by decide
  exact this r h
theorem bd_s {r : Nat} (h : r < 9) : bd (6 + 6 * r + 2) = 2 := by
  have : ∀ r, r < 9 → bd (6 + 6 * r + 2) = 2 := by decide
  exact this r h
theorem bd_d {r : Nat} (h : r < 9) : bd (6 + 6 * r + 3) = 2 := by
  have : ∀ r, r < 9 → bd (6 + 6 * r + 3) = 2 := by decide
  exact this r h
theorem bd_f {r : Nat} (h : r < 9) : bd (6 + 6 * r + 4) = 99 := by
  have : ∀ r, r < 9 → bd (6 + 6 * r + 4) = 99 := by decide
  exact this r h
theorem bd_u {r : Nat} (h : r < 9) : bd (6 + 6 * r + 5) = 100 := by
  have : ∀ r, r < 9 → bd (6 + 6 * r + 5) = 100 := by decide
  exact this r h
theorem bd_l {j : Nat} (h : 60 ≤ j) (h2 : j < 141) : bd j = 9 := by
  unfold bd
  rw [if_neg (by omega), if_neg (by omega), if_neg (by omega), if_neg (by omega), if_neg (by omega), if_neg (by omega), if_neg (by omega), if_pos h2]
theorem bd_h {j : Nat} (h : 141 ≤ j) (h2 : j < 1761) : bd j = 2 := by
  unfold bd
  rw [if_neg (by omega), if_neg (by omega), if_neg (by omega), if_neg (by omega), if_neg (by omega), if_neg (by omega), if_neg (by omega), if_neg (by omega), if_pos h2]
theorem bd_r0 {i : Nat} (h : i < 8) : bd (1761 + 4 * i) = 2 := by
  have : ∀ i, i < 8 → bd (1761 + 4 * i) = 2 := by decide
  exact this i h
theorem bd_r1 {i : Nat} (h : i < 8) : bd (1761 + 4 * i + 1) = 9 := by
  have : ∀ i, i < 8 → bd (1761 + 4 * i + 1) = 9 := by decide
  exact this i h
theorem bd_r2 {i : Nat} (h : i < 8) : bd (1761 + 4 * i + 2) = 2 := by
  have : ∀ i, i < 8 → bd (1761 + 4 * i + 2) = 2 := by decide
  exact this i h
theorem bd_r3 {i : Nat} (h : i < 8) : bd (1761 + 4 * i + 3) = 2 := by
  have : ∀ i, i < 8 → bd (1761 + 4 * i + 3) = 2 := by decide
  exact this i h
theorem bd_g0 {i : Nat} (h : i < 12) : bd (1793 + 3 * i) = 8 := by
  have : ∀ i, i < 12 → bd (1793 + 3 * i) = 8 := by decide
  exact this i h
theorem bd_g1 {i : Nat} (h : i < 12) : bd (1793 + 3 * i + 1) = 8 := by
  have : ∀ i, i < 12 → bd (1793 + 3 * i + 1) = 8 := by decide
  exact this i h
theorem bd_g2 {i : Nat} (h : i < 12) : bd (1793 + 3 * i + 2) = 1 := by
  have : ∀ i, i < 12 → bd (1793 + 3 * i + 2) = 1 := by decide
  exact this i h
theorem WF.n {σ : St} (h : WF σ) : σ 0 ≤ 9 := h 0 (by decide)
theorem WF.m {σ : St} (h : WF σ) : σ 1 ≤ 5000 := h 1 (by decide)
theorem WF.e {σ : St} (h : WF σ) : σ 2 ≤ 999999 := h 2 (by decide)
theorem WF.ru {σ : St} (h : WF σ) : σ 3 ≤ 8 := h 3 (by decide)
theorem WF.lo {σ : St} (h : WF σ) : σ 4 ≤ 12 := h 4 (by decide)
theorem WF.dr {σ : St} (h : WF σ) : σ 5 < 2147483648 := by have := h 5 (by decide); rw [bd_5] at this; omega
theorem WF.k {σ : St} (h : WF σ) {r : Nat} (hr : r < 9) : σ (6 + 6 * r) ≤ 5 := by have := h (6 + 6 * r) (by omega); rw [bd_k hr] at this; exact this
theorem WF.b {σ : St} (h : WF σ) {r : Nat} (hr : r < 9) : σ (6 + 6 * r + 1) ≤ 1 := by have := h (6 + 6 * r + 1) (by omega); rw [bd_b hr] at this; exact this
theorem WF.s {σ : St} (h : WF σ) {r : Nat} (hr : r < 9) : σ (6 + 6 * r + 2) ≤ 2 := by have := h (6 + 6 * r + 2) (by omega); rw [bd_s hr] at this; exact this
theorem WF.d {σ : St} (h : WF σ) {r : Nat} (hr : r < 9) : σ (6 + 6 * r + 3) ≤ 2 := by have := h (6 + 6 * r + 3) (by omega); rw [bd_d hr] at this; exact this
theorem WF.f {σ : St} (h : WF σ) {r : Nat} (hr : r < 9) : σ (6 + 6 * r + 4) ≤ 99 := by have := h (6 + 6 * r + 4) (by omega); rw [bd_f hr] at this; exact this
theorem WF.u {σ : St} (h : WF σ) {r : Nat} (hr : r < 9) : σ (6 + 6 * r + 5) ≤ 100 := by have := h (6 + 6 * r + 5) (by omega); rw [bd_u hr] at this; exact this
theorem WF.l {σ : St} (h : WF σ) {a b : Nat} (ha : a < 9) (hb : b < 9) : σ (60 + 9 * a + b) ≤ 9 := by have := h (60 + 9 * a + b) (by omega); rw [bd_l (by omega) (by omega)] at this; exact this
theorem WF.h {σ : St} (h : WF σ) {a b : Nat} (ha : a < 9) (hb : b < 9) : σ (141 + 9 * a + b) ≤ 2 := by have := h (141 + 9 * a + b) (by omega); rw [bd_h (by omega) (by omega)] at this; exact this
theorem WF.du {σ : St} (h : WF σ) {a b s : Nat} (ha : a < 9) (hb : b < 9) (hs : s < 19) : σ (222 + 19 * (9 * a + b) + s) ≤ 2 := by have := h (222 + 19 * (9 * a + b) + s) (by omega); rw [bd_h (by omega) (by omega)] at this; exact this
theorem WF.r0 {σ : St} (h : WF σ) {i : Nat} (hi : i < 8) : σ (1761 + 4 * i) ≤ 2 := by have := h (1761 + 4 * i) (by omega); rw [bd_r0 hi] at this; exact this
theorem WF.r1 {σ : St} (h : WF σ) {i : Nat} (hi : i < 8) : σ (1761 + 4 * i + 1) ≤ 9 := by have := h (1761 + 4 * i + 1) (by omega); rw [bd_r1 hi] at this; exact this
theorem WF.r2 {σ : St} (h : WF σ) {i : Nat} (hi : i < 8) : σ (1761 + 4 * i + 2) ≤ 2 := by have := h (1761 + 4 * i + 2) (by omega); rw [bd_r2 hi] at this; exact this
theorem WF.r3 {σ : St} (h : WF σ) {i : Nat} (hi : i < 8) : σ (1761 + 4 * i + 3) ≤ 2 := by have := h (1761 + 4 * i + 3) (by omega); rw [bd_r3 hi] at this; exact this
theorem WF.g0 {σ : St} (h : WF σ) {i : Nat} (hi : i < 12) : σ (1793 + 3 * i) ≤ 8 := by have := h (1793 + 3 * i) (by omega); rw [bd_g0 hi] at this; exact this
theorem WF.g1 {σ : St} (h : WF σ) {i : Nat} (hi : i < 12) : σ (1793 + 3 * i + 1) ≤ 8 := by have := h (1793 + 3 * i + 1) (by omega); rw [bd_g1 hi] at this; exact this
theorem WF.g2 {σ : St} (h : WF σ) {i : Nat} (hi : i < 12) : σ (1793 + 3 * i + 2) ≤ 1 := by have := h (1793 + 3 * i + 2) (by omega); rw [bd_g2 hi] at this; exact this
theorem WF.hb {σ : St} (h : WF σ) {r f : Nat} (hr : r < 9) (hf : f < 9) : a_hb σ r f ≤ 2 := by
  unfold a_hb
  split
  · have := h.b hr; omega
  · exact h.h hr hf
theorem a_ci_le {σ : St} {r c k : Nat} : a_ci σ r c k ≤ 1 := by
  unfold a_ci
  (repeat' split) <;> omega
theorem a_cb_le {σ : St} {r c k : Nat} : a_cb σ r c k ≤ k := by
  induction k with
  | zero => exact Nat.le_refl 0
  | succ k ih => have := a_ci_le (σ := σ) (r := r) (c := c) (k := k); show a_cb σ r c k + _ ≤ k + 1; omega
theorem a_dr_lt {d : Nat} : a_dr d < 2147483648 := Nat.mod_lt _ (by decide)
