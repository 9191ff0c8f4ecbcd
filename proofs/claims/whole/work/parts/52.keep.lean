/-! PURE PART: what the abstract night keeps -/
theorem a_sb_le {k r to c bf : Nat} (hc : c ≤ 1) : a_sb k r to c bf ≤ 1 := by
  unfold a_sb
  (repeat' split) <;> omega
theorem a_dw_n {lot : Bool} {σ : St} {j : Nat} (h : j ≠ 5) : a_dw lot σ j = σ j := by
  unfold a_dw
  split
  · exact nu_n h
  · rfl
theorem a_dw_w {lot : Bool} {σ : St} (h : WF σ) : WF (a_dw lot σ) := by
  unfold a_dw
  split
  · exact h.up (by rw [bd_5]; have := a_dr_lt (d := σ 5); omega)
  · exact h
theorem a_s1_n {lot : Bool} {r c bf to : Nat} {s : St × Nat} {j : Nat} (hr : r < 9) (ht : to < 9) (h5 : j ≠ 5) (hj : j < 222 ∨ 1761 ≤ j) : (a_s1 lot r c bf to s).1 j = s.1 j := by
  unfold a_s1
  split
  · rfl
  · split
    · rfl
    · show nu _ _ _ j = _
      rw [nu_n (by omega), a_dw_n h5]
theorem a_s1_w {lot : Bool} {r c bf to : Nat} {s : St × Nat} (h : WF s.1) (hr : r < 9) (ht : to < 9) (hc : c ≤ 1) : WF (a_s1 lot r c bf to s).1 := by
  unfold a_s1
  split
  · exact h
  · split
    · exact h
    · refine (a_dw_w h).up ?_
      rw [bd_h (by omega) (by omega)]
      have := a_sb_le (k := s.1 (6 + 6 * r)) (r := r) (to := to) (bf := bf) hc
      omega
theorem a_sN_n {lot : Bool} {r c bf : Nat} {s : St × Nat} (hr : r < 9) {j : Nat} (h5 : j ≠ 5) (hj : j < 222 ∨ 1761 ≤ j) {t : Nat} (ht : t ≤ 9) : (a_sN lot r c bf s t).1 j = s.1 j := by
  induction t with
  | zero => rfl
  | succ t ih =>
    show (a_s1 lot r c bf t (a_sN lot r c bf s t)).1 j = _
    rw [a_s1_n hr (by omega) h5 hj, ih (by omega)]
theorem a_sN_w {lot : Bool} {r c bf : Nat} {s : St × Nat} (h : WF s.1) (hr : r < 9) (hc : c ≤ 1) {t : Nat} (ht : t ≤ 9) : WF (a_sN lot r c bf s t).1 := by
  induction t with
  | zero => exact h
  | succ t ih => exact a_s1_w (ih (by omega)) hr (by omega) hc
theorem a_s1_c {lot : Bool} {r c bf to : Nat} {s : St × Nat} : (a_s1 lot r c bf to s).2 = if to = r then s.2 else if s.1 (6 + 6 * r) = 5 then s.2 else s.2 + 1 := by
  unfold a_s1
  (repeat' split) <;> rfl
theorem a_sN_c {lot : Bool} {r c bf : Nat} {s : St × Nat} (hr : r < 9) {t : Nat} (ht : t ≤ 9) : (a_sN lot r c bf s t).2 = if s.1 (6 + 6 * r) = 5 then s.2 else if r < t then s.2 + (t - 1) else s.2 + t := by
  induction t with
  | zero =>
    show s.2 = _
    (repeat' split) <;> omega
  | succ t ih =>
    show (a_s1 lot r c bf t (a_sN lot r c bf s t)).2 = _
    rw [a_s1_c, ih (by omega), a_sN_n hr (by omega) (by omega) (by omega)]
    by_cases h1 : s.1 (6 + 6 * r) = 5
    · simp [h1]
    · simp only [h1, if_false]
      (repeat' split) <;> omega
theorem a_say_n {lot : Bool} {r c : Nat} {s : St × Nat} {j : Nat} (hn : s.1 0 ≤ 9) (hr : r < 9) (h5 : j ≠ 5) (h3 : j ≠ 6 + 6 * r + 3) (hj : j < 222 ∨ 1761 ≤ j) : (a_say lot r c s).1 j = s.1 j := by
  unfold a_say
  split
  · rfl
  · rw [a_sN_n hr h5 hj hn]
    exact nu_n h3
theorem a_say_w {lot : Bool} {r c : Nat} {s : St × Nat} (h : WF s.1) (hr : r < 9) (hc : c ≤ 1) : WF (a_say lot r c s).1 := by
  unfold a_say
  split
  · exact h
  · exact a_sN_w (h.up (by rw [bd_d hr]; omega)) hr hc h.n
theorem a_say_c {lot : Bool} {r c : Nat} {s : St × Nat} (hn : s.1 0 ≤ 9) (hr : r < 9) : (a_say lot r c s).2 ≤ s.2 + 9 := by
  unfold a_say
  split
  · omega
  · rw [a_sN_c hr hn]
    (repeat' split) <;> simp <;> omega
theorem a_co_le {σ : St} (h : WF σ) {r i : Nat} (hr : r < 9) (hi : i < 8) : a_co σ r i ≤ 1 := by
  unfold a_co
  have := h.b hr
  have := h.r3 hi
  split <;> omega
theorem a_r1_n {lot : Bool} {r i : Nat} {s : St × Nat} {j : Nat} (hn : s.1 0 ≤ 9) (hr : r < 9) (h5 : j ≠ 5) (h1 : j ≠ 6 + 6 * r + 1) (h2 : j ≠ 6 + 6 * r + 2) (h3 : j ≠ 6 + 6 * r + 3) (hj : j < 222 ∨ 1761 ≤ j) : (a_r1 lot r i s).1 j = s.1 j := by
  unfold a_r1
  split
  · rfl
  · split
    · exact a_say_n hn hr h5 h3 hj
    · split
      · exact nu_n h1
      · split
        · exact nu_n h2
        · rfl
theorem a_r1_w {lot : Bool} {r i : Nat} {s : St × Nat} (h : WF s.1) (hr : r < 9) (hi : i < 8) : WF (a_r1 lot r i s).1 := by
  have := a_co_le h hr hi
  unfold a_r1
  split
  · exact h
  · split
    · exact a_say_w h hr this
    · split
      · exact h.up (by rw [bd_b hr]; exact this)
      · split
        · exact h.up (by rw [bd_s hr]; omega)
        · exact h
theorem a_r1_c {lot : Bool} {r i : Nat} {s : St × Nat} (hn : s.1 0 ≤ 9) (hr : r < 9) : (a_r1 lot r i s).2 ≤ s.2 + 9 := by
  unfold a_r1
  (repeat' split)
  all_goals first
    | exact a_say_c hn hr
    | exact Nat.le_add_right _ _
theorem a_r1_sh {lot : Bool} {r i q : Nat} {s : St × Nat} (hn : s.1 0 ≤ 9) (hr : r < 9) (hq : q < 9) (h : s.1 (6 + 6 * q + 2) ≠ 2) : (a_r1 lot r i s).1 (6 + 6 * q + 2) = s.1 (6 + 6 * q + 2) := by
  by_cases e : q = r
  · subst e
    unfold a_r1
    split
    · rfl
    · split
      · exact a_say_n hn hr (by omega) (by omega) (by omega)
      · split
        · exact nu_n (by omega)
        · first
            | rfl
            | rw [if_neg h]
  · exact a_r1_n hn hr (by omega) (by omega) (by omega) (by omega) (by omega)
theorem a_aI_n {lot : Bool} {r : Nat} {s : St × Nat} (hn : s.1 0 ≤ 9) (hr : r < 9) (i : Nat) : ∀ {j : Nat}, j ≠ 5 → j ≠ 6 + 6 * r + 1 → j ≠ 6 + 6 * r + 2 → j ≠ 6 + 6 * r + 3 → (j < 222 ∨ 1761 ≤ j) → (a_aI lot r s i).1 j = s.1 j := by
  induction i with
  | zero => intro j _ _ _ _ _; rfl
  | succ i ih =>
    intro j h5 h1 h2 h3 hj
    show (a_r1 lot r i (a_aI lot r s i)).1 j = _
    rw [a_r1_n (by rw [ih (by omega) (by omega) (by omega) (by omega) (by omega)]; exact hn) hr h5 h1 h2 h3 hj, ih h5 h1 h2 h3 hj]
theorem a_aI_0 {lot : Bool} {r : Nat} {s : St × Nat} (hn : s.1 0 ≤ 9) (hr : r < 9) (i : Nat) : (a_aI lot r s i).1 0 = s.1 0 := a_aI_n hn hr i (by omega) (by omega) (by omega) (by omega) (by omega)
theorem a_aI_w {lot : Bool} {r : Nat} {s : St × Nat} (h : WF s.1) (hr : r < 9) {i : Nat} (hi : i ≤ 8) : WF (a_aI lot r s i).1 := by
  induction i with
  | zero => exact h
  | succ i ih => exact a_r1_w (ih (by omega)) hr (by omega)
theorem a_aI_c {lot : Bool} {r : Nat} {s : St × Nat} (hn : s.1 0 ≤ 9) (hr : r < 9) (i : Nat) : (a_aI lot r s i).2 ≤ s.2 + 9 * i := by
  induction i with
  | zero => exact Nat.le_refl _
  | succ i ih =>
    have := a_r1_c (lot := lot) (r := r) (i := i) (s := a_aI lot r s i) (by rw [a_aI_0 hn hr]; exact hn) hr
    show (a_r1 lot r i (a_aI lot r s i)).2 ≤ _
    omega
theorem a_aI_sh {lot : Bool} {r q : Nat} {s : St × Nat} (hn : s.1 0 ≤ 9) (hr : r < 9) (hq : q < 9) (h : s.1 (6 + 6 * q + 2) ≠ 2) (i : Nat) : (a_aI lot r s i).1 (6 + 6 * q + 2) = s.1 (6 + 6 * q + 2) := by
  induction i with
  | zero => rfl
  | succ i ih =>
    show (a_r1 lot r i (a_aI lot r s i)).1 _ = _
    rw [a_r1_sh (by rw [a_aI_0 hn hr]; exact hn) hr hq (by rw [ih]; exact h), ih]
/-- what a minute's acts never change -/
def KA (j : Nat) : Prop := j ≠ 5 ∧ (j < 6 ∨ 60 ≤ j ∨ (j - 6) % 6 = 0 ∨ 4 ≤ (j - 6) % 6) ∧ (j < 222 ∨ 1761 ≤ j)
theorem a_g1_n {lot : Bool} {d r : Nat} {s : St × Nat} (hn : s.1 0 ≤ 9) (hr : r < 9) {j : Nat} (hj : KA j) : (a_g1 lot d r s).1 j = s.1 j := by
  unfold a_g1
  obtain ⟨k1, k2, k3⟩ := hj
  split
  · rfl
  · exact a_aI_n hn hr _ k1 (by omega) (by omega) (by omega) k3
theorem a_g1_w {lot : Bool} {d r : Nat} {s : St × Nat} (h : WF s.1) (hr : r < 9) : WF (a_g1 lot d r s).1 := by
  unfold a_g1
  split
  · exact h
  · exact a_aI_w h hr h.ru
theorem a_g1_c {lot : Bool} {d r : Nat} {s : St × Nat} (h : WF s.1) (hr : r < 9) : (a_g1 lot d r s).2 ≤ s.2 + 72 := by
  unfold a_g1
  split
  · omega
  · have := a_aI_c (lot := lot) (r := r) (s := s) h.n hr (s.1 3)
    have := h.ru
    omega
theorem a_g1_sh {lot : Bool} {d r q : Nat} {s : St × Nat} (hn : s.1 0 ≤ 9) (hr : r < 9) (hq : q < 9) (h : s.1 (6 + 6 * q + 2) ≠ 2) : (a_g1 lot d r s).1 (6 + 6 * q + 2) = s.1 (6 + 6 * q + 2) := by
  unfold a_g1
  split
  · rfl
  · exact a_aI_sh hn hr hq h _
theorem KA0 : KA 0 := by unfold KA; omega
theorem KA1 : KA 1 := by unfold KA; omega
theorem KA2 : KA 2 := by unfold KA; omega
theorem KA3 : KA 3 := by unfold KA; omega
theorem a_gR_n {lot : Bool} {d : Nat} {s : St × Nat} (hn : s.1 0 ≤ 9) {r : Nat} (hr : r ≤ 9) : ∀ {j : Nat}, KA j → (a_gR lot d s r).1 j = s.1 j := by
  induction r with
  | zero => intro j _; rfl
  | succ r ih =>
    intro j hj
    show (a_g1 lot d r (a_gR lot d s r)).1 j = _
    rw [a_g1_n (by rw [ih (by omega) KA0]; exact hn) (by omega) hj, ih (by omega) hj]
theorem a_gR_w {lot : Bool} {d : Nat} {s : St × Nat} (h : WF s.1) {r : Nat} (hr : r ≤ 9) : WF (a_gR lot d s r).1 := by
  induction r with
  | zero => exact h
  | succ r ih => exact a_g1_w (ih (by omega)) (by omega)
theorem a_gR_c {lot : Bool} {d : Nat} {s : St × Nat} (h : WF s.1) {r : Nat} (hr : r ≤ 9) : (a_gR lot d s r).2 ≤ s.2 + 72 * r := by
  induction r with
  | zero => exact Nat.le_refl _
  | succ r ih =>
    have := a_g1_c (lot := lot) (d := d) (r := r) (s := a_gR lot d s r) (a_gR_w h (by omega)) (by omega)
    have := ih (by omega)
    show (a_g1 lot d r (a_gR lot d s r)).2 ≤ _
    omega
theorem a_gR_sh {lot : Bool} {d q : Nat} {s : St × Nat} (hn : s.1 0 ≤ 9) (hq : q < 9) (h : s.1 (6 + 6 * q + 2) ≠ 2) {r : Nat} (hr : r ≤ 9) : (a_gR lot d s r).1 (6 + 6 * q + 2) = s.1 (6 + 6 * q + 2) := by
  induction r with
  | zero => rfl
  | succ r ih =>
    show (a_g1 lot d r (a_gR lot d s r)).1 _ = _
    rw [a_g1_sh (by rw [a_gR_n hn (by omega) KA0]; exact hn) (by omega) hq (by rw [ih (by omega)]; exact h), ih (by omega)]
theorem a_hX_w {d : Nat} {σ : St} {P : Nat → Nat → Bool} (h : WF σ) : WF (a_hX d σ P) := by
  intro j hj
  by_cases c1 : j < 141 ∨ 1761 ≤ j
  · rw [a_hX_o c1]; exact h j hj
  · by_cases c2 : j < 222
    · obtain ⟨f, t, hf, ht, rfl⟩ := ix_h (by omega) c2
      rw [a_hX_h hf ht, bd_h (by omega) (by omega)]
      have := h.h ht hf
      have := h.du hf ht (Nat.mod_lt (σ 1) (show 19 > 0 by decide))
      split <;> omega
    · obtain ⟨f, t, s, hf, ht, hs, rfl⟩ := ix_d (j := j) (by omega) (by omega)
      rw [a_hX_d hf ht hs, bd_h (by omega) (by omega)]
      have := h.du hf ht hs
      split <;> omega
theorem a_hr_o {d : Nat} {σ : St} {j : Nat} (h : j < 141 ∨ 1761 ≤ j) : a_hr d σ j = σ j := a_hX_o h
theorem a_hr_w {d : Nat} {σ : St} (h : WF σ) : WF (a_hr d σ) := a_hX_w h
theorem a_act_n {lot : Bool} {d : Nat} {σ : St} (hn : σ 0 ≤ 9) {j : Nat} (hj : KA j) (hj2 : j < 141 ∨ 1761 ≤ j) : (a_act lot d σ).1 j = σ j := by
  have e0 : a_hr d σ 0 = σ 0 := a_hr_o (by omega)
  unfold a_act
  rw [a_gR_n (s := (a_hr d σ, 0)) (by simpa only [e0] using hn) hn hj]
  exact a_hr_o hj2
theorem a_act_w {lot : Bool} {d : Nat} {σ : St} (h : WF σ) : WF (a_act lot d σ).1 := a_gR_w (a_hr_w h) h.n
theorem a_act_c {lot : Bool} {d : Nat} {σ : St} (h : WF σ) : (a_act lot d σ).2 ≤ 648 := by
  have := a_gR_c (lot := lot) (d := d) (s := (a_hr d σ, 0)) (a_hr_w h) h.n
  have := h.n
  unfold a_act
  simp only at *
  omega
theorem a_act_sh {lot : Bool} {d : Nat} {σ : St} (hn : σ 0 ≤ 9) {q : Nat} (hq : q < 9) (h : σ (6 + 6 * q + 2) ≠ 2) : (a_act lot d σ).1 (6 + 6 * q + 2) = σ (6 + 6 * q + 2) := by
  have e : a_hr d σ (6 + 6 * q + 2) = σ (6 + 6 * q + 2) := a_hr_o (by omega)
  have e0 : a_hr d σ 0 = σ 0 := a_hr_o (by omega)
  unfold a_act
  rw [a_gR_sh (s := (a_hr d σ, 0)) (by simpa only [e0] using hn) hq (by simpa only [e] using h) hn]
  exact e
theorem a_go_n {lot : Bool} {d : Nat} {σ : St} (hn : σ 0 ≤ 9) {j : Nat} (h1 : j ≠ 1) (h2 : j ≠ 2) (hj : KA j) (hj2 : j < 141 ∨ 1761 ≤ j) : a_go lot d σ j = σ j := by
  unfold a_go
  rw [nu_n h1, nu_n h2, a_act_n hn hj hj2]
theorem a_go_1 {lot : Bool} {d : Nat} {σ : St} (hn : σ 0 ≤ 9) : a_go lot d σ 1 = σ 1 + 1 := by
  unfold a_go
  rw [nu_s, a_act_n hn KA1 (by omega)]
theorem a_go_a {lot : Bool} {d : Nat} {σ : St} {j : Nat} (h1 : j ≠ 1) (h2 : j ≠ 2) : a_go lot d σ j = (a_act lot d σ).1 j := by
  unfold a_go
  rw [nu_n h1, nu_n h2]
theorem a_go_0 {lot : Bool} {d : Nat} {σ : St} (hn : σ 0 ≤ 9) : a_go lot d σ 0 = σ 0 := a_go_n hn (by omega) (by omega) KA0 (by omega)
theorem a_go_k {lot : Bool} {d : Nat} {σ : St} (hn : σ 0 ≤ 9) {r : Nat} (hr : r < 9) : a_go lot d σ (6 + 6 * r) = σ (6 + 6 * r) := a_go_n hn (by omega) (by omega) (by unfold KA; omega) (by omega)
theorem a_go_sh {lot : Bool} {d : Nat} {σ : St} (hn : σ 0 ≤ 9) {q : Nat} (hq : q < 9) (h : σ (6 + 6 * q + 2) ≠ 2) : a_go lot d σ (6 + 6 * q + 2) = σ (6 + 6 * q + 2) := by
  rw [a_go_a (by omega) (by omega), a_act_sh hn hq h]
theorem a_go_w {lot : Bool} {d : Nat} {σ : St} (h : WF σ) (hm : σ 1 < 5000) : WF (a_go lot d σ) := by
  unfold a_go
  refine ((a_act_w h).up ?_).up ?_
  · rw [bd_2]; split <;> omega
  · rw [bd_1, a_act_n h.n KA1 (by omega)]; omega
/-! nothing is due to or from who is not there -/
def ZR (σ : St) : Prop := ∀ f t s, f < 9 → t < 9 → s < 19 → (σ 0 ≤ f ∨ σ 0 ≤ t ∨ f = t) → σ (222 + 19 * (9 * f + t) + s) = 0
theorem a_s1_z {lot : Bool} {r c bf to : Nat} {s : St × Nat} (h : ZR s.1) (hn : s.1 0 ≤ 9) (hr : r < s.1 0) (ht : to < s.1 0) : ZR (a_s1 lot r c bf to s).1 := by
  intro f t q hf ht' hq hc
  rw [a_s1_n (by omega) (by omega) (by omega) (by omega)] at hc
  unfold a_s1
  split
  · exact h f t q hf ht' hq hc
  · split
    · exact h f t q hf ht' hq hc
    · rename_i h1 h2
      show nu _ _ _ _ = _
      rw [nu_n (by omega), a_dw_n (by omega)]
      exact h f t q hf ht' hq hc
theorem a_sN_z {lot : Bool} {r c bf : Nat} {s : St × Nat} (h : ZR s.1) (hn : s.1 0 ≤ 9) (hr : r < s.1 0) {t : Nat} (ht : t ≤ s.1 0) : ZR (a_sN lot r c bf s t).1 := by
  induction t with
  | zero => exact h
  | succ t ih =>
    have e : (a_sN lot r c bf s t).1 0 = s.1 0 := a_sN_n (by omega) (by omega) (by omega) (by omega)
    exact a_s1_z (ih (by omega)) (by rw [e]; exact hn) (by rw [e]; exact hr) (by rw [e]; omega)
theorem ZR.up {σ : St} {j v : Nat} (h : ZR σ) (h0 : j ≠ 0) (hj : j < 222 ∨ 1761 ≤ j) : ZR (nu σ j v) := by
  intro f t q hf ht hq hc
  rw [nu_n (by omega)] at hc
  rw [nu_n (by omega)]
  exact h f t q hf ht hq hc
theorem a_say_z {lot : Bool} {r c : Nat} {s : St × Nat} (h : ZR s.1) (hn : s.1 0 ≤ 9) (hr : r < s.1 0) : ZR (a_say lot r c s).1 := by
  unfold a_say
  split
  · exact h
  · have e : (nu s.1 (6 + 6 * r + 3) c) 0 = s.1 0 := nu_n (by omega)
    exact a_sN_z (s := (nu s.1 (6 + 6 * r + 3) c, s.2)) (h.up (by omega) (by omega)) (by simpa only [e] using hn) (by simpa only [e] using hr) (by simp only [e]; exact Nat.le_refl _)
theorem a_r1_z {lot : Bool} {r i : Nat} {s : St × Nat} (h : ZR s.1) (hn : s.1 0 ≤ 9) (hr : r < s.1 0) : ZR (a_r1 lot r i s).1 := by
  unfold a_r1
  split
  · exact h
  · split
    · exact a_say_z h hn hr
    · split
      · exact h.up (by omega) (by omega)
      · split
        · exact h.up (by omega) (by omega)
        · exact h
theorem a_aI_z {lot : Bool} {r : Nat} {s : St × Nat} (h : ZR s.1) (hn : s.1 0 ≤ 9) (hr : r < s.1 0) (i : Nat) : ZR (a_aI lot r s i).1 := by
  induction i with
  | zero => exact h
  | succ i ih =>
    have e : (a_aI lot r s i).1 0 = s.1 0 := a_aI_0 hn (by omega) i
    exact a_r1_z ih (by rw [e]; exact hn) (by rw [e]; exact hr)
theorem a_gR_z {lot : Bool} {d : Nat} {s : St × Nat} (h : ZR s.1) (hn : s.1 0 ≤ 9) {r : Nat} (hr : r ≤ s.1 0) : ZR (a_gR lot d s r).1 := by
  induction r with
  | zero => exact h
  | succ r ih =>
    have e : (a_gR lot d s r).1 0 = s.1 0 := a_gR_n hn (by omega) KA0
    show ZR (a_g1 lot d r (a_gR lot d s r)).1
    unfold a_g1
    split
    · exact ih (by omega)
    · exact a_aI_z (ih (by omega)) (by rw [e]; exact hn) (by rw [e]; omega) _
theorem a_hX_z {d : Nat} {σ : St} {P : Nat → Nat → Bool} (h : ZR σ) : ZR (a_hX d σ P) := by
  intro f t s hf ht hs hc
  rw [a_hX_o (by omega)] at hc
  rw [a_hX_d hf ht hs]
  split
  · rfl
  · exact h f t s hf ht hs hc
theorem a_hr_z {d : Nat} {σ : St} (h : ZR σ) : ZR (a_hr d σ) := by
  unfold a_hr
  exact a_hX_z h
theorem a_go_z {lot : Bool} {d : Nat} {σ : St} (h : ZR σ) (hn : σ 0 ≤ 9) : ZR (a_go lot d σ) := by
  have e : a_hr d σ 0 = σ 0 := a_hr_o (by omega)
  unfold a_go
  refine ZR.up (ZR.up ?_ (by omega) (by omega)) (by omega) (by omega)
  exact a_gR_z (s := (a_hr d σ, 0)) (a_hr_z h) (by simpa only [e] using hn) (by simp only [e]; exact Nat.le_refl _)
