/-! PURE PART: rocks -/
def a_bg (σ : St) (K : Nat) : St := fun j => if j ≤ 2 then 0 else if 60 ≤ j ∧ j < 60 + K then 1 else if 141 ≤ j ∧ j < 141 + K then 2 else if 222 ≤ j ∧ j < 222 + 19 * K then 0 else σ j
theorem a_bg_0 {σ : St} : nu (nu (nu σ 0 0) 1 0) 2 0 = a_bg σ 0 := by
  funext j
  unfold a_bg nu
  by_cases c : j ≤ 2
  · rw [if_pos c]
    have : j = 0 ∨ j = 1 ∨ j = 2 := by omega
    rcases this with e | e | e <;> subst e <;> rfl
  · rw [if_neg c, if_neg (by omega), if_neg (by omega), if_neg (by omega), if_neg (by omega)]
    rw [if_neg (by omega), if_neg (by omega)]
theorem a_bg_s {σ : St} {K : Nat} (hK : K < 81) : a_clr (nu (nu (a_bg σ K) (60 + K) 1) (141 + K) 2) K 19 = a_bg σ (K + 1) := by
  funext j
  by_cases c1 : 222 + 19 * K ≤ j ∧ j < 222 + 19 * K + 19
  · rw [clr_y c1.1 c1.2]
    unfold a_bg
    rw [if_neg (by omega), if_neg (by omega), if_neg (by omega), if_pos (by omega)]
  · rw [clr_n (by omega)]
    by_cases c2 : j = 141 + K
    · subst c2
      rw [nu_s]
      unfold a_bg
      rw [if_neg (by omega), if_neg (by omega), if_pos (by omega)]
    · rw [nu_n c2]
      by_cases c3 : j = 60 + K
      · subst c3
        rw [nu_s]
        unfold a_bg
        rw [if_neg (by omega), if_pos (by omega)]
      · rw [nu_n c3]
        unfold a_bg
        by_cases d1 : j ≤ 2
        · rw [if_pos d1, if_pos d1]
        · rw [if_neg d1, if_neg d1]
          by_cases d2 : 60 ≤ j ∧ j < 60 + K
          · rw [if_pos d2, if_pos (by omega)]
          · rw [if_neg d2, if_neg (show ¬ (60 ≤ j ∧ j < 60 + (K + 1)) by omega)]
            by_cases d3 : 141 ≤ j ∧ j < 141 + K
            · rw [if_pos d3, if_pos (by omega)]
            · rw [if_neg d3, if_neg (show ¬ (141 ≤ j ∧ j < 141 + (K + 1)) by omega)]
              by_cases d4 : 222 ≤ j ∧ j < 222 + 19 * K
              · rw [if_pos d4, if_pos (by omega)]
              · rw [if_neg d4, if_neg (by omega)]
theorem a_bg_l {σ : St} {K j : Nat} (h : j ≤ 2) : a_bg σ K j = 0 := if_pos h
theorem a_bg_n {σ : St} {j : Nat} (h : 2 < j) (h' : j < 60 ∨ 1761 ≤ j) : a_bg σ 81 j = σ j := by
  unfold a_bg
  rw [if_neg (by omega), if_neg (by omega), if_neg (by omega), if_neg (by omega)]
theorem a_bg_d {σ : St} {j : Nat} (h : 222 ≤ j) (h' : j < 1761) : a_bg σ 81 j = 0 := by
  unfold a_bg
  rw [if_neg (by omega), if_neg (by omega), if_neg (by omega), if_pos (by omega)]
theorem a_bg_w {σ : St} (w : WF σ) : WF (a_bg σ 81) := by
  intro j hj
  unfold a_bg
  by_cases d1 : j ≤ 2
  · rw [if_pos d1]; omega
  · rw [if_neg d1]
    by_cases d2 : 60 ≤ j ∧ j < 60 + 81
    · rw [if_pos d2]
      unfold bd
      rw [if_neg (by omega), if_neg (by omega), if_neg (by omega), if_neg (by omega), if_neg (by omega), if_neg (by omega), if_neg (by omega), if_pos (by omega)]
      omega
    · rw [if_neg d2]
      by_cases d3 : 141 ≤ j ∧ j < 141 + 81
      · rw [if_pos d3]
        unfold bd
        rw [if_neg (by omega), if_neg (by omega), if_neg (by omega), if_neg (by omega), if_neg (by omega), if_neg (by omega), if_neg (by omega), if_neg (by omega), if_pos (by omega)]
        omega
      · rw [if_neg d3]
        split
        · exact Nat.zero_le _
        · exact w j hj
theorem a_bg_z {σ : St} : ZR (a_bg σ 81) := fun f t s hf ht hs _ => a_bg_d (by omega) (by omega)
def a_rs (σ : St) (D : Nat → Nat) : Nat → St
  | 0 => a_bg σ 81
  | k + 1 => a_li (a_rs σ D k) (D (4 * k)) (D (4 * k + 1)) (D (4 * k + 2)) (D (4 * k + 3))
def DB (D : Nat → Nat) : Prop := ∀ j, D j ≤ if j % 4 = 0 then 5 else if j % 4 = 1 then 1 else if j % 4 = 2 then 99 else 100
theorem DB.e {D : Nat → Nat} (d : DB D) (k : Nat) : D (4 * k) ≤ 5 ∧ D (4 * k + 1) ≤ 1 ∧ D (4 * k + 2) ≤ 99 ∧ D (4 * k + 3) ≤ 100 := by
  refine ⟨?_, ?_, ?_, ?_⟩
  · have := d (4 * k); rw [if_pos (by omega)] at this; exact this
  · have := d (4 * k + 1); rw [if_neg (by omega), if_pos (by omega)] at this; exact this
  · have := d (4 * k + 2); rw [if_neg (by omega), if_neg (by omega), if_pos (by omega)] at this; exact this
  · have := d (4 * k + 3); rw [if_neg (by omega), if_neg (by omega), if_neg (by omega)] at this; exact this
theorem a_rs_w {σ : St} {D : Nat → Nat} (w : WF σ) (d : DB D) : ∀ k, k ≤ 9 → a_rs σ D k 0 = k ∧ WF (a_rs σ D k) ∧ ZR (a_rs σ D k) ∧ a_rs σ D k 1 = 0 ∧ (∀ j, (j = 3 ∨ j = 4 ∨ j = 5 ∨ 1761 ≤ j) → a_rs σ D k j = σ j) := by
  intro k
  induction k with
  | zero => intro _; exact ⟨a_bg_l (by omega), a_bg_w w, a_bg_z, a_bg_l (by omega), fun j hj => a_bg_n (by omega) (by omega)⟩
  | succ k ih =>
    intro hk
    obtain ⟨i0, i1, i2, i3, i4⟩ := ih (by omega)
    obtain ⟨d0, d1, d2, d3⟩ := d.e k
    have h9 : a_rs σ D k 0 < 9 := by omega
    refine ⟨?_, li_w i1 h9 d0 d1 d2 d3, li_z i2 h9, ?_, fun j hj => ?_⟩
    · show a_li _ _ _ _ _ 0 = _
      rw [li_0, i0]
    · show a_li _ _ _ _ _ 1 = _
      rw [li_o (by omega) (by omega) h9, i3]
    · show a_li _ _ _ _ _ j = _
      rw [li_o (by omega) (by omega) h9, i4 j hj]
theorem a_lk_c {X Y : St} {n K j : Nat} (h : X j = Y j) : a_lk X n K j = a_lk Y n K j := by
  unfold a_lk
  rw [h]
theorem a_li_fu {σ : St} {kd c f u : Nat} (hn : σ 0 < 9) : nu (nu (a_li σ kd c 0 0) (6 + 6 * σ 0 + 4) f) (6 + 6 * σ 0 + 5) u = a_li σ kd c f u := by
  obtain ⟨r0, r1, r2, r3, r4, r5⟩ := li_r (kd := kd) (c := c) (f := f) (u := u) hn
  funext j
  by_cases c5 : j = 6 + 6 * σ 0 + 5
  · subst c5; rw [nu_s, r5]
  · rw [nu_n c5]
    by_cases c4 : j = 6 + 6 * σ 0 + 4
    · subst c4; rw [nu_s, r4]
    · rw [nu_n c4]
      unfold a_li
      by_cases c0 : j = 0
      · subst c0; rw [nu_s, nu_s]
      · rw [nu_n c0, nu_n c0]
        refine a_lk_c ?_
        unfold a_l0
        rw [nu_n c5, nu_n c4, nu_n c5, nu_n c4]
theorem r_num_b {L : Nat → Nat} {N most q : Nat} {w : Option Nat} : (r_num L N most q w).1 ≤ most := by
  unfold r_num
  cases w with
  | some f => exact Nat.zero_le _
  | none =>
    simp only
    split
    · split
      · rename_i h; exact h
      · exact Nat.zero_le _
    · exact Nat.zero_le _
theorem r_rock_b {L : Nat → Nat} {N : Nat} (q o : Nat) : (r_rock L N q).1 o ≤ if o = 0 then 5 else if o = 1 then 1 else if o = 2 then 99 else 100 := by
  have b0 : (v0 L N q).1 ≤ 5 := r_one_b ixf_b4
  have b1 : (v1 L N q).1 ≤ 1 := r_one_b ixf_b5
  have b2 : (v2 L N q).1 ≤ 99 := r_num_b
  have b4 : (v4 L N q).1 ≤ 100 := r_num_b
  unfold r_rock
  split
  · simp only
    (repeat' split) <;> omega
  · simp only
    (repeat' split) <;> omega
theorem t_rocks_b {L : Nat → Nat} {N : Nat} : DB (t_rocks L N).2.2 := fun j => tpA_b (B := fun o => if o = 0 then 5 else if o = 1 then 1 else if o = 2 then 99 else 100) r_rock_b 9 0 _ _ (fun _ => Nat.zero_le _) j
theorem n2_anew {μ : Mem} {h : Nat} {σ : St} (n : NN μ 2 σ h 9) : ∃ x, f_X2_beginAnew 2 μ = some x ∧ NN x 2 (a_bg σ 81) h 9 ∧ FB 2 μ x ∧ x.1 2 6 = μ.1 2 6 := by
  obtain ⟨⟨c0, c1, c2, c3, c4, c5, c6⟩, _, _, _⟩ := n
  unfold f_X2_beginAnew
  simp (disch := omega) only [nI_add, pk_mul, nI_clamp, nI_eqE, nI_leE, nI_ltE, nI_eq0, nI_le0, nI_lt0, nI_ge0, nI_gt0, pk_rem, pk_sub, inb_t, gd_y, zl_e, bd_y, isB_n0, isB_n1, n0_eq, n1_eq, if_n0, if_n1, isB_if, not_true_eq_false, not_false_eq_true, ite_true, ite_false, Nat.le_refl, Nat.lt_irrefl, fill_e, Nat.add_zero, Nat.reduceAdd]
  refine ⟨_, rfl, ⟨⟨?_, ?_, ?_, ?_, ?_, c5, ?_⟩, ?_, ?_, ?_⟩, ?_, ?_⟩
  · rw [a_bg_l (by omega)]; simp (disch := omega) only [rdA_k, rd_j, rd_s]
  · rw [a_bg_l (by omega)]; simp (disch := omega) only [rdA_k, rd_j, rd_s]; rfl
  · rw [a_bg_l (by omega)]; simp (disch := omega) only [rdA_k, rd_j, rd_s]
  · rw [a_bg_n (by omega) (by omega)]; simp (disch := omega) only [rdA_k, rd_j]; exact c3
  · simp (disch := omega) only [rdA_k, rd_j]; exact c4
  · simp (disch := omega) only [rdA_k, rd_j]; exact c6
  · have e0 : a_bg σ 81 0 = 0 := a_bg_l (by omega)
    unfold NA
    rw [e0]
    exact ⟨fun r hr => absurd hr (by omega), fun r hr => absurd hr (by omega), fun r hr => absurd hr (by omega), fun r hr => absurd hr (by omega), fun r hr => absurd hr (by omega), fun a c ha => absurd ha (by omega)⟩
  · have e0 : a_bg σ 81 0 = 0 := a_bg_l (by omega)
    intro c r f _ hr
    rw [e0] at hr
    omega
  · intro c s t f hc hs ht
    have ir : (h + s) % 19 * 9 + t < 171 := by omega
    have e : decide (f < 9 ∧ a_bg σ 81 (222 + 19 * (9 * f + t) + (a_bg σ 81 1 + s) % 19) = c + 1) = false := by
      rw [decide_eq_false_iff_not]
      intro z
      rw [a_bg_d (by omega) (by omega)] at z
      omega
    rw [e, ← bt_0 f]
    congr 1
    have hc' : c = 0 ∨ c = 1 := by omega
    rcases hc' with z | z <;> subst z
    · simp (disch := omega) only [Nat.reduceAdd, Nat.add_zero, rdA_k, rdA_s, ir, if_true]
    · simp (disch := omega) only [Nat.reduceAdd, rdA_s, ir, if_true]
  · refine ⟨rfl, fun k hk => ?_⟩
    simp (disch := omega) only [rdA_k, rd_k]
  · simp (disch := omega) only [rdA_k, rd_j]
theorem c_rocksL {x0 : Mem} {σ : St} {h c : Nat} {D : Nat → Nat} (w : WF σ) (d : DB D) (hc : c ≤ 9) (hD : ∀ o, o < 4 → ∀ k, k < c → x0.1 (99 + o) k = nI (D (4 * k + o))) : ∀ f k x, k ≤ c → c - k < f → NN x 2 (a_rs σ D k) h 9 → FB 2 x0 x → x.1 2 6 = x0.1 2 6 → ∃ x', f_X7_rocks_32 f (nI c) (nI k) x = some (nI c, x') ∧ NN x' 2 (a_rs σ D c) h 9 ∧ FB 2 x0 x' ∧ x'.1 2 6 = x0.1 2 6 := by
  intro f
  induction f with
  | zero => intro k x _ h; omega
  | succ f ih =>
    intro k x hk hf n fb s6
    by_cases ck : c ≤ k
    · have : k = c := by omega
      subst this
      exact ⟨x, by simp (disch := omega) only [f_X7_rocks_32, nI_add, pk_mul, nI_clamp, nI_eqE, nI_leE, nI_ltE, nI_eq0, nI_le0, nI_lt0, nI_ge0, nI_gt0, pk_rem, pk_sub, inb_t, gd_y, zl_e, bd_y, isB_n0, isB_n1, n0_eq, n1_eq, if_n0, if_n1, isB_if, not_true_eq_false, not_false_eq_true, ite_true, ite_false, Nat.le_refl, Nat.lt_irrefl], n, fb, s6⟩
    · obtain ⟨i0, i1, i2, i3, i4⟩ := a_rs_w w d k (by omega)
      obtain ⟨d0, d1, d2, d3⟩ := d.e k
      have h9 : a_rs σ D k 0 < 9 := by omega
      have x9 : ∀ o, o < 4 → x.1 (99 + o) k = nI (D (4 * k + o)) := fun o ho => by rw [fb.2 (99 + o) (by omega)]; exact hD o ho k (by omega)
      have x99 := x9 0 (by omega)
      have x100 := x9 1 (by omega)
      have x101 := x9 2 (by omega)
      have x102 := x9 3 (by omega)
      simp only [Nat.add_zero, Nat.reduceAdd] at x99 x100 x101 x102
      obtain ⟨y, e1, n1, f1, s1⟩ := n2_letIn (kd := D (4 * k)) n i1 i2 h9 d1
      have l0 : a_li (a_rs σ D k) (D (4 * k)) (D (4 * k + 1)) 0 0 0 = k + 1 := by rw [li_0, i0]
      have n2 := n1.from_ (r := k) (v := D (4 * k + 2)) (by rw [l0]; omega) (by rw [l0]; omega)
      have n3 := n2.until_ (r := k) (v := D (4 * k + 3)) (by rw [nu_n (by omega), l0]; omega) (by rw [nu_n (by omega), l0]; omega)
      have fu := a_li_fu (kd := D (4 * k)) (c := D (4 * k + 1)) (f := D (4 * k + 2)) (u := D (4 * k + 3)) h9
      rw [i0] at fu e1
      rw [fu] at n3
      have y101 : y.1 101 k = nI (D (4 * k + 2)) := by rw [f1.2 101 (by omega)]; exact x101
      have y102 : y.1 102 k = nI (D (4 * k + 3)) := by rw [f1.2 102 (by omega)]; exact x102
      obtain ⟨x', g1, g2, g3, g4⟩ := ih (k + 1) (sI (sI y 6 k (nI (D (4 * k + 2)))) 7 k (nI (D (4 * k + 3)))) (by omega) (by omega) n3 (((fb.t f1).t (FB.w (by omega) (by omega))).t (FB.w (by omega) (by omega))) (by rw [rd_k (by omega), rd_k (by omega), s1]; exact s6)
      refine ⟨x', ?_, g2, g3, g4⟩
      rw [← g1]
      simp (disch := omega) only [f_X7_rocks_32, nI_add, pk_mul, nI_clamp, nI_eqE, nI_leE, nI_ltE, nI_eq0, nI_le0, nI_lt0, nI_ge0, nI_gt0, pk_rem, pk_sub, inb_t, gd_y, zl_e, bd_y, isB_n0, isB_n1, n0_eq, n1_eq, if_n0, if_n1, isB_if, not_true_eq_false, not_false_eq_true, ite_true, ite_false, Nat.le_refl, Nat.lt_irrefl, ck, x99, x100, e1, y101, rd_k, y102]
theorem e_rocksB {μ : Mem} {σ : St} {K : Mem → Option (Int32 × Mem)} : f_X8_rocks_48 K zfu (nI 0) (rM μ 114 (a_bg σ 0)) = K (rM μ 114 (a_bg σ 81)) := by
  have L : ∀ f k, k ≤ 81 → 81 - k < f → f_X8_rocks_48 K f (nI k) (rM μ 114 (a_bg σ k)) = K (rM μ 114 (a_bg σ 81)) := by
    intro f
    induction f with
    | zero => intro k _ h; omega
    | succ f ih =>
      intro k hk hf
      by_cases ck : 81 ≤ k
      · have : k = 81 := by omega
        subst this
        simp (disch := omega) only [f_X8_rocks_48, nI_add, pk_mul, nI_clamp, nI_eqE, nI_leE, nI_ltE, nI_eq0, nI_le0, nI_lt0, nI_ge0, nI_gt0, pk_rem, pk_sub, inb_t, gd_y, zl_e, bd_y, isB_n0, isB_n1, n0_eq, n1_eq, if_n0, if_n1, isB_if, not_true_eq_false, not_false_eq_true, ite_true, ite_false, Nat.le_refl, Nat.lt_irrefl]
      · rw [← ih (k + 1) (by omega) (by omega), ← a_bg_s (by omega)]
        simp (disch := omega) only [f_X8_rocks_48, nI_add, pk_mul, nI_clamp, nI_eqE, nI_leE, nI_ltE, nI_eq0, nI_le0, nI_lt0, nI_ge0, nI_gt0, pk_rem, pk_sub, inb_t, gd_y, zl_e, bd_y, isB_n0, isB_n1, n0_eq, n1_eq, if_n0, if_n1, isB_if, not_true_eq_false, not_false_eq_true, ite_true, ite_false, Nat.le_refl, Nat.lt_irrefl, ck, rM_w, e8_clears]
  exact L zfu 0 (by omega) (by unfold zfu; omega)
theorem e_rocksL {μ : Mem} {σ : St} {c : Nat} {D : Nat → Nat} (w : WF σ) (d : DB D) (hc : c ≤ 9) (h12 : μ.1 113 12 = nI c) (hD : ∀ j, j < 4 * c → μ.1 119 j = nI (D j)) : f_X8_rocks_91 (fun μ => f_X8_rocks_150 μ) zfu (nI 0) (rM μ 114 (a_rs σ D 0)) = some (nI c, rM μ 114 (a_rs σ D c)) := by
  have L : ∀ f k, k ≤ c → c - k < f → f_X8_rocks_91 (fun μ => f_X8_rocks_150 μ) f (nI k) (rM μ 114 (a_rs σ D k)) = some (nI c, rM μ 114 (a_rs σ D c)) := by
    intro f
    induction f with
    | zero => intro k _ h; omega
    | succ f ih =>
      intro k hk hf
      by_cases ck : c ≤ k
      · have : k = c := by omega
        subst this
        simp (disch := omega) only [f_X8_rocks_91, nI_add, pk_mul, nI_clamp, nI_eqE, nI_leE, nI_ltE, nI_eq0, nI_le0, nI_lt0, nI_ge0, nI_gt0, pk_rem, pk_sub, inb_t, gd_y, zl_e, bd_y, isB_n0, isB_n1, n0_eq, n1_eq, if_n0, if_n1, isB_if, not_true_eq_false, not_false_eq_true, ite_true, ite_false, Nat.le_refl, Nat.lt_irrefl, rM_k, h12, f_X8_rocks_150]
      · obtain ⟨i0, _⟩ := a_rs_w w d k (by omega)
        have h9 : a_rs σ D k 0 < 9 := by omega
        rw [← ih (k + 1) (by omega) (by omega)]
        have e := e8_letsIn (μ := μ) (kd := D (4 * k)) (c := D (4 * k + 1)) (f := D (4 * k + 2)) (u := D (4 * k + 3)) h9
        have x0 := hD (4 * k) (by omega)
        have x1 := hD (4 * k + 1) (by omega)
        have x2 := hD (4 * k + 2) (by omega)
        have x3 := hD (4 * k + 3) (by omega)
        simp (disch := omega) only [f_X8_rocks_91, nI_add, pk_mul, nI_clamp, nI_eqE, nI_leE, nI_ltE, nI_eq0, nI_le0, nI_lt0, nI_ge0, nI_gt0, pk_rem, pk_sub, inb_t, gd_y, zl_e, bd_y, isB_n0, isB_n1, n0_eq, n1_eq, if_n0, if_n1, isB_if, not_true_eq_false, not_false_eq_true, ite_true, ite_false, Nat.le_refl, Nat.lt_irrefl, rM_k, h12, ck, x0, x1, x2, x3, e]
        rfl
  exact L zfu 0 (by omega) (by unfold zfu; omega)
