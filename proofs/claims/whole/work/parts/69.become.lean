/-! PURE PART: laws and logs copied; image, restore -/
def FL (b m : Nat) (μ x : Mem) : Prop := x.2 = μ.2 ∧ ∀ k, (k < b ∨ b + m ≤ k) → x.1 k = μ.1 k
theorem FL.r {b m : Nat} {μ : Mem} : FL b m μ μ := ⟨rfl, fun _ _ => rfl⟩
theorem FL.t {b m : Nat} {μ μ1 μ2 : Mem} (h : FL b m μ μ1) (g : FL b m μ1 μ2) : FL b m μ μ2 := ⟨g.1.trans h.1, fun k hk => (g.2 k hk).trans (h.2 k hk)⟩
theorem FL.w {b m k j : Nat} {μ : Mem} {v : Int32} (h1 : b ≤ k) (h2 : k < b + m) : FL b m μ (sI μ k j v) := ⟨rfl, fun k' hk => rd_k (by omega)⟩
/-- a law without a rule (8: with all) -/
def a_bo (σ : St) (q : Nat) : St := fun j => if j = 3 then (if q < σ 3 then σ 3 - 1 else σ 3) else if 1761 ≤ j ∧ j < 1789 ∧ 4 * q ≤ j - 1761 then σ (j + 4) else σ j
theorem a_bo_3 {σ : St} {q : Nat} : a_bo σ q 3 = if q < σ 3 then σ 3 - 1 else σ 3 := by
  unfold a_bo
  rw [if_pos rfl]
theorem a_bo_lt {σ : St} {q i o : Nat} (hi : i < q) (ho : o < 4) : a_bo σ q (1761 + 4 * i + o) = σ (1761 + 4 * i + o) := by
  unfold a_bo
  rw [if_neg (by omega), if_neg (by omega)]
theorem a_bo_ge {σ : St} {q i o : Nat} (hi : q ≤ i) (h7 : i < 7) (ho : o < 4) : a_bo σ q (1761 + 4 * i + o) = σ (1761 + 4 * (i + 1) + o) := by
  unfold a_bo
  rw [if_neg (by omega), if_pos (by omega)]
  congr 1
  omega
theorem a_bo_n {σ : St} {q j : Nat} (h3 : j ≠ 3) (h : j < 1761 ∨ 1789 ≤ j) : a_bo σ q j = σ j := by
  unfold a_bo
  rw [if_neg h3, if_neg (by omega)]
theorem a_bo_w {σ : St} {q : Nat} (w : WF σ) : WF (a_bo σ q) := by
  intro j hj
  by_cases e3 : j = 3
  · subst e3
    rw [a_bo_3, bd_3]
    have := w.ru
    split <;> omega
  · by_cases e : j < 1761 ∨ 1789 ≤ j
    · rw [a_bo_n e3 e]; exact w j hj
    · have hj' : j = 1761 + 4 * ((j - 1761) / 4) + (j - 1761) % 4 := by omega
      have h7 : (j - 1761) / 4 < 7 := by omega
      have hb : bd j = bd (j + 4) := by
        have : ∀ j, j < 28 → bd (1761 + j) = bd (1761 + j + 4) := by decide
        have := this (j - 1761) (by omega)
        rw [show 1761 + (j - 1761) = j by omega] at this
        exact this
      by_cases hq : 4 * q ≤ j - 1761
      · have : a_bo σ q j = σ (j + 4) := by
          unfold a_bo
          rw [if_neg e3, if_pos (by omega)]
        rw [this, hb]
        exact w (j + 4) (by omega)
      · have : a_bo σ q j = σ j := by
          unfold a_bo
          rw [if_neg e3, if_neg (by omega)]
        rw [this]
        exact w j hj
theorem a_bo_8 {σ : St} (h : σ 3 ≤ 8) : a_bo σ 8 = σ := by
  funext j
  by_cases e3 : j = 3
  · subst e3
    rw [a_bo_3, if_neg (by omega)]
  · unfold a_bo
    rw [if_neg e3, if_neg (by omega)]
/-- how many rules are taken behind i -/
def lc (q i : Nat) : Nat := if q < i then i - 1 else i
theorem app_e {x : Mem} {b c : Nat} {v0 v1 v2 v3 : Int32} (h0 : x.1 b 0 = nI c) (hc : c < 8) : f_X0_append b v0 v1 v2 v3 x = some (nI (c + 1), sI (sI (sI (sI (sI x (b + 1) c v0) (b + 2) c v1) (b + 3) c v2) (b + 4) c v3) b 0 (nI (c + 1))) := by
  unfold f_X0_append
  simp (disch := omega) only [nI_add, pk_mul, nI_clamp, nI_eqE, nI_leE, nI_ltE, nI_eq0, nI_le0, nI_lt0, nI_ge0, nI_gt0, pk_rem, pk_sub, inb_t, gd_y, zl_e, bd_y, isB_n0, isB_n1, n0_eq, n1_eq, if_n0, if_n1, isB_if, not_true_eq_false, not_false_eq_true, ite_true, ite_false, Nat.le_refl, Nat.lt_irrefl, h0, rd_k, rd_s]
theorem n0_without {μ : Mem} {b k q : Nat} {a2 : Int32} {σ : St} (l : NL μ k σ) (w : WF σ) (hd : b + 5 ≤ k ∨ k + 5 ≤ b) (ha : ∀ i, i < 8 → (nI i = a2) = (i = q)) : ∃ μ', f_X0_becomeWithout b k a2 μ = some μ' ∧ NL μ' b (a_bo σ q) ∧ FL b 5 μ μ' := by
  have h8 := w.ru
  unfold f_X0_becomeWithout
  rw [zl_e]
  have L := lp_rel (fun n i (x : Mem) => f_X0_becomeWithout_7 b k a2 n (nI i) x) (fun i x => FL b 5 μ x ∧ x.1 b 0 = nI (lc q i) ∧ ∀ j, j < lc q i → x.1 (b + 1) j = nI (a_bo σ q (1761 + 4 * j + 0)) ∧ x.1 (b + 2) j = nI (a_bo σ q (1761 + 4 * j + 1)) ∧ x.1 (b + 3) j = nI (a_bo σ q (1761 + 4 * j + 2)) ∧ x.1 (b + 4) j = nI (a_bo σ q (1761 + 4 * j + 3))) (σ 3) (fun x => NL x b (a_bo σ q) ∧ FL b 5 μ x) ?_ ?_ zfu 0 (sI μ b 0 (nI 0)) (by omega) (by unfold zfu; omega) ⟨FL.w (by omega) (by omega), by rw [rd_s]; unfold lc; rw [if_neg (by omega)], fun j hj => absurd hj (by unfold lc; rw [if_neg (by omega)]; omega)⟩
  · obtain ⟨x, g1, g2, g3⟩ := L
    exact ⟨x, g1, g2, g3⟩
  · intro n x ⟨g1, g2, g3⟩
    have l0 : x.1 k 0 = nI (σ 3) := by rw [g1.2 k (by omega)]; exact l.1
    refine ⟨x, ?_, ⟨?_, fun i hi => ?_⟩, g1⟩
    · simp (disch := omega) only [f_X0_becomeWithout_7, nI_add, pk_mul, nI_clamp, nI_eqE, nI_leE, nI_ltE, nI_eq0, nI_le0, nI_lt0, nI_ge0, nI_gt0, pk_rem, pk_sub, inb_t, gd_y, zl_e, bd_y, isB_n0, isB_n1, n0_eq, n1_eq, if_n0, if_n1, isB_if, not_true_eq_false, not_false_eq_true, ite_true, ite_false, Nat.le_refl, Nat.lt_irrefl, l0]
    · rw [g2, a_bo_3]
      rfl
    · have : i < lc q (σ 3) := by unfold lc; rw [a_bo_3] at hi; exact hi
      exact g3 i this
  · intro n i x hi ⟨g1, g2, g3⟩
    left
    have qe : ¬ σ 3 ≤ i := by omega
    have l0 : x.1 k 0 = nI (σ 3) := by rw [g1.2 k (by omega)]; exact l.1
    obtain ⟨l1, l2, l3, l4⟩ := l.2 i hi
    rw [← g1.2 (k + 1) (by omega)] at l1
    rw [← g1.2 (k + 2) (by omega)] at l2
    rw [← g1.2 (k + 3) (by omega)] at l3
    rw [← g1.2 (k + 4) (by omega)] at l4
    by_cases e : i = q
    · refine ⟨x, ⟨g1, ?_, ?_⟩, ?_⟩
      · rw [g2]; unfold lc; rw [if_neg (by omega), if_pos (by omega)]; rfl
      · have : lc q (i + 1) = lc q i := by unfold lc; rw [if_neg (show ¬ q < i by omega), if_pos (by omega)]; rfl
        rw [this]; exact g3
      · subst e
        simp (disch := omega) only [f_X0_becomeWithout_7, f_X0_becomeWithout_49, nI_add, pk_mul, nI_clamp, nI_eqE, nI_leE, nI_ltE, nI_eq0, nI_le0, nI_lt0, nI_ge0, nI_gt0, pk_rem, pk_sub, inb_t, gd_y, zl_e, bd_y, isB_n0, isB_n1, n0_eq, n1_eq, if_n0, if_n1, isB_if, not_true_eq_false, not_false_eq_true, ite_true, ite_false, Nat.le_refl, Nat.lt_irrefl, l0, qe, ha i (by omega)]
    · have hc8 : lc q i < 8 := by unfold lc; split <;> omega
      have lcs : lc q (i + 1) = lc q i + 1 := by unfold lc; (repeat' split) <;> omega
      have src : ∀ o, o < 4 → a_bo σ q (1761 + 4 * lc q i + o) = σ (1761 + 4 * i + o) := by
        intro o ho
        unfold lc
        by_cases c : q < i
        · rw [if_pos c, a_bo_ge (by omega) (by omega) ho, show i - 1 + 1 = i by omega]
        · rw [if_neg c, a_bo_lt (by omega) ho]
      refine ⟨sI (sI (sI (sI (sI x (b + 1) (lc q i) (nI (σ (1761 + 4 * i)))) (b + 2) (lc q i) (nI (σ (1761 + 4 * i + 1)))) (b + 3) (lc q i) (nI (σ (1761 + 4 * i + 2)))) (b + 4) (lc q i) (nI (σ (1761 + 4 * i + 3)))) b 0 (nI (lc q i + 1)), ⟨?_, ?_, fun j hj => ?_⟩, ?_⟩
      · exact g1.t (((((FL.w (by omega) (by omega)).t (FL.w (by omega) (by omega))).t (FL.w (by omega) (by omega))).t (FL.w (by omega) (by omega))).t (FL.w (by omega) (by omega)))
      · rw [rd_s, lcs]
      · rw [lcs] at hj
        by_cases ej : j = lc q i
        · subst ej
          rw [src 0 (by omega), src 1 (by omega), src 2 (by omega), src 3 (by omega)]
          simp (disch := omega) only [rd_k, rd_s, Nat.add_zero]
          exact ⟨trivial, trivial, trivial, trivial⟩
        · obtain ⟨t1, t2, t3, t4⟩ := g3 j (by omega)
          simp (disch := omega) only [rd_k, rd_j]
          exact ⟨t1, t2, t3, t4⟩
      · simp (disch := omega) only [f_X0_becomeWithout_7, f_X0_becomeWithout_49, nI_add, pk_mul, nI_clamp, nI_eqE, nI_leE, nI_ltE, nI_eq0, nI_le0, nI_lt0, nI_ge0, nI_gt0, pk_rem, pk_sub, inb_t, gd_y, zl_e, bd_y, isB_n0, isB_n1, n0_eq, n1_eq, if_n0, if_n1, isB_if, not_true_eq_false, not_false_eq_true, ite_true, ite_false, Nat.le_refl, Nat.lt_irrefl, l0, qe, ha i (by omega), e, l1, l2, l3, l4, app_e g2 hc8]
theorem m1_ne {i : Nat} (hi : i < 8) : (nI i = (-1 : Int32)) = (i = 8) := by
  rw [nI_neM (by omega) (by decide)]
  exact (eq_false (by omega)).symm
theorem n0_become {μ : Mem} {b k : Nat} {σ : St} (l : NL μ k σ) (w : WF σ) (hd : b + 5 ≤ k ∨ k + 5 ≤ b) : ∃ μ', f_X0_become b k μ = some μ' ∧ NL μ' b σ ∧ FL b 5 μ μ' := by
  obtain ⟨x, g1, g2, g3⟩ := n0_without (a2 := -1) (q := 8) l w hd (fun i hi => m1_ne hi)
  rw [a_bo_8 w.ru] at g2
  exact ⟨x, by unfold f_X0_become; rw [g1, bd_y], g2, g3⟩
theorem app1_e {x : Mem} {b c : Nat} {v0 v1 v2 : Int32} (h0 : x.1 b 0 = nI c) (hc : c < 12) : f_X1_append b v0 v1 v2 x = some (nI (c + 1), sI (sI (sI (sI x (b + 1) c v0) (b + 2) c v1) (b + 3) c v2) b 0 (nI (c + 1))) := by
  unfold f_X1_append
  simp (disch := omega) only [nI_add, pk_mul, nI_clamp, nI_eqE, nI_leE, nI_ltE, nI_eq0, nI_le0, nI_lt0, nI_ge0, nI_gt0, pk_rem, pk_sub, inb_t, gd_y, zl_e, bd_y, isB_n0, isB_n1, n0_eq, n1_eq, if_n0, if_n1, isB_if, not_true_eq_false, not_false_eq_true, ite_true, ite_false, Nat.le_refl, Nat.lt_irrefl, h0, rd_k, rd_s]
theorem n1_become {μ : Mem} {b k : Nat} {σ : St} (l : NG μ k σ) (w : WF σ) (hd : b + 4 ≤ k ∨ k + 4 ≤ b) : ∃ μ', f_X1_become b k μ = some μ' ∧ NG μ' b σ ∧ FL b 4 μ μ' := by
  have h8 := w.lo
  unfold f_X1_become
  rw [zl_e]
  have L := lp_rel (fun n i (x : Mem) => f_X1_become_7 b k n (nI i) x) (fun i x => FL b 4 μ x ∧ x.1 b 0 = nI i ∧ ∀ j, j < i → x.1 (b + 1) j = nI (σ (1793 + 3 * j)) ∧ x.1 (b + 2) j = nI (σ (1793 + 3 * j + 1)) ∧ x.1 (b + 3) j = nI (σ (1793 + 3 * j + 2))) (σ 4) (fun x => NG x b σ ∧ FL b 4 μ x) ?_ ?_ zfu 0 (sI μ b 0 (nI 0)) (by omega) (by unfold zfu; omega) ⟨FL.w (by omega) (by omega), rd_s, fun j hj => absurd hj (by omega)⟩
  · obtain ⟨x, g1, g2, g3⟩ := L
    exact ⟨x, g1, g2, g3⟩
  · intro n x ⟨g1, g2, g3⟩
    have l0 : x.1 k 0 = nI (σ 4) := by rw [g1.2 k (by omega)]; exact l.1
    refine ⟨x, ?_, ⟨g2, g3⟩, g1⟩
    simp (disch := omega) only [f_X1_become_7, nI_add, pk_mul, nI_clamp, nI_eqE, nI_leE, nI_ltE, nI_eq0, nI_le0, nI_lt0, nI_ge0, nI_gt0, pk_rem, pk_sub, inb_t, gd_y, zl_e, bd_y, isB_n0, isB_n1, n0_eq, n1_eq, if_n0, if_n1, isB_if, not_true_eq_false, not_false_eq_true, ite_true, ite_false, Nat.le_refl, Nat.lt_irrefl, l0]
  · intro n i x hi ⟨g1, g2, g3⟩
    left
    have qe : ¬ σ 4 ≤ i := by omega
    have l0 : x.1 k 0 = nI (σ 4) := by rw [g1.2 k (by omega)]; exact l.1
    obtain ⟨l1, l2, l3⟩ := l.2 i hi
    rw [← g1.2 (k + 1) (by omega)] at l1
    rw [← g1.2 (k + 2) (by omega)] at l2
    rw [← g1.2 (k + 3) (by omega)] at l3
    refine ⟨sI (sI (sI (sI x (b + 1) i (nI (σ (1793 + 3 * i)))) (b + 2) i (nI (σ (1793 + 3 * i + 1)))) (b + 3) i (nI (σ (1793 + 3 * i + 2)))) b 0 (nI (i + 1)), ⟨?_, rd_s, fun j hj => ?_⟩, ?_⟩
    · exact g1.t ((((FL.w (by omega) (by omega)).t (FL.w (by omega) (by omega))).t (FL.w (by omega) (by omega))).t (FL.w (by omega) (by omega)))
    · by_cases ej : j = i
      · subst ej
        simp (disch := omega) only [rd_k, rd_s]
        exact ⟨trivial, trivial, trivial⟩
      · obtain ⟨t1, t2, t3⟩ := g3 j (by omega)
        simp (disch := omega) only [rd_k, rd_j]
        exact ⟨t1, t2, t3⟩
    · simp (disch := omega) only [f_X1_become_7, nI_add, pk_mul, nI_clamp, nI_eqE, nI_leE, nI_ltE, nI_eq0, nI_le0, nI_lt0, nI_ge0, nI_gt0, pk_rem, pk_sub, inb_t, gd_y, zl_e, bd_y, isB_n0, isB_n1, n0_eq, n1_eq, if_n0, if_n1, isB_if, not_true_eq_false, not_false_eq_true, ite_true, ite_false, Nat.le_refl, Nat.lt_irrefl, l0, qe, l1, l2, l3, app1_e g2 (show i < 12 by omega)]
/-- a state becomes another -/
theorem n4_become {μ : Mem} {b k h : Nat} {σ : St} (w : WF σ) (n : NN μ (k + 1) σ h 9) (s : isB (μ.1 (k + 1) 6) = true) (l : NL μ (k + 23) σ) (g : NG μ (k + 28) σ) (hd : b + 32 ≤ k ∨ k + 32 ≤ b) : ∃ μ', f_X4_become b k μ = some μ' ∧ NN μ' (b + 1) σ h 9 ∧ isB (μ'.1 (b + 1) 6) = true ∧ NL μ' (b + 23) σ ∧ NG μ' (b + 28) σ ∧ FL (b + 1) 31 μ μ' := by
  obtain ⟨x1, p1, p2, p3, p4⟩ := n2_become (b := b + 1) n w.n s (by omega)
  obtain ⟨x2, q1, q2, q3⟩ := n0_become (b := b + 23) (k := k + 23) (μ := x1) (l.mem (fun q h1 h2 => p3.2 q (by omega))) w (by omega)
  obtain ⟨x3, r1, r2, r3⟩ := n1_become (b := b + 28) (k := k + 28) (μ := x2) ((g.mem (fun q h1 h2 => p3.2 q (by omega))).mem (fun q h1 h2 => q3.2 q (by omega))) w (by omega)
  refine ⟨x3, ?_, (p2.mem w.n (fun q h1 h2 => q3.2 q (by omega))).mem w.n (fun q h1 h2 => r3.2 q (by omega)), ?_, q2.mem (fun q h1 h2 => r3.2 q (by omega)), r2, ?_⟩
  · unfold f_X4_become
    rw [p1, bd_y, q1, bd_y, r1, bd_y]
  · rw [r3.2 (b + 1) (by omega), q3.2 (b + 1) (by omega), p4]
    exact s
  · exact ⟨r3.1.trans (q3.1.trans p3.1), fun q hq => (r3.2 q (by omega)).trans ((q3.2 q (by omega)).trans (p3.2 q (by omega)))⟩
theorem o_image : ok_image II := by
  intro μ I
  obtain ⟨⟨σ, h, r, w, z, m, n, s, l, g⟩, i2, i3, i4, hL, hD⟩ := id I
  obtain ⟨x, p1, p2, p3, p4, p5, p6⟩ := n4_become (b := 33) (k := 1) w n s l g (by omega)
  have e1 : ∀ k, (k < 34 ∨ 65 ≤ k) → x.1 k = μ.1 k := fun k hk => p6.2 k (by omega)
  have rr : RR (sI (sI x 0 2 (nI 1)) 113 0 (nI 0)) 114 σ := fun j hj => by rw [rd_k (by omega), rd_k (by omega), e1 114 (by omega)]; exact r j hj
  have cp := e8_copies rr (k1 := 117) (by omega)
  refine ⟨nI 1, sI x 0 2 (nI 1), sI (rM (sI (sI x 0 2 (nI 1)) 113 0 (nI 0)) 117 σ) 113 5 (nI 1), ?_, ?_, ?_⟩
  · unfold f_X7_image
    rw [p1, bd_y, zl_e]
  · unfold f_X8_image
    rw [zl_e, cp, bd_y, zl_e]
  · have e2 : ∀ k, k ≠ 0 → k ≠ 113 → k ≠ 117 → (sI (rM (sI (sI x 0 2 (nI 1)) 113 0 (nI 0)) 117 σ) 113 5 (nI 1)).1 k = x.1 k := fun k h1 h2 h3 => by rw [rd_k (by omega), rM_k (by omega), rd_k (by omega), rd_k (by omega)]
    have e3 : ∀ j, j ≠ 0 → j ≠ 5 → (sI (rM (sI (sI x 0 2 (nI 1)) 113 0 (nI 0)) 117 σ) 113 5 (nI 1)).1 113 j = μ.1 113 j := fun j h1 h2 => by rw [rd_j h2, rM_k (by omega), rd_j h1, rd_k (by omega), e1 113 (by omega)]
    have e4 : (sI (rM (sI (sI x 0 2 (nI 1)) 113 0 (nI 0)) 117 σ) 113 5 (nI 1)).2 = μ.2 := p6.1
    generalize hY : sI (rM (sI (sI x 0 2 (nI 1)) 113 0 (nI 0)) 117 σ) 113 5 (nI 1) = y at *
    have y0 : y.1 0 2 = nI 1 := by rw [← hY, rd_k (by omega), rM_k (by omega), rd_k (by omega), rd_s]
    have y5 : y.1 113 5 = nI 1 := by rw [← hY, rd_s]
    have y117 : RR y 117 σ := fun j hj => by rw [← hY, rd_k (by omega), rM_r hj]
    refine ⟨⟨σ, h, ?_⟩, Or.inr ⟨y0, y5, σ, h, ?_⟩, ?_, ?_, ?_, ?_⟩
    · refine ⟨fun j hj => by rw [e2 114 (by omega) (by omega) (by omega), e1 114 (by omega)]; exact r j hj, w, z, m, n.mem w.n (fun k h1 h2 => by rw [e2 k (by omega) (by omega) (by omega), e1 k (by omega)]), by rw [e2 2 (by omega) (by omega) (by omega), e1 2 (by omega)]; exact s, l.mem (fun k h1 h2 => by rw [e2 k (by omega) (by omega) (by omega), e1 k (by omega)]), g.mem (fun k h1 h2 => by rw [e2 k (by omega) (by omega) (by omega), e1 k (by omega)])⟩
    · exact ⟨y117, w, z, m, p2.mem w.n (fun k h1 h2 => e2 k (by omega) (by omega) (by omega)), by rw [e2 34 (by omega) (by omega) (by omega)]; exact p3, p4.mem (fun k h1 h2 => e2 k (by omega) (by omega) (by omega)), p5.mem (fun k h1 h2 => e2 k (by omega) (by omega) (by omega))⟩
    · obtain ⟨nn, t1, t2, t3, t4⟩ := i3
      refine ⟨nn, t1, by rw [e2 93 (by omega) (by omega) (by omega), e1 93 (by omega)]; exact t2, by rw [e3 7 (by omega) (by omega)]; exact t3, fun i hi => ?_⟩
      rw [e2 103 (by omega) (by omega) (by omega), e1 103 (by omega), e2 118 (by omega) (by omega) (by omega), e1 118 (by omega)]
      exact t4 i hi
    · intro q hq
      unfold IS1
      rw [e2 (105 + q) (by omega) (by omega) (by omega), e1 (105 + q) (by omega), e2 120 (by omega) (by omega) (by omega), e1 120 (by omega), e2 121 (by omega) (by omega) (by omega), e1 121 (by omega), e4]
      exact i4 q hq
    · unfold L16; rw [e3 16 (by omega) (by omega)]; exact hL
    · unfold D17; rw [e3 17 (by omega) (by omega)]; exact hD
theorem o_restore : ok_restore II := by
  intro μ I
  obtain ⟨⟨σ, h, r, w, z, m, n, s, l, g⟩, i2, i3, i4, hL, hD⟩ := id I
  rcases i2 with ⟨k0, k1⟩ | ⟨k0, k1, σ', h', r', w', z', m', n', s', l', g'⟩
  · refine ⟨-4, μ, rM (sI μ 113 0 (nI 0)) 114 σ, ?_, ?_, I.ref r⟩
    · unfold f_X7_restore
      simp (disch := omega) only [k0, zl_e, bd_y, if_n0, n0_eq, n1_eq, Bool.false_eq_true, not_true_eq_false, not_false_eq_true, if_true, if_false, Nat.one_ne_zero, rM_rM]
    · unfold f_X8_restore
      rw [th_rM r]
      simp (disch := omega) only [zl_e, bd_y, if_n0, n0_eq, n1_eq, Bool.false_eq_true, not_true_eq_false, not_false_eq_true, if_true, if_false, Nat.one_ne_zero, rM_rM, rd_j, k1]
  · obtain ⟨x, p1, p2, p3, p4, p5, p6⟩ := n4_become (b := 1) (k := 33) w' n' s' l' g' (by omega)
    have e1 : ∀ k, (k < 2 ∨ 33 ≤ k) → x.1 k = μ.1 k := fun k hk => p6.2 k (by omega)
    have rr : RR (sI x 113 0 (nI 0)) 117 σ' := fun j hj => by rw [rd_k (by omega), e1 117 (by omega)]; exact r' j hj
    have cp := e8_copies rr (k1 := 114) (by omega)
    have x5 : (sI x 113 0 (nI 0)).1 113 5 = nI 1 := by rw [rd_j (by omega), e1 113 (by omega)]; exact k1
    refine ⟨nI 1, x, rM (sI x 113 0 (nI 0)) 114 σ', ?_, ?_, ?_⟩
    · unfold f_X7_restore
      simp (disch := omega) only [k0, zl_e, bd_y, if_n0, n0_eq, n1_eq, Bool.false_eq_true, not_true_eq_false, not_false_eq_true, if_true, if_false, Nat.one_ne_zero, rM_rM, p1]
    · unfold f_X8_restore
      simp (disch := omega) only [zl_e, bd_y, if_n0, n0_eq, n1_eq, Bool.false_eq_true, not_true_eq_false, not_false_eq_true, if_true, if_false, Nat.one_ne_zero, rM_rM, x5, cp]
    · have f1 : FS μ x := ⟨fun k hk => e1 k (by omega), fun j _ => by rw [e1 113 (by omega)], p6.1⟩
      exact I.fin f1 w' z' m' p2 p3 p4 p5
