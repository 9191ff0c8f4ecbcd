/-! PURE PART: one rule, read -/
theorem wn_ge {w : Option Nat} (h : w = none) : ((0 : Int32) ≤ wI w) = False := by subst h; exact eq_false (show ¬ (0 : Int32) ≤ -1 by decide)
theorem ws_ge {w : Option Nat} {k : Nat} (h : w = some k) (hk : k < 2 ^ 31) : ((0 : Int32) ≤ wI w) = True := by subst h; exact nI_ge0 hk
theorem wn_lt : (wI none < (0 : Int32)) = True := eq_true (show (-1 : Int32) < 0 by decide)
def u0 (L : Nat → Nat) (N q : Nat) : Nat × Nat × Option Nat := r_one L N (ixf 0) q none
def u1 (L : Nat → Nat) (N q : Nat) : Nat × Nat × Option Nat := r_one L N (ixf 1) (u0 L N q).2.1 (u0 L N q).2.2
def u2 (L : Nat → Nat) (N q : Nat) : Nat × Nat × Option Nat := r_one L N (ixf 2) (u1 L N q).2.1 (u1 L N q).2.2
def u3 (L : Nat → Nat) (N q : Nat) : Nat × Nat × Option Nat := r_one L N (ixf 3) (u2 L N q).2.1 (u2 L N q).2.2
def r_rule (L : Nat → Nat) (N q : Nat) : (Nat → Nat) × Nat × Option Nat := (fun o => if o = 0 then (u0 L N q).1 else if o = 1 then (u1 L N q).1 else if o = 2 then (u2 L N q).1 else (u3 L N q).1, (u3 L N q).2.1, (u3 L N q).2.2)
theorem RP.n {L : Nat → Nat} {N p q : Nat} (h : RP L N p q none) (hN : N ≤ 160) : RP L N q q none := ⟨h.2.1, h.2.1, fun _ => by rw [← h.2.2.1 rfl]; exact sk_sk hN h.1, h.2.2.2⟩
theorem c_rule {μ : Mem} {L : Nat → Nat} {N p q c : Nat} (t : TL L N μ) (h : RP L N p q none) (h0 : μ.1 94 0 = nI c) (hc : c < 8) : ∃ μ' p', f_X5_readRule (CM μ p none) = some (CM μ' p' (r_rule L N q).2.2) ∧ RP L N p' (r_rule L N q).2.1 (r_rule L N q).2.2 ∧ FL 94 9 μ μ' ∧ ((r_rule L N q).2.2 = none → μ'.1 94 0 = nI (c + 1) ∧ ∀ o, o < 4 → ∀ i, μ'.1 (95 + o) i = if i = c then nI ((r_rule L N q).1 o) else μ.1 (95 + o) i) := by
  obtain ⟨p1, e1, k1⟩ := c_one t h (s := 0) (by omega)
  obtain ⟨p2, e2, k2⟩ := c_one t k1 (s := 1) (by omega)
  obtain ⟨p3, e3, k3⟩ := c_one t k2 (s := 2) (by omega)
  obtain ⟨p4, e4, k4⟩ := c_one t k3 (s := 3) (by omega)
  change RP L N p4 (r_rule L N q).2.1 (r_rule L N q).2.2 at k4
  change f_X5_oneOf 3 _ = some (nI (u3 L N q).1, CM μ p4 (r_rule L N q).2.2) at e4
  change f_X5_oneOf 2 _ = some (nI (u2 L N q).1, CM μ p3 (u2 L N q).2.2) at e3
  change f_X5_oneOf 1 _ = some (nI (u1 L N q).1, CM μ p2 (u1 L N q).2.2) at e2
  change f_X5_oneOf 0 _ = some (nI (u0 L N q).1, CM μ p1 (u0 L N q).2.2) at e1
  change f_X5_oneOf 3 (CM μ p3 (u2 L N q).2.2) = _ at e4
  change f_X5_oneOf 2 (CM μ p2 (u1 L N q).2.2) = _ at e3
  change f_X5_oneOf 1 (CM μ p1 (u0 L N q).2.2) = _ at e2
  unfold f_X5_readRule
  simp only [e1, bd_y, e2, e3, e4, CM_8]
  cases hw : (r_rule L N q).2.2 with
  | some k =>
    have := k4.2.2.2 k hw
    have hN := t.2.1
    rw [hw] at k4
    refine ⟨μ, p4, ?_, k4, FL.r, fun z => by cases z⟩
    rw [if_pos (show (0 : Int32) ≤ wI (some k) from nI_pos' (by omega))]
  | none =>
    rw [hw] at k4
    rw [if_neg (show ¬ ((0 : Int32) ≤ wI none) by decide), app_e (c := c) (by rw [CM_k (by omega)]; exact h0) hc, bd_y]
    refine ⟨sI (sI (sI (sI (sI μ 95 c (nI (u0 L N q).1)) 96 c (nI (u1 L N q).1)) 97 c (nI (u2 L N q).1)) 98 c (nI (u3 L N q).1)) 94 0 (nI (c + 1)), p4, ?_, k4, ?_, fun _ => ⟨rd_s, fun o ho i => ?_⟩⟩
    · simp (disch := omega) only [CM_wk]
    · exact ((((FL.w (by omega) (by omega)).t (FL.w (by omega) (by omega))).t (FL.w (by omega) (by omega))).t (FL.w (by omega) (by omega))).t (FL.w (by omega) (by omega))
    · have ho' : o = 0 ∨ o = 1 ∨ o = 2 ∨ o = 3 := by omega
      by_cases ci : i = c
      · rw [if_pos ci, ci]
        rcases ho' with z | z | z | z <;> subst z <;> simp (disch := omega) only [Nat.reduceAdd, Nat.add_zero, rd_k, rd_s] <;> rfl
      · rw [if_neg ci]
        rcases ho' with z | z | z | z <;> subst z <;> simp (disch := omega) only [Nat.reduceAdd, Nat.add_zero, rd_k, rd_j]
theorem bw_ltr {L : Nat → Nat} {N q : Nat} (hL : q < N → L q < 2 ^ 31) : (bw (ltr L N q) 48 57 = true) = (q < N ∧ 48 ≤ L q ∧ L q ≤ 57) := by
  unfold ltr bw
  by_cases c : q < N
  · have := nI_toInt (hL c)
    simp only [c, if_true, true_and, Bool.and_eq_true, decide_eq_true_eq, this]
    exact propext ⟨fun h => ⟨by omega, by omega⟩, fun h => ⟨by omega, by omega⟩⟩
  · simp only [c, if_false, false_and]
    exact eq_false (by decide)
theorem ixf1_lt {v k : Nat} (h : ixf 1 v = some k) : k < 2 ^ 31 := by
  unfold ixf at h
  simp only at h
  split at h <;> cases h
  omega
theorem e_rule {μ : Mem} {L : Nat → Nat} {N p q c : Nat} {pl : Int32} (t : QL L N μ) (h : RP L N p q none) (hc : c < 9) : ∃ μ' p' pl', f_X8_readsRule (RM μ p pl none c) = some (RM μ' p' pl' (r_rule L N q).2.2 c) ∧ RP L N p' (r_rule L N q).2.1 (r_rule L N q).2.2 ∧ FL 119 1 μ μ' ∧ ((r_rule L N q).2.2 = none → ∀ j, μ'.1 119 j = if 4 * c ≤ j ∧ j < 4 * c + 4 then nI ((r_rule L N q).1 (j - 4 * c)) else μ.1 119 j) := by
  have tw : ∀ {x : Mem} {j : Nat} {v : Int32}, QL L N x → QL L N (sI x 119 j v) := by
    intro x j v a
    refine ⟨by rw [rd_k (by omega)]; exact a.1, a.2.1, ?_⟩
    rw [rd_k (by omega)]
    exact a.2.2
  obtain ⟨p1, l1, e1, k1⟩ := e_takes (c := c) (pl := pl) t h (x := 114) (y := 103) (z := 97) (by omega) (by omega) (by omega)
  change f_X8_takes _ _ _ _ = some (nI (u0 L N q).1, RM μ p1 l1 (u0 L N q).2.2 c) at e1
  change RP L N p1 (u0 L N q).2.1 (u0 L N q).2.2 at k1
  have t1 := tw (j := 4 * c) (v := nI (u0 L N q).1) t
  generalize hm1 : sI μ 119 (4 * c) (nI (u0 L N q).1) = m1 at t1
  obtain ⟨p2, e2, k2⟩ := e_passes (μ := m1) (c := c) (ix := ixf 1) t.2.1 k1 (fun v k => ixf1_lt)
  change _ = some (nI (u1 L N q).1, RM m1 p2 _ (u1 L N q).2.2 c) at e2
  change RP L N p2 (u1 L N q).2.1 (u1 L N q).2.2 at k2
  have t2 := tw (j := 4 * c + 1) (v := nI (u1 L N q).1) t1
  generalize hm2 : sI m1 119 (4 * c + 1) (nI (u1 L N q).1) = m2 at t2
  obtain ⟨p3, l3, e3, k3⟩ := e_takes (c := c) (pl := nI (sk L N p1)) t2 k2 (x := 115) (y := 98) (z := 108) (by omega) (by omega) (by omega)
  change f_X8_takes _ _ _ _ = some (nI (u2 L N q).1, RM m2 p3 l3 (u2 L N q).2.2 c) at e3
  change RP L N p3 (u2 L N q).2.1 (u2 L N q).2.2 at k3
  have t3 := tw (j := 4 * c + 2) (v := nI (u2 L N q).1) t2
  generalize hm3 : sI m2 119 (4 * c + 2) (nI (u2 L N q).1) = m3 at t3
  obtain ⟨p4, l4, e4, k4⟩ := e_takes (c := c) (pl := l3) t3 k3 (x := 114) (y := 103) (z := 111) (by omega) (by omega) (by omega)
  change f_X8_takes _ _ _ _ = some (nI (u3 L N q).1, RM m3 p4 l4 (r_rule L N q).2.2 c) at e4
  change RP L N p4 (r_rule L N q).2.1 (r_rule L N q).2.2 at k4
  refine ⟨sI m3 119 (4 * c + 3) (nI (u3 L N q).1), p4, l4, ?_, k4, ?_, fun _ j => ?_⟩
  · unfold f_X8_readsRule
    have el := e_letter (c := c) (pl := l1) (w := (u0 L N q).2.2) t1 k1.1
    have H : ∀ t3, t3 = wI (lx L N (ixf 1) (sk L N p1)) → f_X8_readsRule_58 (nI (4 * c)) (nI (4 * c + 1)) t3 (RM m1 (sk L N p1) (nI (sk L N p1)) (u0 L N q).2.2 c) = some (RM (sI m3 119 (4 * c + 3) (nI (u3 L N q).1)) p4 l4 (r_rule L N q).2.2 c) := by
      intro t3 et
      unfold f_X8_readsRule_58
      rw [et]
      simp (disch := omega) only [e2, nI_add, pk_mul, nI_clamp, nI_eqE, nI_leE, nI_ltE, nI_eq0, nI_le0, nI_lt0, nI_ge0, nI_gt0, pk_rem, pk_sub, inb_t, gd_y, zl_e, bd_y, isB_n0, isB_n1, n0_eq, n1_eq, if_n0, if_n1, isB_if, not_true_eq_false, not_false_eq_true, ite_true, ite_false, Nat.le_refl, Nat.lt_irrefl, RM_wk, hm2, e3, hm3, e4]
    simp (disch := omega) only [RM_12, nI_add, pk_mul, nI_clamp, nI_eqE, nI_leE, nI_ltE, nI_eq0, nI_le0, nI_lt0, nI_ge0, nI_gt0, pk_rem, pk_sub, inb_t, gd_y, zl_e, bd_y, isB_n0, isB_n1, n0_eq, n1_eq, if_n0, if_n1, isB_if, not_true_eq_false, not_false_eq_true, ite_true, ite_false, Nat.le_refl, Nat.lt_irrefl, e1, RM_wk, hm1, el, in_48_57, bw_ltr (t.b _)]
    by_cases cd : sk L N p1 < N ∧ 48 ≤ L (sk L N p1) ∧ L (sk L N p1) ≤ 57
    · simp only [cd, and_self, if_true, n1_eq, if_false]
      refine H _ ?_
      unfold ltr lx ixf
      have e : (if 48 ≤ L (sk L N p1) ∧ L (sk L N p1) ≤ 57 then some (L (sk L N p1) - 48) else none) = some (L (sk L N p1) - 48) := if_pos cd.2
      simp only [cd.1, if_true]
      rw [e]
      exact pk_sub (by omega)
    · simp only [cd, if_false, n0_eq, if_true]
      refine H _ ?_
      unfold lx ixf
      by_cases c0 : sk L N p1 < N
      · rw [if_pos c0]
        show (-1 : Int32) = wI (if 48 ≤ L (sk L N p1) ∧ L (sk L N p1) ≤ 57 then some (L (sk L N p1) - 48) else none)
        rw [if_neg (fun z => cd ⟨c0, z⟩)]
        rfl
      · rw [if_neg c0]
        rfl
  · rw [← hm3, ← hm2, ← hm1]
    exact (((FL.w (by omega) (by omega)).t (FL.w (by omega) (by omega))).t (FL.w (by omega) (by omega))).t (FL.w (by omega) (by omega))
  · rw [← hm3, ← hm2, ← hm1]
    by_cases cj : 4 * c ≤ j ∧ j < 4 * c + 4
    · have cj' : j = 4 * c ∨ j = 4 * c + 1 ∨ j = 4 * c + 2 ∨ j = 4 * c + 3 := by omega
      rw [if_pos cj]
      rcases cj' with z | z | z | z <;> subst z
      · simp (disch := omega) only [rd_j, rd_s, r_rule, Nat.sub_self, if_true]
      · simp (disch := omega) only [rd_j, rd_s, r_rule, Nat.add_sub_cancel_left, Nat.one_ne_zero, if_true, if_false]
      · simp (disch := omega) only [rd_j, rd_s, r_rule, Nat.add_sub_cancel_left, show ¬ (2 = 0) by omega, show ¬ (2 = 1) by omega, if_true, if_false]
      · simp (disch := omega) only [rd_j, rd_s, r_rule, Nat.add_sub_cancel_left, show ¬ (3 = 0) by omega, show ¬ (3 = 1) by omega, show ¬ (3 = 2) by omega, if_true, if_false]
    · rw [if_neg cj]
      simp (disch := omega) only [rd_j]
