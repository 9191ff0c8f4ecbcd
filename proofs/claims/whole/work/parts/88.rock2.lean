/-! PURE PART: rocks, read -/
theorem e_rock {μ : Mem} {L : Nat → Nat} {N p q c : Nat} {pl : Int32} (t : QL L N μ) (h : RP L N p q none) (hc : c < 9) : ∃ μ' p' pl', f_X8_readsRock (RM μ p pl none c) = some (RM μ' p' pl' (r_rock L N q).2.2 c) ∧ RP L N p' (r_rock L N q).2.1 (r_rock L N q).2.2 ∧ FL 119 1 μ μ' ∧ ((r_rock L N q).2.2 = none → ∀ j, μ'.1 119 j = if 4 * c ≤ j ∧ j < 4 * c + 4 then nI ((r_rock L N q).1 (j - 4 * c)) else μ.1 119 j) := by
  have hN := t.2.1
  have fw : ∀ {x : Mem} {j : Nat} {v : Int32}, FL 119 1 x (sI x 119 j v) := fun {x j v} => FL.w (by omega) (by omega)
  have tw : ∀ {x : Mem} {j : Nat} {v : Int32}, QL L N x → QL L N (sI x 119 j v) := fun {x j v} a => FL119 a fw
  obtain ⟨p1, e1, k1⟩ := e_passes (μ := μ) (c := c) (ix := ixf 4) hN h (fun v k e => by have := ixf_b4 v k e; omega)
  change _ = some (nI (v0 L N q).1, RM μ p1 _ (v0 L N q).2.2 c) at e1
  change RP L N p1 (v0 L N q).2.1 (v0 L N q).2.2 at k1
  have t1 := tw (j := 4 * c) (v := nI (v0 L N q).1) t
  have hm1 : FL 119 1 μ (sI μ 119 (4 * c) (nI (v0 L N q).1)) := fw
  have g1 : ∀ j, (sI μ 119 (4 * c) (nI (v0 L N q).1)).1 119 j = if j = 4 * c then nI (v0 L N q).1 else μ.1 119 j := by
    intro j
    by_cases e : j = 4 * c
    · rw [if_pos e, e, rd_s]
    · rw [if_neg e, rd_j (by omega)]
  have w1 : ∀ P, RM (sI μ 119 (4 * c) (nI (v0 L N q).1)) P = RM (sI μ 119 (4 * c) (nI (v0 L N q).1)) P := fun _ => rfl
  obtain ⟨p2, e2, k2⟩ := e_passes (μ := sI μ 119 (4 * c) (nI (v0 L N q).1)) (c := c) (ix := ixf 5) hN k1 (fun v k e => by have := ixf_b5 v k e; omega)
  change _ = some (nI (v1 L N q).1, RM _ p2 _ (v1 L N q).2.2 c) at e2
  change RP L N p2 (v1 L N q).2.1 (v1 L N q).2.2 at k2
  have fm : FL 119 1 μ (sI (sI (sI (sI μ 119 (4 * c) (nI (v0 L N q).1)) 119 (4 * c + 1) (nI (v1 L N q).1)) 119 (4 * c + 2) (nI 0)) 119 (4 * c + 3) (nI 0)) := ((fw.t fw).t fw).t fw
  have em : ∀ j, (sI (sI (sI (sI μ 119 (4 * c) (nI (v0 L N q).1)) 119 (4 * c + 1) (nI (v1 L N q).1)) 119 (4 * c + 2) (nI 0)) 119 (4 * c + 3) (nI 0)).1 119 j = if 4 * c ≤ j ∧ j < 4 * c + 4 then nI (if j - 4 * c = 0 then (v0 L N q).1 else if j - 4 * c = 1 then (v1 L N q).1 else 0) else μ.1 119 j := by
    intro j
    by_cases cj : 4 * c ≤ j ∧ j < 4 * c + 4
    · have cj' : j = 4 * c ∨ j = 4 * c + 1 ∨ j = 4 * c + 2 ∨ j = 4 * c + 3 := by omega
      rw [if_pos cj]
      rcases cj' with z | z | z | z <;> subst z
      · simp (disch := omega) only [rd_j, rd_s, Nat.sub_self, if_true]
      · simp (disch := omega) only [rd_j, rd_s, Nat.add_sub_cancel_left, Nat.one_ne_zero, if_true, if_false]
      · simp (disch := omega) only [rd_j, rd_s, Nat.add_sub_cancel_left, show ¬ (2 = 0) by omega, show ¬ (2 = 1) by omega, if_false]
      · simp (disch := omega) only [rd_s, Nat.add_sub_cancel_left, show ¬ (3 = 0) by omega, show ¬ (3 = 1) by omega, if_false]
    · rw [if_neg cj]
      simp (disch := omega) only [rd_j]
  generalize hm : sI (sI (sI (sI μ 119 (4 * c) (nI (v0 L N q).1)) 119 (4 * c + 1) (nI (v1 L N q).1)) 119 (4 * c + 2) (nI 0)) 119 (4 * c + 3) (nI 0) = m at fm em
  have tm := FL119 t fm
  have el := e_letter (c := c) (pl := nI (sk L N p)) (w := (v0 L N q).2.2) t1 k1.1
  have H : ∀ t3, t3 = wI (lx L N (ixf 5) (sk L N p1)) → ∃ μ' p' pl', f_X8_readsRock_59 (nI (4 * c)) (nI (4 * c + 1)) t3 (RM (sI μ 119 (4 * c) (nI (v0 L N q).1)) (sk L N p1) (nI (sk L N p1)) (v0 L N q).2.2 c) = some (RM μ' p' pl' (r_rock L N q).2.2 c) ∧ RP L N p' (r_rock L N q).2.1 (r_rock L N q).2.2 ∧ FL 119 1 μ μ' ∧ ((r_rock L N q).2.2 = none → ∀ j, μ'.1 119 j = if 4 * c ≤ j ∧ j < 4 * c + 4 then nI ((r_rock L N q).1 (j - 4 * c)) else μ.1 119 j) := by
    intro t3 et
    unfold f_X8_readsRock_59
    rw [et]
    simp (disch := omega) only [e2, nI_add, pk_mul, nI_clamp, nI_eqE, nI_leE, nI_ltE, nI_eq0, nI_le0, nI_lt0, nI_ge0, nI_gt0, pk_rem, pk_sub, inb_t, gd_y, zl_e, bd_y, isB_n0, isB_n1, n0_eq, n1_eq, if_n0, if_n1, isB_if, not_true_eq_false, not_false_eq_true, ite_true, ite_false, Nat.le_refl, Nat.lt_irrefl, RM_wk, hm, RM_10]
    cases hw : (v1 L N q).2.2 with
    | some k =>
      have kb := k2.2.2.2 k hw
      have k0 : (0 : Int32) ≤ wI (some k) := nI_pos' (by omega)
      have nd : ¬ ((v1 L N q).2.2 = none ∧ (v1 L N q).2.1 < N ∧ L (v1 L N q).2.1 = 100) := fun z => by rw [z.1] at hw; cases hw
      have er : r_rock L N q = (fun o => if o = 0 then (v0 L N q).1 else if o = 1 then (v1 L N q).1 else 0, (v1 L N q).2.1, (v1 L N q).2.2) := if_neg nd
      rw [if_pos k0, er, hw]
      rw [hw] at k2
      exact ⟨m, p2, _, rfl, k2, fm, fun z => by cases z⟩
    | none =>
      have k0 : ¬ ((0 : Int32) ≤ wI none) := by decide
      rw [hw] at k2
      have sq := k2.2.2.1 rfl
      rw [if_neg k0, e_letter tm k2.1, bd_y, sq]
      by_cases cn : (v1 L N q).2.1 < N ∧ L (v1 L N q).2.1 = 100
      · have er : r_rock L N q = (fun o => if o = 0 then (v0 L N q).1 else if o = 1 then (v1 L N q).1 else if o = 2 then (v2 L N q).1 else (v4 L N q).1, (v4 L N q).2.1, (v4 L N q).2.2) := if_pos ⟨hw, cn⟩
        have sl := sk_le (L := L) hN (show (v1 L N q).2.1 + 1 ≤ N by omega)
        have k3 : RP L N ((v1 L N q).2.1 + 1) (sk L N ((v1 L N q).2.1 + 1)) none := ⟨by omega, sl, fun _ => rfl, fun k z => (by cases z)⟩
        obtain ⟨x4, p4, l4, e4, k4, d4⟩ := e_num (most := 99) (c := c) (pl := nI (v1 L N q).2.1) tm k3 (by omega)
        change f_X8_number _ _ = some (x4, RM m p4 l4 (v2 L N q).2.2 c) at e4
        change RP L N p4 (v2 L N q).2.1 (v2 L N q).2.2 at k4
        change (v2 L N q).2.2 = none → x4 = nI (v2 L N q).1 at d4
        have f5 : FL 119 1 m (sI m 119 (4 * c + 2) x4) := fw
        have t5 := FL119 tm f5
        have el5 := e_letter (c := c) (pl := l4) (w := (v2 L N q).2.2) t5 k4.1
        obtain ⟨p5, e5, k5⟩ := e_passes (μ := sI m 119 (4 * c + 2) x4) (c := c) (ix := ixc 45) hN k4 (fun v k e => by unfold ixc at e; split at e <;> cases e; omega)
        change _ = some (nI (v3 L N q).1, RM _ p5 _ (v3 L N q).2.2 c) at e5
        change RP L N p5 (v3 L N q).2.1 (v3 L N q).2.2 at k5
        obtain ⟨x6, p6, l6, e6, k6, d6⟩ := e_num (most := 100) (c := c) (pl := nI (sk L N p4)) t5 k5 (by omega)
        change f_X8_number _ _ = some (x6, RM _ p6 l6 (v4 L N q).2.2 c) at e6
        change RP L N p6 (v4 L N q).2.1 (v4 L N q).2.2 at k6
        change (v4 L N q).2.2 = none → x6 = nI (v4 L N q).1 at d6
        have w43 : (v4 L N q).2.2 = none → (v3 L N q).2.2 = none := by
          intro z
          cases hx : (v3 L N q).2.2 with
          | none => rfl
          | some k => unfold v4 r_num at z; rw [hx] at z; cases z
        have w32 : (v3 L N q).2.2 = none → (v2 L N q).2.2 = none := by
          intro z
          cases hx : (v2 L N q).2.2 with
          | none => rfl
          | some k => unfold v3 r_one at z; rw [hx] at z; cases z
        have H2 : ∀ t1, t1 = wI (lx L N (ixc 45) (sk L N p4)) → f_X8_readsRock_134 (nI (4 * c)) t1 (RM (sI m 119 (4 * c + 2) x4) (sk L N p4) (nI (sk L N p4)) (v2 L N q).2.2 c) = some (RM (sI (sI m 119 (4 * c + 2) x4) 119 (4 * c + 3) x6) p6 l6 (v4 L N q).2.2 c) := by
          intro t1 et
          unfold f_X8_readsRock_134
          rw [et]
          simp (disch := omega) only [e5, nI_add, pk_mul, nI_clamp, nI_eqE, nI_leE, nI_ltE, nI_eq0, nI_le0, nI_lt0, nI_ge0, nI_gt0, pk_rem, pk_sub, inb_t, gd_y, zl_e, bd_y, isB_n0, isB_n1, n0_eq, n1_eq, if_n0, if_n1, isB_if, not_true_eq_false, not_false_eq_true, ite_true, ite_false, Nat.le_refl, Nat.lt_irrefl, e6, RM_wk]
        have ld : ltr L N (v1 L N q).2.1 = nI 100 := of_eq_true ((ltr_eq (t.b _) (by omega)).trans (eq_true cn))
        rw [er]
        refine ⟨sI (sI m 119 (4 * c + 2) x4) 119 (4 * c + 3) x6, p6, l6, ?_, k6, (fm.t f5).t fw, fun z j => ?_⟩
        · show (if ltr L N (v1 L N q).2.1 = nI 100 then _ else _) = _
          rw [if_pos ld]
          simp (disch := omega) only [e_py, bd_y, e4, zl_e, nI_add, nI_clamp, RM_wk, el5, ltr_eq (t.b _)]
          by_cases c45 : sk L N p4 < N ∧ L (sk L N p4) = 45
          · rw [if_pos c45]
            exact H2 _ (by unfold lx ixc; rw [if_pos c45.1, if_pos c45.2]; rfl)
          · rw [if_neg c45]
            refine H2 _ ?_
            unfold lx ixc
            by_cases c6 : sk L N p4 < N
            · rw [if_pos c6, if_neg (fun z => c45 ⟨c6, z⟩)]; rfl
            · rw [if_neg c6]; rfl
        · have E4 := d4 (w32 (w43 z))
          have E6 := d6 z
          have M := em j
          by_cases j3 : j = 4 * c + 3
          · subst j3
            rw [rd_s, E6, if_pos (by omega), Nat.add_sub_cancel_left]; rfl
          · rw [rd_j (by omega)]
            by_cases j2 : j = 4 * c + 2
            · subst j2
              rw [rd_s, E4, if_pos (by omega), Nat.add_sub_cancel_left]; rfl
            · rw [rd_j (by omega), M]
              by_cases cj : 4 * c ≤ j ∧ j < 4 * c + 4
              · rw [if_pos cj, if_pos cj]
                have cj' : j = 4 * c ∨ j = 4 * c + 1 := by omega
                rcases cj' with y | y <;> subst y
                · simp only [Nat.sub_self, if_true]
                · simp only [Nat.add_sub_cancel_left, Nat.one_ne_zero, if_true, if_false]
              · rw [if_neg cj, if_neg cj]
      · have nd : ¬ ((v1 L N q).2.2 = none ∧ (v1 L N q).2.1 < N ∧ L (v1 L N q).2.1 = 100) := fun z => cn z.2
        have er : r_rock L N q = (fun o => if o = 0 then (v0 L N q).1 else if o = 1 then (v1 L N q).1 else 0, (v1 L N q).2.1, (v1 L N q).2.2) := if_neg nd
        have ld : ¬ (ltr L N (v1 L N q).2.1 = nI 100) := fun z => cn (of_eq_true ((ltr_eq (t.b _) (by omega)).symm.trans (eq_true z)))
        rw [er, hw]
        refine ⟨m, (v1 L N q).2.1, nI (v1 L N q).2.1, ?_, k2.n hN, fm, fun _ => em⟩
        show (if ltr L N (v1 L N q).2.1 = nI 100 then _ else _) = _
        rw [if_neg ld]
  unfold f_X8_readsRock
  simp (disch := omega) only [RM_12, nI_add, pk_mul, nI_clamp, nI_eqE, nI_leE, nI_ltE, nI_eq0, nI_le0, nI_lt0, nI_ge0, nI_gt0, pk_rem, pk_sub, inb_t, gd_y, zl_e, bd_y, isB_n0, isB_n1, n0_eq, n1_eq, if_n0, if_n1, isB_if, not_true_eq_false, not_false_eq_true, ite_true, ite_false, Nat.le_refl, Nat.lt_irrefl, e_letter t h.1, e_kind (t.b _), e1, RM_wk, el, ltr_eq (t.b _)]
  by_cases c114 : sk L N p1 < N ∧ L (sk L N p1) = 114
  · rw [if_pos c114]
    exact H _ (by unfold lx; rw [if_pos c114.1, c114.2]; rfl)
  · rw [if_neg c114]
    by_cases c103 : sk L N p1 < N ∧ L (sk L N p1) = 103
    · rw [if_pos c103]
      exact H _ (by unfold lx; rw [if_pos c103.1, c103.2]; rfl)
    · rw [if_neg c103]
      refine H _ ?_
      unfold lx
      by_cases c6 : sk L N p1 < N
      · rw [if_pos c6]
        simp only [ixf]
        rw [if_neg (fun z => c114 ⟨c6, z⟩), if_neg (fun z => c103 ⟨c6, z⟩)]; rfl
      · rw [if_neg c6]; rfl
