/-! PURE PART: one rock, read -/
def v0 (L : Nat → Nat) (N q : Nat) : Nat × Nat × Option Nat := r_one L N (ixf 4) q none
def v1 (L : Nat → Nat) (N q : Nat) : Nat × Nat × Option Nat := r_one L N (ixf 5) (v0 L N q).2.1 (v0 L N q).2.2
def v2 (L : Nat → Nat) (N q : Nat) : Nat × Nat × Option Nat := r_num L N 99 (sk L N ((v1 L N q).2.1 + 1)) none
def v3 (L : Nat → Nat) (N q : Nat) : Nat × Nat × Option Nat := r_one L N (ixc 45) (v2 L N q).2.1 (v2 L N q).2.2
def v4 (L : Nat → Nat) (N q : Nat) : Nat × Nat × Option Nat := r_num L N 100 (v3 L N q).2.1 (v3 L N q).2.2
def r_rock (L : Nat → Nat) (N q : Nat) : (Nat → Nat) × Nat × Option Nat := if ((v1 L N q).2.2 = none ∧ (v1 L N q).2.1 < N ∧ L (v1 L N q).2.1 = 100) then (fun o => if o = 0 then (v0 L N q).1 else if o = 1 then (v1 L N q).1 else if o = 2 then (v2 L N q).1 else (v4 L N q).1, (v4 L N q).2.1, (v4 L N q).2.2) else (fun o => if o = 0 then (v0 L N q).1 else if o = 1 then (v1 L N q).1 else 0, (v1 L N q).2.1, (v1 L N q).2.2)
theorem c_next {μ : Mem} {L : Nat → Nat} {N p q ch : Nat} (t : TL L N μ) (h : RP L N p q none) (hc : ch < 127) : f_X5_isNext (nI ch) (CM μ p none) = some (nI (if q < N ∧ L q = ch then 1 else 0), CM μ q none) := by
  have hN := t.2.1
  have ce := c_end (w := none) t h.1
  have h2 := h.2.1
  rw [h.2.2.1 rfl] at ce
  unfold f_X5_isNext
  rw [ce, bd_y]
  by_cases c : q < N
  · have l := (t.2.2 q c).1
    have lb := (t.2.2 q c).2
    simp (disch := omega) only [c, true_and, nI_add, pk_mul, nI_clamp, nI_eqE, nI_leE, nI_ltE, nI_eq0, nI_le0, nI_lt0, nI_ge0, nI_gt0, pk_rem, pk_sub, inb_t, gd_y, zl_e, bd_y, isB_n0, isB_n1, n0_eq, n1_eq, if_n0, if_n1, isB_if, not_true_eq_false, not_false_eq_true, ite_true, ite_false, Nat.le_refl, Nat.lt_irrefl, CM_7, CM_k, l]
    split <;> rfl
  · simp (disch := omega) only [c, false_and, nI_add, pk_mul, nI_clamp, nI_eqE, nI_leE, nI_ltE, nI_eq0, nI_le0, nI_lt0, nI_ge0, nI_gt0, pk_rem, pk_sub, inb_t, gd_y, zl_e, bd_y, isB_n0, isB_n1, n0_eq, n1_eq, if_n0, if_n1, isB_if, not_true_eq_false, not_false_eq_true, ite_true, ite_false, Nat.le_refl, Nat.lt_irrefl, CM_7, Nat.one_ne_zero]
theorem c_rock {μ : Mem} {L : Nat → Nat} {N p q i : Nat} (t : TL L N μ) (h : RP L N p q none) (hi : i < 9) : ∃ μ' p', f_X5_readRock (nI i) (CM μ p none) = some (CM μ' p' (r_rock L N q).2.2) ∧ RP L N p' (r_rock L N q).2.1 (r_rock L N q).2.2 ∧ FL 94 9 μ μ' ∧ ((r_rock L N q).2.2 = none → ∀ o, o < 4 → ∀ k, μ'.1 (99 + o) k = if k = i then nI ((r_rock L N q).1 o) else μ.1 (99 + o) k) := by
  have hN := t.2.1
  obtain ⟨p1, e1, k1⟩ := c_one t h (s := 4) (by omega)
  change f_X5_oneOf 4 _ = some (nI (v0 L N q).1, CM μ p1 (v0 L N q).2.2) at e1
  change RP L N p1 (v0 L N q).2.1 (v0 L N q).2.2 at k1
  have t1 := FL94 t (FL.w (b := 94) (m := 9) (k := 99) (j := i) (v := nI (v0 L N q).1) (by omega) (by omega))
  obtain ⟨p2, e2, k2⟩ := c_one t1 k1 (s := 5) (by omega)
  change f_X5_oneOf 5 _ = some (nI (v1 L N q).1, CM _ p2 (v1 L N q).2.2) at e2
  change RP L N p2 (v1 L N q).2.1 (v1 L N q).2.2 at k2
  have fm : FL 94 9 μ (sI (sI (sI (sI μ 99 i (nI (v0 L N q).1)) 100 i (nI (v1 L N q).1)) 101 i (nI 0)) 102 i (nI 0)) := (((FL.w (by omega) (by omega)).t (FL.w (by omega) (by omega))).t (FL.w (by omega) (by omega))).t (FL.w (by omega) (by omega))
  have em : ∀ o, o < 4 → ∀ k, (sI (sI (sI (sI μ 99 i (nI (v0 L N q).1)) 100 i (nI (v1 L N q).1)) 101 i (nI 0)) 102 i (nI 0)).1 (99 + o) k = if k = i then nI (if o = 0 then (v0 L N q).1 else if o = 1 then (v1 L N q).1 else 0) else μ.1 (99 + o) k := by
    intro o ho k
    have ho' : o = 0 ∨ o = 1 ∨ o = 2 ∨ o = 3 := by omega
    by_cases ck : k = i
    · rw [if_pos ck, ck]
      rcases ho' with z | z | z | z <;> subst z <;> simp (disch := omega) only [Nat.reduceAdd, Nat.add_zero, rd_k, rd_s] <;> rfl
    · rw [if_neg ck]
      rcases ho' with z | z | z | z <;> subst z <;> simp (disch := omega) only [Nat.reduceAdd, Nat.add_zero, rd_k, rd_j]
  generalize hm : sI (sI (sI (sI μ 99 i (nI (v0 L N q).1)) 100 i (nI (v1 L N q).1)) 101 i (nI 0)) 102 i (nI 0) = m at fm em
  have tm := FL94 t fm
  unfold f_X5_readRock
  simp (disch := omega) only [e1, nI_add, pk_mul, nI_clamp, nI_eqE, nI_leE, nI_ltE, nI_eq0, nI_le0, nI_lt0, nI_ge0, nI_gt0, pk_rem, pk_sub, inb_t, gd_y, zl_e, bd_y, isB_n0, isB_n1, n0_eq, n1_eq, if_n0, if_n1, isB_if, not_true_eq_false, not_false_eq_true, ite_true, ite_false, Nat.le_refl, Nat.lt_irrefl, CM_wk, e2, hm, CM_8]
  cases hw : (v1 L N q).2.2 with
  | some k =>
    have kb := k2.2.2.2 k hw
    have k0 : (0 : Int32) ≤ wI (some k) := nI_pos' (by omega)
    have nd : ¬ ((v1 L N q).2.2 = none ∧ (v1 L N q).2.1 < N ∧ L (v1 L N q).2.1 = 100) := fun z => by rw [z.1] at hw; cases hw
    have er : r_rock L N q = (fun o => if o = 0 then (v0 L N q).1 else if o = 1 then (v1 L N q).1 else 0, (v1 L N q).2.1, (v1 L N q).2.2) := if_neg nd
    rw [if_pos k0, er, hw]
    rw [hw] at k2
    exact ⟨m, p2, rfl, k2, fm, fun z => by cases z⟩
  | none =>
    have k0 : ¬ ((0 : Int32) ≤ wI none) := by decide
    rw [hw] at k2
    rw [if_neg k0, c_next tm k2 (ch := 100) (by omega), bd_y]
    by_cases cn : (v1 L N q).2.1 < N ∧ L (v1 L N q).2.1 = 100
    · have er : r_rock L N q = (fun o => if o = 0 then (v0 L N q).1 else if o = 1 then (v1 L N q).1 else if o = 2 then (v2 L N q).1 else (v4 L N q).1, (v4 L N q).2.1, (v4 L N q).2.2) := if_pos ⟨hw, cn⟩
      obtain ⟨p3, e3, k3⟩ := c_pass tm (k2.n hN) (ch := 100) (by omega)
      have e : r_one L N (ixc 100) (v1 L N q).2.1 none = (0, sk L N ((v1 L N q).2.1 + 1), none) := by
        unfold r_one ixc
        simp only [cn.1, if_true, cn.2]
      rw [e] at e3 k3
      obtain ⟨x4, p4, e4, k4, d4⟩ := c_num (most := 99) tm k3 (by omega)
      change f_X5_readNumber _ _ = some (x4, CM m p4 (v2 L N q).2.2) at e4
      change RP L N p4 (v2 L N q).2.1 (v2 L N q).2.2 at k4
      change (v2 L N q).2.2 = none → x4 = nI (v2 L N q).1 at d4
      have f5 : FL 94 9 m (sI m 101 i x4) := FL.w (by omega) (by omega)
      have t5 := FL94 tm f5
      obtain ⟨p5, e5, k5⟩ := c_pass t5 k4 (ch := 45) (by omega)
      change f_X5_pass _ _ = some (CM _ p5 (v3 L N q).2.2) at e5
      change RP L N p5 (v3 L N q).2.1 (v3 L N q).2.2 at k5
      obtain ⟨x6, p6, e6, k6, d6⟩ := c_num (most := 100) t5 k5 (by omega)
      change f_X5_readNumber _ _ = some (x6, CM _ p6 (v4 L N q).2.2) at e6
      change RP L N p6 (v4 L N q).2.1 (v4 L N q).2.2 at k6
      change (v4 L N q).2.2 = none → x6 = nI (v4 L N q).1 at d6
      have w43 : (v4 L N q).2.2 = none → (v3 L N q).2.2 = none := by
        intro z
        cases hx : (v3 L N q).2.2 with
        | none => rfl
        | some k => unfold v4 r_num at z; rw [hx] at z; cases z
      have w32 : (v3 L N q).2.2 = none → (v2 L N q).2.2 = none := by
        intro z
        cases hx : (v2 L N q).2.2 with
        | none => rfl
        | some k => unfold v3 r_one at z; rw [hx] at z; cases z
      have f7 : FL 94 9 (sI m 101 i x4) (sI (sI m 101 i x4) 102 i x6) := FL.w (by omega) (by omega)
      rw [er]
      refine ⟨sI (sI m 101 i x4) 102 i x6, p6, ?_, k6, (fm.t f5).t f7, fun z o ho k => ?_⟩
      · simp (disch := omega) only [cn, and_self, if_true, nI_add, pk_mul, nI_clamp, nI_eqE, nI_leE, nI_ltE, nI_eq0, nI_le0, nI_lt0, nI_ge0, nI_gt0, pk_rem, pk_sub, inb_t, gd_y, zl_e, bd_y, isB_n0, isB_n1, n0_eq, n1_eq, if_n0, if_n1, isB_if, not_true_eq_false, not_false_eq_true, ite_true, ite_false, Nat.le_refl, Nat.lt_irrefl, Nat.one_ne_zero, e3, e4, CM_wk, e5, e6]
      · have E4 := d4 (w32 (w43 z))
        have E6 := d6 z
        have M := em o ho k
        have ho' : o = 0 ∨ o = 1 ∨ o = 2 ∨ o = 3 := by omega
        rcases ho' with z | z | z | z <;> subst z
        · rw [rd_k (by omega), rd_k (by omega), M]; rfl
        · rw [rd_k (by omega), rd_k (by omega), M]; rfl
        · by_cases ck : k = i
          · rw [if_pos ck, ck, rd_k (by omega), show 99 + 2 = 101 from rfl, rd_s, E4]; rfl
          · rw [if_neg ck, rd_k (by omega), rd_j (by omega), M, if_neg ck]
        · by_cases ck : k = i
          · rw [if_pos ck, ck, show 99 + 3 = 102 from rfl, rd_s, E6]; rfl
          · rw [if_neg ck, rd_j (by omega), rd_k (by omega), M, if_neg ck]
    · have nd : ¬ ((v1 L N q).2.2 = none ∧ (v1 L N q).2.1 < N ∧ L (v1 L N q).2.1 = 100) := fun z => cn z.2
      have er : r_rock L N q = (fun o => if o = 0 then (v0 L N q).1 else if o = 1 then (v1 L N q).1 else 0, (v1 L N q).2.1, (v1 L N q).2.2) := if_neg nd
      rw [er, hw]
      refine ⟨m, (v1 L N q).2.1, ?_, k2.n hN, fm, fun _ => em⟩
      simp (disch := omega) only [cn, if_false, nI_add, pk_mul, nI_clamp, nI_eqE, nI_leE, nI_ltE, nI_eq0, nI_le0, nI_lt0, nI_ge0, nI_gt0, pk_rem, pk_sub, inb_t, gd_y, zl_e, bd_y, isB_n0, isB_n1, n0_eq, n1_eq, if_n0, if_n1, isB_if, not_true_eq_false, not_false_eq_true, ite_true, ite_false, Nat.le_refl, Nat.lt_irrefl]
def ixk (v : Nat) : Option Nat := ixf 4 v
theorem e_kind {μ : Mem} {L : Nat → Nat} {N q : Nat} (hL : q < N → L q < 2 ^ 31) : f_X8_kindOf (ltr L N q) μ = some (wI (lx L N (ixf 4) q), μ) := by
  unfold f_X8_kindOf lx
  simp (disch := omega) only [ltr_eq hL]
  by_cases c : q < N
  · simp only [c, true_and, if_true, ixf]
    (repeat' split) <;> rfl
  · simp only [c, false_and, if_false]
    rfl
