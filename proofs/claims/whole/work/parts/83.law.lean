/-! PURE PART: a law, read -/
def a_up (D : Nat → Nat) (i : Nat) (v : Nat → Nat) : Nat → Nat := fun j => if 4 * i ≤ j ∧ j < 4 * i + 4 then v (j - 4 * i) else D j
def tpA (L : Nat → Nat) (N : Nat) (item : Nat → (Nat → Nat) × Nat × Option Nat) (sep : Nat) : Nat → Nat → Nat → (Nat → Nat) → Option Nat × Nat × (Nat → Nat)
  | 0, i, _, D => (none, i, D)
  | f + 1, i, q, D => match (item q).2.2 with
    | some k => (some k, i, D)
    | none => if (item q).2.1 = N then (none, i + 1, a_up D i (item q).1) else if L (item q).2.1 = sep ∧ f ≠ 0 then tpA L N item sep f (i + 1) (sk L N ((item q).2.1 + 1)) (a_up D i (item q).1) else (some (item q).2.1, i + 1, a_up D i (item q).1)
theorem tpA_f {L : Nat → Nat} {N : Nat} {item : Nat → (Nat → Nat) × Nat × Option Nat} {sep f i q k : Nat} {D : Nat → Nat} (h : (item q).2.2 = some k) : tpA L N item sep (f + 1) i q D = (some k, i, D) := by
  simp only [tpA, h]
theorem tpA_n {L : Nat → Nat} {N : Nat} {item : Nat → (Nat → Nat) × Nat × Option Nat} {sep f i q : Nat} {D : Nat → Nat} (h : (item q).2.2 = none) : tpA L N item sep (f + 1) i q D = if (item q).2.1 = N then (none, i + 1, a_up D i (item q).1) else if L (item q).2.1 = sep ∧ f ≠ 0 then tpA L N item sep f (i + 1) (sk L N ((item q).2.1 + 1)) (a_up D i (item q).1) else (some (item q).2.1, i + 1, a_up D i (item q).1) := by
  simp only [tpA, h]
theorem FL119 {L : Nat → Nat} {N : Nat} {μ x : Mem} (t : QL L N μ) (f : FL 119 1 μ x) : QL L N x := by
  refine ⟨by rw [f.2 113 (by omega)]; exact t.1, t.2.1, ?_⟩
  rw [f.2 118 (by omega)]
  exact t.2.2
theorem FL94 {L : Nat → Nat} {N : Nat} {μ x : Mem} (t : TL L N μ) (f : FL 94 9 μ x) : TL L N x := by
  refine ⟨by rw [f.2 93 (by omega)]; exact t.1, t.2.1, ?_⟩
  rw [f.2 103 (by omega)]
  exact t.2.2
def IR (F : Mem → Option Mem) (L : Nat → Nat) (N : Nat) (item : Nat → (Nat → Nat) × Nat × Option Nat) : Prop := ∀ (μ : Mem) (p q c : Nat) (pl : Int32), QL L N μ → RP L N p q none → c < 9 → ∃ μ' p' pl', F (RM μ p pl none c) = some (RM μ' p' pl' (item q).2.2 c) ∧ RP L N p' (item q).2.1 (item q).2.2 ∧ FL 119 1 μ μ' ∧ ((item q).2.2 = none → ∀ j, μ'.1 119 j = if 4 * c ≤ j ∧ j < 4 * c + 4 then nI ((item q).1 (j - 4 * c)) else μ.1 119 j)
theorem e_pn {μ : Mem} {q c : Nat} : f_X8_passes (-1) (RM μ q (nI q) none c) = some (nI 0, RM μ q (nI q) (some q) c) := by
  unfold f_X8_passes
  have e : ¬ ((0 : Int32) ≤ -1) := by decide
  simp only [RM_10, wn_lt, if_true, e, if_false, zl_e, RM_9, RM_w10]
theorem e_py {μ : Mem} {q c : Nat} {pl : Int32} : f_X8_passes (nI 0) (RM μ q pl none c) = some (nI 0, RM μ (q + 1) pl none c) := by
  unfold f_X8_passes
  have e : ((0 : Int32) ≤ nI 0) := by decide
  simp only [RM_10, wn_lt, if_true, e, zl_e, RM_8, nI_add, RM_w8]
theorem e_reads {L : Nat → Nat} {N : Nat} {F : Mem → Option Mem} {item : Nat → (Nat → Nat) × Nat × Option Nat} {sep M : Nat} {a1 : Int32} {K : Mem → Option Mem} (hF : IR F L N item) (hM : M ≤ 9) (hs : sep < 127)
    (hR : ∀ n x, f_X8_reads_32 a1 K (n + 1) (nI 1) x = Option.bind (F x) fun p => f_X8_reads_51 a1 (fun x2 μ => f_X8_reads_32 a1 K n x2 μ) K p)
    (hS : ∀ kb x, f_X8_reads_80 a1 kb K (nI 1) x = gd (inb (x.1 113 8) 160) (if x.1 118 (Int32.toNatClampNeg (x.1 113 8)) = nI sep then f_X8_reads_124 a1 kb K (x.1 113 12) (nI M) x else f_X8_reads_131 a1 kb K x)) :
    ∀ f i q p n (pl : Int32) (μ : Mem) (D : Nat → Nat), i + f + 1 = M → f + 1 < n → QL L N μ → RP L N p q none → (∀ j, j < 4 * i → μ.1 119 j = nI (D j)) → ∃ μ' p' pl' c', f_X8_reads_32 a1 K n (nI 1) (RM μ p pl none i) = K (RM μ' p' pl' (tpA L N item sep (f + 1) i q D).1 c') ∧ FL 119 1 μ μ' ∧ ((tpA L N item sep (f + 1) i q D).1 = none → c' = (tpA L N item sep (f + 1) i q D).2.1 ∧ ∀ j, j < 4 * c' → μ'.1 119 j = nI ((tpA L N item sep (f + 1) i q D).2.2 j)) ∧ (∀ k, (tpA L N item sep (f + 1) i q D).1 = some k → k ≤ N) := by
  have h0 : ∀ n x, f_X8_reads_32 a1 K (n + 1) (nI 0) x = K x := by
    intro n x
    simp only [f_X8_reads_32, n0_eq, if_true]
  have h79 : ∀ kb x, f_X8_reads_79 a1 kb K x = kb (nI 0) x := by
    intro kb x
    simp only [f_X8_reads_79, f_X8_reads_80, n0_eq, if_true]
  intro f
  induction f with
  | zero =>
    intro i q p n pl μ D hi hn t h hD
    obtain ⟨m, hm⟩ : ∃ m, n = m + 1 + 1 := ⟨n - 2, by omega⟩
    subst hm
    obtain ⟨x, p1, l1, e1, k1, f1, d1⟩ := hF μ p q i pl t h (by omega)
    have t1 := FL119 t f1
    have hN := t.2.1
    rw [hR, e1, bd_y]
    unfold f_X8_reads_51
    simp (disch := omega) only [RM_12, nI_add, zl_e, RM_w12, RM_10]
    cases hw : (item q).2.2 with
    | some k =>
      have kb := k1.2.2.2 k hw
      rw [tpA_f hw]
      refine ⟨x, p1, l1, i + 1, ?_, f1, fun z => (by cases z), fun k' z => (by cases z; exact kb)⟩
      rw [if_pos (show (0 : Int32) ≤ wI (some k) from nI_pos' (by omega)), h79, h0]
    | none =>
      have D1 := d1 hw
      have ed : ∀ j, j < 4 * (i + 1) → x.1 119 j = nI (a_up D i (item q).1 j) := by
        intro j hj
        rw [D1 j]
        unfold a_up
        split
        · rfl
        · exact hD j (by omega)
      rw [hw] at k1
      have sq := k1.2.2.1 rfl
      rw [tpA_n hw, if_neg (show ¬ ((0 : Int32) ≤ wI none) by decide), e_letter t1 k1.1, bd_y, sq]
      by_cases c1 : (item q).2.1 = N
      · rw [if_pos c1]
        have lt : ltr L N (item q).2.1 < 0 := by unfold ltr; rw [if_neg (by omega)]; decide
        refine ⟨x, (item q).2.1, nI (item q).2.1, i + 1, ?_, f1, fun _ => ⟨rfl, ed⟩, fun k' z => (by cases z)⟩
        show (if ltr L N (item q).2.1 < 0 then _ else _) = _
        rw [if_pos lt, h79, h0]
      · rw [if_neg c1, if_neg (show ¬ (L (item q).2.1 = sep ∧ 0 ≠ 0) from fun z => z.2 rfl)]
        have qN : (item q).2.1 < N := by have := k1.2.1; omega
        have lt : ¬ (ltr L N (item q).2.1 < 0) := by unfold ltr; rw [if_pos qN]; exact nI_pos (t1.b _ qN)
        have h131 : ∀ kb c, f_X8_reads_131 a1 kb K (RM x (item q).2.1 (nI (item q).2.1) none c) = kb (nI 0) (RM x (item q).2.1 (nI (item q).2.1) (some (item q).2.1) c) := by
          intro kb c
          unfold f_X8_reads_131 f_X8_reads_132 f_X8_reads_148
          rw [e_pn, bd_y]
          show (if 0 ≤ (RM x (item q).2.1 (nI (item q).2.1) (some (item q).2.1) c).1 113 10 then _ else _) = _
          rw [RM_10, if_pos (show (0 : Int32) ≤ wI (some (item q).2.1) from nI_pos' (by omega))]
        refine ⟨x, (item q).2.1, nI (item q).2.1, i + 1, ?_, f1, fun z => (by cases z), fun k' z => (by cases z; omega)⟩
        show (if ltr L N (item q).2.1 < 0 then _ else _) = _
        rw [if_neg lt, hS]
        unfold f_X8_reads_124
        simp (disch := omega) only [RM_8, nI_clamp, inb_t, gd_y, RM_12, h131, h0, nI_leE]
        split
        · rw [if_pos (by omega)]
        · rfl
  | succ f ih =>
    intro i q p n pl μ D hi hn t h hD
    obtain ⟨m, hm⟩ : ∃ m, n = m + 1 + 1 := ⟨n - 2, by omega⟩
    subst hm
    obtain ⟨x, p1, l1, e1, k1, f1, d1⟩ := hF μ p q i pl t h (by omega)
    have t1 := FL119 t f1
    have hN := t.2.1
    rw [hR, e1, bd_y]
    unfold f_X8_reads_51
    simp (disch := omega) only [RM_12, nI_add, zl_e, RM_w12, RM_10]
    cases hw : (item q).2.2 with
    | some k =>
      have kb := k1.2.2.2 k hw
      rw [tpA_f hw]
      refine ⟨x, p1, l1, i + 1, ?_, f1, fun z => (by cases z), fun k' z => (by cases z; exact kb)⟩
      rw [if_pos (show (0 : Int32) ≤ wI (some k) from nI_pos' (by omega)), h79, h0]
    | none =>
      have D1 := d1 hw
      have ed : ∀ j, j < 4 * (i + 1) → x.1 119 j = nI (a_up D i (item q).1 j) := by
        intro j hj
        rw [D1 j]
        unfold a_up
        split
        · rfl
        · exact hD j (by omega)
      rw [hw] at k1
      have sq := k1.2.2.1 rfl
      rw [tpA_n hw, if_neg (show ¬ ((0 : Int32) ≤ wI none) by decide), e_letter t1 k1.1, bd_y, sq]
      by_cases c1 : (item q).2.1 = N
      · rw [if_pos c1]
        have lt : ltr L N (item q).2.1 < 0 := by unfold ltr; rw [if_neg (by omega)]; decide
        refine ⟨x, (item q).2.1, nI (item q).2.1, i + 1, ?_, f1, fun _ => ⟨rfl, ed⟩, fun k' z => (by cases z)⟩
        show (if ltr L N (item q).2.1 < 0 then _ else _) = _
        rw [if_pos lt, h79, h0]
      · rw [if_neg c1]
        have qN : (item q).2.1 < N := by have := k1.2.1; omega
        have lt : ¬ (ltr L N (item q).2.1 < 0) := by unfold ltr; rw [if_pos qN]; exact nI_pos (t1.b _ qN)
        have l := (t1.2.2 _ qN).1
        have lb := (t1.2.2 _ qN).2
        have h131 : ∀ kb c, f_X8_reads_131 a1 kb K (RM x (item q).2.1 (nI (item q).2.1) none c) = kb (nI 0) (RM x (item q).2.1 (nI (item q).2.1) (some (item q).2.1) c) := by
          intro kb c
          unfold f_X8_reads_131 f_X8_reads_132 f_X8_reads_148
          rw [e_pn, bd_y]
          show (if 0 ≤ (RM x (item q).2.1 (nI (item q).2.1) (some (item q).2.1) c).1 113 10 then _ else _) = _
          rw [RM_10, if_pos (show (0 : Int32) ≤ wI (some (item q).2.1) from nI_pos' (by omega))]
        have h132 : ∀ kb c, f_X8_reads_132 a1 kb K (nI 0) (RM x (item q).2.1 (nI (item q).2.1) none c) = kb (nI 1) (RM x ((item q).2.1 + 1) (nI (item q).2.1) none c) := by
          intro kb c
          unfold f_X8_reads_132 f_X8_reads_148
          rw [e_py, bd_y]
          show (if 0 ≤ (RM x ((item q).2.1 + 1) (nI (item q).2.1) none c).1 113 10 then _ else _) = _
          rw [RM_10, if_neg (show ¬ ((0 : Int32) ≤ wI none) by decide)]
        by_cases c2 : L (item q).2.1 = sep
        · rw [if_pos (show L (item q).2.1 = sep ∧ f + 1 ≠ 0 from ⟨c2, by omega⟩)]
          have sl := sk_le (L := L) hN (show (item q).2.1 + 1 ≤ N by omega)
          obtain ⟨x2, p2, l2, cc, e2, f2, g2, w2⟩ := ih (i + 1) (sk L N ((item q).2.1 + 1)) ((item q).2.1 + 1) (m + 1) (nI (item q).2.1) x (a_up D i (item q).1) (by omega) (by omega) t1 ⟨by omega, sl, fun _ => rfl, fun k z => (by cases z)⟩ ed
          refine ⟨x2, p2, l2, cc, ?_, f1.t f2, g2, w2⟩
          rw [← e2]
          show (if ltr L N (item q).2.1 < 0 then _ else _) = _
          rw [if_neg lt, hS]
          unfold f_X8_reads_124
          have nm : ¬ M ≤ i + 1 := by omega
          simp (disch := omega) only [RM_8, nI_clamp, inb_t, gd_y, RM_12, h131, h132, RM_k, l, c2, if_true, nI_leE, nm, if_false]
        · rw [if_neg (show ¬ (L (item q).2.1 = sep ∧ f + 1 ≠ 0) from fun z => c2 z.1)]
          refine ⟨x, (item q).2.1, nI (item q).2.1, i + 1, ?_, f1, fun z => (by cases z), fun k' z => (by cases z; omega)⟩
          show (if ltr L N (item q).2.1 < 0 then _ else _) = _
          rw [if_neg lt, hS]
          simp (disch := omega) only [RM_8, nI_clamp, inb_t, gd_y, RM_12, h131, h0, RM_k, l, nI_eqE, c2, if_false]
