/-! PURE PART: rocks, read by the class; both -/
theorem c_rr {K : Int32 → Mem → Option (Int32 × Mem)} {n k p : Nat} {x y : Int32} {μ : Mem} (hk : k < 2 ^ 31) : f_X5_readRocks_12 K (n + 1) x y (CM μ p (some k)) = K x (CM μ p (some k)) := by
  have k0 : (0 : Int32) ≤ wI (some k) := nI_pos' hk
  simp only [f_X5_readRocks_12, CM_8, k0, if_true]
  split <;> rfl
theorem r_rock_N {L : Nat → Nat} {N : Nat} : (r_rock L N N).2.2 = some N := by
  have e0 : v0 L N N = (0, N, some N) := by simp [v0, r_one]
  have e1 : v1 L N N = (0, N, some N) := by simp [v1, e0, r_one]
  unfold r_rock
  rw [if_neg (fun z => by have := z.2.1; rw [e1] at this; simp at this), e1]
theorem c_rocks {L : Nat → Nat} {N : Nat} : ∀ f i q p n (μ : Mem) (D : Nat → Nat), i + f + 1 = 9 → f + 1 < n → TL L N μ → RP L N p q none → q < N → (∀ o, o < 4 → ∀ k, k < i → μ.1 (99 + o) k = nI (D (4 * k + o))) → ∃ μ' p', f_X5_readRocks_12 (fun x1 μ => f_X5_readRocks_69 x1 μ) n (nI i) (nI i) (CM μ p none) = some (rv (tpA L N (r_rock L N) 44 (f + 1) i q D).1 (nI (tpA L N (r_rock L N) 44 (f + 1) i q D).2.1), CM μ' p' (tpA L N (r_rock L N) 44 (f + 1) i q D).1) ∧ FL 94 9 μ μ' ∧ ((tpA L N (r_rock L N) 44 (f + 1) i q D).1 = none → (tpA L N (r_rock L N) 44 (f + 1) i q D).2.1 ≤ 9 ∧ ∀ o, o < 4 → ∀ k, k < (tpA L N (r_rock L N) 44 (f + 1) i q D).2.1 → μ'.1 (99 + o) k = nI ((tpA L N (r_rock L N) 44 (f + 1) i q D).2.2 (4 * k + o))) := by
  intro f
  induction f with
  | zero =>
    intro i q p n μ D hi hn t h hq hD
    obtain ⟨m, hm⟩ : ∃ m, n = m + 1 + 1 := ⟨n - 2, by omega⟩
    subst hm
    have hN := t.2.1
    have sq := h.2.2.1 rfl
    obtain ⟨x, p1, e1, k1, f1, d1⟩ := c_rock t (h.n hN) (show i < 9 by omega)
    have t1 := FL94 t f1
    have i7 : i = 8 := by omega
    subst i7
    have s1 : f_X5_readRocks_12 (fun x1 μ => f_X5_readRocks_69 x1 μ) (m + 1 + 1) (nI 8) (nI 8) (CM μ p none) = f_X5_readRocks_69 (nI 8 + nI 1) (CM x (sk L N p1) (r_rock L N q).2.2) := by
      have k0 : ¬ ((0 : Int32) ≤ wI none) := by decide
      have c87 : ¬ (nI 9 ≤ nI 8) := by decide
      have c77 : nI 8 ≤ nI 8 := by decide
      have c88 : nI 9 ≤ nI 8 + nI 1 := by decide
      rw [f_X5_readRocks_12]
      simp only [c87, if_false, CM_8, k0, c_end t h.1, bd_y, sq, hq, if_true, n0_eq, e1, c_end t1 k1.1, c77, f_X5_readRocks_63, f_X5_readRocks_12, c88]
      split <;> rfl
    have k1' : RP L N (sk L N p1) (r_rock L N q).2.1 (r_rock L N q).2.2 := ⟨sk_le hN k1.1, k1.2.1, fun z => by rw [sk_sk hN k1.1]; exact k1.2.2.1 z, k1.2.2.2⟩
    obtain ⟨p2, e2⟩ := c_answer (m := nI (8 + 1)) t1 k1'
    have s2 : f_X5_readRocks_69 (nI 8 + nI 1) (CM x (sk L N p1) (r_rock L N q).2.2) = some (rv (if (r_rock L N q).2.2 = none ∧ (r_rock L N q).2.1 < N then some (r_rock L N q).2.1 else (r_rock L N q).2.2) (nI (8 + 1)), CM x p2 (if (r_rock L N q).2.2 = none ∧ (r_rock L N q).2.1 < N then some (r_rock L N q).2.1 else (r_rock L N q).2.2)) := by
      unfold f_X5_readRocks_69
      rw [nI_add, e2, bd_y]
    rw [s1, s2]
    refine ⟨x, p2, ?_, f1, ?_⟩
    · cases hw : (r_rock L N q).2.2 with
      | some k => rw [tpA_f hw]; simp [rv]
      | none =>
        rw [tpA_n hw]
        by_cases c1 : (r_rock L N q).2.1 = N
        · rw [if_pos c1]; simp [c1]
        · have : (r_rock L N q).2.1 < N := by have := k1.2.1; omega
          rw [if_neg c1, if_neg (show ¬ (L (r_rock L N q).2.1 = 44 ∧ 0 ≠ 0) from fun z => z.2 rfl)]
          simp [this, rv]
    · cases hw : (r_rock L N q).2.2 with
      | some k => rw [tpA_f hw]; intro z; cases z
      | none =>
        rw [tpA_n hw]
        by_cases c1 : (r_rock L N q).2.1 = N
        · rw [if_pos c1]
          intro _
          refine ⟨by simp, fun o ho k hk => ?_⟩
          rw [d1 hw o ho k]
          simp only at hk
          show _ = nI (a_up D 8 (r_rock L N q).1 (4 * k + o))
          unfold a_up
          by_cases ck : k = 8
          · rw [if_pos ck, if_pos (by omega), show 4 * k + o - 4 * 8 = o by omega]
          · rw [if_neg ck, if_neg (by omega)]
            exact hD o ho k (by omega)
        · rw [if_neg c1, if_neg (show ¬ (L (r_rock L N q).2.1 = 44 ∧ 0 ≠ 0) from fun z => z.2 rfl)]
          intro z; cases z
  | succ f ih =>
    intro i q p n μ D hi hn t h hq hD
    obtain ⟨m, hm⟩ : ∃ m, n = m + 1 + 1 := ⟨n - 2, by omega⟩
    subst hm
    have hN := t.2.1
    have sq := h.2.2.1 rfl
    obtain ⟨x, p1, e1, k1, f1, d1⟩ := c_rock t (h.n hN) (show i < 9 by omega)
    have t1 := FL94 t f1
    have k0 : ¬ ((0 : Int32) ≤ wI none) := by decide
    have c8i : ¬ (9 ≤ i) := by omega
    have c7i : ¬ (8 ≤ i) := by omega
    have k1' : RP L N (sk L N p1) (r_rock L N q).2.1 (r_rock L N q).2.2 := ⟨sk_le hN k1.1, k1.2.1, fun z => by rw [sk_sk hN k1.1]; exact k1.2.2.1 z, k1.2.2.2⟩
    obtain ⟨p2, e2, k2⟩ := c_pass t1 k1' (ch := 44) (by omega)
    obtain ⟨p3, e3, k3⟩ := c_rend t1 k2
    have s1 : f_X5_readRocks_12 (fun x1 μ => f_X5_readRocks_69 x1 μ) (m + 1 + 1) (nI i) (nI i) (CM μ p none) = (if sk L N p1 < N then f_X5_readRocks_12 (fun x1 μ => f_X5_readRocks_69 x1 μ) (m + 1) (nI (i + 1)) (nI (i + 1)) (CM x p3 (if (r_one L N (ixc 44) (r_rock L N q).2.1 (r_rock L N q).2.2).2.2 = none ∧ (r_one L N (ixc 44) (r_rock L N q).2.1 (r_rock L N q).2.2).2.1 = N then some N else (r_one L N (ixc 44) (r_rock L N q).2.1 (r_rock L N q).2.2).2.2)) else f_X5_readRocks_12 (fun x1 μ => f_X5_readRocks_69 x1 μ) (m + 1) (nI (i + 1)) (nI (i + 1)) (CM x (sk L N p1) (r_rock L N q).2.2)) := by
      rw [f_X5_readRocks_12]
      simp (disch := omega) only [nI_leE, c8i, if_false, CM_8, k0, c_end t h.1, bd_y, sq, hq, if_true, n0_eq, e1, c_end t1 k1.1, c7i, f_X5_readRocks_63, nI_add]
      by_cases cs : sk L N p1 < N
      · simp (disch := omega) only [cs, if_true, n0_eq, e2, bd_y, e3]
      · simp (disch := omega) only [cs, if_false, n1_eq]
    have fin : ∀ (p4 q4 k : Nat), RP L N p4 q4 (some k) → ∃ p', f_X5_readRocks_12 (fun x1 μ => f_X5_readRocks_69 x1 μ) (m + 1) (nI (i + 1)) (nI (i + 1)) (CM x p4 (some k)) = some (rv (some k) 0, CM x p' (some k)) := by
      intro p4 q4 k hp
      have kb := hp.2.2.2 k rfl
      rw [c_rr (by omega)]
      obtain ⟨p5, e5⟩ := c_answer (m := nI (i + 1)) t1 hp
      refine ⟨p5, ?_⟩
      show f_X5_readRocks_69 _ _ = _
      unfold f_X5_readRocks_69
      rw [e5, bd_y, if_neg (fun z => by cases z.1)]
      rfl
    rw [s1]
    cases hw : (r_rock L N q).2.2 with
    | some k =>
      rw [tpA_f hw]
      rw [hw] at k1' k3
      have e : r_one L N (ixc 44) (r_rock L N q).2.1 (some k) = (0, (r_rock L N q).2.1, some k) := rfl
      rw [e] at k3 ⊢
      have e' : (if (some k : Option Nat) = none ∧ (r_rock L N q).2.1 = N then some N else some k) = some k := if_neg (fun z => by cases z.1)
      simp only [e'] at k3 ⊢
      by_cases cs : sk L N p1 < N
      · rw [if_pos cs]
        obtain ⟨p5, e5⟩ := fin _ _ _ k3
        exact ⟨x, p5, e5, f1, fun z => by cases z⟩
      · rw [if_neg cs]
        obtain ⟨p5, e5⟩ := fin _ _ _ k1'
        exact ⟨x, p5, e5, f1, fun z => by cases z⟩
    | none =>
      rw [tpA_n hw]
      have ed : ∀ o, o < 4 → ∀ k, k < i + 1 → x.1 (99 + o) k = nI (a_up D i (r_rock L N q).1 (4 * k + o)) := by
        intro o ho k hk
        rw [d1 hw o ho k]
        unfold a_up
        by_cases ck : k = i
        · rw [if_pos ck, if_pos (by omega), show 4 * k + o - 4 * i = o by omega]
        · rw [if_neg ck, if_neg (by omega)]
          exact hD o ho k (by omega)
      rw [hw] at k1' k3 k1
      have sq1 := k1.2.2.1 rfl
      rw [sq1] at k1' ⊢
      by_cases c1 : (r_rock L N q).2.1 = N
      · rw [if_neg (by omega), if_pos c1]
        have s3 : f_X5_readRocks_12 (fun x1 μ => f_X5_readRocks_69 x1 μ) (m + 1) (nI (i + 1)) (nI (i + 1)) (CM x (r_rock L N q).2.1 none) = f_X5_readRocks_69 (nI (i + 1)) (CM x (r_rock L N q).2.1 none) := by
          rw [f_X5_readRocks_12]
          have cN := c_end (w := none) t1 (Nat.le_refl N)
          rw [sk_N] at cN
          simp only [CM_8, k0, if_false, c1, cN, bd_y, Nat.lt_irrefl, n1_eq]
          split <;> rfl
        obtain ⟨p5, e5⟩ := c_answer (m := nI (i + 1)) t1 k1'
        refine ⟨x, p5, ?_, f1, fun _ => ⟨by simp only; omega, ed⟩⟩
        rw [s3]
        unfold f_X5_readRocks_69
        rw [e5, bd_y, if_neg (fun z => by have := z.2; omega)]
      · have qN : (r_rock L N q).2.1 < N := by have := k1.2.1; omega
        rw [if_pos qN, if_neg c1]
        by_cases c2 : L (r_rock L N q).2.1 = 44
        · have e : r_one L N (ixc 44) (r_rock L N q).2.1 none = (0, sk L N ((r_rock L N q).2.1 + 1), none) := by
            unfold r_one ixc
            simp only [qN, if_true, c2]
          rw [e] at k3 ⊢
          rw [if_pos (show L (r_rock L N q).2.1 = 44 ∧ f + 1 ≠ 0 from ⟨c2, by omega⟩)]
          by_cases c3 : sk L N ((r_rock L N q).2.1 + 1) = N
          · simp only [c3, and_self, if_true] at k3 ⊢
            obtain ⟨p5, e5⟩ := fin _ _ _ k3
            rw [tpA_f r_rock_N]
            exact ⟨x, p5, e5, f1, fun z => by cases z⟩
          · simp only [c3, and_false, if_false] at k3 ⊢
            have := k3.2.1
            obtain ⟨x2, p5, e5, f5, g5⟩ := ih (i + 1) _ p3 (m + 1) x (a_up D i (r_rock L N q).1) (by omega) (by omega) t1 k3 (by omega) ed
            exact ⟨x2, p5, e5, f1.t f5, g5⟩
        · have e : r_one L N (ixc 44) (r_rock L N q).2.1 none = (0, (r_rock L N q).2.1, some (r_rock L N q).2.1) := by
            unfold r_one ixc
            simp only [qN, if_true, c2, if_false]
          rw [e] at k3 ⊢
          rw [if_neg (show ¬ (L (r_rock L N q).2.1 = 44 ∧ f + 1 ≠ 0) from fun z => c2 z.1)]
          have e' : (if (some (r_rock L N q).2.1 : Option Nat) = none ∧ (r_rock L N q).2.1 = N then some N else some (r_rock L N q).2.1) = some (r_rock L N q).2.1 := if_neg (fun z => by cases z.1)
          simp only [e'] at k3 ⊢
          obtain ⟨p5, e5⟩ := fin _ _ _ k3
          exact ⟨x, p5, e5, f1, fun z => by cases z⟩
def t_rocks (L : Nat → Nat) (N : Nat) : Option Nat × Nat × (Nat → Nat) := tpA L N (r_rock L N) 44 9 0 (sk L N 0) (fun _ => 0)
theorem c_readRocks {μ : Mem} {L : Nat → Nat} {N : Nat} (t : TL L N μ) : ∃ μ' p', f_X5_readRocks μ = some (rv (t_rocks L N).1 (nI (t_rocks L N).2.1), CM μ' p' (t_rocks L N).1) ∧ FL 94 9 μ μ' ∧ ((t_rocks L N).1 = none → (t_rocks L N).2.1 ≤ 9 ∧ ∀ o, o < 4 → ∀ k, k < (t_rocks L N).2.1 → μ'.1 (99 + o) k = nI ((t_rocks L N).2.2 (4 * k + o))) := by
  have hN := t.2.1
  have sl := sk_le (L := L) hN (Nat.zero_le N)
  have rp : RP L N 0 (sk L N 0) none := ⟨Nat.zero_le _, sl, fun _ => rfl, fun k z => (by cases z)⟩
  obtain ⟨p1, e1, k1⟩ := c_rend t rp
  have e0 : sI (sI μ 93 7 (nI 0)) 93 8 (-1) = CM μ 0 none := rfl
  unfold f_X5_readRocks f_X5_begin
  simp only [zl_e, bd_y, e0, e1]
  unfold t_rocks
  by_cases c : sk L N 0 = N
  · have e' : (if (none : Option Nat) = none ∧ sk L N 0 = N then some N else none) = some N := if_pos ⟨rfl, c⟩
    rw [e'] at k1
    obtain ⟨p5, e5⟩ := c_answer (m := nI 0) t k1
    rw [c, tpA_f r_rock_N]
    refine ⟨μ, p5, ?_, FL.r, fun z => by cases z⟩
    simp only [and_self, if_true]
    rw [show zfu = (zfu - 1) + 1 from by unfold zfu; rfl, c_rr (by omega)]
    show f_X5_readRocks_69 _ _ = _
    unfold f_X5_readRocks_69
    rw [e5, bd_y, if_neg (fun z => by cases z.1)]
  · have e' : (if (none : Option Nat) = none ∧ sk L N 0 = N then some N else none) = none := if_neg (fun z => c z.2)
    rw [e'] at k1
    obtain ⟨x, p', e, f1, g⟩ := c_rocks 8 0 (sk L N 0) p1 zfu μ (fun _ => 0) (by omega) (by unfold zfu; omega) t k1 (by omega) (fun o _ k hk => absurd hk (by omega))
    refine ⟨x, p', ?_, f1, g⟩
    simp only [c, and_false, if_false]
    exact e
theorem e_readsRocks {μ : Mem} {L : Nat → Nat} {N : Nat} (t : QL L N μ) : ∃ μ' p' pl' c', f_X8_reads (nI 0) μ = some (sI (RM μ' p' pl' (t_rocks L N).1 c') 113 7 (nI 0)) ∧ FL 119 1 μ μ' ∧ ((t_rocks L N).1 = none → c' = (t_rocks L N).2.1 ∧ ∀ j, j < 4 * c' → μ'.1 119 j = nI ((t_rocks L N).2.2 j)) ∧ (∀ k, (t_rocks L N).1 = some k → k ≤ N) := by
  have hN := t.2.1
  have e0 : sI (sI (sI μ 113 10 (-1)) 113 8 (nI 0)) 113 12 (nI 0) = RM μ 0 (μ.1 113 9) none 0 := by
    unfold RM
    rw [show sI (sI μ 113 8 (nI 0)) 113 9 (μ.1 113 9) = sI μ 113 8 (nI 0) from sI_id (rd_j (by omega)), sI_com (k := 113) (j := 10) (k' := 113) (j' := 8) (by omega)]
    rfl
  unfold f_X8_reads
  simp only [zl_e, e0, n0_eq, if_true]
  unfold f_X8_reads_26 f_X8_reads_31 t_rocks
  have sl := sk_le (L := L) hN (Nat.zero_le N)
  have rp : RP L N 0 (sk L N 0) none := ⟨Nat.zero_le _, sl, fun _ => rfl, fun k z => (by cases z)⟩
  obtain ⟨x, p', l', c', e, f1, g, w⟩ := e_reads (L := L) (N := N) (F := f_X8_readsRock) (item := r_rock L N) (sep := 44) (M := 9) (a1 := nI 0) (K := fun μ => f_X8_reads_152 (nI 0) μ) (fun μ p q c pl t h hc => e_rock t h hc) (by omega) (by omega) (fun n x => by simp only [f_X8_reads_32, n1_eq, n0_eq, if_true, if_false]) (fun kb x => by simp only [f_X8_reads_80, n1_eq, n0_eq, if_true, if_false, f_X8_reads_106]) 8 0 (sk L N 0) 0 zfu (μ.1 113 9) μ (fun _ => 0) (by omega) (by unfold zfu; omega) t rp (fun j hj => absurd hj (by omega))
  refine ⟨x, p', l', c', ?_, f1, g, w⟩
  rw [e]
  simp only [f_X8_reads_152, zl_e]
