/-! PURE PART: a law, read by the class -/
def rv (w : Option Nat) (m : Int32) : Int32 := match w with
  | some k => (-20) - nI k
  | none => m
theorem c_answer {μ : Mem} {L : Nat → Nat} {N p q : Nat} {w : Option Nat} {m : Int32} (t : TL L N μ) (h : RP L N p q w) : ∃ p', f_X5_answer m (CM μ p w) = some (rv (if w = none ∧ q < N then some q else w) m, CM μ p' (if w = none ∧ q < N then some q else w)) := by
  have hN := t.2.1
  have hw := h.w hN
  unfold f_X5_answer f_X5_answer_15
  rw [c_end t h.1, bd_y]
  refine ⟨sk L N p, ?_⟩
  cases w with
  | some k =>
    have := hw k rfl
    have e : (if (some k : Option Nat) = none ∧ q < N then some q else some k) = some k := by rw [if_neg (fun z => by cases z.1)]
    rw [e]
    have e2 : (if (some k : Option Nat) = none then some (sk L N p) else some k) = some k := by rw [if_neg (fun z => by cases z)]
    have k0 : (0 : Int32) ≤ wI (some k) := nI_pos' (by omega)
    by_cases cs : sk L N p < N
    · simp only [cs, if_true, n0_eq, CM_7, c_refuse hw, bd_y, CM_8, e2, k0]
      rfl
    · simp only [cs, if_false, n1_eq, CM_8, k0, if_true]
      rfl
  | none =>
    have sq := h.2.2.1 rfl
    rw [sq]
    by_cases c : q < N
    · have k0 : (0 : Int32) ≤ wI (some q) := nI_pos' (by omega)
      simp only [c, if_true, and_self, n0_eq, CM_7, c_refuse hw, bd_y, CM_8, k0]
      rfl
    · have k0 : ¬ ((0 : Int32) ≤ wI none) := by decide
      simp only [c, if_false, and_false, n1_eq, CM_8, k0]
      rfl
theorem c_rl {K : Mem → Option (Int32 × Mem)} {n k p : Nat} {x : Int32} {μ : Mem} (hk : k < 2 ^ 31) : f_X5_readLaw_14 K (n + 1) x (CM μ p (some k)) = K (CM μ p (some k)) := by
  have k0 : (0 : Int32) ≤ wI (some k) := nI_pos' hk
  simp only [f_X5_readLaw_14, CM_8, k0, if_true]
  split <;> rfl
theorem sk_N {L : Nat → Nat} {N : Nat} : sk L N N = N := sk_f (fun h => absurd h (Nat.lt_irrefl _))
theorem r_rule_N {L : Nat → Nat} {N : Nat} : (r_rule L N N).2.2 = some N := by
  simp [r_rule, u3, u2, u1, u0, r_one]
theorem c_laws {L : Nat → Nat} {N : Nat} : ∀ f i q p n (μ : Mem) (D : Nat → Nat), i + f + 1 = 8 → f + 1 < n → TL L N μ → RP L N p q none → q < N → μ.1 94 0 = nI i → (∀ o, o < 4 → ∀ k, k < i → μ.1 (95 + o) k = nI (D (4 * k + o))) → ∃ μ' p', f_X5_readLaw_14 (fun μ => f_X5_readLaw_67 μ) n (nI i) (CM μ p none) = some (rv (tpA L N (r_rule L N) 59 (f + 1) i q D).1 (nI (tpA L N (r_rule L N) 59 (f + 1) i q D).2.1), CM μ' p' (tpA L N (r_rule L N) 59 (f + 1) i q D).1) ∧ FL 94 9 μ μ' ∧ ((tpA L N (r_rule L N) 59 (f + 1) i q D).1 = none → μ'.1 94 0 = nI (tpA L N (r_rule L N) 59 (f + 1) i q D).2.1 ∧ (tpA L N (r_rule L N) 59 (f + 1) i q D).2.1 ≤ 8 ∧ ∀ o, o < 4 → ∀ k, k < (tpA L N (r_rule L N) 59 (f + 1) i q D).2.1 → μ'.1 (95 + o) k = nI ((tpA L N (r_rule L N) 59 (f + 1) i q D).2.2 (4 * k + o))) := by
  intro f
  induction f with
  | zero =>
    intro i q p n μ D hi hn t h hq h0 hD
    obtain ⟨m, hm⟩ : ∃ m, n = m + 1 + 1 := ⟨n - 2, by omega⟩
    subst hm
    have hN := t.2.1
    have sq := h.2.2.1 rfl
    obtain ⟨x, p1, e1, k1, f1, d1⟩ := c_rule t (h.n hN) h0 (by omega)
    have t1 := FL94 t f1
    have i7 : i = 7 := by omega
    subst i7
    have s1 : f_X5_readLaw_14 (fun μ => f_X5_readLaw_67 μ) (m + 1 + 1) (nI 7) (CM μ p none) = f_X5_readLaw_67 (CM x (sk L N p1) (r_rule L N q).2.2) := by
      have k0 : ¬ ((0 : Int32) ≤ wI none) := by decide
      have c87 : ¬ (nI 8 ≤ nI 7) := by decide
      have c77 : nI 7 ≤ nI 7 := by decide
      have c88 : nI 8 ≤ nI 7 + nI 1 := by decide
      rw [f_X5_readLaw_14]
      simp only [c87, if_false, CM_8, k0, c_end t h.1, bd_y, sq, hq, if_true, n0_eq, e1, c_end t1 k1.1, c77, f_X5_readLaw_61, f_X5_readLaw_14, c88]
      split <;> rfl
    have k1' : RP L N (sk L N p1) (r_rule L N q).2.1 (r_rule L N q).2.2 := ⟨sk_le hN k1.1, k1.2.1, fun z => by rw [sk_sk hN k1.1]; exact k1.2.2.1 z, k1.2.2.2⟩
    obtain ⟨p2, e2⟩ := c_answer (m := x.1 94 0) t1 k1'
    have s2 : f_X5_readLaw_67 (CM x (sk L N p1) (r_rule L N q).2.2) = some (rv (if (r_rule L N q).2.2 = none ∧ (r_rule L N q).2.1 < N then some (r_rule L N q).2.1 else (r_rule L N q).2.2) (x.1 94 0), CM x p2 (if (r_rule L N q).2.2 = none ∧ (r_rule L N q).2.1 < N then some (r_rule L N q).2.1 else (r_rule L N q).2.2)) := by
      unfold f_X5_readLaw_67
      rw [CM_k (by omega), e2, bd_y]
    rw [s1, s2]
    refine ⟨x, p2, ?_, f1, ?_⟩
    · cases hw : (r_rule L N q).2.2 with
      | some k => rw [tpA_f hw]; simp [rv]
      | none =>
        rw [tpA_n hw]
        by_cases c1 : (r_rule L N q).2.1 = N
        · rw [if_pos c1, (d1 hw).1]; simp [c1]
        · have : (r_rule L N q).2.1 < N := by have := k1.2.1; omega
          rw [if_neg c1, if_neg (show ¬ (L (r_rule L N q).2.1 = 59 ∧ 0 ≠ 0) from fun z => z.2 rfl)]
          simp [this, rv]
    · cases hw : (r_rule L N q).2.2 with
      | some k => rw [tpA_f hw]; intro z; cases z
      | none =>
        rw [tpA_n hw]
        by_cases c1 : (r_rule L N q).2.1 = N
        · rw [if_pos c1]
          intro _
          refine ⟨(d1 hw).1, by simp, fun o ho k hk => ?_⟩
          rw [(d1 hw).2 o ho k]
          simp only at hk
          show _ = nI (a_up D 7 (r_rule L N q).1 (4 * k + o))
          unfold a_up
          by_cases ck : k = 7
          · rw [if_pos ck, if_pos (by omega), show 4 * k + o - 4 * 7 = o by omega]
          · rw [if_neg ck, if_neg (by omega)]
            exact hD o ho k (by omega)
        · rw [if_neg c1, if_neg (show ¬ (L (r_rule L N q).2.1 = 59 ∧ 0 ≠ 0) from fun z => z.2 rfl)]
          intro z; cases z
  | succ f ih =>
    intro i q p n μ D hi hn t h hq h0 hD
    obtain ⟨m, hm⟩ : ∃ m, n = m + 1 + 1 := ⟨n - 2, by omega⟩
    subst hm
    have hN := t.2.1
    have sq := h.2.2.1 rfl
    obtain ⟨x, p1, e1, k1, f1, d1⟩ := c_rule t (h.n hN) h0 (by omega)
    have t1 := FL94 t f1
    have k0 : ¬ ((0 : Int32) ≤ wI none) := by decide
    have c8i : ¬ (8 ≤ i) := by omega
    have c7i : ¬ (7 ≤ i) := by omega
    have k1' : RP L N (sk L N p1) (r_rule L N q).2.1 (r_rule L N q).2.2 := ⟨sk_le hN k1.1, k1.2.1, fun z => by rw [sk_sk hN k1.1]; exact k1.2.2.1 z, k1.2.2.2⟩
    obtain ⟨p2, e2, k2⟩ := c_pass t1 k1' (ch := 59) (by omega)
    obtain ⟨p3, e3, k3⟩ := c_rend t1 k2
    have s1 : f_X5_readLaw_14 (fun μ => f_X5_readLaw_67 μ) (m + 1 + 1) (nI i) (CM μ p none) = (if sk L N p1 < N then f_X5_readLaw_14 (fun μ => f_X5_readLaw_67 μ) (m + 1) (nI (i + 1)) (CM x p3 (if (r_one L N (ixc 59) (r_rule L N q).2.1 (r_rule L N q).2.2).2.2 = none ∧ (r_one L N (ixc 59) (r_rule L N q).2.1 (r_rule L N q).2.2).2.1 = N then some N else (r_one L N (ixc 59) (r_rule L N q).2.1 (r_rule L N q).2.2).2.2)) else f_X5_readLaw_14 (fun μ => f_X5_readLaw_67 μ) (m + 1) (nI (i + 1)) (CM x (sk L N p1) (r_rule L N q).2.2)) := by
      rw [f_X5_readLaw_14]
      simp (disch := omega) only [nI_leE, c8i, if_false, CM_8, k0, c_end t h.1, bd_y, sq, hq, if_true, n0_eq, e1, c_end t1 k1.1, c7i, f_X5_readLaw_61, nI_add]
      by_cases cs : sk L N p1 < N
      · simp (disch := omega) only [cs, if_true, n0_eq, e2, bd_y, e3]
      · simp (disch := omega) only [cs, if_false, n1_eq]
    have fin : ∀ (p4 q4 k : Nat), RP L N p4 q4 (some k) → ∃ p', f_X5_readLaw_14 (fun μ => f_X5_readLaw_67 μ) (m + 1) (nI (i + 1)) (CM x p4 (some k)) = some (rv (some k) 0, CM x p' (some k)) := by
      intro p4 q4 k hp
      have kb := hp.2.2.2 k rfl
      rw [c_rl (by omega)]
      obtain ⟨p5, e5⟩ := c_answer (m := x.1 94 0) t1 hp
      refine ⟨p5, ?_⟩
      show f_X5_readLaw_67 _ = _
      unfold f_X5_readLaw_67
      rw [CM_k (by omega), e5, bd_y, if_neg (fun z => by cases z.1)]
      rfl
    rw [s1]
    cases hw : (r_rule L N q).2.2 with
    | some k =>
      rw [tpA_f hw]
      rw [hw] at k1' k3
      have e : r_one L N (ixc 59) (r_rule L N q).2.1 (some k) = (0, (r_rule L N q).2.1, some k) := rfl
      rw [e] at k3 ⊢
      have e' : (if (some k : Option Nat) = none ∧ (r_rule L N q).2.1 = N then some N else some k) = some k := if_neg (fun z => by cases z.1)
      simp only [e'] at k3 ⊢
      by_cases cs : sk L N p1 < N
      · rw [if_pos cs]
        obtain ⟨p5, e5⟩ := fin _ _ _ k3
        exact ⟨x, p5, e5, f1, fun z => by cases z⟩
      · rw [if_neg cs]
        obtain ⟨p5, e5⟩ := fin _ _ _ k1'
        exact ⟨x, p5, e5, f1, fun z => by cases z⟩
    | none =>
      rw [tpA_n hw]
      have ed : ∀ o, o < 4 → ∀ k, k < i + 1 → x.1 (95 + o) k = nI (a_up D i (r_rule L N q).1 (4 * k + o)) := by
        intro o ho k hk
        rw [(d1 hw).2 o ho k]
        unfold a_up
        by_cases ck : k = i
        · rw [if_pos ck, if_pos (by omega), show 4 * k + o - 4 * i = o by omega]
        · rw [if_neg ck, if_neg (by omega)]
          exact hD o ho k (by omega)
      rw [hw] at k1' k3 k1
      have sq1 := k1.2.2.1 rfl
      rw [sq1] at k1' ⊢
      by_cases c1 : (r_rule L N q).2.1 = N
      · rw [if_neg (by omega), if_pos c1]
        have s3 : f_X5_readLaw_14 (fun μ => f_X5_readLaw_67 μ) (m + 1) (nI (i + 1)) (CM x (r_rule L N q).2.1 none) = f_X5_readLaw_67 (CM x (r_rule L N q).2.1 none) := by
          rw [f_X5_readLaw_14]
          have cN := c_end (w := none) t1 (Nat.le_refl N)
          rw [sk_N] at cN
          simp only [CM_8, k0, if_false, c1, cN, bd_y, Nat.lt_irrefl, n1_eq]
          split <;> rfl
        obtain ⟨p5, e5⟩ := c_answer (m := x.1 94 0) t1 k1'
        refine ⟨x, p5, ?_, f1, fun _ => ⟨(d1 hw).1, by simp only; omega, ed⟩⟩
        rw [s3]
        unfold f_X5_readLaw_67
        rw [CM_k (by omega), e5, bd_y, if_neg (fun z => by have := z.2; omega), (d1 hw).1]
      · have qN : (r_rule L N q).2.1 < N := by have := k1.2.1; omega
        rw [if_pos qN, if_neg c1]
        by_cases c2 : L (r_rule L N q).2.1 = 59
        · have e : r_one L N (ixc 59) (r_rule L N q).2.1 none = (0, sk L N ((r_rule L N q).2.1 + 1), none) := by
            unfold r_one ixc
            simp only [qN, if_true, c2]
          rw [e] at k3 ⊢
          rw [if_pos (show L (r_rule L N q).2.1 = 59 ∧ f + 1 ≠ 0 from ⟨c2, by omega⟩)]
          by_cases c3 : sk L N ((r_rule L N q).2.1 + 1) = N
          · simp only [c3, and_self, if_true] at k3 ⊢
            obtain ⟨p5, e5⟩ := fin _ _ _ k3
            rw [tpA_f r_rule_N]
            exact ⟨x, p5, e5, f1, fun z => by cases z⟩
          · simp only [c3, and_false, if_false] at k3 ⊢
            have := k3.2.1
            obtain ⟨x2, p5, e5, f5, g5⟩ := ih (i + 1) _ p3 (m + 1) x (a_up D i (r_rule L N q).1) (by omega) (by omega) t1 k3 (by omega) (d1 hw).1 ed
            exact ⟨x2, p5, e5, f1.t f5, g5⟩
        · have e : r_one L N (ixc 59) (r_rule L N q).2.1 none = (0, (r_rule L N q).2.1, some (r_rule L N q).2.1) := by
            unfold r_one ixc
            simp only [qN, if_true, c2, if_false]
          rw [e] at k3 ⊢
          rw [if_neg (show ¬ (L (r_rule L N q).2.1 = 59 ∧ f + 1 ≠ 0) from fun z => c2 z.1)]
          have e' : (if (some (r_rule L N q).2.1 : Option Nat) = none ∧ (r_rule L N q).2.1 = N then some N else some (r_rule L N q).2.1) = some (r_rule L N q).2.1 := if_neg (fun z => by cases z.1)
          simp only [e'] at k3 ⊢
          obtain ⟨p5, e5⟩ := fin _ _ _ k3
          exact ⟨x, p5, e5, f1, fun z => by cases z⟩
