/-! PURE PART: texts, letter by letter -/
def wI (w : Option Nat) : Int32 := match w with
  | none => -1
  | some k => nI k
theorem wI_lt {w : Option Nat} (h : ∀ k, w = some k → k < 2 ^ 31) : (wI w < 0) = (w = none) := by
  cases w with
  | none => exact eq_true (show (-1 : Int32) < 0 by decide) |>.trans (by simp)
  | some k => rw [show wI (some k) = nI k from rfl, nI_lt0 (h k rfl)]; simp
theorem wI_ge {w : Option Nat} (h : ∀ k, w = some k → k < 2 ^ 31) : ((0 : Int32) ≤ wI w) = ¬ (w = none) := by
  cases w with
  | none => exact eq_false (show ¬ (0 : Int32) ≤ -1 by decide) |>.trans (by simp)
  | some k => rw [show wI (some k) = nI k from rfl, nI_ge0 (h k rfl)]; simp
def a_sk (L : Nat → Nat) (N : Nat) : Nat → Nat → Nat
  | 0, p => p
  | f + 1, p => if p < N then (if L p = 32 then a_sk L N f (p + 1) else p) else p
def sk (L : Nat → Nat) (N p : Nat) : Nat := a_sk L N 200 p
theorem a_sk_f {L : Nat → Nat} {N : Nat} : ∀ f g p, N - p ≤ f → N - p ≤ g → a_sk L N f p = a_sk L N g p := by
  intro f
  induction f with
  | zero =>
    intro g p h1 h2
    cases g with
    | zero => rfl
    | succ g =>
      show p = if p < N then _ else p
      rw [if_neg (by omega)]
  | succ f ih =>
    intro g p h1 h2
    cases g with
    | zero =>
      show (if p < N then _ else p) = p
      rw [if_neg (by omega)]
    | succ g =>
      show (if p < N then (if L p = 32 then a_sk L N f (p + 1) else p) else p) = (if p < N then (if L p = 32 then a_sk L N g (p + 1) else p) else p)
      rw [ih g (p + 1) (by omega) (by omega)]
theorem sk_s {L : Nat → Nat} {N p : Nat} (hN : N ≤ 160) (hp : p < N) (h : L p = 32) : sk L N p = sk L N (p + 1) := by
  unfold sk
  show (if p < N then (if L p = 32 then a_sk L N 199 (p + 1) else p) else p) = _
  rw [if_pos hp, if_pos h]
  exact a_sk_f 199 200 (p + 1) (by omega) (by omega)
theorem sk_f {L : Nat → Nat} {N p : Nat} (h : p < N → L p ≠ 32) : sk L N p = p := by
  unfold sk
  show (if p < N then (if L p = 32 then a_sk L N 199 (p + 1) else p) else p) = _
  by_cases c : p < N
  · rw [if_pos c, if_neg (h c)]
  · rw [if_neg c]
theorem sk_spec {L : Nat → Nat} {N : Nat} (hN : N ≤ 160) : ∀ f p, N - p ≤ f → p ≤ N → p ≤ sk L N p ∧ sk L N p ≤ N ∧ (sk L N p < N → L (sk L N p) ≠ 32) := by
  intro f
  induction f with
  | zero =>
    intro p h1 h2
    have : sk L N p = p := sk_f (fun c => absurd c (by omega))
    rw [this]
    exact ⟨Nat.le_refl _, h2, fun c => absurd c (by omega)⟩
  | succ f ih =>
    intro p h1 h2
    by_cases c : p < N ∧ L p = 32
    · rw [sk_s hN c.1 c.2]
      obtain ⟨g1, g2, g3⟩ := ih (p + 1) (by omega) (by omega)
      exact ⟨by omega, g2, g3⟩
    · have : sk L N p = p := sk_f (fun h q => c ⟨h, q⟩)
      rw [this]
      exact ⟨Nat.le_refl _, h2, fun h q => c ⟨h, q⟩⟩
theorem sk_le {L : Nat → Nat} {N p : Nat} (hN : N ≤ 160) (hp : p ≤ N) : sk L N p ≤ N := (sk_spec hN N p (by omega) hp).2.1
theorem sk_ge {L : Nat → Nat} {N p : Nat} (hN : N ≤ 160) (hp : p ≤ N) : p ≤ sk L N p := (sk_spec hN N p (by omega) hp).1
theorem sk_nb {L : Nat → Nat} {N p : Nat} (hN : N ≤ 160) (hp : p ≤ N) (h : sk L N p < N) : L (sk L N p) ≠ 32 := (sk_spec hN N p (by omega) hp).2.2 h
theorem sk_sk {L : Nat → Nat} {N p : Nat} (hN : N ≤ 160) (hp : p ≤ N) : sk L N (sk L N p) = sk L N p := sk_f (sk_nb hN hp)
/-! the class's tape -/
def TL (L : Nat → Nat) (N : Nat) (μ : Mem) : Prop := μ.1 93 0 = nI N ∧ N ≤ 160 ∧ ∀ i, i < N → μ.1 103 i = nI (L i) ∧ 32 ≤ L i ∧ L i ≤ 126
def CM (μ : Mem) (p : Nat) (w : Option Nat) : Mem := sI (sI μ 93 7 (nI p)) 93 8 (wI w)
theorem CM_7 {μ : Mem} {p : Nat} {w : Option Nat} : (CM μ p w).1 93 7 = nI p := by unfold CM; rw [rd_j (by omega), rd_s]
theorem CM_8 {μ : Mem} {p : Nat} {w : Option Nat} : (CM μ p w).1 93 8 = wI w := rd_s
theorem CM_0 {μ : Mem} {p : Nat} {w : Option Nat} : (CM μ p w).1 93 0 = μ.1 93 0 := by unfold CM; rw [rd_j (by omega), rd_j (by omega)]
theorem CM_k {μ : Mem} {p k : Nat} {w : Option Nat} (h : k ≠ 93) : (CM μ p w).1 k = μ.1 k := by unfold CM; rw [rd_k h, rd_k h]
theorem CM_w7 {μ : Mem} {p q : Nat} {w : Option Nat} : sI (CM μ p w) 93 7 (nI q) = CM μ q w := by
  unfold CM
  rw [sI_com (k := 93) (j := 8) (k' := 93) (j' := 7) (by omega), sI_sI]
theorem CM_w8 {μ : Mem} {p q : Nat} {w : Option Nat} : sI (CM μ p w) 93 8 (nI q) = CM μ p (some q) := by
  unfold CM
  rw [sI_sI]
  rfl
theorem CM_wk {μ : Mem} {p k j : Nat} {v : Int32} {w : Option Nat} (h : k ≠ 93) : sI (CM μ p w) k j v = CM (sI μ k j v) p w := by
  unfold CM
  rw [sI_com (k := 93) (j := 8) (k' := k) (j' := j) (by omega), sI_com (k := 93) (j := 7) (k' := k) (j' := j) (by omega)]
theorem c_end {μ : Mem} {L : Nat → Nat} {N p : Nat} {w : Option Nat} (t : TL L N μ) (hp : p ≤ N) : f_X5_isAtEnd (CM μ p w) = some (nI (if sk L N p < N then 0 else 1), CM μ (sk L N p) w) := by
  obtain ⟨t0, hN, t1⟩ := t
  unfold f_X5_isAtEnd
  have K : ∀ f p, p ≤ N → N - p < f → f_X5_isAtEnd_0 (fun μ => f_X5_isAtEnd_38 μ) f (CM μ p w) = f_X5_isAtEnd_38 (CM μ (sk L N p) w) := by
    intro f
    induction f with
    | zero => intro p _ h; omega
    | succ f ih =>
      intro p hp hf
      by_cases c : p < N
      · have qe : ¬ N ≤ p := by omega
        have l := (t1 p c).1
        have lb := (t1 p c).2
        by_cases c2 : L p = 32
        · rw [sk_s hN c c2, ← ih (p + 1) (by omega) (by omega)]
          simp (disch := omega) only [f_X5_isAtEnd_0, nI_add, pk_mul, nI_clamp, nI_eqE, nI_leE, nI_ltE, nI_eq0, nI_le0, nI_lt0, nI_ge0, nI_gt0, pk_rem, pk_sub, inb_t, gd_y, zl_e, bd_y, isB_n0, isB_n1, n0_eq, n1_eq, if_n0, if_n1, isB_if, not_true_eq_false, not_false_eq_true, ite_true, ite_false, Nat.le_refl, Nat.lt_irrefl, CM_0, CM_7, t0, qe, CM_k, l, c2, CM_w7]
        · rw [sk_f (fun _ => c2)]
          simp (disch := omega) only [f_X5_isAtEnd_0, nI_add, pk_mul, nI_clamp, nI_eqE, nI_leE, nI_ltE, nI_eq0, nI_le0, nI_lt0, nI_ge0, nI_gt0, pk_rem, pk_sub, inb_t, gd_y, zl_e, bd_y, isB_n0, isB_n1, n0_eq, n1_eq, if_n0, if_n1, isB_if, not_true_eq_false, not_false_eq_true, ite_true, ite_false, Nat.le_refl, Nat.lt_irrefl, CM_0, CM_7, t0, qe, CM_k, l, c2]
      · rw [sk_f (fun h => absurd h c)]
        have qe : N ≤ p := by omega
        simp (disch := omega) only [f_X5_isAtEnd_0, nI_add, pk_mul, nI_clamp, nI_eqE, nI_leE, nI_ltE, nI_eq0, nI_le0, nI_lt0, nI_ge0, nI_gt0, pk_rem, pk_sub, inb_t, gd_y, zl_e, bd_y, isB_n0, isB_n1, n0_eq, n1_eq, if_n0, if_n1, isB_if, not_true_eq_false, not_false_eq_true, ite_true, ite_false, Nat.le_refl, Nat.lt_irrefl, CM_0, CM_7, t0, qe]
  rw [K zfu p hp (by unfold zfu; omega)]
  unfold f_X5_isAtEnd_38
  have := sk_le (L := L) hN hp
  simp (disch := omega) only [nI_add, pk_mul, nI_clamp, nI_eqE, nI_leE, nI_ltE, nI_eq0, nI_le0, nI_lt0, nI_ge0, nI_gt0, pk_rem, pk_sub, inb_t, gd_y, zl_e, bd_y, isB_n0, isB_n1, n0_eq, n1_eq, if_n0, if_n1, isB_if, not_true_eq_false, not_false_eq_true, ite_true, ite_false, Nat.le_refl, Nat.lt_irrefl, CM_0, CM_7, t0]
  split <;> rfl
theorem c_refuse {μ : Mem} {p q : Nat} {w : Option Nat} (hw : ∀ k, w = some k → k < 2 ^ 31) : f_X5_refuse (nI q) (CM μ p w) = some (CM μ p (if w = none then some q else w)) := by
  unfold f_X5_refuse
  simp only [CM_8, wI_ge hw, zl_e, CM_w8]
  cases w <;> simp
/-! which of some letters -/
def ixf (s v : Nat) : Option Nat := match s with
  | 0 => if v = 114 then some 0 else if v = 103 then some 1 else if v = 97 then some 2 else none
  | 1 => if 48 ≤ v ∧ v ≤ 57 then some (v - 48) else none
  | 2 => if v = 115 then some 0 else if v = 98 then some 1 else if v = 108 then some 2 else none
  | 3 => if v = 114 then some 0 else if v = 103 then some 1 else if v = 111 then some 2 else none
  | 4 => if v = 112 then some 0 else if v = 108 then some 1 else if v = 101 then some 2 else if v = 115 then some 3 else if v = 116 then some 4 else if v = 109 then some 5 else none
  | _ => if v = 114 then some 0 else if v = 103 then some 1 else none
theorem ioc_mu {s0 : Nat} {a b c : Int32} {μ : Mem} : ∀ n x y, f_J1_indexOfChar_4cfef_7 s0 a b c n x y μ = (f_J1_indexOfChar_4cfef_7 s0 a b c n x y mu0).map (fun p => (p.1, μ)) := by
  intro n
  induction n with
  | zero => intro x y; rfl
  | succ n ih =>
    intro x y
    simp only [f_J1_indexOfChar_4cfef_7]
    by_cases c1 : c ≤ y
    · simp only [c1, if_true]; rfl
    · simp only [c1, if_false]
      unfold gd
      by_cases c2 : inb y (sk_len.getD s0 0) = true
      · simp only [c2, if_true]
        by_cases c3 : (sk_byt.getD s0 []).getD y.toNatClampNeg 0 = x
        · simp only [c3, if_true]; rfl
        · simp only [c3, if_false]
          exact ih _ _
      · simp only [c2, if_false]
        rfl
theorem io_mu {s0 : Nat} {a : Int32} {μ : Mem} : f_J0_indexOf_0f7a4 s0 a μ = (f_J0_indexOf_0f7a4 s0 a mu0).map (fun p => (p.1, μ)) := by
  unfold f_J0_indexOf_0f7a4 f_J0_indexOf_7cf53 f_J0_isLatin1_aae02 f_J0_length_8abf5 f_J0_coder_7d493 f_J1_indexOf_4cfef f_J1_canEncode_9a6ad f_J1_indexOfChar_4cfef
  have e1 : ¬ ((1 : Int32) = 0) := by decide
  simp only [e1, if_false, if_true, bd_y, zl_e, n1_eq]
  by_cases c1 : a < 0
  · simp only [c1, if_true, bd_y, n0_eq]
    rfl
  · simp only [c1, if_false]
    by_cases c2 : nI 255 < a
    · simp only [c2, if_true, bd_y, n0_eq]
      rfl
    · simp only [c2, if_false, bd_y, n1_eq]
      rw [ioc_mu (μ := μ)]
      simp only [ite_self]
      generalize (if Int32.ofNat (sk_len.getD s0 0) < Int32.ofNat (sk_len.getD s0 0) >>> (0 &&& 31) then Int32.ofNat (sk_len.getD s0 0) else Int32.ofNat (sk_len.getD s0 0) >>> (0 &&& 31)) = M
      by_cases c3 : nI 0 < M
      · simp only [c3, if_true]
        generalize f_J1_indexOfChar_4cfef_7 s0 _ _ _ zfu _ _ mu0 = X
        cases X <;> rfl
      · simp only [c3, if_false]
        rfl
set_option maxRecDepth 20000 in
theorem ix_tab : ∀ s, s < 6 → ∀ v, v < 127 → (f_J0_indexOf_0f7a4 s (nI v) mu0).map (·.1) = some (wI (ixf s v)) := by decide +kernel
theorem ix_e {s v : Nat} {μ : Mem} (hs : s < 6) (hv : v < 127) : f_J0_indexOf_0f7a4 s (nI v) μ = some (wI (ixf s v), μ) := by
  rw [io_mu]
  have t := ix_tab s hs v hv
  revert t
  cases f_J0_indexOf_0f7a4 s (nI v) mu0 with
  | none => intro t; cases t
  | some p => intro t; simp only [Option.map_some, Option.some.injEq] at t ⊢; rw [t]
theorem ixf_lt : ∀ s, s < 6 → ∀ v, v < 127 → ∀ k, ixf s v = some k → k < 10 := by
  intro s hs v hv k
  unfold ixf
  split <;> (repeat' split) <;> intro e <;> cases e <;> omega
/-! the abstract reader -/
def r_one (L : Nat → Nat) (N : Nat) (ix : Nat → Option Nat) (q : Nat) (w : Option Nat) : Nat × Nat × Option Nat := match w with
  | some f => (0, q, some f)
  | none => if q < N then (match ix (L q) with
    | some v => (v, sk L N (q + 1), none)
    | none => (0, q, some q)) else (0, q, some q)
/-- a place of a reader, next to the abstract one -/
def RP (L : Nat → Nat) (N p q : Nat) (w : Option Nat) : Prop := p ≤ N ∧ q ≤ N ∧ (w = none → sk L N p = q) ∧ (∀ k, w = some k → k ≤ N)
theorem RP.w {L : Nat → Nat} {N p q : Nat} {w : Option Nat} (h : RP L N p q w) (hN : N ≤ 160) : ∀ k, w = some k → k < 2 ^ 31 := fun k e => by have := h.2.2.2 k e; omega
theorem c_one {μ : Mem} {L : Nat → Nat} {N p q s : Nat} {w : Option Nat} (t : TL L N μ) (h : RP L N p q w) (hs : s < 6) : ∃ p', f_X5_oneOf s (CM μ p w) = some (nI (r_one L N (ixf s) q w).1, CM μ p' (r_one L N (ixf s) q w).2.2) ∧ RP L N p' (r_one L N (ixf s) q w).2.1 (r_one L N (ixf s) q w).2.2 := by
  have hN := t.2.1
  obtain ⟨h1, h2, h3, h4⟩ := id h
  unfold f_X5_oneOf f_X5_oneOf_14 f_X5_oneOf_31
  cases w with
  | some f =>
    refine ⟨p, ?_, h⟩
    have hw : ∀ k, (some f : Option Nat) = some k → k < 2 ^ 31 := h.w hN
    simp only [CM_8, wI_ge hw, CM_7, c_refuse hw]
    simp [r_one]
  | none =>
    have e := h3 rfl
    have hw : ∀ k, (none : Option Nat) = some k → k < 2 ^ 31 := fun k e => by cases e
    have ce := c_end (w := none) t h1
    rw [e] at ce
    simp only [CM_8, wI_ge hw, not_true_eq_false, if_false, ce, bd_y]
    by_cases c : q < N
    · have l := (t.2.2 q c).1
      have lb := (t.2.2 q c).2
      have il := ixf_lt s hs (L q) (by omega)
      simp (disch := omega) only [c, if_true, n0_eq, CM_7, inb_t, gd_y, nI_clamp, CM_k, l, ix_e hs (show L q < 127 by omega), bd_y]
      unfold r_one
      simp only [c, if_true]
      cases hx : ixf s (L q) with
      | none =>
        refine ⟨q, ?_, by omega, h2, fun z => (by cases z), fun k z => (by cases z; omega)⟩
        have m1 : ¬ ((0 : Int32) ≤ wI none) := by decide
        rw [if_neg m1, c_refuse hw, bd_y]
        simp
      | some v =>
        have v10 := il v hx
        have := sk_le (L := L) hN (show q + 1 ≤ N by omega)
        refine ⟨q + 1, ?_, by omega, this, fun _ => rfl, fun k z => (by cases z)⟩
        have m1 : (0 : Int32) ≤ wI (some v) := nI_pos' (by omega)
        rw [if_pos m1, zl_e, nI_add, CM_w7]
        rfl
    · simp (disch := omega) only [c, if_false, n1_eq, CM_7]
      unfold r_one
      simp only [c, if_false]
      refine ⟨q, ?_, by omega, h2, fun z => (by cases z), fun k z => (by cases z; omega)⟩
      have m1 : ¬ ((0 : Int32) ≤ -1) := by decide
      rw [if_neg m1, c_refuse hw, bd_y]
      simp
def ixc (ch v : Nat) : Option Nat := if v = ch then some 0 else none
theorem c_pass {μ : Mem} {L : Nat → Nat} {N p q ch : Nat} {w : Option Nat} (t : TL L N μ) (h : RP L N p q w) (hc : ch < 127) : ∃ p', f_X5_pass (nI ch) (CM μ p w) = some (CM μ p' (r_one L N (ixc ch) q w).2.2) ∧ RP L N p' (r_one L N (ixc ch) q w).2.1 (r_one L N (ixc ch) q w).2.2 := by
  have hN := t.2.1
  obtain ⟨h1, h2, h3, h4⟩ := id h
  unfold f_X5_pass f_X5_pass_28 f_X5_isNext
  cases w with
  | some f =>
    refine ⟨p, ?_, h⟩
    have hw : ∀ k, (some f : Option Nat) = some k → k < 2 ^ 31 := h.w hN
    simp only [CM_8, wI_ge hw, CM_7, c_refuse hw, bd_y]
    simp [r_one]
  | none =>
    have e := h3 rfl
    have hw : ∀ k, (none : Option Nat) = some k → k < 2 ^ 31 := fun k e => by cases e
    have ce := c_end (w := none) t h1
    rw [e] at ce
    simp only [CM_8, wI_ge hw, not_true_eq_false, if_false, ce, bd_y]
    unfold r_one ixc
    by_cases c : q < N
    · have l := (t.2.2 q c).1
      have lb := (t.2.2 q c).2
      simp (disch := omega) only [c, if_true, n0_eq, CM_7, inb_t, gd_y, nI_clamp, CM_k, l, nI_eqE]
      by_cases c2 : L q = ch
      · have := sk_le (L := L) hN (show q + 1 ≤ N by omega)
        refine ⟨q + 1, ?_, ?_⟩
        · simp only [c2, if_true, bd_y, n1_eq, if_false, zl_e, CM_7, nI_add, CM_w7]
        · simp only [c2, if_true]
          exact ⟨by omega, this, fun _ => rfl, fun k z => (by cases z)⟩
      · refine ⟨q, ?_, ?_⟩
        · simp only [c2, if_false, bd_y, n0_eq, if_true, CM_7, c_refuse hw]
        · simp only [c2, if_false]
          exact ⟨by omega, h2, fun z => (by cases z), fun k z => (by cases z; omega)⟩
    · simp (disch := omega) only [c, if_false, n1_eq, bd_y, n0_eq, if_true, CM_7, c_refuse hw]
      exact ⟨q, rfl, by omega, h2, fun z => (by cases z), fun k z => (by cases z; omega)⟩
theorem c_rend {μ : Mem} {L : Nat → Nat} {N p q : Nat} {w : Option Nat} (t : TL L N μ) (h : RP L N p q w) : ∃ p', f_X5_refuseEnd (CM μ p w) = some (CM μ p' (if w = none ∧ q = N then some N else w)) ∧ RP L N p' q (if w = none ∧ q = N then some N else w) := by
  have hN := t.2.1
  obtain ⟨h1, h2, h3, h4⟩ := id h
  have hw := h.w hN
  have sl := sk_le (L := L) hN h1
  unfold f_X5_refuseEnd
  rw [c_end t h1, bd_y]
  refine ⟨sk L N p, ?_, sl, h2, ?_, ?_⟩
  · simp only [CM_0, t.1, c_refuse hw, bd_y]
    by_cases c : sk L N p < N
    · simp only [c, if_true, n0_eq]
      cases w with
      | none =>
        have := h3 rfl
        rw [if_neg (by omega)]
      | some f => simp
    · simp only [c, if_false, n1_eq]
      cases w with
      | none =>
        have := h3 rfl
        simp [show q = N by omega]
      | some f => simp
  · intro z
    rw [sk_sk hN h1]
    by_cases c : w = none ∧ q = N
    · rw [if_pos c] at z; cases z
    · rw [if_neg c] at z; exact h3 z
  · intro k z
    by_cases c : w = none ∧ q = N
    · rw [if_pos c] at z; cases z; omega
    · rw [if_neg c] at z; exact h4 k z
