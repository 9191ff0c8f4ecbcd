/-! PURE PART: fits -/
def bn : Nat → Nat → Nat
  | _, 0 => 1
  | 0, _ + 1 => 0
  | n + 1, k + 1 => bn n k + bn n (k + 1)
def rc (L : Nat → Bool) : Nat → Nat → Nat
  | 0, k => if k = 0 then 1 else 0
  | n + 1, k => (if L n = true then 0 else rc L n k) + (if k = 0 then 0 else rc L n (k - 1))
theorem bn_gt : ∀ n k, n < k → bn n k = 0 := by
  intro n
  induction n with
  | zero =>
    intro k hk
    cases k with
    | zero => omega
    | succ k => rfl
  | succ n ih =>
    intro k hk
    cases k with
    | zero => omega
    | succ k =>
      show bn n k + bn n (k + 1) = 0
      rw [ih k (by omega), ih (k + 1) (by omega)]
theorem rc_bn {L : Nat → Bool} : ∀ n k, rc L n k = if k < pc L n then 0 else bn (n - pc L n) (k - pc L n) := by
  intro n
  induction n with
  | zero =>
    intro k
    show (if k = 0 then 1 else 0) = if k < 0 then 0 else bn 0 (k - 0)
    cases k with
    | zero => simp [bn]
    | succ k => simp [bn]
  | succ n ih =>
    intro k
    have hle := pc_le (p := L) (n := n)
    show (if L n = true then 0 else rc L n k) + (if k = 0 then 0 else rc L n (k - 1)) = if k < pc L n + (if L n = true then 1 else 0) then 0 else bn (n + 1 - (pc L n + (if L n = true then 1 else 0))) (k - (pc L n + (if L n = true then 1 else 0)))
    by_cases q : L n = true
    · simp only [q, if_true]
      rw [ih (k - 1)]
      by_cases k0 : k = 0
      · rw [if_pos k0, if_pos (by omega)]
      · rw [if_neg k0]
        by_cases k1 : k < pc L n + 1
        · rw [if_pos (by omega), if_pos k1]
        · rw [if_neg (by omega), if_neg k1, show n + 1 - (pc L n + 1) = n - pc L n by omega, show k - (pc L n + 1) = k - 1 - pc L n by omega]
          omega
    · simp only [q, Bool.false_eq_true, if_false, Nat.add_zero]
      rw [ih k, ih (k - 1)]
      by_cases k1 : k < pc L n
      · rw [if_pos k1, if_pos k1]
        by_cases k0 : k = 0
        · rw [if_pos k0]
        · rw [if_neg k0, if_pos (by omega)]
      · rw [if_neg k1, if_neg k1]
        by_cases k0 : k = 0
        · rw [if_pos k0, show k - pc L n = 0 by omega]
          cases h : n - pc L n <;> cases h' : n + 1 - pc L n <;> simp [bn]
        · rw [if_neg k0]
          by_cases k2 : k - 1 < pc L n
          · rw [if_pos k2, show k - pc L n = 0 by omega]
            cases h : n - pc L n <;> cases h' : n + 1 - pc L n <;> simp [bn]
          · rw [if_neg k2, show n + 1 - pc L n = (n - pc L n) + 1 by omega, show k - pc L n = (k - 1 - pc L n) + 1 by omega]
            show bn (n - pc L n) (k - 1 - pc L n + 1) + bn (n - pc L n) (k - 1 - pc L n) = bn (n - pc L n) (k - 1 - pc L n) + bn (n - pc L n) (k - 1 - pc L n + 1)
            omega
/-- sets below 2 ^ n that hold all of L, with k of them -/
def sb (L : Nat → Bool) (S : Nat) (n : Nat) : Bool := decide (pc (fun f => L f && !S.testBit f) n = 0)
theorem sb_s {L : Nat → Bool} {S n : Nat} : sb L S (n + 1) = (sb L S n && !(L n && !S.testBit n)) := by
  unfold sb
  show decide (pc (fun f => L f && !S.testBit f) n + (if (L n && !S.testBit n) = true then 1 else 0) = 0) = _
  by_cases q : (L n && !S.testBit n) = true
  · simp [q]
  · simp [q]
theorem tb_lo {n i f : Nat} (hf : f < n) : (2 ^ n + i).testBit f = i.testBit f := by
  rw [Nat.testBit_two_pow_add_gt hf]
theorem tb_eq {n i : Nat} (hi : i < 2 ^ n) : (2 ^ n + i).testBit n = true := by
  rw [Nat.testBit_two_pow_add_eq, Nat.testBit_lt_two_pow hi]
  rfl
theorem tb_no {n i f : Nat} (hi : i < 2 ^ n) (hf : n ≤ f) : i.testBit f = false := Nat.testBit_lt_two_pow (Nat.lt_of_lt_of_le hi (Nat.pow_le_pow_right (by omega) hf))
theorem cnt_rc {L : Nat → Bool} : ∀ n k, sm (fun S => if pc (fun f => S.testBit f) n = k ∧ sb L S n = true then 1 else 0) (2 ^ n) = rc L n k := by
  intro n
  induction n with
  | zero =>
    intro k
    show 0 + (if (0 : Nat) = k ∧ sb L 0 0 = true then 1 else 0) = if k = 0 then 1 else 0
    have : sb L 0 0 = true := rfl
    simp only [this, and_true]
    by_cases k0 : k = 0
    · simp [k0]
    · simp [k0, Ne.symm k0]
  | succ n ih =>
    intro k
    rw [show 2 ^ (n + 1) = 2 ^ n + 2 ^ n by rw [Nat.pow_succ]; omega, sm_app]
    show _ = (if L n = true then 0 else rc L n k) + (if k = 0 then 0 else rc L n (k - 1))
    congr 1
    · by_cases q : L n = true
      · rw [if_pos q]
        rw [sm_cg (k := fun _ => 0), sm_z]
        intro S hS
        rw [if_neg]
        intro z
        have z2 := z.2
        rw [sb_s, q, tb_no hS (Nat.le_refl n)] at z2
        simp at z2
      · rw [if_neg q, ← ih k]
        apply sm_cg
        intro S hS
        have e1 : pc (fun f => S.testBit f) (n + 1) = pc (fun f => S.testBit f) n := by
          show pc (fun f => S.testBit f) n + (if S.testBit n = true then 1 else 0) = _
          rw [tb_no hS (Nat.le_refl n)]
          simp
        have e2 : sb L S (n + 1) = sb L S n := by
          rw [sb_s]
          simp [q]
        rw [e1, e2]
    · by_cases k0 : k = 0
      · rw [if_pos k0, sm_cg (k := fun _ => 0), sm_z]
        intro S hS
        rw [if_neg]
        intro z
        have z1 : pc (fun f => (2 ^ n + S).testBit f) n + (if (2 ^ n + S).testBit n = true then 1 else 0) = k := z.1
        rw [tb_eq hS] at z1
        simp at z1
        omega
      · rw [if_neg k0, ← ih (k - 1)]
        apply sm_cg
        intro S hS
        have e1 : pc (fun f => (2 ^ n + S).testBit f) (n + 1) = pc (fun f => S.testBit f) n + 1 := by
          show pc (fun f => (2 ^ n + S).testBit f) n + (if (2 ^ n + S).testBit n = true then 1 else 0) = _
          rw [tb_eq hS, pc_cg (q := fun f => S.testBit f) (fun f hf => tb_lo hf)]
          simp
        have e2 : sb L (2 ^ n + S) (n + 1) = sb L S n := by
          rw [sb_s, tb_eq hS]
          unfold sb
          rw [pc_cg (q := fun f => L f && !S.testBit f) (fun f hf => by rw [tb_lo hf])]
          simp
        rw [e1, e2]
        have : (pc (fun f => S.testBit f) n + 1 = k ∧ sb L S n = true) ↔ (pc (fun f => S.testBit f) n = k - 1 ∧ sb L S n = true) := by
          constructor
          · intro z; exact ⟨by omega, z.2⟩
          · intro z; exact ⟨by omega, z.2⟩
        simp only [this]
theorem pc_up {p : Nat → Bool} {n : Nat} (h : ∀ f, n ≤ f → f < 9 → p f = false) : ∀ m, n ≤ m → m ≤ 9 → pc p m = pc p n := by
  intro m
  induction m with
  | zero => intro h1 _; rw [show n = 0 by omega]
  | succ m ih =>
    intro h1 h2
    by_cases e : n = m + 1
    · rw [e]
    · show pc p m + (if p m = true then 1 else 0) = _
      rw [ih (by omega) (by omega), h m (by omega) (by omega)]
      simp
/-! the reference's count -/
theorem e8_ones {S : Nat} {μ : Mem} : f_X8_ones (nI S) μ = some (nI (pc (fun f => S.testBit f) 9), μ) := by
  unfold f_X8_ones
  refine lp_eq (fun n i => f_X8_ones_4 (nI S) n (nI (pc (fun f => S.testBit f) i)) (nI i) μ) 9 _ ?_ ?_ zfu 0 (by omega) (by unfold zfu; omega)
  · intro n
    simp (disch := omega) only [f_X8_ones_4, nI_add, pk_mul, nI_clamp, nI_eqE, nI_leE, nI_ltE, nI_eq0, nI_le0, nI_lt0, nI_ge0, nI_gt0, pk_rem, pk_sub, inb_t, gd_y, zl_e, bd_y, isB_n0, isB_n1, n0_eq, n1_eq, if_n0, if_n1, isB_if, not_true_eq_false, not_false_eq_true, ite_true, ite_false, Nat.le_refl, Nat.lt_irrefl]
  · intro n i hi
    have qe : ¬ 9 ≤ i := by omega
    have un : pc (fun f => S.testBit f) (i + 1) = pc (fun f => S.testBit f) i + (if S.testBit i = true then 1 else 0) := rfl
    rw [un]
    simp (disch := omega) only [f_X8_ones_4, nI_add, pk_mul, nI_clamp, nI_eqE, nI_leE, nI_ltE, nI_eq0, nI_le0, nI_lt0, nI_ge0, nI_gt0, pk_rem, pk_sub, inb_t, gd_y, zl_e, bd_y, isB_n0, isB_n1, n0_eq, n1_eq, if_n0, if_n1, isB_if, not_true_eq_false, not_false_eq_true, ite_true, ite_false, Nat.le_refl, Nat.lt_irrefl, qe, bt_sh, bt_nI S i (by omega)]
theorem sub0 {x : Int32} {S : Nat} (hx : ∀ f, 9 ≤ f → bt x f = false) : (x &&& (nI S ^^^ (-1)) = 0) ↔ (sb (bt x) S 9 = true) := by
  unfold sb
  rw [decide_eq_true_eq, pc_0]
  constructor
  · intro e f hf
    have : bt (x &&& (nI S ^^^ (-1))) f = bt 0 f := by rw [e]
    rw [bt_and, bt_not _ (by omega), bt_nI S f (by omega)] at this
    rw [this]
    simp [bt]
  · intro e
    apply bt_ext
    intro f hf
    rw [bt_and, bt_not _ hf, bt_nI S f hf]
    by_cases f9 : f < 9
    · rw [e f f9]; simp [bt]
    · rw [hx f (by omega)]; simp [bt]
theorem e8_fits {μ : Mem} {σ : St} {k : Nat} {x : Int32} (w : WF σ) (hk : k ≤ 9) (hx : ∀ f, 9 ≤ f → bt x f = false) : f_X8_fits_29 (nI k) zfu x (nI 0) (nI 0) (rM μ 114 σ) = some (nI (sm (fun S => if pc (fun f => S.testBit f) 9 = k ∧ sb (bt x) S 9 = true then 1 else 0) (2 ^ σ 0)), rM μ 114 σ) := by
  have hn := w.n
  have pw := pow_le (σ 0) hn
  refine lp_eq (fun n S => f_X8_fits_29 (nI k) n x (nI (sm (fun S => if pc (fun f => S.testBit f) 9 = k ∧ sb (bt x) S 9 = true then 1 else 0) S)) (nI S) (rM μ 114 σ)) (2 ^ σ 0) _ ?_ ?_ zfu 0 (by omega) (by unfold zfu; omega)
  · intro n
    simp (disch := omega) only [f_X8_fits_29, nI_add, pk_mul, nI_clamp, nI_eqE, nI_leE, nI_ltE, nI_eq0, nI_le0, nI_lt0, nI_ge0, nI_gt0, pk_rem, pk_sub, inb_t, gd_y, zl_e, bd_y, isB_n0, isB_n1, n0_eq, n1_eq, if_n0, if_n1, isB_if, not_true_eq_false, not_false_eq_true, ite_true, ite_false, Nat.le_refl, Nat.lt_irrefl, rM_r, rM_k, rM_w, rM_c, rM_2, rd_s, rd_j, rd_k, sI_sI, sh_pow (σ 0) hn]
  · intro n S hS
    have qe : ¬ 2 ^ σ 0 ≤ S := by omega
    have p9 := pc_le (p := fun f => S.testBit f) (n := 9)
    have un : sm (fun S => if pc (fun f => S.testBit f) 9 = k ∧ sb (bt x) S 9 = true then 1 else 0) (S + 1) = sm (fun S => if pc (fun f => S.testBit f) 9 = k ∧ sb (bt x) S 9 = true then 1 else 0) S + (if pc (fun f => S.testBit f) 9 = k ∧ sb (bt x) S 9 = true then 1 else 0) := rfl
    rw [un]
    simp (disch := omega) only [f_X8_fits_29, f_X8_fits_65, f_X8_fits_66, nI_add, pk_mul, nI_clamp, nI_eqE, nI_leE, nI_ltE, nI_eq0, nI_le0, nI_lt0, nI_ge0, nI_gt0, pk_rem, pk_sub, inb_t, gd_y, zl_e, bd_y, isB_n0, isB_n1, n0_eq, n1_eq, if_n0, if_n1, isB_if, not_true_eq_false, not_false_eq_true, ite_true, ite_false, Nat.le_refl, Nat.lt_irrefl, rM_r, rM_k, rM_w, rM_c, rM_2, rd_s, rd_j, rd_k, sI_sI, sh_pow (σ 0) hn, qe, e8_ones, sub0 hx]
    by_cases c1 : pc (fun f => S.testBit f) 9 = k
    · by_cases c2 : sb (bt x) S 9 = true
      · simp only [c1, c2, if_true, and_self]
      · simp only [c1, c2, if_true, Bool.false_eq_true, and_false, if_false]
    · simp only [c1, if_false, false_and]
/-! the class's count -/
theorem ch_mu {a b : Int32} {μ : Mem} : ∀ n x y, f_X7_choose_15 a b n x y μ = (f_X7_choose_15 a b n x y mu0).map (fun p => (p.1, μ)) := by
  intro n
  induction n with
  | zero => intro x y; rfl
  | succ n ih =>
    intro x y
    simp only [f_X7_choose_15, zl_e]
    by_cases c : b < y
    · simp only [c, if_true]; rfl
    · simp only [c, if_false]
      unfold gd
      by_cases c2 : nz y = true
      · simp only [c2, if_true]
        exact ih _ _
      · simp only [c2, if_false]
        rfl
set_option maxRecDepth 20000 in
theorem ch_tab : ∀ N, N < 10 → ∀ K, K ≤ N → (f_X7_choose_15 (nI N) (nI K) zfu (nI 1) (nI 1) mu0).map (·.1) = some (nI (bn N K)) := by decide +kernel
theorem x7_choose {N K : Nat} {μ : Mem} (hN : N ≤ 9) (hK : K ≤ 9) : f_X7_choose (nI N) (nI K) μ = some (nI (bn N K), μ) := by
  unfold f_X7_choose
  simp (disch := omega) only [nI_lt0, nI_leE, if_false]
  by_cases c : K ≤ N
  · rw [if_pos c, ch_mu]
    have t := ch_tab N (by omega) K c
    revert t
    cases f_X7_choose_15 (nI N) (nI K) zfu (nI 1) (nI 1) mu0 with
    | none => intro t; cases t
    | some p => intro t; simp only [Option.map_some, Option.some.injEq] at t ⊢; rw [t]
  · rw [if_neg c, bn_gt N K (by omega)]
theorem pc_pos {p : Nat → Bool} {n f : Nat} (hf : f < n) (h : p f = true) : 1 ≤ pc p n := by
  by_cases z : pc p n = 0
  · have := pc_0.mp z f hf
    rw [h] at this
    cases this
  · omega

theorem o_fits : ok_fits II := by
  intro a1 μ I
  obtain ⟨⟨σ, h, r, w, z, m, n, s, l, g⟩, -⟩ := id I
  have hn := w.n
  unfold f_X7_fits f_X8_fits
  by_cases c1 : bw a1 0 9 = true
  · obtain ⟨k, _, hk, _, rfl⟩ := bw_t c1
    have pw := pow_le (σ 0) hn
    have hx : ∀ f, 9 ≤ f → bt (a_sr σ) f = false := fun f hf => a_sr_hi w hf
    have F := e8_fits (μ := sI μ 113 0 (nI 0)) (x := a_sr σ) w hk hx
    obtain ⟨m9, hm9, em⟩ := small_nI (x := a_sr σ) (fun f h1 _ => hx f h1)
    by_cases c2 : bw (a_sr σ) 0 (2 ^ σ 0 - 1) = true
    · -- all who are sure are there
      have lo : ∀ f, σ 0 ≤ f → f < 9 → bt (a_sr σ) f = false := by
        intro f h1 h2
        obtain ⟨v, _, hv, _, ev⟩ := bw_t c2
        rw [ev, bt_nI v f (by omega)]
        exact tb_no (n := σ 0) (by omega) h1
      have q9 : pc (bt (a_sr σ)) 9 = pc (bt (a_sr σ)) (σ 0) := pc_up lo 9 hn (by omega)
      have ql := pc_le (p := bt (a_sr σ)) (n := σ 0)
      have cnt : sm (fun S => if pc (fun f => S.testBit f) 9 = k ∧ sb (bt (a_sr σ)) S 9 = true then 1 else 0) (2 ^ σ 0) = rc (bt (a_sr σ)) (σ 0) k := by
        rw [← cnt_rc]
        apply sm_cg
        intro S hS
        rw [pc_up (fun f h1 h2 => tb_no hS h1) 9 hn (by omega)]
        unfold sb
        rw [pc_up (p := fun f => bt (a_sr σ) f && !S.testBit f) (fun f h1 h2 => by rw [lo f h1 h2]; rfl) 9 hn (by omega)]
      have bc := bc_e (x := a_sr σ) (μ := μ) (fun f h1 _ => hx f h1)
      rw [cnt, rc_bn] at F
      refine ⟨nI (if k < pc (bt (a_sr σ)) (σ 0) then 0 else bn (σ 0 - pc (bt (a_sr σ)) (σ 0)) (k - pc (bt (a_sr σ)) (σ 0))), μ, rM (sI μ 113 0 (nI 0)) 114 σ, ?_, ?_, I.ref r⟩
      · simp (disch := omega) only [within_n, zl_e, bd_y, if_n0, n0_eq, n1_eq, Bool.false_eq_true, not_true_eq_false, not_false_eq_true, if_true, if_false, Nat.one_ne_zero, rM_rM, c1, g_sure g w, x7_isSet n.n hn, c2, bc, n.n, q9]
        rw [pk_sub ql]
        by_cases c3 : k < pc (bt (a_sr σ)) (σ 0)
        · rw [if_pos c3]
          unfold f_X7_choose
          rw [if_pos (pk_sneg (by omega) c3), bd_y]
        · rw [if_neg c3, pk_sub (by omega), x7_choose (by omega) (by omega), bd_y]
      · rw [← th_rM r]
        simp (disch := omega) only [in_0_9, zl_e, bd_y, if_n0, n0_eq, n1_eq, Bool.false_eq_true, not_true_eq_false, not_false_eq_true, if_true, if_false, Nat.one_ne_zero, rM_rM, c1, e8_sure w, F]
    · refine ⟨nI 0, μ, rM (sI μ 113 0 (nI 0)) 114 σ, ?_, ?_, I.ref r⟩
      · simp (disch := omega) only [within_n, zl_e, bd_y, if_n0, n0_eq, n1_eq, Bool.false_eq_true, not_true_eq_false, not_false_eq_true, if_true, if_false, Nat.one_ne_zero, rM_rM, c1, g_sure g w, x7_isSet n.n hn, c2]
      · have cnt : sm (fun S => if pc (fun f => S.testBit f) 9 = k ∧ sb (bt (a_sr σ)) S 9 = true then 1 else 0) (2 ^ σ 0) = 0 := by
          rw [sm_cg (k := fun _ => 0), sm_z]
          intro S hS
          rw [if_neg]
          intro zz
          have zz2 := zz.2
          unfold sb at zz2
          rw [decide_eq_true_eq] at zz2
          apply c2
          -- all bits of m9 lie below
          have hb : ∀ f, σ 0 ≤ f → m9.testBit f = false := by
            intro f h1
            by_cases f9 : f < 9
            · have := pc_0.mp zz2 f f9
              rw [tb_no hS h1] at this
              rw [em, bt_nI m9 f (by omega)] at this
              simpa using this
            · exact tb_no (n := 9) (by omega) (by omega)
          have hlt : m9 < 2 ^ σ 0 := Nat.lt_pow_two_of_testBit m9 (fun i hi => hb i hi)
          unfold bw
          rw [em, nI_toInt (by omega), Bool.and_eq_true, decide_eq_true_eq, decide_eq_true_eq]
          omega
        rw [cnt] at F
        rw [← th_rM r]
        simp (disch := omega) only [in_0_9, zl_e, bd_y, if_n0, n0_eq, n1_eq, Bool.false_eq_true, not_true_eq_false, not_false_eq_true, if_true, if_false, Nat.one_ne_zero, rM_rM, c1, e8_sure w, F]
  · refine ⟨-1, μ, rM (sI μ 113 0 (nI 0)) 114 σ, ?_, ?_, I.ref r⟩
    · simp (disch := omega) only [within_n, zl_e, bd_y, if_n0, n0_eq, n1_eq, Bool.false_eq_true, not_true_eq_false, not_false_eq_true, if_true, if_false, Nat.one_ne_zero, rM_rM, c1]
    · rw [← th_rM r]
      simp (disch := omega) only [in_0_9, zl_e, bd_y, if_n0, n0_eq, n1_eq, Bool.false_eq_true, not_true_eq_false, not_false_eq_true, if_true, if_false, Nat.one_ne_zero, rM_rM, c1]
