/-! PURE PART: what a night has come to -/
def sm (g : Nat → Nat) : Nat → Nat
  | 0 => 0
  | n + 1 => sm g n + g n
theorem sm_cg {g k : Nat → Nat} {n : Nat} (h : ∀ i, i < n → g i = k i) : sm g n = sm k n := by
  induction n with
  | zero => rfl
  | succ n ih =>
    show sm g n + g n = sm k n + k n
    rw [ih (fun i hi => h i (by omega)), h n (by omega)]
theorem sm_0 {g : Nat → Nat} {n : Nat} (h : sm g n = 0) {i : Nat} (hi : i < n) : g i = 0 := by
  induction n with
  | zero => omega
  | succ n ih =>
    have : sm g n + g n = 0 := h
    by_cases e : i = n
    · subst e; omega
    · exact ih (by omega) (by omega)
theorem sm_le {g : Nat → Nat} {n m : Nat} (h : ∀ i, i < n → g i ≤ m) : sm g n ≤ n * m := by
  induction n with
  | zero => exact Nat.zero_le _
  | succ n ih =>
    have h1 := ih (fun i hi => h i (by omega))
    have h2 := h n (by omega)
    show sm g n + g n ≤ _
    rw [Nat.succ_mul]
    omega
theorem sm_add {g k : Nat → Nat} {n : Nat} : sm (fun i => g i + k i) n = sm g n + sm k n := by
  induction n with
  | zero => rfl
  | succ n ih =>
    show sm (fun i => g i + k i) n + (g n + k n) = (sm g n + g n) + (sm k n + k n)
    rw [ih]
    omega
theorem sm_z {n : Nat} : sm (fun _ => 0) n = 0 := by
  induction n with
  | zero => rfl
  | succ n ih => show sm _ n + 0 = 0; rw [ih]
theorem sm_swap {g : Nat → Nat → Nat} {n m : Nat} : sm (fun i => sm (fun j => g i j) m) n = sm (fun j => sm (fun i => g i j) n) m := by
  induction n with
  | zero => exact sm_z.symm
  | succ n ih =>
    show sm (fun i => sm (fun j => g i j) m) n + sm (fun j => g n j) m = _
    rw [ih, ← sm_add]
    rfl
theorem sm_app {g : Nat → Nat} {n m : Nat} : sm g (n + m) = sm g n + sm (fun i => g (n + i)) m := by
  induction m with
  | zero => rfl
  | succ m ih =>
    show sm g (n + m) + g (n + m) = sm g n + (sm (fun i => g (n + i)) m + g (n + m))
    rw [ih]
    omega
theorem sm_mul {g : Nat → Nat} {n m : Nat} : sm g (n * m) = sm (fun i => sm (fun j => g (i * m + j)) m) n := by
  induction n with
  | zero => rw [Nat.zero_mul]; rfl
  | succ n ih =>
    rw [Nat.succ_mul, sm_app, ih]
    rfl
theorem sm_rot1 {g : Nat → Nat} : sm (fun s => g ((s + 1) % 19)) 19 = sm g 19 := by
  simp only [sm, Nat.reduceAdd, Nat.reduceMod]
  omega
theorem sm_rot {g : Nat → Nat} (r : Nat) : sm (fun s => g ((s + r) % 19)) 19 = sm g 19 := by
  induction r with
  | zero => exact sm_cg (fun i hi => by rw [Nat.add_zero, Nat.mod_eq_of_lt hi])
  | succ r ih =>
    rw [← ih, ← sm_rot1 (g := fun s => g ((s + r) % 19))]
    exact sm_cg (fun i hi => by rw [show (i + (r + 1)) % 19 = ((i + 1) % 19 + r) % 19 by omega])
theorem pc_sm {p : Nat → Bool} {n : Nat} : pc p n = sm (fun k => if p k = true then 1 else 0) n := by
  induction n with
  | zero => rfl
  | succ n ih => show pc p n + _ = sm _ n + _; rw [ih]
theorem pc_0 {p : Nat → Bool} {n : Nat} : pc p n = 0 ↔ ∀ k, k < n → p k = false := by
  induction n with
  | zero => exact ⟨fun _ k hk => absurd hk (by omega), fun _ => rfl⟩
  | succ n ih =>
    show pc p n + (if p n = true then 1 else 0) = 0 ↔ _
    constructor
    · intro h k hk
      by_cases e : k = n
      · subst e
        cases q : p k
        · rfl
        · rw [q] at h; simp at h
      · exact ih.mp (by omega) k (by omega)
    · intro h
      rw [ih.mpr (fun k hk => h k (by omega)), h n (by omega)]
      rfl
/-! who is true, all have shown, two show unlike -/
def a_tr (σ : St) (r : Nat) : Bool := decide (σ (6 + 6 * r) = 0) || decide (σ (6 + 6 * r) = 3)
theorem a_tr_if {σ : St} {r : Nat} : (if σ (6 + 6 * r) = 0 ∨ σ (6 + 6 * r) = 3 then 1 else 0) = if a_tr σ r = true then 1 else 0 := by
  unfold a_tr
  simp
def a_dn (but : Nat → Bool) (σ : St) : Bool := decide (pc (fun r => a_tr σ r && !(but r) && decide (σ (6 + 6 * r + 2) = 2)) (σ 0) = 0)
def a_sc (c : Nat) (σ : St) (n : Nat) : Nat := pc (fun r => a_tr σ r && decide (σ (6 + 6 * r + 2) = c)) n
def a_ul (σ : St) : Bool := decide (0 < a_sc 0 σ (σ 0)) && decide (0 < a_sc 1 σ (σ 0))
theorem n2_howMany {μ : Mem} {b h d c : Nat} {x : Int32} {σ : St} (cn : NN μ b σ h d) (w : WF σ) (hc : c ≤ 2) : f_X2_howManyShow b x (nI c) μ = some (nI (pc (fun r => bt x r && decide (σ (6 + 6 * r + 2) = c)) (σ 0)), μ) := by
  have hn := w.n
  unfold f_X2_howManyShow
  refine lp_eq (fun n i => f_X2_howManyShow_5 b x (nI c) n (nI (pc (fun r => bt x r && decide (σ (6 + 6 * r + 2) = c)) i)) (nI i) μ) (σ 0) _ ?_ ?_ zfu 0 (by omega) (by unfold zfu; omega)
  · intro n
    simp (disch := omega) only [f_X2_howManyShow_5, nI_add, pk_mul, nI_clamp, nI_eqE, nI_leE, nI_ltE, nI_eq0, nI_le0, nI_lt0, nI_ge0, nI_gt0, pk_rem, pk_sub, inb_t, gd_y, zl_e, bd_y, isB_n0, isB_n1, n0_eq, n1_eq, if_n0, if_n1, isB_if, not_true_eq_false, not_false_eq_true, ite_true, ite_false, Nat.le_refl, Nat.lt_irrefl, cn.n]
  · intro n i hi
    have qe : ¬ σ 0 ≤ i := by omega
    have hs := w.s (show i < 9 by omega)
    have un : pc (fun r => bt x r && decide (σ (6 + 6 * r + 2) = c)) (i + 1) = pc (fun r => bt x r && decide (σ (6 + 6 * r + 2) = c)) i + (if (bt x i && decide (σ (6 + 6 * i + 2) = c)) = true then 1 else 0) := rfl
    rw [un]
    simp (disch := omega) only [f_X2_howManyShow_5, f_X2_howManyShow_37, nI_add, pk_mul, nI_clamp, nI_eqE, nI_leE, nI_ltE, nI_eq0, nI_le0, nI_lt0, nI_ge0, nI_gt0, pk_rem, pk_sub, inb_t, gd_y, zl_e, bd_y, isB_n0, isB_n1, n0_eq, n1_eq, if_n0, if_n1, isB_if, not_true_eq_false, not_false_eq_true, ite_true, ite_false, Nat.le_refl, Nat.lt_irrefl, cn.n, qe, bt_sh, cn.2.1.2.1 i hi]
    cases q : bt x i
    · simp
    · by_cases e : σ (6 + 6 * i + 2) = c
      · simp [e]
      · simp [e]
theorem n2_trueOnes {μ : Mem} {b h d : Nat} {σ : St} (cn : NN μ b σ h d) (w : WF σ) : ∃ x, f_X2_trueOnes b μ = some (x, μ) ∧ ∀ f, bt x f = (decide (f < σ 0) && a_tr σ f) := by
  have hn := w.n
  unfold f_X2_trueOnes
  have L := lp_rel (fun n i (x : Int32) => f_X2_trueOnes_4 b n x (nI i) μ) (fun i x => ∀ f, bt x f = (decide (f < i) && a_tr σ f)) (σ 0) (fun ρ : Int32 × Mem => ρ.2 = μ ∧ ∀ f, bt ρ.1 f = (decide (f < σ 0) && a_tr σ f)) ?_ ?_ zfu 0 (nI 0) (by omega) (by unfold zfu; omega) (fun f => by rw [bt_0]; simp)
  · obtain ⟨ρ, g1, g2, g3⟩ := L
    exact ⟨ρ.1, by rw [g1, ← g2], g3⟩
  · intro n x g
    refine ⟨(x, μ), ?_, rfl, g⟩
    simp (disch := omega) only [f_X2_trueOnes_4, nI_add, pk_mul, nI_clamp, nI_eqE, nI_leE, nI_ltE, nI_eq0, nI_le0, nI_lt0, nI_ge0, nI_gt0, pk_rem, pk_sub, inb_t, gd_y, zl_e, bd_y, isB_n0, isB_n1, n0_eq, n1_eq, if_n0, if_n1, isB_if, not_true_eq_false, not_false_eq_true, ite_true, ite_false, Nat.le_refl, Nat.lt_irrefl, cn.n]
  · intro n i x hi g
    left
    have qe : ¬ σ 0 ≤ i := by omega
    have tr := n2_isTrue cn w hi
    rw [a_tr_if] at tr
    by_cases q : a_tr σ i = true
    · refine ⟨x ||| (nI 1 <<< (nI i &&& 31)), fun f => ?_, ?_⟩
      · rw [bt_or, bt_1 (by omega), g f]
        by_cases e : f = i
        · subst e; simp [q]
        · have : decide (f < i + 1) = decide (f < i) := by apply decide_eq_decide.mpr; omega
          rw [this]; simp [e]
      · simp (disch := omega) only [f_X2_trueOnes_4, f_X2_trueOnes_26, nI_add, pk_mul, nI_clamp, nI_eqE, nI_leE, nI_ltE, nI_eq0, nI_le0, nI_lt0, nI_ge0, nI_gt0, pk_rem, pk_sub, inb_t, gd_y, zl_e, bd_y, isB_n0, isB_n1, n0_eq, n1_eq, if_n0, if_n1, isB_if, not_true_eq_false, not_false_eq_true, ite_true, ite_false, Nat.le_refl, Nat.lt_irrefl, cn.n, qe, tr, q, Nat.one_ne_zero]
    · refine ⟨x, fun f => ?_, ?_⟩
      · rw [g f]
        by_cases e : f = i
        · subst e; simp [q]
        · have : decide (f < i + 1) = decide (f < i) := by apply decide_eq_decide.mpr; omega
          rw [this]
      · simp (disch := omega) only [f_X2_trueOnes_4, f_X2_trueOnes_26, nI_add, pk_mul, nI_clamp, nI_eqE, nI_leE, nI_ltE, nI_eq0, nI_le0, nI_lt0, nI_ge0, nI_gt0, pk_rem, pk_sub, inb_t, gd_y, zl_e, bd_y, isB_n0, isB_n1, n0_eq, n1_eq, if_n0, if_n1, isB_if, not_true_eq_false, not_false_eq_true, ite_true, ite_false, Nat.le_refl, Nat.lt_irrefl, cn.n, qe, tr, q, Bool.false_eq_true]
theorem n2_isDone {μ : Mem} {b h d : Nat} {y : Int32} {σ : St} (cn : NN μ b σ h d) (w : WF σ) : f_X2_isDone b y μ = some (nI (if a_dn (bt y) σ = true then 1 else 0), μ) := by
  have hn := w.n
  obtain ⟨x, g1, g2⟩ := n2_trueOnes cn w
  unfold f_X2_isDone a_dn
  rw [g1, bd_y, n2_howMany cn w (by omega), bd_y]
  have e : pc (fun r => bt (x &&& (y ^^^ (-1))) r && decide (σ (6 + 6 * r + 2) = 2)) (σ 0) = pc (fun r => a_tr σ r && !(bt y r) && decide (σ (6 + 6 * r + 2) = 2)) (σ 0) := by
    apply pc_cg
    intro k hk
    rw [bt_and, bt_not _ (by omega), g2 k]
    simp [hk]
  simp only [e]
  have := pc_le (p := fun r => a_tr σ r && !(bt y r) && decide (σ (6 + 6 * r + 2) = 2)) (n := σ 0)
  simp (disch := omega) only [nI_add, pk_mul, nI_clamp, nI_eqE, nI_leE, nI_ltE, nI_eq0, nI_le0, nI_lt0, nI_ge0, nI_gt0, pk_rem, pk_sub, inb_t, gd_y, zl_e, bd_y, isB_n0, isB_n1, n0_eq, n1_eq, if_n0, if_n1, isB_if, not_true_eq_false, not_false_eq_true, ite_true, ite_false, Nat.le_refl, Nat.lt_irrefl, decide_eq_true_eq]
  split <;> rfl
theorem n2_isUnlike {μ : Mem} {b h d : Nat} {σ : St} (cn : NN μ b σ h d) (w : WF σ) : f_X2_isUnlike b μ = some (nI (if a_ul σ = true then 1 else 0), μ) := by
  have hn := w.n
  obtain ⟨x, g1, g2⟩ := n2_trueOnes cn w
  unfold f_X2_isUnlike a_ul a_sc
  have e : ∀ c, pc (fun r => bt x r && decide (σ (6 + 6 * r + 2) = c)) (σ 0) = pc (fun r => a_tr σ r && decide (σ (6 + 6 * r + 2) = c)) (σ 0) := by
    intro c
    apply pc_cg
    intro k hk
    rw [g2 k]
    simp [hk]
  have p0 := pc_le (p := fun r => a_tr σ r && decide (σ (6 + 6 * r + 2) = 0)) (n := σ 0)
  have p1 := pc_le (p := fun r => a_tr σ r && decide (σ (6 + 6 * r + 2) = 1)) (n := σ 0)
  rw [g1, bd_y, n2_howMany cn w (by omega), bd_y, n2_howMany cn w (by omega), bd_y]
  simp only [e]
  simp (disch := omega) only [nI_add, pk_mul, nI_clamp, nI_eqE, nI_leE, nI_ltE, nI_eq0, nI_le0, nI_lt0, nI_ge0, nI_gt0, pk_rem, pk_sub, inb_t, gd_y, zl_e, bd_y, isB_n0, isB_n1, n0_eq, n1_eq, if_n0, if_n1, isB_if, not_true_eq_false, not_false_eq_true, ite_true, ite_false, Nat.le_refl, Nat.lt_irrefl]
  by_cases c0 : pc (fun r => a_tr σ r && decide (σ (6 + 6 * r + 2) = 0)) (σ 0) = 0
  · simp [c0]
  · by_cases c1 : pc (fun r => a_tr σ r && decide (σ (6 + 6 * r + 2) = 1)) (σ 0) = 0
    · simp [c0, c1]
    · simp [c0, c1, Nat.pos_of_ne_zero]
theorem e8_isDone {μ : Mem} {k : Nat} {y : Int32} {but : Nat → Bool} {σ : St} (w : WF σ) (hb : ∀ r, r < 9 → (nI r = y) = (but r = true)) : f_X8_isDone k y (rM μ k σ) = some (nI (if a_dn but σ = true then 1 else 0), rM μ k σ) := by
  have hn := w.n
  unfold f_X8_isDone a_dn
  refine lp_eq (fun n i => f_X8_isDone_4 k y n (nI (if decide (pc (fun r => a_tr σ r && !(but r) && decide (σ (6 + 6 * r + 2) = 2)) i = 0) = true then 1 else 0)) (nI i) (rM μ k σ)) (σ 0) _ ?_ ?_ zfu 0 (by omega) (by unfold zfu; omega)
  · intro n
    simp (disch := omega) only [f_X8_isDone_4, nI_add, pk_mul, nI_clamp, nI_eqE, nI_leE, nI_ltE, nI_eq0, nI_le0, nI_lt0, nI_ge0, nI_gt0, pk_rem, pk_sub, inb_t, gd_y, zl_e, bd_y, isB_n0, isB_n1, n0_eq, n1_eq, if_n0, if_n1, isB_if, not_true_eq_false, not_false_eq_true, ite_true, ite_false, Nat.le_refl, Nat.lt_irrefl, rM_r, rM_k, rM_w, rM_c, rM_2, rd_s, rd_j, rd_k, sI_sI]
  · intro n i hi
    have qe : ¬ σ 0 ≤ i := by omega
    have hs := w.s (show i < 9 by omega)
    have tr := e8_isTrue (μ := μ) (k := k) w (show i < 9 by omega)
    rw [a_tr_if] at tr
    have un : pc (fun r => a_tr σ r && !(but r) && decide (σ (6 + 6 * r + 2) = 2)) (i + 1) = pc (fun r => a_tr σ r && !(but r) && decide (σ (6 + 6 * r + 2) = 2)) i + (if (a_tr σ i && !(but i) && decide (σ (6 + 6 * i + 2) = 2)) = true then 1 else 0) := rfl
    rw [un]
    simp (disch := omega) only [f_X8_isDone_4, f_X8_isDone_47, f_X8_isDone_43, f_X8_isDone_48, nI_add, pk_mul, nI_clamp, nI_eqE, nI_leE, nI_ltE, nI_eq0, nI_le0, nI_lt0, nI_ge0, nI_gt0, pk_rem, pk_sub, inb_t, gd_y, zl_e, bd_y, isB_n0, isB_n1, n0_eq, n1_eq, if_n0, if_n1, isB_if, not_true_eq_false, not_false_eq_true, ite_true, ite_false, Nat.le_refl, Nat.lt_irrefl, rM_r, rM_k, rM_w, rM_c, rM_2, rd_s, rd_j, rd_k, sI_sI, qe, hb i (by omega), tr]
    by_cases c0 : pc (fun r => a_tr σ r && !(but r) && decide (σ (6 + 6 * r + 2) = 2)) i = 0
    · simp only [c0, decide_true, not_true_eq_false, if_false, if_true, Nat.zero_add]
      cases q1 : but i
      · cases q2 : a_tr σ i
        · simp
        · by_cases q3 : 2 ≤ σ (6 + 6 * i + 2)
          · have q4 : σ (6 + 6 * i + 2) = 2 := by omega
            simp [q4]
          · have q4 : ¬ σ (6 + 6 * i + 2) = 2 := by omega
            simp [q3, q4]
      · simp
    · have c1 : ¬ (pc (fun r => a_tr σ r && !(but r) && decide (σ (6 + 6 * r + 2) = 2)) i + (if (a_tr σ i && !(but i) && decide (σ (6 + 6 * i + 2) = 2)) = true then 1 else 0) = 0) := by omega
      simp [c0, c1]
theorem and3 {x : Int32} : (x &&& nI 3 = nI 3) ↔ (bt x 0 = true ∧ bt x 1 = true) := by
  have b3 : ∀ f, f < 32 → bt (nI 3) f = decide (f < 2) := by decide
  constructor
  · intro e
    have e0 : bt (x &&& nI 3) 0 = bt (nI 3) 0 := by rw [e]
    have e1 : bt (x &&& nI 3) 1 = bt (nI 3) 1 := by rw [e]
    rw [bt_and, b3 0 (by omega)] at e0
    rw [bt_and, b3 1 (by omega)] at e1
    simp at e0 e1
    exact ⟨e0, e1⟩
  · intro ⟨e0, e1⟩
    apply bt_ext
    intro f hf
    rw [bt_and, b3 f hf]
    rcases (show f = 0 ∨ f = 1 ∨ 2 ≤ f by omega) with rfl | rfl | h2
    · simp [e0]
    · simp [e1]
    · simp [show ¬ f < 2 by omega]
theorem e8_isUnlike {μ : Mem} {k : Nat} {σ : St} (w : WF σ) : f_X8_isUnlike k (rM μ k σ) = some (nI (if a_ul σ = true then 1 else 0), rM μ k σ) := by
  have hn := w.n
  unfold f_X8_isUnlike
  have L := lp_rel (fun n i (x : Int32) => f_X8_isUnlike_4 k (fun x1 μ => f_X8_isUnlike_45 k x1 μ) n x (nI i) (rM μ k σ)) (fun i x => ∀ c, c < 2 → bt x c = decide (0 < a_sc c σ i)) (σ 0) (fun ρ : Int32 × Mem => ρ = (nI (if a_ul σ = true then 1 else 0), rM μ k σ)) ?_ ?_ zfu 0 (nI 0) (by omega) (by unfold zfu; omega) (fun c hc => by rw [bt_0]; simp [a_sc, pc])
  · obtain ⟨ρ, g1, g2⟩ := L
    rw [g1, g2]
  · intro n x g
    refine ⟨_, ?_, rfl⟩
    simp (disch := omega) only [f_X8_isUnlike_4, f_X8_isUnlike_45, nI_add, pk_mul, nI_clamp, nI_eqE, nI_leE, nI_ltE, nI_eq0, nI_le0, nI_lt0, nI_ge0, nI_gt0, pk_rem, pk_sub, inb_t, gd_y, zl_e, bd_y, isB_n0, isB_n1, n0_eq, n1_eq, if_n0, if_n1, isB_if, not_true_eq_false, not_false_eq_true, ite_true, ite_false, Nat.le_refl, Nat.lt_irrefl, rM_r, rM_k, rM_w, rM_c, rM_2, rd_s, rd_j, rd_k, sI_sI]
    unfold a_ul
    have g0 := g 0 (by omega)
    have g1 := g 1 (by omega)
    by_cases c : x &&& nI 3 = nI 3
    · have := and3.mp c
      rw [if_pos c, ← g0, ← g1, this.1, this.2]
      rfl
    · rw [if_neg c, ← g0, ← g1, if_neg]
      intro q
      rw [Bool.and_eq_true] at q
      exact c (and3.mpr q)
  · intro n i x hi g
    left
    have qe : ¬ σ 0 ≤ i := by omega
    have hs := w.s (show i < 9 by omega)
    have tr := e8_isTrue (μ := μ) (k := k) w (show i < 9 by omega)
    rw [a_tr_if] at tr
    have un : ∀ c, a_sc c σ (i + 1) = a_sc c σ i + (if (a_tr σ i && decide (σ (6 + 6 * i + 2) = c)) = true then 1 else 0) := fun c => rfl
    by_cases q : a_tr σ i = true
    · refine ⟨x ||| (nI 1 <<< (nI (σ (6 + 6 * i + 2)) &&& 31)), fun c hc => ?_, ?_⟩
      · rw [bt_or, bt_1 (by omega), g c hc, un c, q]
        by_cases e : σ (6 + 6 * i + 2) = c
        · simp [e]
        · simp [e, Ne.symm e]
      · simp (disch := omega) only [f_X8_isUnlike_4, f_X8_isUnlike_37, nI_add, pk_mul, nI_clamp, nI_eqE, nI_leE, nI_ltE, nI_eq0, nI_le0, nI_lt0, nI_ge0, nI_gt0, pk_rem, pk_sub, inb_t, gd_y, zl_e, bd_y, isB_n0, isB_n1, n0_eq, n1_eq, if_n0, if_n1, isB_if, not_true_eq_false, not_false_eq_true, ite_true, ite_false, Nat.le_refl, Nat.lt_irrefl, rM_r, rM_k, rM_w, rM_c, rM_2, rd_s, rd_j, rd_k, sI_sI, qe, tr, q, Nat.one_ne_zero]
    · refine ⟨x, fun c hc => ?_, ?_⟩
      · rw [g c hc, un c]
        simp [q]
      · have o0 : x ||| nI 0 = x := by rw [nI_0]; simp
        simp (disch := omega) only [f_X8_isUnlike_4, f_X8_isUnlike_37, nI_add, pk_mul, nI_clamp, nI_eqE, nI_leE, nI_ltE, nI_eq0, nI_le0, nI_lt0, nI_ge0, nI_gt0, pk_rem, pk_sub, inb_t, gd_y, zl_e, bd_y, isB_n0, isB_n1, n0_eq, n1_eq, if_n0, if_n1, isB_if, not_true_eq_false, not_false_eq_true, ite_true, ite_false, Nat.le_refl, Nat.lt_irrefl, rM_r, rM_k, rM_w, rM_c, rM_2, rd_s, rd_j, rd_k, sI_sI, qe, tr, q, Bool.false_eq_true, o0]
