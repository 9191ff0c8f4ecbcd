/-! PURE PART: logs and ships -/
def a_rd (c : Nat) (σ : St) : Nat → Int32
  | 0 => nI 0
  | i + 1 => if σ (1793 + 3 * i + 2) = c then a_rd c σ i ||| (nI 1 <<< (nI (σ (1793 + 3 * i)) &&& 31)) else a_rd c σ i
def a_sr (σ : St) : Int32 := a_rd 0 σ (σ 4) &&& a_rd 1 σ (σ 4)
theorem a_rd_hi {c : Nat} {σ : St} (w : WF σ) {f : Nat} (hf : 9 ≤ f) : ∀ i, i ≤ 12 → bt (a_rd c σ i) f = false := by
  intro i
  induction i with
  | zero => intro _; exact bt_0 f
  | succ i ih =>
    intro hi
    have h0 := w.g0 (show i < 12 by omega)
    show bt (if σ (1793 + 3 * i + 2) = c then a_rd c σ i ||| (nI 1 <<< (nI (σ (1793 + 3 * i)) &&& 31)) else a_rd c σ i) f = false
    split
    · rw [bt_or, bt_1 (by omega), ih (by omega)]
      simp
      omega
    · exact ih (by omega)
theorem a_sr_hi {σ : St} (w : WF σ) {f : Nat} (hf : 9 ≤ f) : bt (a_sr σ) f = false := by
  unfold a_sr
  rw [bt_and, a_rd_hi w hf _ w.lo]
  rfl
theorem o0 {x : Int32} : x ||| nI 0 = x := by rw [nI_0]; simp
theorem g_sure {μ : Mem} {k : Nat} {σ : St} (g : NG μ k σ) (w : WF σ) : f_X1_sureLiars k μ = some (a_sr σ, μ) := by
  have h12 := w.lo
  unfold f_X1_sureLiars a_sr
  refine lp_eq (fun n i => f_X1_sureLiars_6 k n (a_rd 0 σ i) (a_rd 1 σ i) (nI i) μ) (σ 4) _ ?_ ?_ zfu 0 (by omega) (by unfold zfu; omega)
  · intro n
    simp (disch := omega) only [f_X1_sureLiars_6, nI_add, pk_mul, nI_clamp, nI_eqE, nI_leE, nI_ltE, nI_eq0, nI_le0, nI_lt0, nI_ge0, nI_gt0, pk_rem, pk_sub, inb_t, gd_y, zl_e, bd_y, isB_n0, isB_n1, n0_eq, n1_eq, if_n0, if_n1, isB_if, not_true_eq_false, not_false_eq_true, ite_true, ite_false, Nat.le_refl, Nat.lt_irrefl, g.1]
  · intro n i hi
    have qe : ¬ σ 4 ≤ i := by omega
    have h2 := w.g2 (show i < 12 by omega)
    obtain ⟨l1, l2, l3⟩ := g.2 i hi
    have u0 : a_rd 0 σ (i + 1) = if σ (1793 + 3 * i + 2) = 0 then a_rd 0 σ i ||| (nI 1 <<< (nI (σ (1793 + 3 * i)) &&& 31)) else a_rd 0 σ i := rfl
    have u1 : a_rd 1 σ (i + 1) = if σ (1793 + 3 * i + 2) = 1 then a_rd 1 σ i ||| (nI 1 <<< (nI (σ (1793 + 3 * i)) &&& 31)) else a_rd 1 σ i := rfl
    rw [u0, u1]
    simp (disch := omega) only [f_X1_sureLiars_6, f_X1_sureLiars_48, nI_add, pk_mul, nI_clamp, nI_eqE, nI_leE, nI_ltE, nI_eq0, nI_le0, nI_lt0, nI_ge0, nI_gt0, pk_rem, pk_sub, inb_t, gd_y, zl_e, bd_y, isB_n0, isB_n1, n0_eq, n1_eq, if_n0, if_n1, isB_if, not_true_eq_false, not_false_eq_true, ite_true, ite_false, Nat.le_refl, Nat.lt_irrefl, g.1, qe, l1, l3]
    by_cases e : σ (1793 + 3 * i + 2) = 0
    · simp only [e, if_true, Nat.zero_ne_one, if_false]
    · have e1 : σ (1793 + 3 * i + 2) = 1 := by omega
      simp only [e1, if_true, Nat.one_ne_zero, if_false]
theorem e8_sure {μ : Mem} {σ : St} (w : WF σ) : f_X8_sureOnes (rM μ 114 σ) = some (a_sr σ, rM μ 114 σ) := by
  have h12 := w.lo
  unfold f_X8_sureOnes a_sr
  refine lp_eq (fun n i => f_X8_sureOnes_6 n (a_rd 0 σ i) (a_rd 1 σ i) (nI i) (rM μ 114 σ)) (σ 4) _ ?_ ?_ zfu 0 (by omega) (by unfold zfu; omega)
  · intro n
    simp (disch := omega) only [f_X8_sureOnes_6, nI_add, pk_mul, nI_clamp, nI_eqE, nI_leE, nI_ltE, nI_eq0, nI_le0, nI_lt0, nI_ge0, nI_gt0, pk_rem, pk_sub, inb_t, gd_y, zl_e, bd_y, isB_n0, isB_n1, n0_eq, n1_eq, if_n0, if_n1, isB_if, not_true_eq_false, not_false_eq_true, ite_true, ite_false, Nat.le_refl, Nat.lt_irrefl, rM_r, rM_k, rM_w, rM_c, rM_2, rd_s, rd_j, rd_k, sI_sI]
  · intro n i hi
    have qe : ¬ σ 4 ≤ i := by omega
    have h2 := w.g2 (show i < 12 by omega)
    have u0 : a_rd 0 σ (i + 1) = if σ (1793 + 3 * i + 2) = 0 then a_rd 0 σ i ||| (nI 1 <<< (nI (σ (1793 + 3 * i)) &&& 31)) else a_rd 0 σ i := rfl
    have u1 : a_rd 1 σ (i + 1) = if σ (1793 + 3 * i + 2) = 1 then a_rd 1 σ i ||| (nI 1 <<< (nI (σ (1793 + 3 * i)) &&& 31)) else a_rd 1 σ i := rfl
    rw [u0, u1]
    simp (disch := omega) only [f_X8_sureOnes_6, f_X8_sureOnes_51, f_X8_sureOnes_80, nI_add, pk_mul, nI_clamp, nI_eqE, nI_leE, nI_ltE, nI_eq0, nI_le0, nI_lt0, nI_ge0, nI_gt0, pk_rem, pk_sub, inb_t, gd_y, zl_e, bd_y, isB_n0, isB_n1, n0_eq, n1_eq, if_n0, if_n1, isB_if, not_true_eq_false, not_false_eq_true, ite_true, ite_false, Nat.le_refl, Nat.lt_irrefl, rM_r, rM_k, rM_w, rM_c, rM_2, rd_s, rd_j, rd_k, sI_sI, qe, o0]
    by_cases e : σ (1793 + 3 * i + 2) = 0
    · simp only [e, if_true, Nat.zero_ne_one, if_false]
    · have e1 : σ (1793 + 3 * i + 2) = 1 := by omega
      simp only [e1, if_true, Nat.one_ne_zero, if_false]

theorem o_sure : ok_sure II := by
  intro  μ I
  obtain ⟨⟨σ, h, r, w, z, m, n, s, l, g⟩, -⟩ := id I
  have hn := w.n
  unfold f_X7_sure f_X8_sure
  refine ⟨a_sr σ, μ, rM (sI μ 113 0 (nI 0)) 114 σ, ?_, ?_, I.ref r⟩
  · simp (disch := omega) only [zl_e, bd_y, if_n0, n0_eq, n1_eq, Bool.false_eq_true, not_true_eq_false, not_false_eq_true, if_true, if_false, Nat.one_ne_zero, rM_rM, g_sure g w]
  · rw [← th_rM r]
    simp (disch := omega) only [zl_e, bd_y, if_n0, n0_eq, n1_eq, Bool.false_eq_true, not_true_eq_false, not_false_eq_true, if_true, if_false, Nat.one_ne_zero, rM_rM, e8_sure w]

theorem sh_pow : ∀ n, n ≤ 9 → nI 1 <<< (nI n &&& 31) = nI (2 ^ n) := by decide
theorem pow_le : ∀ n, n ≤ 9 → 1 ≤ 2 ^ n ∧ 2 ^ n ≤ 512 := by decide
theorem x7_isSet {μ : Mem} {a : Int32} {n : Nat} (h : μ.1 2 0 = nI n) (hn : n ≤ 9) : f_X7_isSet a μ = some (nI (if bw a 0 (2 ^ n - 1) = true then 1 else 0), μ) := by
  have p := pow_le n hn
  unfold f_X7_isSet
  rw [h, sh_pow n hn, pk_sub p.1, within_n (by omega) (by omega), bd_y, isB_if, gd_y]
theorem in_s {a : Int32} {μ : Mem} {n : Nat} (hn : n ≤ 9) : f_X8_in a.toInt64 0 ((nI 1 <<< (nI n &&& 31)) - nI 1).toInt64 μ = some (nI (if bw a 0 (2 ^ n - 1) = true then 1 else 0), μ) := by
  have p := pow_le n hn
  rw [sh_pow n hn, pk_sub p.1]
  exact in_n (by decide) (by rw [Int32.toInt_toInt64, nI_toInt (by omega)])
theorem e8_ship {μ : Mem} {σ : St} {x a2 : Int32} (w : WF σ) : f_X8_ship_47 x a2 (fun x3 x4 μ => f_X8_ship_124 x a2 x3 x4 μ) zfu (nI 0) (nI 0) (nI 0) (rM μ 114 σ) = f_X8_ship_124 x a2 (nI (pc (fun r => bt x r && decide (σ (6 + 6 * r + 2) = 0)) (σ 0))) (nI (pc (fun r => bt x r && decide (σ (6 + 6 * r + 2) = 1)) (σ 0))) (rM μ 114 σ) := by
  have hn := w.n
  refine lp_eq (fun n i => f_X8_ship_47 x a2 (fun x3 x4 μ => f_X8_ship_124 x a2 x3 x4 μ) n (nI (pc (fun r => bt x r && decide (σ (6 + 6 * r + 2) = 0)) i)) (nI (pc (fun r => bt x r && decide (σ (6 + 6 * r + 2) = 1)) i)) (nI i) (rM μ 114 σ)) (σ 0) _ ?_ ?_ zfu 0 (by omega) (by unfold zfu; omega)
  · intro n
    simp (disch := omega) only [f_X8_ship_47, nI_add, pk_mul, nI_clamp, nI_eqE, nI_leE, nI_ltE, nI_eq0, nI_le0, nI_lt0, nI_ge0, nI_gt0, pk_rem, pk_sub, inb_t, gd_y, zl_e, bd_y, isB_n0, isB_n1, n0_eq, n1_eq, if_n0, if_n1, isB_if, not_true_eq_false, not_false_eq_true, ite_true, ite_false, Nat.le_refl, Nat.lt_irrefl, rM_r, rM_k, rM_w, rM_c, rM_2, rd_s, rd_j, rd_k, sI_sI]
  · intro n i hi
    have qe : ¬ σ 0 ≤ i := by omega
    have hs := w.s (show i < 9 by omega)
    have un : ∀ c, pc (fun r => bt x r && decide (σ (6 + 6 * r + 2) = c)) (i + 1) = pc (fun r => bt x r && decide (σ (6 + 6 * r + 2) = c)) i + (if (bt x i && decide (σ (6 + 6 * i + 2) = c)) = true then 1 else 0) := fun c => rfl
    rw [un 0, un 1]
    simp (disch := omega) only [f_X8_ship_47, f_X8_ship_87, f_X8_ship_100, f_X8_ship_115, nI_add, pk_mul, nI_clamp, nI_eqE, nI_leE, nI_ltE, nI_eq0, nI_le0, nI_lt0, nI_ge0, nI_gt0, pk_rem, pk_sub, inb_t, gd_y, zl_e, bd_y, isB_n0, isB_n1, n0_eq, n1_eq, if_n0, if_n1, isB_if, not_true_eq_false, not_false_eq_true, ite_true, ite_false, Nat.le_refl, Nat.lt_irrefl, rM_r, rM_k, rM_w, rM_c, rM_2, rd_s, rd_j, rd_k, sI_sI, qe, sh1]
    cases q : bt x i
    · simp
    · rcases (show σ (6 + 6 * i + 2) = 0 ∨ σ (6 + 6 * i + 2) = 1 ∨ σ (6 + 6 * i + 2) = 2 by omega) with e | e | e <;> simp [e]

theorem o_ship : ok_ship II := by
  intro a1 a2 μ I
  obtain ⟨⟨σ, h, r, w, z, m, n, s, l, g⟩, -⟩ := id I
  have hn := w.n
  unfold f_X7_ship f_X8_ship
  by_cases c1 : bw a1 0 (2 ^ σ 0 - 1) = true
  · by_cases c2 : bw a2 0 4 = true
    · have hw0 := n2_howMany (x := a1) (c := 0) n w (by omega)
      have hw1 := n2_howMany (x := a1) (c := 1) n w (by omega)
      have X : ∀ A B : Int32, ∃ v, (if A ≤ a2 then f_X7_ship_59 a1 a2 A B μ else if a2 < B then f_X7_ship_59 a1 a2 A B μ else some (nI 0, μ)) = some (v, μ) ∧ ∀ μ2, f_X8_ship_124 a1 a2 A B μ2 = some (v, μ2) := by
        intro A B
        unfold f_X7_ship_59 f_X8_ship_124 f_X8_ship_139
        by_cases q1 : A ≤ a2
        · by_cases q2 : B ≤ a2
          · exact ⟨-4, by simp only [q1, q2, if_true], fun _ => by simp only [q1, q2, if_true]⟩
          · by_cases q3 : a2 < A
            · exact ⟨-4, by simp only [q1, q2, q3, if_true, if_false], fun _ => by simp only [q1, q2, q3, if_true, if_false]⟩
            · exact ⟨nI 1, by simp only [q1, q2, q3, if_true, if_false], fun _ => by simp only [q1, q2, q3, if_true, if_false]⟩
        · by_cases q4 : a2 < B
          · by_cases q2 : B ≤ a2
            · exact ⟨-4, by simp only [q1, q2, q4, if_true, if_false], fun _ => by simp only [q1, q2, q4, if_true, if_false]⟩
            · by_cases q3 : a2 < A
              · exact ⟨-4, by simp only [q1, q2, q3, q4, if_true, if_false], fun _ => by simp only [q1, q2, q3, q4, if_true, if_false]⟩
              · exact ⟨nI 1, by simp only [q1, q2, q3, q4, if_true, if_false], fun _ => by simp only [q1, q2, q3, q4, if_true, if_false]⟩
          · exact ⟨nI 0, by simp only [q1, q4, if_false], fun _ => by simp only [q1, q4, if_false]⟩
      obtain ⟨v, v1, v2⟩ := X (nI (pc (fun r => bt a1 r && decide (σ (6 + 6 * r + 2) = 0)) (σ 0))) (nI (pc (fun r => bt a1 r && decide (σ (6 + 6 * r + 2) = 1)) (σ 0)))
      refine ⟨v, μ, rM (sI μ 113 0 (nI 0)) 114 σ, ?_, ?_, I.ref r⟩
      · simp (disch := omega) only [x7_isSet n.n hn, within_n, zl_e, bd_y, if_n0, n0_eq, n1_eq, Bool.false_eq_true, not_true_eq_false, not_false_eq_true, if_true, if_false, Nat.one_ne_zero, rM_rM, c1, c2, hw0, hw1]
        exact v1
      · rw [← th_rM r]
        simp (disch := omega) only [nI_add, pk_mul, nI_clamp, nI_eqE, nI_leE, nI_ltE, nI_eq0, nI_le0, nI_lt0, nI_ge0, nI_gt0, pk_rem, inb_t, gd_y, zl_e, bd_y, isB_n0, isB_n1, n0_eq, n1_eq, if_n0, if_n1, isB_if, not_true_eq_false, not_false_eq_true, ite_true, ite_false, Nat.le_refl, Nat.lt_irrefl, rM_r, rM_k, rM_w, rM_c, rM_2, rd_s, rd_j, rd_k, sI_sI, in_s, in_0_4, zl_e, bd_y, if_n0, n0_eq, n1_eq, Bool.false_eq_true, not_true_eq_false, not_false_eq_true, if_true, if_false, Nat.one_ne_zero, rM_rM, c1, c2]
        rw [e8_ship w]
        exact v2 _
    · refine ⟨-1, μ, rM (sI μ 113 0 (nI 0)) 114 σ, ?_, ?_, I.ref r⟩
      · simp (disch := omega) only [x7_isSet n.n hn, within_n, zl_e, bd_y, if_n0, n0_eq, n1_eq, Bool.false_eq_true, not_true_eq_false, not_false_eq_true, if_true, if_false, Nat.one_ne_zero, rM_rM, c1, c2]
      · rw [← th_rM r]
        simp (disch := omega) only [nI_add, pk_mul, nI_clamp, nI_eqE, nI_leE, nI_ltE, nI_eq0, nI_le0, nI_lt0, nI_ge0, nI_gt0, pk_rem, inb_t, gd_y, zl_e, bd_y, isB_n0, isB_n1, n0_eq, n1_eq, if_n0, if_n1, isB_if, not_true_eq_false, not_false_eq_true, ite_true, ite_false, Nat.le_refl, Nat.lt_irrefl, rM_r, rM_k, rM_w, rM_c, rM_2, rd_s, rd_j, rd_k, sI_sI, in_s, in_0_4, zl_e, bd_y, if_n0, n0_eq, n1_eq, Bool.false_eq_true, not_true_eq_false, not_false_eq_true, if_true, if_false, Nat.one_ne_zero, rM_rM, c1, c2]
  · refine ⟨-1, μ, rM (sI μ 113 0 (nI 0)) 114 σ, ?_, ?_, I.ref r⟩
    · simp (disch := omega) only [x7_isSet n.n hn, within_n, zl_e, bd_y, if_n0, n0_eq, n1_eq, Bool.false_eq_true, not_true_eq_false, not_false_eq_true, if_true, if_false, Nat.one_ne_zero, rM_rM, c1]
    · rw [← th_rM r]
      simp (disch := omega) only [nI_add, pk_mul, nI_clamp, nI_eqE, nI_leE, nI_ltE, nI_eq0, nI_le0, nI_lt0, nI_ge0, nI_gt0, pk_rem, inb_t, gd_y, zl_e, bd_y, isB_n0, isB_n1, n0_eq, n1_eq, if_n0, if_n1, isB_if, not_true_eq_false, not_false_eq_true, ite_true, ite_false, Nat.le_refl, Nat.lt_irrefl, rM_r, rM_k, rM_w, rM_c, rM_2, rd_s, rd_j, rd_k, sI_sI, in_s, in_0_4, zl_e, bd_y, if_n0, n0_eq, n1_eq, Bool.false_eq_true, not_true_eq_false, not_false_eq_true, if_true, if_false, Nat.one_ne_zero, rM_rM, c1]

/-! whom to ask -/
theorem lp_eqI {R : Type} (G : Nat → Nat → Option R) (Inv : Nat → Prop) (N : Nat) (K : Option R) (hend : ∀ n, Inv N → G (n + 1) N = K) (hs : ∀ n i, i < N → Inv i → N - i < n + 1 → (Inv (i + 1) ∧ G (n + 1) i = G n (i + 1)) ∨ G (n + 1) i = K) : ∀ fuel i, i ≤ N → N - i < fuel → Inv i → G fuel i = K := by
  intro fuel
  induction fuel with
  | zero => intro i _ h; omega
  | succ n ih =>
    intro i hi hf h
    by_cases e : i = N
    · subst e; exact hend n h
    · rcases hs n i (by omega) h (by omega) with ⟨h1, h2⟩ | h2
      · rw [h2]; exact ih (i + 1) (by omega) (by omega) h1
      · exact h2
def a_lo (σ : St) (r : Nat) : Nat := pc (fun k => decide (σ (1793 + 3 * k) = r)) (σ 4)
def a_lg (σ : St) (a b : Nat) : Bool := !decide (pc (fun k => decide (σ (1793 + 3 * k) = a) && decide (σ (1793 + 3 * k + 1) = b)) (σ 4) = 0)
def a_fp (σ : St) (r t : Nat) : Bool := !decide (t = r) && !a_lg σ r t
/-- the first one for which p, from 0 on; n, if none -/
def a_ff (p : Nat → Bool) : Nat → Nat
  | 0 => 0
  | n + 1 => if a_ff p n < n then a_ff p n else if p n = true then n else n + 1
theorem a_ff_le {p : Nat → Bool} {n : Nat} : a_ff p n ≤ n := by
  induction n with
  | zero => exact Nat.le_refl 0
  | succ n ih =>
    show (if a_ff p n < n then a_ff p n else if p n = true then n else n + 1) ≤ n + 1
    (repeat' split) <;> omega
theorem a_ff_lt {p : Nat → Bool} {n k : Nat} (hk : k < n) (hp : p k = true) (h : ∀ j, j < k → p j = false) : a_ff p n = k := by
  have e : ∀ m, m ≤ k → a_ff p m = m := by
    intro m
    induction m with
    | zero => intro _; rfl
    | succ m ih =>
      intro hm
      show (if a_ff p m < m then a_ff p m else if p m = true then m else m + 1) = m + 1
      rw [ih (by omega), if_neg (by omega), if_neg (by rw [h m (by omega)]; simp)]
  induction n with
  | zero => omega
  | succ n ih =>
    show (if a_ff p n < n then a_ff p n else if p n = true then n else n + 1) = k
    by_cases q : k < n
    · rw [ih q, if_pos q]
    · have : n = k := by omega
      subst this
      rw [e n (Nat.le_refl _), if_neg (by omega), if_pos hp]
theorem a_ff_n {p : Nat → Bool} {n : Nat} (h : ∀ j, j < n → p j = false) : a_ff p n = n := by
  induction n with
  | zero => rfl
  | succ n ih =>
    show (if a_ff p n < n then a_ff p n else if p n = true then n else n + 1) = n + 1
    rw [ih (fun j hj => h j (by omega)), if_neg (by omega), if_neg (by rw [h n (by omega)]; simp)]
theorem g_logsOf {μ : Mem} {k r : Nat} {σ : St} (g : NG μ k σ) (w : WF σ) (hr : r < 9) : f_X1_logsOf k (nI r) μ = some (nI (a_lo σ r), μ) := by
  have h12 := w.lo
  unfold f_X1_logsOf a_lo
  refine lp_eq (fun n i => f_X1_logsOf_4 k (nI r) n (nI (pc (fun k => decide (σ (1793 + 3 * k) = r)) i)) (nI i) μ) (σ 4) _ ?_ ?_ zfu 0 (by omega) (by unfold zfu; omega)
  · intro n
    simp (disch := omega) only [f_X1_logsOf_4, nI_add, pk_mul, nI_clamp, nI_eqE, nI_leE, nI_ltE, nI_eq0, nI_le0, nI_lt0, nI_ge0, nI_gt0, pk_rem, pk_sub, inb_t, gd_y, zl_e, bd_y, isB_n0, isB_n1, n0_eq, n1_eq, if_n0, if_n1, isB_if, not_true_eq_false, not_false_eq_true, ite_true, ite_false, Nat.le_refl, Nat.lt_irrefl, g.1]
  · intro n i hi
    have qe : ¬ σ 4 ≤ i := by omega
    have h0 := w.g0 (show i < 12 by omega)
    obtain ⟨l1, l2, l3⟩ := g.2 i hi
    have un : pc (fun k => decide (σ (1793 + 3 * k) = r)) (i + 1) = pc (fun k => decide (σ (1793 + 3 * k) = r)) i + (if decide (σ (1793 + 3 * i) = r) = true then 1 else 0) := rfl
    rw [un]
    simp (disch := omega) only [f_X1_logsOf_4, f_X1_logsOf_25, nI_add, pk_mul, nI_clamp, nI_eqE, nI_leE, nI_ltE, nI_eq0, nI_le0, nI_lt0, nI_ge0, nI_gt0, pk_rem, pk_sub, inb_t, gd_y, zl_e, bd_y, isB_n0, isB_n1, n0_eq, n1_eq, if_n0, if_n1, isB_if, not_true_eq_false, not_false_eq_true, ite_true, ite_false, Nat.le_refl, Nat.lt_irrefl, g.1, qe, l1, decide_eq_true_eq]
    split <;> rfl
theorem e8_logsOf {μ : Mem} {r : Nat} {σ : St} (w : WF σ) (hr : r < 9) : f_X8_logsOf (nI r) (rM μ 114 σ) = some (nI (a_lo σ r), rM μ 114 σ) := by
  have h12 := w.lo
  unfold f_X8_logsOf a_lo
  refine lp_eq (fun n i => f_X8_logsOf_4 (nI r) n (nI (pc (fun k => decide (σ (1793 + 3 * k) = r)) i)) (nI i) (rM μ 114 σ)) (σ 4) _ ?_ ?_ zfu 0 (by omega) (by unfold zfu; omega)
  · intro n
    simp (disch := omega) only [f_X8_logsOf_4, nI_add, pk_mul, nI_clamp, nI_eqE, nI_leE, nI_ltE, nI_eq0, nI_le0, nI_lt0, nI_ge0, nI_gt0, pk_rem, pk_sub, inb_t, gd_y, zl_e, bd_y, isB_n0, isB_n1, n0_eq, n1_eq, if_n0, if_n1, isB_if, not_true_eq_false, not_false_eq_true, ite_true, ite_false, Nat.le_refl, Nat.lt_irrefl, rM_r, rM_k, rM_w, rM_c, rM_2, rd_s, rd_j, rd_k, sI_sI]
  · intro n i hi
    have qe : ¬ σ 4 ≤ i := by omega
    have h0 := w.g0 (show i < 12 by omega)
    have un : pc (fun k => decide (σ (1793 + 3 * k) = r)) (i + 1) = pc (fun k => decide (σ (1793 + 3 * k) = r)) i + (if decide (σ (1793 + 3 * i) = r) = true then 1 else 0) := rfl
    rw [un]
    simp (disch := omega) only [f_X8_logsOf_4, f_X8_logsOf_36, nI_add, pk_mul, nI_clamp, nI_eqE, nI_leE, nI_ltE, nI_eq0, nI_le0, nI_lt0, nI_ge0, nI_gt0, pk_rem, pk_sub, inb_t, gd_y, zl_e, bd_y, isB_n0, isB_n1, n0_eq, n1_eq, if_n0, if_n1, isB_if, not_true_eq_false, not_false_eq_true, ite_true, ite_false, Nat.le_refl, Nat.lt_irrefl, rM_r, rM_k, rM_w, rM_c, rM_2, rd_s, rd_j, rd_k, sI_sI, qe, decide_eq_true_eq]
    split <;> rfl
theorem g_hasPair {μ : Mem} {k a b : Nat} {σ : St} (g : NG μ k σ) (w : WF σ) (ha : a < 9) (hb : b < 9) : f_X1_hasPair k (nI a) (nI b) μ = some (nI (if a_lg σ a b = true then 1 else 0), μ) := by
  have h12 := w.lo
  unfold f_X1_hasPair
  refine lp_eqI (fun n i => f_X1_hasPair_2 k (nI a) (nI b) n (nI i) μ) (fun i => ∀ j, j < i → (decide (σ (1793 + 3 * j) = a) && decide (σ (1793 + 3 * j + 1) = b)) = false) (σ 4) _ ?_ ?_ zfu 0 (by omega) (by unfold zfu; omega) (fun j hj => absurd hj (by omega))
  · intro n g1
    have e : a_lg σ a b = false := by
      unfold a_lg
      rw [Bool.not_eq_false', decide_eq_true_eq]
      exact pc_0.mpr g1
    simp (disch := omega) only [f_X1_hasPair_2, nI_add, pk_mul, nI_clamp, nI_eqE, nI_leE, nI_ltE, nI_eq0, nI_le0, nI_lt0, nI_ge0, nI_gt0, pk_rem, pk_sub, inb_t, gd_y, zl_e, bd_y, isB_n0, isB_n1, n0_eq, n1_eq, if_n0, if_n1, isB_if, not_true_eq_false, not_false_eq_true, ite_true, ite_false, Nat.le_refl, Nat.lt_irrefl, g.1, e, Bool.false_eq_true]
  · intro n i hi g1 _
    have qe : ¬ σ 4 ≤ i := by omega
    have h0 := w.g0 (show i < 12 by omega)
    have h1 := w.g1 (show i < 12 by omega)
    obtain ⟨l1, l2, l3⟩ := g.2 i hi
    by_cases e : σ (1793 + 3 * i) = a ∧ σ (1793 + 3 * i + 1) = b
    · right
      have e2 : a_lg σ a b = true := by
        unfold a_lg
        rw [Bool.not_eq_true', decide_eq_false_iff_not]
        intro z
        have := pc_0.mp z i hi
        simp [e.1, e.2] at this
      simp (disch := omega) only [f_X1_hasPair_2, nI_add, pk_mul, nI_clamp, nI_eqE, nI_leE, nI_ltE, nI_eq0, nI_le0, nI_lt0, nI_ge0, nI_gt0, pk_rem, pk_sub, inb_t, gd_y, zl_e, bd_y, isB_n0, isB_n1, n0_eq, n1_eq, if_n0, if_n1, isB_if, not_true_eq_false, not_false_eq_true, ite_true, ite_false, Nat.le_refl, Nat.lt_irrefl, g.1, qe, l1, l2, e.1, e.2, e2]
    · left
      refine ⟨fun j hj => ?_, ?_⟩
      · by_cases ej : j < i
        · exact g1 j ej
        · rw [show j = i by omega]
          by_cases q : σ (1793 + 3 * i) = a
          · have : ¬ σ (1793 + 3 * i + 1) = b := fun z => e ⟨q, z⟩
            simp [this]
          · simp [q]
      · simp (disch := omega) only [f_X1_hasPair_2, f_X1_hasPair_32, nI_add, pk_mul, nI_clamp, nI_eqE, nI_leE, nI_ltE, nI_eq0, nI_le0, nI_lt0, nI_ge0, nI_gt0, pk_rem, pk_sub, inb_t, gd_y, zl_e, bd_y, isB_n0, isB_n1, n0_eq, n1_eq, if_n0, if_n1, isB_if, not_true_eq_false, not_false_eq_true, ite_true, ite_false, Nat.le_refl, Nat.lt_irrefl, g.1, qe, l1, l2]
        by_cases q : σ (1793 + 3 * i) = a
        · have : ¬ σ (1793 + 3 * i + 1) = b := fun z => e ⟨q, z⟩
          rw [if_pos q, if_neg this]
        · rw [if_neg q]
theorem e8_isLogged {μ : Mem} {a b : Nat} {σ : St} (w : WF σ) (ha : a < 9) (hb : b < 9) : f_X8_isLogged (nI a) (nI b) (rM μ 114 σ) = some (nI (if a_lg σ a b = true then 1 else 0), rM μ 114 σ) := by
  have h12 := w.lo
  unfold f_X8_isLogged a_lg
  refine lp_eq (fun n i => f_X8_isLogged_5 (nI a) (nI b) n (nI (if (!decide (pc (fun k => decide (σ (1793 + 3 * k) = a) && decide (σ (1793 + 3 * k + 1) = b)) i = 0)) = true then 1 else 0)) (nI i) (rM μ 114 σ)) (σ 4) _ ?_ ?_ zfu 0 (by omega) (by unfold zfu; omega)
  · intro n
    simp (disch := omega) only [f_X8_isLogged_5, nI_add, pk_mul, nI_clamp, nI_eqE, nI_leE, nI_ltE, nI_eq0, nI_le0, nI_lt0, nI_ge0, nI_gt0, pk_rem, pk_sub, inb_t, gd_y, zl_e, bd_y, isB_n0, isB_n1, n0_eq, n1_eq, if_n0, if_n1, isB_if, not_true_eq_false, not_false_eq_true, ite_true, ite_false, Nat.le_refl, Nat.lt_irrefl, rM_r, rM_k, rM_w, rM_c, rM_2, rd_s, rd_j, rd_k, sI_sI]
  · intro n i hi
    have qe : ¬ σ 4 ≤ i := by omega
    have h0 := w.g0 (show i < 12 by omega)
    have h1 := w.g1 (show i < 12 by omega)
    have un : pc (fun k => decide (σ (1793 + 3 * k) = a) && decide (σ (1793 + 3 * k + 1) = b)) (i + 1) = pc (fun k => decide (σ (1793 + 3 * k) = a) && decide (σ (1793 + 3 * k + 1) = b)) i + (if (decide (σ (1793 + 3 * i) = a) && decide (σ (1793 + 3 * i + 1) = b)) = true then 1 else 0) := rfl
    rw [un]
    simp (disch := omega) only [f_X8_isLogged_5, f_X8_isLogged_56, f_X8_isLogged_60, f_X8_isLogged_61, nI_add, pk_mul, nI_clamp, nI_eqE, nI_leE, nI_ltE, nI_eq0, nI_le0, nI_lt0, nI_ge0, nI_gt0, pk_rem, pk_sub, inb_t, gd_y, zl_e, bd_y, isB_n0, isB_n1, n0_eq, n1_eq, if_n0, if_n1, isB_if, not_true_eq_false, not_false_eq_true, ite_true, ite_false, Nat.le_refl, Nat.lt_irrefl, rM_r, rM_k, rM_w, rM_c, rM_2, rd_s, rd_j, rd_k, sI_sI, qe]
    by_cases c0 : pc (fun k => decide (σ (1793 + 3 * k) = a) && decide (σ (1793 + 3 * k + 1) = b)) i = 0
    · by_cases q : σ (1793 + 3 * i) = a
      · by_cases q2 : σ (1793 + 3 * i + 1) = b
        · simp [c0, q, q2]
        · simp [c0, q, q2]
      · simp [c0, q]
    · simp [c0]
theorem g_first {μ : Mem} {k r n : Nat} {σ : St} (g : NG μ k σ) (w : WF σ) (hr : r < 9) (hn : n ≤ 9) : f_X1_firstWithoutLog k (nI r) (nI n) μ = some (if a_ff (a_fp σ r) n < n then nI (a_ff (a_fp σ r) n) else -1, μ) := by
  unfold f_X1_firstWithoutLog
  refine lp_eqI (fun f i => f_X1_firstWithoutLog_2 k (nI r) (nI n) f (nI i) μ) (fun i => ∀ j, j < i → a_fp σ r j = false) n _ ?_ ?_ zfu 0 (by omega) (by unfold zfu; omega) (fun j hj => absurd hj (by omega))
  · intro f g1
    rw [a_ff_n g1, if_neg (by omega)]
    simp (disch := omega) only [f_X1_firstWithoutLog_2, nI_add, pk_mul, nI_clamp, nI_eqE, nI_leE, nI_ltE, nI_eq0, nI_le0, nI_lt0, nI_ge0, nI_gt0, pk_rem, pk_sub, inb_t, gd_y, zl_e, bd_y, isB_n0, isB_n1, n0_eq, n1_eq, if_n0, if_n1, isB_if, not_true_eq_false, not_false_eq_true, ite_true, ite_false, Nat.le_refl, Nat.lt_irrefl]
  · intro f i hi g1 _
    have qe : ¬ n ≤ i := by omega
    by_cases e : a_fp σ r i = true
    · right
      rw [a_ff_lt hi e g1, if_pos hi]
      unfold a_fp at e
      simp at e
      simp (disch := omega) only [f_X1_firstWithoutLog_2, nI_add, pk_mul, nI_clamp, nI_eqE, nI_leE, nI_ltE, nI_eq0, nI_le0, nI_lt0, nI_ge0, nI_gt0, pk_rem, pk_sub, inb_t, gd_y, zl_e, bd_y, isB_n0, isB_n1, n0_eq, n1_eq, if_n0, if_n1, isB_if, not_true_eq_false, not_false_eq_true, ite_true, ite_false, Nat.le_refl, Nat.lt_irrefl, qe, e.1, g_hasPair g w hr (show i < 9 by omega), e.2, Bool.false_eq_true]
    · left
      refine ⟨fun j hj => ?_, ?_⟩
      · by_cases ej : j < i
        · exact g1 j ej
        · rw [show j = i by omega]; simpa using e
      · by_cases q : i = r
        · subst q
          simp (disch := omega) only [f_X1_firstWithoutLog_2, f_X1_firstWithoutLog_23, nI_add, pk_mul, nI_clamp, nI_eqE, nI_leE, nI_ltE, nI_eq0, nI_le0, nI_lt0, nI_ge0, nI_gt0, pk_rem, pk_sub, inb_t, gd_y, zl_e, bd_y, isB_n0, isB_n1, n0_eq, n1_eq, if_n0, if_n1, isB_if, not_true_eq_false, not_false_eq_true, ite_true, ite_false, Nat.le_refl, Nat.lt_irrefl, qe]
        · unfold a_fp at e
          simp [q] at e
          simp (disch := omega) only [f_X1_firstWithoutLog_2, f_X1_firstWithoutLog_23, nI_add, pk_mul, nI_clamp, nI_eqE, nI_leE, nI_ltE, nI_eq0, nI_le0, nI_lt0, nI_ge0, nI_gt0, pk_rem, pk_sub, inb_t, gd_y, zl_e, bd_y, isB_n0, isB_n1, n0_eq, n1_eq, if_n0, if_n1, isB_if, not_true_eq_false, not_false_eq_true, ite_true, ite_false, Nat.le_refl, Nat.lt_irrefl, qe, q, g_hasPair g w hr (show i < 9 by omega), e, Nat.one_ne_zero]
def a_ak (σ : St) : Nat → Int32 × Nat
  | 0 => (-4, 99)
  | r + 1 => if 0 < a_lo σ r ∧ a_lo σ r < (a_ak σ r).2 ∧ bt (a_sr σ) r = false ∧ a_ff (a_fp σ r) (σ 0) < σ 0 then (nI (10 * r + a_ff (a_fp σ r) (σ 0)), a_lo σ r) else a_ak σ r
theorem a_lo_le {σ : St} (w : WF σ) {r : Nat} : a_lo σ r ≤ 12 := Nat.le_trans pc_le w.lo
theorem g_ask {μ : Mem} {σ : St} (g : NG μ 29 σ) (w : WF σ) : f_X1_pairToAsk 29 (nI (σ 0)) μ = some ((a_ak σ (σ 0)).1, μ) := by
  have hn := w.n
  unfold f_X1_pairToAsk
  rw [g_sure g w, bd_y]
  refine lp_eq (fun f r => f_X1_pairToAsk_15 29 (nI (σ 0)) f (a_sr σ) (nI (min (a_ak σ r).2 13)) (a_ak σ r).1 (nI r) μ) (σ 0) _ ?_ ?_ zfu 0 (by omega) (by unfold zfu; omega)
  · intro f
    simp (disch := omega) only [f_X1_pairToAsk_15, nI_add, pk_mul, nI_clamp, nI_eqE, nI_leE, nI_ltE, nI_eq0, nI_le0, nI_lt0, nI_ge0, nI_gt0, pk_rem, pk_sub, inb_t, gd_y, zl_e, bd_y, isB_n0, isB_n1, n0_eq, n1_eq, if_n0, if_n1, isB_if, not_true_eq_false, not_false_eq_true, ite_true, ite_false, Nat.le_refl, Nat.lt_irrefl]
  · intro f r hr
    have qe : ¬ σ 0 ≤ r := by omega
    have r9 : r < 9 := by omega
    have l12 := a_lo_le w (r := r)
    have fl := a_ff_le (p := a_fp σ r) (n := σ 0)
    have un : a_ak σ (r + 1) = if 0 < a_lo σ r ∧ a_lo σ r < (a_ak σ r).2 ∧ bt (a_sr σ) r = false ∧ a_ff (a_fp σ r) (σ 0) < σ 0 then (nI (10 * r + a_ff (a_fp σ r) (σ 0)), a_lo σ r) else a_ak σ r := rfl
    rw [un]
    simp (disch := omega) only [f_X1_pairToAsk_15, f_X1_pairToAsk_76, nI_add, pk_mul, nI_clamp, nI_eqE, nI_leE, nI_ltE, nI_eq0, nI_le0, nI_lt0, nI_ge0, nI_gt0, pk_rem, pk_sub, inb_t, gd_y, zl_e, bd_y, isB_n0, isB_n1, n0_eq, n1_eq, if_n0, if_n1, isB_if, not_true_eq_false, not_false_eq_true, ite_true, ite_false, Nat.le_refl, Nat.lt_irrefl, qe, g_logsOf g w r9, g_first g w r9 hn, bt_sh]
    by_cases c1 : a_lo σ r = 0
    · rw [if_pos c1, if_neg (by omega)]
    · rw [if_neg c1]
      by_cases c2 : min (a_ak σ r).2 13 ≤ a_lo σ r
      · rw [if_pos c2, if_neg (by omega)]
      · rw [if_neg c2]
        by_cases c3 : bt (a_sr σ) r = true
        · rw [if_neg (by simp [c3]), if_neg (by simp [c3])]
        · rw [if_pos c3]
          have c3' : bt (a_sr σ) r = false := by simpa using c3
          by_cases c4 : a_ff (a_fp σ r) (σ 0) < σ 0
          · have c5 : 0 < a_lo σ r ∧ a_lo σ r < (a_ak σ r).2 ∧ bt (a_sr σ) r = false ∧ a_ff (a_fp σ r) (σ 0) < σ 0 := ⟨by omega, by omega, c3', c4⟩
            rw [if_pos c5]
            simp only [if_pos c4]
            rw [if_neg (nI_pos (by omega)), nI_add, show min (a_lo σ r) 13 = a_lo σ r by omega]
          · have c5 : ¬ (0 < a_lo σ r ∧ a_lo σ r < (a_ak σ r).2 ∧ bt (a_sr σ) r = false ∧ a_ff (a_fp σ r) (σ 0) < σ 0) := fun z => c4 z.2.2.2
            rw [if_neg c5]
            simp only [if_neg c4]
            rw [if_pos (by decide)]
theorem e8_askA {μ : Mem} {σ : St} {kx : Int32 → Int32 → Int32 → Mem → Option (Int32 × Mem)} {its : Int32} {few r lo : Nat} (w : WF σ) (hr : r < 9) (hlo : lo ≤ 12) (hf : few ≤ 99) (hle : few ≤ lo) : ∀ fuel t, t ≤ σ 0 → σ 0 - t < fuel → f_X8_ask_33 kx fuel its (nI few) (nI r) (nI lo) (nI t) (rM μ 114 σ) = kx its (nI few) (nI r) (rM μ 114 σ) := by
  have hn := w.n
  intro fuel t ht hfu
  refine lp_eqI (fun f i => f_X8_ask_33 kx f its (nI few) (nI r) (nI lo) (nI i) (rM μ 114 σ)) (fun _ => True) (σ 0) _ ?_ ?_ fuel t ht hfu trivial
  · intro f _
    simp (disch := omega) only [f_X8_ask_33, nI_add, pk_mul, nI_clamp, nI_eqE, nI_leE, nI_ltE, nI_eq0, nI_le0, nI_lt0, nI_ge0, nI_gt0, pk_rem, pk_sub, inb_t, gd_y, zl_e, bd_y, isB_n0, isB_n1, n0_eq, n1_eq, if_n0, if_n1, isB_if, not_true_eq_false, not_false_eq_true, ite_true, ite_false, Nat.le_refl, Nat.lt_irrefl, rM_r, rM_k, rM_w, rM_c, rM_2, rd_s, rd_j, rd_k, sI_sI]
  · intro f i hi _ _
    have qe : ¬ σ 0 ≤ i := by omega
    have i9 : i < 9 := by omega
    simp (disch := omega) only [f_X8_ask_33, f_X8_ask_93, nI_add, pk_mul, nI_clamp, nI_eqE, nI_leE, nI_ltE, nI_eq0, nI_le0, nI_lt0, nI_ge0, nI_gt0, pk_rem, pk_sub, inb_t, gd_y, zl_e, bd_y, isB_n0, isB_n1, n0_eq, n1_eq, if_n0, if_n1, isB_if, not_true_eq_false, not_false_eq_true, ite_true, ite_false, Nat.le_refl, Nat.lt_irrefl, rM_r, rM_k, rM_w, rM_c, rM_2, rd_s, rd_j, rd_k, sI_sI, qe, e8_sure w, e8_isLogged w hr i9, bt_sh]
    by_cases c1 : lo = 0
    · right; rw [if_pos c1]
    · rw [if_neg c1]
      by_cases c2 : bt (a_sr σ) r = true
      · right; rw [if_neg (by simp [c2])]
      · left
        refine ⟨trivial, ?_⟩
        rw [if_pos c2]
        by_cases c3 : i = r
        · rw [if_pos c3]
        · rw [if_neg c3]
          by_cases c4 : a_lg σ r i = true
          · rw [if_neg (by simp [c4])]
          · rw [if_pos c4, if_pos hle]
theorem e8_ask {μ : Mem} {σ : St} (w : WF σ) : f_X8_ask_13 zfu (-4) (nI 99) (nI 0) (rM μ 114 σ) = some ((a_ak σ (σ 0)).1, rM μ 114 σ) := by
  have hn := w.n
  have few : ∀ r, (a_ak σ r).2 ≤ 99 := by
    intro r
    induction r with
    | zero => exact Nat.le_refl 99
    | succ r ih =>
      show (if 0 < a_lo σ r ∧ a_lo σ r < (a_ak σ r).2 ∧ bt (a_sr σ) r = false ∧ a_ff (a_fp σ r) (σ 0) < σ 0 then (nI (10 * r + a_ff (a_fp σ r) (σ 0)), a_lo σ r) else a_ak σ r).2 ≤ 99
      have := a_lo_le w (r := r)
      split
      · show a_lo σ r ≤ 99; omega
      · exact ih
  refine lp_eq (fun f r => f_X8_ask_13 f (a_ak σ r).1 (nI (a_ak σ r).2) (nI r) (rM μ 114 σ)) (σ 0) _ ?_ ?_ zfu 0 (by omega) (by unfold zfu; omega)
  · intro f
    simp (disch := omega) only [f_X8_ask_13, nI_add, pk_mul, nI_clamp, nI_eqE, nI_leE, nI_ltE, nI_eq0, nI_le0, nI_lt0, nI_ge0, nI_gt0, pk_rem, pk_sub, inb_t, gd_y, zl_e, bd_y, isB_n0, isB_n1, n0_eq, n1_eq, if_n0, if_n1, isB_if, not_true_eq_false, not_false_eq_true, ite_true, ite_false, Nat.le_refl, Nat.lt_irrefl, rM_r, rM_k, rM_w, rM_c, rM_2, rd_s, rd_j, rd_k, sI_sI]
  · intro f r hr
    have qe : ¬ σ 0 ≤ r := by omega
    have r9 : r < 9 := by omega
    have l12 := a_lo_le w (r := r)
    have fl := a_ff_le (p := a_fp σ r) (n := σ 0)
    have fr := few r
    have un : a_ak σ (r + 1) = if 0 < a_lo σ r ∧ a_lo σ r < (a_ak σ r).2 ∧ bt (a_sr σ) r = false ∧ a_ff (a_fp σ r) (σ 0) < σ 0 then (nI (10 * r + a_ff (a_fp σ r) (σ 0)), a_lo σ r) else a_ak σ r := rfl
    rw [un]
    simp (disch := omega) only [f_X8_ask_13, f_X8_ask_99, nI_add, pk_mul, nI_clamp, nI_eqE, nI_leE, nI_ltE, nI_eq0, nI_le0, nI_lt0, nI_ge0, nI_gt0, pk_rem, pk_sub, inb_t, gd_y, zl_e, bd_y, isB_n0, isB_n1, n0_eq, n1_eq, if_n0, if_n1, isB_if, not_true_eq_false, not_false_eq_true, ite_true, ite_false, Nat.le_refl, Nat.lt_irrefl, rM_r, rM_k, rM_w, rM_c, rM_2, rd_s, rd_j, rd_k, sI_sI, qe, e8_logsOf w r9]
    generalize hA : a_ak σ r = A at *
    by_cases c2 : A.2 ≤ a_lo σ r
    · rw [if_neg (by omega), e8_askA w r9 l12 fr c2 zfu 0 (by omega) (by unfold zfu; omega), nI_add]
    · refine lp_eqI (fun n i => f_X8_ask_33 (fun x1 x2 x3 μ => f_X8_ask_13 f x1 x2 (x3 + nI 1) μ) n A.1 (nI A.2) (nI r) (nI (a_lo σ r)) (nI i) (rM μ 114 σ)) (fun i => ∀ j, j < i → a_fp σ r j = false) (σ 0) _ ?_ ?_ zfu 0 (by omega) (by unfold zfu; omega) (fun j hj => absurd hj (by omega))
      · intro n g1
        rw [a_ff_n g1, if_neg (by omega)]
        simp (disch := omega) only [f_X8_ask_33, nI_add, pk_mul, nI_clamp, nI_eqE, nI_leE, nI_ltE, nI_eq0, nI_le0, nI_lt0, nI_ge0, nI_gt0, pk_rem, pk_sub, inb_t, gd_y, zl_e, bd_y, isB_n0, isB_n1, n0_eq, n1_eq, if_n0, if_n1, isB_if, not_true_eq_false, not_false_eq_true, ite_true, ite_false, Nat.le_refl, Nat.lt_irrefl, rM_r, rM_k, rM_w, rM_c, rM_2, rd_s, rd_j, rd_k, sI_sI]
      · intro n i hi g1 hfu
        have qi : ¬ σ 0 ≤ i := by omega
        have i9 : i < 9 := by omega
        simp (disch := omega) only [f_X8_ask_33, f_X8_ask_93, nI_add, pk_mul, nI_clamp, nI_eqE, nI_leE, nI_ltE, nI_eq0, nI_le0, nI_lt0, nI_ge0, nI_gt0, pk_rem, pk_sub, inb_t, gd_y, zl_e, bd_y, isB_n0, isB_n1, n0_eq, n1_eq, if_n0, if_n1, isB_if, not_true_eq_false, not_false_eq_true, ite_true, ite_false, Nat.le_refl, Nat.lt_irrefl, rM_r, rM_k, rM_w, rM_c, rM_2, rd_s, rd_j, rd_k, sI_sI, qi, e8_sure w, e8_isLogged w r9 i9, bt_sh]
        by_cases c1 : a_lo σ r = 0
        · right; rw [if_pos c1, if_neg (by omega)]
        · rw [if_neg c1]
          by_cases c3 : bt (a_sr σ) r = true
          · right; rw [if_neg (by simp [c3]), if_neg (by simp [c3])]
          · rw [if_pos c3]
            have c3' : bt (a_sr σ) r = false := by simpa using c3
            by_cases e : a_fp σ r i = true
            · right
              have e' := e
              unfold a_fp at e'
              simp at e'
              have ff := a_ff_lt hi e g1
              have c5 : 0 < a_lo σ r ∧ a_lo σ r < A.2 ∧ bt (a_sr σ) r = false ∧ a_ff (a_fp σ r) (σ 0) < σ 0 := ⟨by omega, by omega, c3', by omega⟩
              rw [if_neg e'.1, if_pos (by rw [e'.2]; simp), if_neg c2, if_pos c5, ff]
              rw [e8_askA w r9 l12 (by omega) (Nat.le_refl _) n (i + 1) (by omega) (by omega), nI_add]
            · left
              refine ⟨fun j hj => ?_, ?_⟩
              · by_cases ej : j < i
                · exact g1 j ej
                · rw [show j = i by omega]; simpa using e
              · by_cases q : i = r
                · rw [if_pos q]
                · unfold a_fp at e
                  simp [q] at e
                  rw [if_neg q, if_neg (by rw [e]; simp)]

theorem o_ask : ok_ask II := by
  intro  μ I
  obtain ⟨⟨σ, h, r, w, z, m, n, s, l, g⟩, -⟩ := id I
  have hn := w.n
  unfold f_X7_ask f_X8_ask
  refine ⟨(a_ak σ (σ 0)).1, μ, rM (sI μ 113 0 (nI 0)) 114 σ, ?_, ?_, I.ref r⟩
  · simp (disch := omega) only [zl_e, bd_y, if_n0, n0_eq, n1_eq, Bool.false_eq_true, not_true_eq_false, not_false_eq_true, if_true, if_false, Nat.one_ne_zero, rM_rM, n.n, g_ask g w]
  · rw [← th_rM r]
    simp (disch := omega) only [zl_e, bd_y, if_n0, n0_eq, n1_eq, Bool.false_eq_true, not_true_eq_false, not_false_eq_true, if_true, if_false, Nat.one_ne_zero, rM_rM, e8_ask w]
