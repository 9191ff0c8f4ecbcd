/-! PURE PART: rock, out -/
theorem o_rock : ok_rock II := by
  intro a1 a2 μ I
  obtain ⟨⟨σ, h, r, w, z, m, n, s, l, g⟩, -⟩ := id I
  have hn := w.n
  unfold f_X7_rock f_X8_rock
  by_cases c1 : bw a1 0 5 = true
  · by_cases c2 : bw a2 0 1 = true
    · by_cases c3 : σ 0 < 9
      · obtain ⟨kd, _, hk, _, rfl⟩ := bw_t c1
        obtain ⟨c, _, hc, _, rfl⟩ := bw_t c2
        obtain ⟨x, p1, p2, p3, p4⟩ := n2_letIn (kd := kd) (c := c) n w z c3 hc
        have r' : RR x 114 σ := fun j hj => by rw [p3.2 114 (by omega)]; exact r j hj
        refine ⟨nI (σ 0), x, rM (sI x 113 0 (nI 0)) 114 (a_li σ kd c 0 0), ?_, ?_, ?_⟩
        · simp (disch := omega) only [within_n, zl_e, bd_y, if_n0, n0_eq, n1_eq, Bool.false_eq_true, not_true_eq_false, not_false_eq_true, if_true, if_false, Nat.one_ne_zero, rM_rM, c1, c2, n.n, nI_ltE, c3, p1]
        · rw [← th_rM r']
          have ne : ¬ σ 0 = 9 := by omega
          have li := e8_letsIn (μ := sI x 113 0 (nI 0)) (kd := kd) (c := c) (f := 0) (u := 0) c3
          have l0 : a_li σ kd c 0 0 0 = σ 0 + 1 := li_0
          simp (disch := omega) only [in_0_5, in_0_1, zl_e, bd_y, if_n0, n0_eq, n1_eq, Bool.false_eq_true, not_true_eq_false, not_false_eq_true, if_true, if_false, Nat.one_ne_zero, rM_rM, c1, c2, nI_add, pk_mul, nI_clamp, nI_eqE, nI_leE, nI_ltE, nI_eq0, nI_le0, nI_lt0, nI_ge0, nI_gt0, pk_rem, pk_sub, inb_t, gd_y, zl_e, bd_y, isB_n0, isB_n1, n0_eq, n1_eq, if_n0, if_n1, isB_if, not_true_eq_false, not_false_eq_true, ite_true, ite_false, Nat.le_refl, Nat.lt_irrefl, rM_r, ne, li, l0, Nat.add_sub_cancel]
        · exact I.fin (FS.fb p3) (li_w w c3 hk hc (by omega) (by omega)) (li_z z c3) (by rw [li_o (by omega) (by omega) c3]; exact m) p2 (by rw [p4]; exact s) ((l.fb p3 (by omega)).st w.ru (li_o (by omega) (by omega) c3) (fun j h1 h2 => li_o (by omega) (by omega) c3)) ((g.mem (fun k h1 h2 => p3.2 k (by omega))).st w.lo (li_o (by omega) (by omega) c3) (fun j h1 h2 => li_o (by omega) (by omega) c3))
      · refine ⟨-3, μ, rM (sI μ 113 0 (nI 0)) 114 σ, ?_, ?_, I.ref r⟩
        · simp (disch := omega) only [within_n, zl_e, bd_y, if_n0, n0_eq, n1_eq, Bool.false_eq_true, not_true_eq_false, not_false_eq_true, if_true, if_false, Nat.one_ne_zero, rM_rM, c1, c2, n.n, nI_ltE, c3]
        · rw [← th_rM r]
          simp (disch := omega) only [in_0_5, in_0_1, zl_e, bd_y, if_n0, n0_eq, n1_eq, Bool.false_eq_true, not_true_eq_false, not_false_eq_true, if_true, if_false, Nat.one_ne_zero, rM_rM, c1, c2, nI_add, pk_mul, nI_clamp, nI_eqE, nI_leE, nI_ltE, nI_eq0, nI_le0, nI_lt0, nI_ge0, nI_gt0, pk_rem, pk_sub, inb_t, gd_y, zl_e, bd_y, isB_n0, isB_n1, n0_eq, n1_eq, if_n0, if_n1, isB_if, not_true_eq_false, not_false_eq_true, ite_true, ite_false, Nat.le_refl, Nat.lt_irrefl, rM_r, rM_k, rM_w, rM_c, rM_2, rd_s, rd_j, rd_k, sI_sI, show σ 0 = 9 by omega]
    · refine ⟨-1, μ, rM (sI μ 113 0 (nI 0)) 114 σ, ?_, ?_, I.ref r⟩
      · simp (disch := omega) only [within_n, zl_e, bd_y, if_n0, n0_eq, n1_eq, Bool.false_eq_true, not_true_eq_false, not_false_eq_true, if_true, if_false, Nat.one_ne_zero, rM_rM, c1, c2]
      · rw [← th_rM r]
        simp (disch := omega) only [in_0_5, in_0_1, zl_e, bd_y, if_n0, n0_eq, n1_eq, Bool.false_eq_true, not_true_eq_false, not_false_eq_true, if_true, if_false, Nat.one_ne_zero, rM_rM, c1, c2]
  · refine ⟨-1, μ, rM (sI μ 113 0 (nI 0)) 114 σ, ?_, ?_, I.ref r⟩
    · simp (disch := omega) only [within_n, zl_e, bd_y, if_n0, n0_eq, n1_eq, Bool.false_eq_true, not_true_eq_false, not_false_eq_true, if_true, if_false, Nat.one_ne_zero, rM_rM, c1]
    · rw [← th_rM r]
      simp (disch := omega) only [in_0_5, zl_e, bd_y, if_n0, n0_eq, n1_eq, Bool.false_eq_true, not_true_eq_false, not_false_eq_true, if_true, if_false, Nat.one_ne_zero, rM_rM, c1]
/-! out -/
def a_ou (σ : St) (n K : Nat) : St := fun j =>
  if 141 ≤ j ∧ j < 222 ∧ (j - 141) % 9 = n ∧ (j - 141) / 9 < K then 2
  else if 222 ≤ j ∧ j < 1761 ∧ (((j - 222) / 19 / 9 = n ∧ (j - 222) / 19 % 9 < K) ∨ ((j - 222) / 19 % 9 = n ∧ (j - 222) / 19 / 9 < K)) then 0
  else σ j
theorem a_ou_o {σ : St} {n K j : Nat} (h : j < 141 ∨ 1761 ≤ j) : a_ou σ n K j = σ j := by
  unfold a_ou
  rw [if_neg (by omega), if_neg (by omega)]
theorem a_ou_h {σ : St} {n K a b : Nat} (ha : a < 9) (hb : b < 9) : a_ou σ n K (141 + 9 * a + b) = if b = n ∧ a < K then 2 else σ (141 + 9 * a + b) := by
  have e1 : (141 + 9 * a + b - 141) / 9 = a := by omega
  have e2 : (141 + 9 * a + b - 141) % 9 = b := by omega
  unfold a_ou
  rw [e1, e2]
  by_cases c : b = n ∧ a < K
  · rw [if_pos ⟨by omega, by omega, c⟩, if_pos c]
  · rw [if_neg (fun z => c z.2.2), if_neg (by omega), if_neg c]
theorem a_ou_d {σ : St} {n K a b s : Nat} (ha : a < 9) (hb : b < 9) (hs : s < 19) : a_ou σ n K (222 + 19 * (9 * a + b) + s) = if (a = n ∧ b < K) ∨ (b = n ∧ a < K) then 0 else σ (222 + 19 * (9 * a + b) + s) := by
  have e1 : (222 + 19 * (9 * a + b) + s - 222) / 19 / 9 = a := by omega
  have e2 : (222 + 19 * (9 * a + b) + s - 222) / 19 % 9 = b := by omega
  unfold a_ou
  rw [e1, e2, if_neg (by omega)]
  by_cases c : (a = n ∧ b < K) ∨ (b = n ∧ a < K)
  · rw [if_pos ⟨by omega, by omega, c⟩, if_pos c]
  · rw [if_neg (fun z => c z.2.2), if_neg c]
theorem a_ou_ext {σ τ : St} {n K : Nat} (h1 : ∀ j, (j < 141 ∨ 1761 ≤ j) → τ j = σ j) (h3 : ∀ a b, a < 9 → b < 9 → τ (141 + 9 * a + b) = if b = n ∧ a < K then 2 else σ (141 + 9 * a + b)) (h4 : ∀ a b s, a < 9 → b < 9 → s < 19 → τ (222 + 19 * (9 * a + b) + s) = if (a = n ∧ b < K) ∨ (b = n ∧ a < K) then 0 else σ (222 + 19 * (9 * a + b) + s)) : a_ou σ n K = τ := by
  funext j
  by_cases c1 : j < 141 ∨ 1761 ≤ j
  · rw [a_ou_o c1, h1 j c1]
  · by_cases c3 : j < 222
    · obtain ⟨b, a, hb, ha, rfl⟩ := ix_h (j := j) (by omega) c3
      rw [a_ou_h ha hb, h3 a b ha hb]
    · obtain ⟨a, b, s, ha, hb, hs, rfl⟩ := ix_d (j := j) (by omega) (by omega)
      rw [a_ou_d ha hb hs, h4 a b s ha hb hs]
theorem a_ou_0 {σ : St} {n : Nat} : a_ou σ n 0 = σ := a_ou_ext (fun _ _ => rfl) (fun a b _ _ => by rw [if_neg (by omega)]) (fun a b s _ _ _ => by rw [if_neg (by omega)])
theorem a_ou_s {σ : St} {n K : Nat} (hn : n < 9) (hK : K < 9) : a_clr (a_clr (nu (a_ou σ n K) (141 + 9 * K + n) 2) (9 * n + K) 19) (9 * K + n) 19 = a_ou σ n (K + 1) := by
  symm
  apply a_ou_ext
  · intro j hj
    rw [clr_n (by omega), clr_n (by omega), nu_n (by omega), a_ou_o hj]
  · intro a b ha hb
    rw [clr_n (by omega), clr_n (by omega)]
    by_cases e1 : a = K ∧ b = n
    · obtain ⟨rfl, rfl⟩ := e1
      rw [nu_s, if_pos (by omega)]
    · rw [nu_n (by omega), a_ou_h ha hb]
      by_cases c : b = n ∧ a < K
      · rw [if_pos c, if_pos (by omega)]
      · rw [if_neg c, if_neg (by omega)]
  · intro a b s ha hb hs
    by_cases e1 : a = K ∧ b = n
    · obtain ⟨rfl, rfl⟩ := e1
      rw [clr_y (by omega) (by omega), if_pos (by omega)]
    · rw [clr_n (by omega)]
      by_cases e2 : a = n ∧ b = K
      · obtain ⟨rfl, rfl⟩ := e2
        rw [clr_y (by omega) (by omega), if_pos (by omega)]
      · rw [clr_n (by omega), nu_n (by omega), a_ou_d ha hb hs]
        by_cases c : (a = n ∧ b < K) ∨ (b = n ∧ a < K)
        · rw [if_pos c, if_pos (by omega)]
        · rw [if_neg c, if_neg (by omega)]
theorem e8_out {μ : Mem} {τ : St} {n : Nat} (hn : n < 9) : f_X8_out_36 zfu (nI n) (nI 0) (rM μ 114 τ) = some (nI n, rM μ 114 (a_ou τ n 9)) := by
  refine Eq.trans ?_ (lp_eq (fun f K => f_X8_out_36 f (nI n) (nI K) (rM μ 114 (a_ou τ n K))) 9 _ ?_ ?_ zfu 0 (by omega) (by unfold zfu; omega))
  · simp only [a_ou_0]
  · intro f
    simp (disch := omega) only [f_X8_out_36, nI_add, pk_mul, nI_clamp, nI_eqE, nI_leE, nI_ltE, nI_eq0, nI_le0, nI_lt0, nI_ge0, nI_gt0, pk_rem, pk_sub, inb_t, gd_y, zl_e, bd_y, isB_n0, isB_n1, n0_eq, n1_eq, if_n0, if_n1, isB_if, not_true_eq_false, not_false_eq_true, ite_true, ite_false, Nat.le_refl, Nat.lt_irrefl]
  · intro f K hK
    have qe : ¬ 9 ≤ K := by omega
    simp (disch := omega) only [f_X8_out_36, nI_add, pk_mul, nI_clamp, nI_eqE, nI_leE, nI_ltE, nI_eq0, nI_le0, nI_lt0, nI_ge0, nI_gt0, pk_rem, pk_sub, inb_t, gd_y, zl_e, bd_y, isB_n0, isB_n1, n0_eq, n1_eq, if_n0, if_n1, isB_if, not_true_eq_false, not_false_eq_true, ite_true, ite_false, Nat.le_refl, Nat.lt_irrefl, qe, rM_w, e8_clears, a_ou_s hn hK]
/-! the class takes out -/
theorem lpA {R : Type} {x : Mem} {k N : Nat} {g : Nat → Int32} {G : Nat → Nat → Mem → Option R} {K : Mem → Option R} (hN : N < 2000) (hend : ∀ n y, G (n + 1) N y = K y) (hs : ∀ n i f, i < N → (∀ j, i ≤ j → f j = x.1 k j) → G (n + 1) i (sA x k f) = G n (i + 1) (sA x k (upd f i (g i)))) : G zfu 0 x = K (sA x k (fun j => if j < N then g j else x.1 k j)) := by
  refine Eq.trans ?_ (lp_eq (fun n i => G n i (sA x k (fun j => if j < i then g j else x.1 k j))) N _ (fun n => hend n _) (fun n i hi => ?_) zfu 0 (by omega) (by unfold zfu; omega))
  · have : (fun j => if j < 0 then g j else x.1 k j) = x.1 k := by funext j; simp
    simp only [this, sA_self]
  · show G (n + 1) i (sA x k (fun j => if j < i then g j else x.1 k j)) = G n (i + 1) (sA x k (fun j => if j < i + 1 then g j else x.1 k j))
    rw [hs n i _ hi (fun j hj => by rw [if_neg (by omega)])]
    congr 2
    funext j
    unfold upd
    by_cases e1 : j = i
    · subst e1; simp
    · by_cases e2 : j < i
      · simp [e1, e2, show j < i + 1 by omega]
      · simp [e1, e2, show ¬ j < i + 1 by omega]
def tk1 (b c : Nat) (m : Int32) (x : Mem) : Mem := sA x (b + 17 + c) (fun r => if r < 9 then x.1 (b + 17 + c) r &&& m else x.1 (b + 17 + c) r)
def tk2 (b c : Nat) (m : Int32) (x : Mem) : Mem := sA x (b + 20 + c) (fun p => if p < 171 then x.1 (b + 20 + c) p &&& m else x.1 (b + 20 + c) p)
theorem to28 {b c : Nat} {m : Int32} {x : Mem} {kx : Int32 → Int32 → Mem → Option (Int32 × Mem)} (hc : c < 2) : f_X2_takeOut_28 b kx zfu m (nI c) (nI 0) x = kx m (nI c) (tk1 b c m x) := by
  refine lpA (G := fun n i y => f_X2_takeOut_28 b kx n m (nI c) (nI i) y) (K := fun y => kx m (nI c) y) (N := 9) (by omega) (fun n y => by simp (disch := omega) only [f_X2_takeOut_28, nI_add, pk_mul, nI_clamp, nI_eqE, nI_leE, nI_ltE, nI_eq0, nI_le0, nI_lt0, nI_ge0, nI_gt0, pk_rem, pk_sub, inb_t, gd_y, zl_e, bd_y, isB_n0, isB_n1, n0_eq, n1_eq, if_n0, if_n1, isB_if, not_true_eq_false, not_false_eq_true, ite_true, ite_false, Nat.le_refl, Nat.lt_irrefl]) (fun n i f hi hf => ?_)
  have qe : ¬ 9 ≤ i := by omega
  simp (disch := omega) only [f_X2_takeOut_28, nI_add, pk_mul, nI_clamp, nI_eqE, nI_leE, nI_ltE, nI_eq0, nI_le0, nI_lt0, nI_ge0, nI_gt0, pk_rem, pk_sub, inb_t, gd_y, zl_e, bd_y, isB_n0, isB_n1, n0_eq, n1_eq, if_n0, if_n1, isB_if, not_true_eq_false, not_false_eq_true, ite_true, ite_false, Nat.le_refl, Nat.lt_irrefl, qe, rdA_s, sI_sA, hf i (Nat.le_refl _)]
theorem to54 {b c : Nat} {m : Int32} {x : Mem} {kx : Int32 → Int32 → Mem → Option (Int32 × Mem)} (hc : c < 2) : f_X2_takeOut_54 b kx zfu m (nI c) (nI 0) x = kx m (nI c) (tk2 b c m x) := by
  refine lpA (G := fun n i y => f_X2_takeOut_54 b kx n m (nI c) (nI i) y) (K := fun y => kx m (nI c) y) (N := 171) (by omega) (fun n y => by simp (disch := omega) only [f_X2_takeOut_54, nI_add, pk_mul, nI_clamp, nI_eqE, nI_leE, nI_ltE, nI_eq0, nI_le0, nI_lt0, nI_ge0, nI_gt0, pk_rem, pk_sub, inb_t, gd_y, zl_e, bd_y, isB_n0, isB_n1, n0_eq, n1_eq, if_n0, if_n1, isB_if, not_true_eq_false, not_false_eq_true, ite_true, ite_false, Nat.le_refl, Nat.lt_irrefl]) (fun n i f hi hf => ?_)
  have qe : ¬ 171 ≤ i := by omega
  simp (disch := omega) only [f_X2_takeOut_54, nI_add, pk_mul, nI_clamp, nI_eqE, nI_leE, nI_ltE, nI_eq0, nI_le0, nI_lt0, nI_ge0, nI_gt0, pk_rem, pk_sub, inb_t, gd_y, zl_e, bd_y, isB_n0, isB_n1, n0_eq, n1_eq, if_n0, if_n1, isB_if, not_true_eq_false, not_false_eq_true, ite_true, ite_false, Nat.le_refl, Nat.lt_irrefl, qe, rdA_s, sI_sA, hf i (Nat.le_refl _)]
def tk3 (b c n : Nat) (x : Mem) : Mem := sA x (b + 20 + c) (fun p => if p % 9 = n ∧ p / 9 < 19 then nI 0 else x.1 (b + 20 + c) p)
theorem to81 {b c n : Nat} {m : Int32} {x : Mem} {kx : Int32 → Int32 → Mem → Option (Int32 × Mem)} (hc : c < 2) (hn : n < 9) (h0 : x.1 b 0 = nI n) : f_X2_takeOut_81 b kx zfu m (nI c) (nI 0) x = kx m (nI c) (tk3 b c n x) := by
  refine Eq.trans ?_ (lp_eq (fun f i => f_X2_takeOut_81 b kx f m (nI c) (nI i) (sA x (b + 20 + c) (fun p => if p % 9 = n ∧ p / 9 < i then nI 0 else x.1 (b + 20 + c) p))) 19 _ ?_ ?_ zfu 0 (by omega) (by unfold zfu; omega))
  · have : (fun p => if p % 9 = n ∧ p / 9 < 0 then nI 0 else x.1 (b + 20 + c) p) = x.1 (b + 20 + c) := by funext p; simp
    simp only [this, sA_self]
  · intro f
    simp (disch := omega) only [f_X2_takeOut_81, nI_add, pk_mul, nI_clamp, nI_eqE, nI_leE, nI_ltE, nI_eq0, nI_le0, nI_lt0, nI_ge0, nI_gt0, pk_rem, pk_sub, inb_t, gd_y, zl_e, bd_y, isB_n0, isB_n1, n0_eq, n1_eq, if_n0, if_n1, isB_if, not_true_eq_false, not_false_eq_true, ite_true, ite_false, Nat.le_refl, Nat.lt_irrefl]
    rfl
  · intro f i hi
    have qe : ¬ 19 ≤ i := by omega
    have e : upd (fun p => if p % 9 = n ∧ p / 9 < i then nI 0 else x.1 (b + 20 + c) p) (i * 9 + n) (nI 0) = fun p => if p % 9 = n ∧ p / 9 < i + 1 then nI 0 else x.1 (b + 20 + c) p := by
      funext p
      unfold upd
      by_cases e1 : p = i * 9 + n
      · rw [if_pos e1, if_pos (by omega)]
      · rw [if_neg e1]
        show (if p % 9 = n ∧ p / 9 < i then nI 0 else x.1 (b + 20 + c) p) = _
        by_cases e2 : p % 9 = n ∧ p / 9 < i
        · rw [if_pos e2, if_pos (by omega)]
        · rw [if_neg e2, if_neg (by omega)]
    simp (disch := omega) only [f_X2_takeOut_81, f_X2_ringPlace, nI_add, pk_mul, nI_clamp, nI_eqE, nI_leE, nI_ltE, nI_eq0, nI_le0, nI_lt0, nI_ge0, nI_gt0, pk_rem, pk_sub, inb_t, gd_y, zl_e, bd_y, isB_n0, isB_n1, n0_eq, n1_eq, if_n0, if_n1, isB_if, not_true_eq_false, not_false_eq_true, ite_true, ite_false, Nat.le_refl, Nat.lt_irrefl, qe, rdA_k, h0, sI_sA, e]
def tk (b c n : Nat) (m : Int32) (x : Mem) : Mem := tk3 b c n (tk2 b c m (tk1 b c m x))
theorem tk_o {b c n k : Nat} {m : Int32} {x : Mem} (h1 : k ≠ b + 17 + c) (h2 : k ≠ b + 20 + c) : (tk b c n m x).1 k = x.1 k := by
  unfold tk tk3 tk2 tk1
  rw [rdA_k h2, rdA_k h2, rdA_k h1]
theorem tk_h {b c n r : Nat} {m : Int32} {x : Mem} (hr : r < 9) : (tk b c n m x).1 (b + 17 + c) r = x.1 (b + 17 + c) r &&& m := by
  unfold tk tk3 tk2 tk1
  rw [rdA_k (by omega), rdA_k (by omega), rdA_s, if_pos hr]
theorem tk_r {b c n p : Nat} {m : Int32} {x : Mem} (hp : p < 171) : (tk b c n m x).1 (b + 20 + c) p = if p % 9 = n then nI 0 else x.1 (b + 20 + c) p &&& m := by
  unfold tk tk3 tk2 tk1
  rw [rdA_s]
  by_cases e : p % 9 = n
  · rw [if_pos ⟨e, by omega⟩, if_pos e]
  · rw [if_neg (fun z => e z.1), rdA_s, if_pos hp, if_neg e, rdA_k (by omega)]
theorem to21 {b c n f : Nat} {m : Int32} {x : Mem} {kx : Mem → Option (Int32 × Mem)} (hc : c < 2) (hn : n < 9) (h0 : x.1 b 0 = nI n) : f_X2_takeOut_21 b kx (f + 1) m (nI c) x = f_X2_takeOut_21 b kx f m (nI (c + 1)) (tk b c n m x) := by
  have qe : ¬ 1 < c := by omega
  simp (disch := omega) only [f_X2_takeOut_21, nI_add, pk_mul, nI_clamp, nI_eqE, nI_leE, nI_ltE, nI_eq0, nI_le0, nI_lt0, nI_ge0, nI_gt0, pk_rem, pk_sub, inb_t, gd_y, zl_e, bd_y, isB_n0, isB_n1, n0_eq, n1_eq, if_n0, if_n1, isB_if, not_true_eq_false, not_false_eq_true, ite_true, ite_false, Nat.le_refl, Nat.lt_irrefl, qe]
  rw [to28 hc]
  unfold f_X2_takeOut_52
  rw [to54 hc]
  unfold f_X2_takeOut_79
  rw [to81 hc hn (by unfold tk2 tk1; rw [rdA_k (by omega), rdA_k (by omega)]; exact h0)]
  unfold f_X2_takeOut_109
  rw [nI_add]
  rfl
theorem to21e {b c : Nat} (f : Nat) {m : Int32} {x : Mem} {kx : Mem → Option (Int32 × Mem)} (h1 : 1 < c) (h2 : c < 100) : f_X2_takeOut_21 b kx (f + 1) m (nI c) x = kx x := by
  simp (disch := omega) only [f_X2_takeOut_21, nI_add, pk_mul, nI_clamp, nI_eqE, nI_leE, nI_ltE, nI_eq0, nI_le0, nI_lt0, nI_ge0, nI_gt0, pk_rem, pk_sub, inb_t, gd_y, zl_e, bd_y, isB_n0, isB_n1, n0_eq, n1_eq, if_n0, if_n1, isB_if, not_true_eq_false, not_false_eq_true, ite_true, ite_false, Nat.le_refl, Nat.lt_irrefl, h1]
theorem n2_takeOut {μ : Mem} {b h n : Nat} {σ : St} (c : NN μ b σ h 9) (w : WF σ) (z : ZR σ) (hn : σ 0 = n + 1) : ∃ μ', f_X2_takeOut b μ = some (nI n, μ') ∧ NN μ' b (a_ou (nu σ 0 n) n 9) h 9 ∧ FB b μ μ' ∧ μ'.1 b 6 = μ.1 b 6 := by
  have h9 := w.n
  have n9 : n < 9 := by omega
  have n0 := c.n
  rw [hn] at n0
  unfold f_X2_takeOut
  simp (disch := omega) only [zl_e, n0, pk_sub, Nat.add_sub_cancel, rd_s]
  have zs : zfu = 1997 + 1 + 1 + 1 := rfl
  rw [zs, to21 (n := n) (by omega) n9 (by rw [rd_s]), to21 (n := n) (by omega) n9 (by rw [tk_o (by omega) (by omega), rd_s])]
  generalize hm : (nI 1 <<< (nI n &&& 31)) ^^^ (-1) = m
  have mb : ∀ f, f < 32 → bt m f = !decide (f = n) := by
    intro f hf
    rw [← hm, bt_not _ hf, bt_1 (by omega)]
  have e0 : (tk b (0 + 1) n m (tk b 0 n m (sI μ b 0 (nI n)))).1 b 0 = nI n := by rw [tk_o (by omega) (by omega), tk_o (by omega) (by omega), rd_s]
  refine ⟨tk b 1 n m (tk b 0 n m (sI μ b 0 (nI n))), ?_, ?_, ?_, ?_⟩
  · refine (to21e 1997 (by omega) (by omega)).trans ?_
    show f_X2_takeOut_115 b (tk b (0 + 1) n m (tk b 0 n m (sI μ b 0 (nI n)))) = _
    unfold f_X2_takeOut_115
    rw [e0]
  · have ot : ∀ k, k ≠ b → k ≠ b + 17 → k ≠ b + 18 → k ≠ b + 20 → k ≠ b + 21 → (tk b 1 n m (tk b 0 n m (sI μ b 0 (nI n)))).1 k = μ.1 k := by
      intro k h1 h2 h3 h4 h5
      rw [tk_o (by omega) (by omega), tk_o (by omega) (by omega), rd_k h1]
    have ob : ∀ j, j ≠ 0 → (tk b 1 n m (tk b 0 n m (sI μ b 0 (nI n)))).1 b j = μ.1 b j := by
      intro j h1
      rw [tk_o (by omega) (by omega), tk_o (by omega) (by omega), rd_j h1]
    have oh : ∀ p r, p < 2 → r < 9 → (tk b 1 n m (tk b 0 n m (sI μ b 0 (nI n)))).1 (b + 17 + p) r = μ.1 (b + 17 + p) r &&& m := by
      intro p r hp hr
      rcases (show p = 0 ∨ p = 1 by omega) with rfl | rfl
      · rw [tk_o (by omega) (by omega), tk_h hr, rd_k (by omega)]
      · rw [tk_h hr, tk_o (by omega) (by omega), rd_k (by omega)]
    have or_ : ∀ p q, p < 2 → q < 171 → (tk b 1 n m (tk b 0 n m (sI μ b 0 (nI n)))).1 (b + 20 + p) q = if q % 9 = n then nI 0 else μ.1 (b + 20 + p) q &&& m := by
      intro p q hp hq
      rcases (show p = 0 ∨ p = 1 by omega) with rfl | rfl
      · rw [tk_o (by omega) (by omega), tk_r hq, rd_k (by omega)]
      · rw [tk_r hq, tk_o (by omega) (by omega), rd_k (by omega)]
    have s0 : a_ou (nu σ 0 n) n 9 0 = n := by rw [a_ou_o (by omega), nu_s]
    have so : ∀ j, j ≠ 0 → (j < 141 ∨ 1761 ≤ j) → a_ou (nu σ 0 n) n 9 j = σ j := fun j h1 h2 => by rw [a_ou_o h2, nu_n h1]
    generalize tk b 1 n m (tk b 0 n m (sI μ b 0 (nI n))) = y at *
    obtain ⟨⟨c0, c1, c2, c3, c4, c5, c6⟩, ⟨a1, a2, a3, a4, a5, a6⟩, cH, cR⟩ := c
    refine ⟨⟨by rw [s0]; exact e0, ?_, ?_, ?_, ?_, c5, ?_⟩, ⟨?_, ?_, ?_, ?_, ?_, ?_⟩, ?_, ?_⟩
    · rw [ob 1 (by omega), so 1 (by omega) (by omega)]; exact c1
    · rw [ob 2 (by omega), so 2 (by omega) (by omega)]; exact c2
    · rw [ob 3 (by omega), so 5 (by omega) (by omega)]; exact c3
    · rw [ob 4 (by omega)]; exact c4
    · rw [ob 5 (by omega)]; exact c6
    · rw [s0]; intro r hr; rw [ot _ (by omega) (by omega) (by omega) (by omega) (by omega), so _ (by omega) (by omega)]; exact a1 r (by omega)
    · rw [s0]; intro r hr; rw [ot _ (by omega) (by omega) (by omega) (by omega) (by omega), so _ (by omega) (by omega)]; exact a2 r (by omega)
    · rw [s0]; intro r hr; rw [ot _ (by omega) (by omega) (by omega) (by omega) (by omega), so _ (by omega) (by omega)]; exact a3 r (by omega)
    · rw [s0]; intro r hr; rw [ot _ (by omega) (by omega) (by omega) (by omega) (by omega), so _ (by omega) (by omega)]; exact a4 r (by omega)
    · rw [s0]; intro r hr; rw [ot _ (by omega) (by omega) (by omega) (by omega) (by omega), so _ (by omega) (by omega)]; exact a5 r (by omega)
    · rw [s0]; intro p q hp hq hne; rw [ot _ (by omega) (by omega) (by omega) (by omega) (by omega), so _ (by omega) (by omega)]; exact a6 p q (by omega) (by omega) hne
    · intro p r f hp hr
      rw [s0] at hr ⊢
      rw [oh p r hp (by omega), bt_and, cH p r f hp (by omega)]
      by_cases f32 : f < 32
      · rw [mb f f32]
        by_cases fn : f = n
        · simp [fn]
        · by_cases f9 : f < n
          · have hb : a_hb (a_ou (nu σ 0 n) n 9) r f = a_hb σ r f := a_hb_st (so _ (by omega) (by omega)) (by rw [a_ou_h (by omega) (by omega), if_neg (by omega), nu_n (by omega)])
            rw [hb, hn]
            simp [fn, f9, show f < n + 1 by omega]
          · rw [hn]
            simp [fn, f9, show ¬ f < n + 1 by omega]
      · rw [bt_big (by omega)]
        simp
        omega
    · intro p s t f hp hs ht
      rw [so 1 (by omega) (by omega), or_ p _ hp (by omega)]
      have tm : ((h + s) % 19 * 9 + t) % 9 = t := by omega
      rw [tm]
      have hmod : (σ 1 + s) % 19 < 19 := Nat.mod_lt _ (by decide)
      by_cases f9 : f < 9
      · rw [a_ou_d f9 ht hmod]
        by_cases tn : t = n
        · rw [if_pos tn, bt_0, if_pos (by omega)]; simp
        · rw [if_neg tn, bt_and, cR p s t f hp hs ht, mb f (by omega)]
          by_cases fn : f = n
          · rw [if_pos (by omega)]; simp [fn]
          · rw [if_neg (by omega), nu_n (by omega)]; simp [fn]
      · by_cases tn : t = n
        · rw [if_pos tn, bt_0]; simp [f9]
        · rw [if_neg tn, bt_and, cR p s t f hp hs ht]; simp [f9]
  · refine ⟨rfl, fun k hk => ?_⟩
    rw [tk_o (by omega) (by omega), tk_o (by omega) (by omega), rd_k (by omega)]
  · rw [tk_o (by omega) (by omega), tk_o (by omega) (by omega), rd_j (by omega)]
theorem ou_w {σ : St} {n K : Nat} (w : WF σ) : WF (a_ou σ n K) := by
  intro j hj
  by_cases c1 : j < 141 ∨ 1761 ≤ j
  · rw [a_ou_o c1]; exact w j hj
  · by_cases c3 : j < 222
    · obtain ⟨b, a, hb, ha, rfl⟩ := ix_h (j := j) (by omega) c3
      rw [a_ou_h ha hb, bd_h (by omega) (by omega)]
      have := w.h ha hb
      split <;> omega
    · obtain ⟨a, b, s, ha, hb, hs, rfl⟩ := ix_d (j := j) (by omega) (by omega)
      rw [a_ou_d ha hb hs, bd_h (by omega) (by omega)]
      have := w.du ha hb hs
      split <;> omega
theorem o_out : ok_out II := by
  intro μ I
  obtain ⟨⟨σ, h, r, w, z, m, n, s, l, g⟩, -⟩ := id I
  have hn := w.n
  by_cases c1 : σ 0 = 0
  · refine ⟨-4, μ, rM (sI μ 113 0 (nI 0)) 114 σ, ?_, ?_, I.ref r⟩
    · unfold f_X7_out
      simp (disch := omega) only [n.n, nI_eq0, c1, zl_e, bd_y, if_n0, n0_eq, n1_eq, Bool.false_eq_true, not_true_eq_false, not_false_eq_true, if_true, if_false, Nat.one_ne_zero, rM_rM]
    · unfold f_X8_out
      rw [← th_rM r]
      simp (disch := omega) only [zl_e, bd_y, if_n0, n0_eq, n1_eq, Bool.false_eq_true, not_true_eq_false, not_false_eq_true, if_true, if_false, Nat.one_ne_zero, rM_rM, nI_add, pk_mul, nI_clamp, nI_eqE, nI_leE, nI_ltE, nI_eq0, nI_le0, nI_lt0, nI_ge0, nI_gt0, pk_rem, pk_sub, inb_t, gd_y, zl_e, bd_y, isB_n0, isB_n1, n0_eq, n1_eq, if_n0, if_n1, isB_if, not_true_eq_false, not_false_eq_true, ite_true, ite_false, Nat.le_refl, Nat.lt_irrefl, rM_r, rM_k, rM_w, rM_c, rM_2, rd_s, rd_j, rd_k, sI_sI, c1]
  · obtain ⟨k, hk⟩ : ∃ k, σ 0 = k + 1 := ⟨σ 0 - 1, by omega⟩
    obtain ⟨x, p1, p2, p3, p4⟩ := n2_takeOut n w z hk
    have r' : RR x 114 σ := fun j hj => by rw [p3.2 114 (by omega)]; exact r j hj
    have so : ∀ j, j ≠ 0 → (j < 141 ∨ 1761 ≤ j) → a_ou (nu σ 0 k) k 9 j = σ j := fun j h1 h2 => by rw [a_ou_o h2, nu_n h1]
    refine ⟨nI k, x, rM (sI x 113 0 (nI 0)) 114 (a_ou (nu σ 0 k) k 9), ?_, ?_, ?_⟩
    · unfold f_X7_out
      simp (disch := omega) only [n.n, nI_eq0, c1, zl_e, bd_y, if_n0, n0_eq, n1_eq, Bool.false_eq_true, not_true_eq_false, not_false_eq_true, if_true, if_false, Nat.one_ne_zero, rM_rM, p1]
    · unfold f_X8_out
      rw [← th_rM r']
      have e8 := e8_out (μ := sI x 113 0 (nI 0)) (τ := nu σ 0 k) (n := k) (by omega)
      simp (disch := omega) only [zl_e, bd_y, if_n0, n0_eq, n1_eq, Bool.false_eq_true, not_true_eq_false, not_false_eq_true, if_true, if_false, Nat.one_ne_zero, rM_rM, nI_add, pk_mul, nI_clamp, nI_eqE, nI_leE, nI_ltE, nI_eq0, nI_le0, nI_lt0, nI_ge0, nI_gt0, pk_rem, pk_sub, inb_t, gd_y, zl_e, bd_y, isB_n0, isB_n1, n0_eq, n1_eq, if_n0, if_n1, isB_if, not_true_eq_false, not_false_eq_true, ite_true, ite_false, Nat.le_refl, Nat.lt_irrefl, rM_r, rM_k, rM_w, rM_c, rM_2, rd_s, rd_j, rd_k, sI_sI, c1, hk, Nat.add_sub_cancel, nu_s, Nat.add_eq_zero_iff, Nat.one_ne_zero, and_false, if_false]
      exact e8
    · refine I.fin (FS.fb p3) (ou_w (w.up (by rw [bd_0]; omega))) ?_ (by rw [so 1 (by omega) (by omega)]; exact m) p2 (by rw [p4]; exact s) ((l.fb p3 (by omega)).st w.ru (so 3 (by omega) (by omega)) (fun j h1 h2 => so j (by omega) (by omega))) ((g.mem (fun k h1 h2 => p3.2 k (by omega))).st w.lo (so 4 (by omega) (by omega)) (fun j h1 h2 => so j (by omega) (by omega)))
      intro a b s' ha hb hs hc
      rw [a_ou_o (by omega), nu_s] at hc
      rw [a_ou_d ha hb hs]
      split
      · rfl
      · rw [nu_n (by omega)]
        exact z a b s' ha hb hs (by omega)
