/-! PURE PART: what is on its way; when nothing more can happen -/
theorem ring_hi {μ : Mem} {b h : Nat} {σ : St} (c : NR μ b σ h) {q p f : Nat} (hq : q < 2) (hh : h < 19) (hp : p < 171) (hf : 9 ≤ f) : bt (μ.1 (b + 20 + q) p) f = false := by
  have e := c q ((p / 9 + 19 - h) % 19) (p % 9) f hq (Nat.mod_lt _ (by decide)) (Nat.mod_lt _ (by decide))
  rw [show (h + (p / 9 + 19 - h) % 19) % 19 * 9 + p % 9 = p by omega] at e
  rw [e]
  simp [show ¬ f < 9 by omega]
theorem n2_allWaiting {μ : Mem} {b h d : Nat} {σ : St} (cn : NN μ b σ h d) : f_X2_allWaiting b μ = some (nI (sm (fun p => pc (bt (μ.1 (b + 20 + 0) p)) 9 + pc (bt (μ.1 (b + 20 + 1) p)) 9) 171), μ) := by
  have hh := cn.1.2.2.2.2.2.1
  unfold f_X2_allWaiting
  refine lp_eq (fun n i => f_X2_allWaiting_4 b n (nI (sm (fun p => pc (bt (μ.1 (b + 20 + 0) p)) 9 + pc (bt (μ.1 (b + 20 + 1) p)) 9) i)) (nI i) μ) 171 _ ?_ ?_ zfu 0 (by omega) (by unfold zfu; omega)
  · intro n
    simp (disch := omega) only [f_X2_allWaiting_4, nI_add, pk_mul, nI_clamp, nI_eqE, nI_leE, nI_ltE, nI_eq0, nI_le0, nI_lt0, nI_ge0, nI_gt0, pk_rem, pk_sub, inb_t, gd_y, zl_e, bd_y, isB_n0, isB_n1, n0_eq, n1_eq, if_n0, if_n1, isB_if, not_true_eq_false, not_false_eq_true, ite_true, ite_false, Nat.le_refl, Nat.lt_irrefl]
  · intro n i hi
    have qe : ¬ 171 ≤ i := by omega
    have b0 := bc_e (x := μ.1 (b + 20 + 0) i) (μ := μ) (fun f h1 h2 => ring_hi cn.2.2.2 (by omega) hh hi h1)
    have b1 := bc_e (x := μ.1 (b + 20 + 1) i) (μ := μ) (fun f h1 h2 => ring_hi cn.2.2.2 (by omega) hh hi h1)
    have un : sm (fun p => pc (bt (μ.1 (b + 20 + 0) p)) 9 + pc (bt (μ.1 (b + 20 + 1) p)) 9) (i + 1) = sm (fun p => pc (bt (μ.1 (b + 20 + 0) p)) 9 + pc (bt (μ.1 (b + 20 + 1) p)) 9) i + (pc (bt (μ.1 (b + 20 + 0) i)) 9 + pc (bt (μ.1 (b + 20 + 1) i)) 9) := rfl
    rw [un]
    simp (disch := omega) only [f_X2_allWaiting_4, nI_add, pk_mul, nI_clamp, nI_eqE, nI_leE, nI_ltE, nI_eq0, nI_le0, nI_lt0, nI_ge0, nI_gt0, pk_rem, pk_sub, inb_t, gd_y, zl_e, bd_y, isB_n0, isB_n1, n0_eq, n1_eq, if_n0, if_n1, isB_if, not_true_eq_false, not_false_eq_true, ite_true, ite_false, Nat.le_refl, Nat.lt_irrefl, qe, b0, b1]
theorem ring_sum {μ : Mem} {b h s t : Nat} {σ : St} (c : NR μ b σ h) (w : WF σ) (hs : s < 19) (ht : t < 9) : pc (bt (μ.1 (b + 20 + 0) ((h + s) % 19 * 9 + t))) 9 + pc (bt (μ.1 (b + 20 + 1) ((h + s) % 19 * 9 + t))) 9 = sm (fun f => if 0 < σ (222 + 19 * (9 * f + t) + (σ 1 + s) % 19) then 1 else 0) 9 := by
  rw [pc_sm, pc_sm, ← sm_add]
  apply sm_cg
  intro f hf
  rw [c 0 s t f (by omega) hs ht, c 1 s t f (by omega) hs ht]
  have hd := w.du hf ht (Nat.mod_lt (σ 1 + s) (show 19 > 0 by decide))
  rcases (show σ (222 + 19 * (9 * f + t) + (σ 1 + s) % 19) = 0 ∨ σ (222 + 19 * (9 * f + t) + (σ 1 + s) % 19) = 1 ∨ σ (222 + 19 * (9 * f + t) + (σ 1 + s) % 19) = 2 by omega) with e | e | e <;> simp [e, hf]
def a_wt (σ : St) : Nat := sm (fun j => if 0 < σ (222 + j) then 1 else 0) 1539
theorem wait_sum {μ : Mem} {b h : Nat} {σ : St} (c : NR μ b σ h) (hh : h < 19) (w : WF σ) : sm (fun p => pc (bt (μ.1 (b + 20 + 0) p)) 9 + pc (bt (μ.1 (b + 20 + 1) p)) 9) 171 = a_wt σ := by
  have e1 : sm (fun p => pc (bt (μ.1 (b + 20 + 0) p)) 9 + pc (bt (μ.1 (b + 20 + 1) p)) 9) 171 = sm (fun s => sm (fun t => pc (bt (μ.1 (b + 20 + 0) (s * 9 + t))) 9 + pc (bt (μ.1 (b + 20 + 1) (s * 9 + t))) 9) 9) 19 := sm_mul (g := fun p => pc (bt (μ.1 (b + 20 + 0) p)) 9 + pc (bt (μ.1 (b + 20 + 1) p)) 9) (n := 19) (m := 9)
  rw [e1, ← sm_rot h]
  have e2 : sm (fun s => sm (fun t => pc (bt (μ.1 (b + 20 + 0) ((s + h) % 19 * 9 + t))) 9 + pc (bt (μ.1 (b + 20 + 1) ((s + h) % 19 * 9 + t))) 9) 9) 19 = sm (fun s => sm (fun t => sm (fun f => if 0 < σ (222 + 19 * (9 * f + t) + (s + σ 1) % 19) then 1 else 0) 9) 9) 19 := by
    apply sm_cg
    intro s hs
    apply sm_cg
    intro t ht
    rw [Nat.add_comm s h, ring_sum c w hs ht, Nat.add_comm (σ 1) s]
  rw [e2, sm_rot (g := fun s => sm (fun t => sm (fun f => if 0 < σ (222 + 19 * (9 * f + t) + s) then 1 else 0) 9) 9) (σ 1), sm_swap]
  have e3 : sm (fun t => sm (fun s => sm (fun f => if 0 < σ (222 + 19 * (9 * f + t) + s) then 1 else 0) 9) 19) 9 = sm (fun t => sm (fun f => sm (fun s => if 0 < σ (222 + 19 * (9 * f + t) + s) then 1 else 0) 19) 9) 9 := sm_cg (fun t ht => sm_swap)
  rw [e3, sm_swap]
  unfold a_wt
  have e4 : sm (fun j => if 0 < σ (222 + j) then 1 else 0) 1539 = sm (fun p => sm (fun s => if 0 < σ (222 + (p * 19 + s)) then 1 else 0) 19) 81 := sm_mul (g := fun j => if 0 < σ (222 + j) then 1 else 0) (n := 81) (m := 19)
  have e5 : sm (fun p => sm (fun s => if 0 < σ (222 + (p * 19 + s)) then 1 else 0) 19) 81 = sm (fun f => sm (fun t => sm (fun s => if 0 < σ (222 + ((f * 9 + t) * 19 + s)) then 1 else 0) 19) 9) 9 := sm_mul (g := fun p => sm (fun s => if 0 < σ (222 + (p * 19 + s)) then 1 else 0) 19) (n := 9) (m := 9)
  rw [e4, e5]
  apply sm_cg
  intro f hf
  apply sm_cg
  intro t ht
  apply sm_cg
  intro s hs
  rw [show 222 + 19 * (9 * f + t) + s = 222 + ((f * 9 + t) * 19 + s) by omega]
theorem a_wt_le {σ : St} : a_wt σ ≤ 1539 := by
  have := sm_le (g := fun j => if 0 < σ (222 + j) then 1 else 0) (n := 1539) (m := 1) (fun i _ => by split <;> omega)
  unfold a_wt
  omega
theorem a_wt_0 {σ : St} (h : a_wt σ = 0) {j : Nat} (h1 : 222 ≤ j) (h2 : j < 1761) : σ j = 0 := by
  have := sm_0 h (i := j - 222) (by omega)
  rw [show 222 + (j - 222) = j by omega] at this
  split at this <;> omega
theorem e8_dueMany {μ : Mem} {σ : St} (w : WF σ) : f_X8_dueMany (rM μ 114 σ) = some (nI (a_wt σ), rM μ 114 σ) := by
  unfold f_X8_dueMany a_wt
  refine lp_eq (fun n i => f_X8_dueMany_6 n (nI (sm (fun j => if 0 < σ (222 + j) then 1 else 0) i)) (nI (222 + i)) (rM μ 114 σ)) 1539 _ ?_ ?_ zfu 0 (by omega) (by unfold zfu; omega)
  · intro n
    simp (disch := omega) only [f_X8_dueMany_6, nI_add, pk_mul, nI_clamp, nI_eqE, nI_leE, nI_ltE, nI_eq0, nI_le0, nI_lt0, nI_ge0, nI_gt0, pk_rem, pk_sub, inb_t, gd_y, zl_e, bd_y, isB_n0, isB_n1, n0_eq, n1_eq, if_n0, if_n1, isB_if, not_true_eq_false, not_false_eq_true, ite_true, ite_false, Nat.le_refl, Nat.lt_irrefl]
  · intro n i hi
    have qe : ¬ 1761 ≤ 222 + i := by omega
    have hb : σ (222 + i) ≤ 2 := by have := w (222 + i) (by omega); rw [bd_h (by omega) (by omega)] at this; exact this
    have un : sm (fun j => if 0 < σ (222 + j) then 1 else 0) (i + 1) = sm (fun j => if 0 < σ (222 + j) then 1 else 0) i + (if 0 < σ (222 + i) then 1 else 0) := rfl
    rw [un]
    simp (disch := omega) only [f_X8_dueMany_6, f_X8_dueMany_28, nI_add, pk_mul, nI_clamp, nI_eqE, nI_leE, nI_ltE, nI_eq0, nI_le0, nI_lt0, nI_ge0, nI_gt0, pk_rem, pk_sub, inb_t, gd_y, zl_e, bd_y, isB_n0, isB_n1, n0_eq, n1_eq, if_n0, if_n1, isB_if, not_true_eq_false, not_false_eq_true, ite_true, ite_false, Nat.le_refl, Nat.lt_irrefl, rM_r, rM_k, rM_w, rM_c, rM_2, rd_s, rd_j, rd_k, sI_sI, qe, Nat.add_assoc]
    by_cases e : σ (222 + i) = 0
    · rw [if_pos e, if_neg (by omega)]
    · rw [if_neg e, if_pos (by omega)]
/-- a still night: nothing was stirred, nobody will be dark, nothing is on its way -/
theorem n2_isStill {μ : Mem} {b h d : Nat} {σ : St} (cn : NN μ b σ h d) (w : WF σ) : ∃ v, f_X2_isStill b μ = some (v, μ) ∧ (v = nI 0 ∨ (v = nI 1 ∧ μ.1 b 6 = 0 ∧ (∀ r, r < σ 0 → σ (6 + 6 * r + 5) ≤ σ (6 + 6 * r + 4) ∨ σ (6 + 6 * r + 5) < min (σ 1) 999) ∧ a_wt σ = 0)) := by
  have hn := w.n
  have hm := w.m
  unfold f_X2_isStill
  by_cases s0 : μ.1 b 6 = 0
  · rw [if_pos s0]
    have L := lp_rel (fun n i (_ : Unit) => f_X2_isStill_11 b (fun μ => f_X2_isStill_55 b μ) n (nI i) μ) (fun i _ => ∀ r, r < i → σ (6 + 6 * r + 5) ≤ σ (6 + 6 * r + 4) ∨ σ (6 + 6 * r + 5) < min (σ 1) 999) (σ 0) (fun ρ : Int32 × Mem => ρ.2 = μ ∧ (ρ.1 = nI 0 ∨ (ρ.1 = nI 1 ∧ (∀ r, r < σ 0 → σ (6 + 6 * r + 5) ≤ σ (6 + 6 * r + 4) ∨ σ (6 + 6 * r + 5) < min (σ 1) 999) ∧ a_wt σ = 0))) ?_ ?_ zfu 0 () (by omega) (by unfold zfu; omega) (fun r hr => absurd hr (by omega))
    · obtain ⟨ρ, g1, g2, g3⟩ := L
      refine ⟨ρ.1, by rw [g1, ← g2], ?_⟩
      rcases g3 with g3 | ⟨g3, g4, g5⟩
      · exact Or.inl g3
      · exact Or.inr ⟨g3, s0, g4, g5⟩
    · intro n _ g
      have wl := a_wt_le (σ := σ)
      have aw := n2_allWaiting cn
      rw [wait_sum cn.2.2.2 cn.1.2.2.2.2.2.1 w] at aw
      by_cases e : a_wt σ = 0
      · refine ⟨(nI 1, μ), ?_, rfl, Or.inr ⟨rfl, g, e⟩⟩
        simp (disch := omega) only [f_X2_isStill_11, f_X2_isStill_55, nI_add, pk_mul, nI_clamp, nI_eqE, nI_leE, nI_ltE, nI_eq0, nI_le0, nI_lt0, nI_ge0, nI_gt0, pk_rem, pk_sub, inb_t, gd_y, zl_e, bd_y, isB_n0, isB_n1, n0_eq, n1_eq, if_n0, if_n1, isB_if, not_true_eq_false, not_false_eq_true, ite_true, ite_false, Nat.le_refl, Nat.lt_irrefl, cn.n, aw, e]
      · refine ⟨(nI 0, μ), ?_, rfl, Or.inl rfl⟩
        simp (disch := omega) only [f_X2_isStill_11, f_X2_isStill_55, nI_add, pk_mul, nI_clamp, nI_eqE, nI_leE, nI_ltE, nI_eq0, nI_le0, nI_lt0, nI_ge0, nI_gt0, pk_rem, pk_sub, inb_t, gd_y, zl_e, bd_y, isB_n0, isB_n1, n0_eq, n1_eq, if_n0, if_n1, isB_if, not_true_eq_false, not_false_eq_true, ite_true, ite_false, Nat.le_refl, Nat.lt_irrefl, cn.n, aw, e]
    · intro n i _ hi g
      have qe : ¬ σ 0 ≤ i := by omega
      have hf := w.f (show i < 9 by omega)
      have hu := w.u (show i < 9 by omega)
      have r4 := cn.2.1.2.2.2.1 i hi
      have r5 := cn.2.1.2.2.2.2.1 i hi
      have r1 := cn.1.2.1
      simp (disch := omega) only [f_X2_isStill_11, f_X2_isStill_49, nI_add, pk_mul, nI_clamp, nI_eqE, nI_leE, nI_ltE, nI_eq0, nI_le0, nI_lt0, nI_ge0, nI_gt0, pk_rem, pk_sub, inb_t, gd_y, zl_e, bd_y, isB_n0, isB_n1, n0_eq, n1_eq, if_n0, if_n1, isB_if, not_true_eq_false, not_false_eq_true, ite_true, ite_false, Nat.le_refl, Nat.lt_irrefl, cn.n, qe, r4, r5, r1]
      by_cases e1 : σ (6 + 6 * i + 5) ≤ σ (6 + 6 * i + 4)
      · left
        refine ⟨(), fun r hr => ?_, by rw [if_pos e1]⟩
        by_cases e : r < i
        · exact g r e
        · rw [show r = i by omega]; exact Or.inl e1
      · by_cases e2 : σ (6 + 6 * i + 5) < min (σ 1) 999
        · left
          refine ⟨(), fun r hr => ?_, by rw [if_neg e1, if_pos e2]⟩
          by_cases e : r < i
          · exact g r e
          · rw [show r = i by omega]; exact Or.inr e2
        · right
          exact ⟨(nI 0, μ), by rw [if_neg e1, if_neg e2], rfl, Or.inl rfl⟩
  · rw [if_neg s0]
    exact ⟨nI 0, rfl, Or.inl rfl⟩
/-! a quiet night stays as it is -/
def a_it (d : Nat) (σ : St) : Nat → St
  | 0 => σ
  | m + 1 => a_go false d (a_it d σ m)
theorem a_it_s {d : Nat} {σ : St} (m : Nat) : a_it d σ (m + 1) = a_it d (a_go false d σ) m := by
  induction m with
  | zero => rfl
  | succ m ih => show a_go false d (a_it d σ (m + 1)) = a_go false d (a_it d (a_go false d σ) m); rw [ih]
theorem a_hr_still {d : Nat} {σ : St} (h : a_wt σ = 0) : a_hr d σ = σ := by
  unfold a_hr
  apply a_hX_ext
  · intro j _; rfl
  · intro f t hf ht
    rw [if_neg]
    intro ⟨_, q, _⟩
    rw [a_wt_0 h (by omega) (by omega)] at q
    omega
  · intro f t s hf ht hs
    rw [a_wt_0 h (by omega) (by omega)]
    simp
theorem a_gR_q {d : Nat} {σ : St} (q : ∀ r, r < σ 0 → a_out d σ r = false → ∀ j, j < σ 3 → RQ σ r j) : ∀ r, r ≤ σ 0 → a_gR false d (σ, 0) r = (σ, 0) := by
  intro r
  induction r with
  | zero => intro _; rfl
  | succ r ih =>
    intro hr
    show a_g1 false d r (a_gR false d (σ, 0) r) = _
    rw [ih (by omega)]
    unfold a_g1
    split
    · rfl
    · rename_i o
      have o' : a_out d σ r = false := by simpa using o
      have : ∀ i, i ≤ σ 3 → a_aI false r (σ, 0) i = (σ, 0) := by
        intro i
        induction i with
        | zero => intro _; rfl
        | succ i ih2 =>
          intro hi
          show a_r1 false r i (a_aI false r (σ, 0) i) = _
          rw [ih2 (by omega)]
          exact RQ_e (q r (by omega) o' i (by omega))
      exact this _ (Nat.le_refl _)
theorem quiet1 {d : Nat} {σ : St} (w : WF σ) (wt : a_wt σ = 0) (q : ∀ r, r < σ 0 → a_out d σ r = false → ∀ j, j < σ 3 → RQ σ r j) : a_go false d σ = nu σ 1 (σ 1 + 1) := by
  have e : a_act false d σ = (σ, 0) := by
    unfold a_act
    rw [a_hr_still wt]
    exact a_gR_q q _ (Nat.le_refl _)
  unfold a_go
  rw [e]
  show nu (nu σ 2 (if σ 2 + 0 ≤ 999999 then σ 2 + 0 else 999999)) 1 (σ 1 + 1) = _
  have := w.e
  rw [if_pos (by omega), nu_id (show σ 2 = σ 2 + 0 by omega)]
/-- from a still night on: the minute alone goes on -/
theorem quiet {d : Nat} {σ : St} (w : WF σ) (hm : σ 1 < 4000) (act : a_act false d σ = (a_hr d σ, 0)) (q : ∀ r, r < σ 0 → a_out d (a_hr d σ) r = false → ∀ j, j < σ 3 → RQ (a_hr d σ) r j) (nd : ∀ r, r < σ 0 → σ (6 + 6 * r + 5) ≤ σ (6 + 6 * r + 4) ∨ σ (6 + 6 * r + 5) < min (σ 1 + 1) 999) (wt : a_wt (a_go false d σ) = 0) : ∀ m, m ≤ 900 → a_it d (a_go false d σ) m = nu (a_go false d σ) 1 (σ 1 + 1 + m) := by
  have hn := w.n
  have G : a_go false d σ = nu (a_hr d σ) 1 (σ 1 + 1) := by
    unfold a_go
    rw [act]
    have := w.e
    have e2 : a_hr d σ 2 = σ 2 := a_hr_o (by omega)
    have e1 : a_hr d σ 1 = σ 1 := a_hr_o (by omega)
    show nu (nu (a_hr d σ) 2 (if a_hr d σ 2 + 0 ≤ 999999 then a_hr d σ 2 + 0 else 999999)) 1 (a_hr d σ 1 + 1) = _
    rw [e1, e2, if_pos (by omega), nu_id (show a_hr d σ 2 = σ 2 + 0 by omega)]
  intro m
  induction m with
  | zero =>
    intro _
    show a_go false d σ = _
    rw [nu_id]
    rw [a_go_1 hn]
  | succ m ih =>
    intro hm9
    show a_go false d (a_it d (a_go false d σ) m) = _
    rw [ih (by omega)]
    have wG : WF (a_go false d σ) := a_go_w w (by omega)
    have e0 : nu (a_go false d σ) 1 (σ 1 + 1 + m) 0 = σ 0 := by rw [nu_n (by omega), a_go_0 hn]
    have e3 : nu (a_go false d σ) 1 (σ 1 + 1 + m) 3 = σ 3 := by rw [nu_n (by omega), a_go_n hn (by omega) (by omega) KA3 (by omega)]
    rw [quiet1 (wG.up (by rw [bd_1]; omega)), nu_s, nu_nu]
    · rfl
    · rw [← wt]
      unfold a_wt
      apply sm_cg
      intro j hj
      rw [nu_n (by omega)]
    · intro r hr o j hj
      rw [e0] at hr
      rw [e3] at hj
      refine RQ_st (σ := a_hr d σ) (by rw [a_hr_o (by omega)]; exact hn) ?_ (q r hr ?_ j hj)
      · intro i hi
        rw [nu_n hi, G, nu_n hi]
      · unfold a_out at o ⊢
        rw [Bool.or_eq_false_iff] at o ⊢
        refine ⟨o.1, ?_⟩
        unfold a_dk
        rw [a_hr_o (by omega), a_hr_o (by omega), a_hr_o (by omega)]
        have := nd r hr
        rw [Bool.and_eq_false_iff, decide_eq_false_iff_not, decide_eq_false_iff_not]
        omega
