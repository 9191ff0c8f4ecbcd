/-! PURE PART: a minute of the class -/
theorem pass_fin {μ : Mem} {b h d k2 : Nat} {x : Int32} {lot : Bool} {σ : St} (w : WF σ) (hm : σ 1 < 5000) (c : NN μ b (a_act lot d σ).1 h d) : ∃ μ', f_X2_pass_69 b k2 x (nI (a_act lot d σ).2) μ = some (nI (a_act lot d σ).2, μ') ∧ NN μ' b (a_go lot d σ) ((h + 1) % 19) d ∧ FB b μ μ' ∧ μ'.1 b 6 = μ.1 b 6 := by
  have hn := w.n
  have wa := a_act_w (lot := lot) (d := d) w
  have h2 := wa.e
  have hc := a_act_c (lot := lot) (d := d) w
  have e1 : (a_act lot d σ).1 1 = σ 1 := a_act_n hn KA1 (by omega)
  have e0 : (a_act lot d σ).1 0 = σ 0 := a_act_n hn KA0 (by omega)
  unfold f_X2_pass_69
  obtain ⟨⟨c0, c1, c2, c3, c4, c5, c6⟩, cA, cH, cR⟩ := c
  rw [e1] at c1
  have r1 : (sI μ b 4 (nI ((h + 1) % 19))).1 b 1 = nI (min (σ 1) 999) := by rw [rd_j (by omega)]; exact c1
  have r2 : ∀ v, (sI (sI μ b 4 (nI ((h + 1) % 19))) b 1 v).1 b 2 = nI ((a_act lot d σ).1 2) := fun v => by rw [rd_j (by omega), rd_j (by omega)]; exact c2
  simp (disch := omega) only [nI_add, pk_mul, nI_clamp, nI_eqE, nI_leE, nI_ltE, nI_eq0, nI_le0, nI_lt0, nI_ge0, nI_gt0, pk_rem, pk_sub, inb_t, gd_y, zl_e, bd_y, isB_n0, isB_n1, n0_eq, n1_eq, if_n0, if_n1, isB_if, not_true_eq_false, not_false_eq_true, ite_true, ite_false, Nat.le_refl, Nat.lt_irrefl, c4, r1, r2]
  refine ⟨_, rfl, ⟨?_, ?_, ?_, ?_⟩, ((FB.w (by omega) (by omega)).t (FB.w (by omega) (by omega))).t (FB.w (by omega) (by omega)), by rw [rd_j (by omega), rd_j (by omega), rd_j (by omega)]⟩
  · refine ⟨?_, ?_, ?_, ?_, ?_, Nat.mod_lt _ (by decide), ?_⟩
    · rw [rd_j (by omega), rd_j (by omega), rd_j (by omega), c0, a_go_a (by omega) (by omega)]
    · rw [rd_j (by omega), rd_s, a_go_1 hn]
      by_cases q : 999 < min (σ 1) 999 + 1
      · rw [if_pos q, show min (σ 1 + 1) 999 = 999 by omega]
      · rw [if_neg q, show min (σ 1 + 1) 999 = min (σ 1) 999 + 1 by omega]
    · rw [rd_s]
      unfold a_go
      rw [nu_n (by omega), nu_s]
      by_cases q : 999999 < (a_act lot d σ).1 2 + (a_act lot d σ).2
      · rw [if_pos q, if_neg (by omega)]
      · rw [if_neg q, if_pos (by omega)]
    · rw [rd_j (by omega), rd_j (by omega), rd_j (by omega), c3, a_go_a (by omega) (by omega)]
    · rw [rd_j (by omega), rd_j (by omega), rd_s]
    · rw [rd_j (by omega), rd_j (by omega), rd_j (by omega)]; exact c6
  · exact (cA.mem (by rw [e0]; exact hn) (fun k h1 h2 => by rw [rd_k (by omega), rd_k (by omega), rd_k (by omega)])).st (by rw [e0]; exact hn) (fun j hj => a_go_a (by omega) (by omega))
  · exact (cH.mem (fun k h1 h2 => by rw [rd_k (by omega), rd_k (by omega), rd_k (by omega)])).st (by rw [e0]; exact hn) (a_go_a (by omega) (by omega)) (fun r hr => a_go_a (by omega) (by omega)) (fun j h1 h2 => a_go_a (by omega) (by omega))
  · intro q s t f hq hs ht
    have old := cR q ((s + 1) % 19) t f hq (Nat.mod_lt _ (by decide)) ht
    rw [rd_k (by omega), rd_k (by omega), rd_k (by omega), a_go_1 hn, show ((h + 1) % 19 + s) % 19 = (h + (s + 1) % 19) % 19 by omega, old, e1, show (σ 1 + (s + 1) % 19) % 19 = (σ 1 + 1 + s) % 19 by omega]
    by_cases hf : f < 9
    · rw [a_go_a (by omega) (by omega)]
    · simp [hf]
theorem n2_pass {μ : Mem} {b h d k2 : Nat} {lot : Bool} {σ : St} (c : NN μ b σ h d) (w : WF σ) (z : ZR σ) (hm : σ 1 < 5000) (cl : NL μ k2 σ) (hk2 : k2 + 5 ≤ b ∨ b + 22 ≤ k2) : ∃ μ', f_X2_pass b k2 (nI (if lot = true then 1 else 0)) μ = some (nI (a_act lot d σ).2, μ') ∧ NN μ' b (a_go lot d σ) ((h + 1) % 19) d ∧ FB b μ μ' ∧ (μ'.1 b 6 = nI 1 ∨ (μ'.1 b 6 = nI 0 ∧ (∀ r, r < σ 0 → a_out d (a_hr d σ) r = false → ∀ j, j < σ 3 → RQ (a_hr d σ) r j) ∧ a_act lot d σ = (a_hr d σ, 0))) := by
  have hn := w.n
  have H0 : a_hr d σ 0 = σ 0 := a_hr_o (by omega)
  have H3 : a_hr d σ 3 = σ 3 := a_hr_o (by omega)
  have wH := a_hr_w (d := d) w
  unfold f_X2_pass
  rw [zl_e]
  -- the acts
  have acts : ∀ μ1 : Mem, NN μ1 b (a_hr d σ) h d → FB b μ μ1 → μ1.1 b 6 = nI 0 → ∃ ρ : Int32 × Mem, f_X2_pass_31 b k2 (nI (if lot = true then 1 else 0)) (nI 0) μ1 = some ρ ∧ (ρ.1 = nI (a_act lot d σ).2 ∧ NN ρ.2 b (a_go lot d σ) ((h + 1) % 19) d ∧ FB b μ ρ.2 ∧ (ρ.2.1 b 6 = nI 1 ∨ (ρ.2.1 b 6 = nI 0 ∧ (∀ r, r < σ 0 → a_out d (a_hr d σ) r = false → ∀ j, j < σ 3 → RQ (a_hr d σ) r j) ∧ a_act lot d σ = (a_hr d σ, 0)))) := by
    intro μ1 c1 f1 s1
    unfold f_X2_pass_31
    refine lp_rel (fun n i (x : Int32 × Mem) => f_X2_pass_34 b k2 (nI (if lot = true then 1 else 0)) (fun x3 μ => f_X2_pass_69 b k2 (nI (if lot = true then 1 else 0)) x3 μ) n x.1 (nI i) x.2) (fun i x => x.1 = nI (a_gR lot d (a_hr d σ, 0) i).2 ∧ NN x.2 b (a_gR lot d (a_hr d σ, 0) i).1 h d ∧ FB b μ x.2 ∧ (x.2.1 b 6 = nI 1 ∨ (x.2.1 b 6 = nI 0 ∧ (∀ r, r < i → a_out d (a_hr d σ) r = false → ∀ j, j < σ 3 → RQ (a_hr d σ) r j) ∧ a_gR lot d (a_hr d σ, 0) i = (a_hr d σ, 0)))) (σ 0) _ ?_ ?_ zfu 0 (nI 0, μ1) (by omega) (by unfold zfu; omega) ⟨rfl, c1, f1, Or.inr ⟨s1, fun r hr => absurd hr (by omega), rfl⟩⟩
    · intro n x ⟨g1, g2, g3, g4⟩
      obtain ⟨x1, x2⟩ := x
      simp only at *
      subst g1
      have e0 : (a_gR lot d (a_hr d σ, 0) (σ 0)).1 0 = σ 0 := (a_gR_n (s := (a_hr d σ, 0)) (by simpa only [H0] using hn) hn KA0).trans H0
      have gn := g2.n
      rw [e0] at gn
      obtain ⟨μ2, q1, q2, q3, q4⟩ := pass_fin (k2 := k2) (x := nI (if lot = true then 1 else 0)) w hm g2
      refine ⟨(nI (a_act lot d σ).2, μ2), ?_, rfl, q2, g3.t q3, ?_⟩
      · simp (disch := omega) only [f_X2_pass_34, nI_add, pk_mul, nI_clamp, nI_eqE, nI_leE, nI_ltE, nI_eq0, nI_le0, nI_lt0, nI_ge0, nI_gt0, pk_rem, pk_sub, inb_t, gd_y, zl_e, bd_y, isB_n0, isB_n1, n0_eq, n1_eq, if_n0, if_n1, isB_if, not_true_eq_false, not_false_eq_true, ite_true, ite_false, Nat.le_refl, Nat.lt_irrefl, gn]
        exact q1
      · rw [q4]
        exact g4
    · intro n i x hi ⟨g1, g2, g3, g4⟩
      left
      obtain ⟨x1, x2⟩ := x
      simp only at *
      subst g1
      have e0 : (a_gR lot d (a_hr d σ, 0) i).1 0 = σ 0 := (a_gR_n (s := (a_hr d σ, 0)) (by simpa only [H0] using hn) (by omega) KA0).trans H0
      have wi : WF (a_gR lot d (a_hr d σ, 0) i).1 := a_gR_w (s := (a_hr d σ, 0)) wH (by omega)
      have l3 : ∀ j, KA j → (j < 141 ∨ 1761 ≤ j) → (a_gR lot d (a_hr d σ, 0) i).1 j = σ j := fun j h1 h2 => (a_gR_n (s := (a_hr d σ, 0)) (by simpa only [H0] using hn) (by omega) h1).trans (a_hr_o h2)
      have cli : NL x2 k2 (a_gR lot d (a_hr d σ, 0) i).1 := (cl.fb g3 hk2).st w.ru (l3 3 KA3 (by omega)) (fun j h1 h2 => l3 j (by unfold KA; omega) (by omega))
      have i3 : (a_gR lot d (a_hr d σ, 0) i).1 3 = σ 3 := l3 3 KA3 (by omega)
      have un : a_gR lot d (a_hr d σ, 0) (i + 1) = a_g1 lot d i (a_gR lot d (a_hr d σ, 0) i) := rfl
      rw [un]
      have gn := g2.n
      rw [e0] at gn
      have dk := n2_isDark (r := i) g2 wi (by rw [e0]; exact hi)
      have qe : ¬ σ 0 ≤ i := by omega
      generalize a_gR lot d (a_hr d σ, 0) i = t at *
      unfold a_g1
      by_cases o : a_out d t.1 i = true
      · refine ⟨(nI t.2, x2), ⟨by rw [if_pos o], by rw [if_pos o]; exact g2, g3, ?_⟩, ?_⟩
        · rcases g4 with g4 | ⟨g4, g5, g6⟩
          · exact Or.inl g4
          · refine Or.inr ⟨g4, fun r hr => ?_, by rw [if_pos o]; exact g6⟩
            by_cases er : r < i
            · exact g5 r er
            · have : r = i := by omega
              subst this
              intro oo
              rw [g6] at o
              exact absurd (o.symm.trans oo) (by simp)
        · simp (disch := omega) only [f_X2_pass_34, f_X2_pass_63, nI_add, pk_mul, nI_clamp, nI_eqE, nI_leE, nI_ltE, nI_eq0, nI_le0, nI_lt0, nI_ge0, nI_gt0, pk_rem, pk_sub, inb_t, gd_y, zl_e, bd_y, isB_n0, isB_n1, n0_eq, n1_eq, if_n0, if_n1, isB_if, not_true_eq_false, not_false_eq_true, ite_true, ite_false, Nat.le_refl, Nat.lt_irrefl, gn, qe, dk, o, Nat.one_ne_zero]
      · obtain ⟨v, μ2, q1, q2, q3, q4, q5⟩ := n2_act (lot := lot) g2 wi (by rw [e0]; exact hi) cli hk2
        refine ⟨(nI (t.2 + v), μ2), ⟨by rw [if_neg o, q3], by rw [if_neg o]; exact q2, g3.t q4, ?_⟩, ?_⟩
        · rcases q5 with q5 | ⟨q5, q6, q7⟩
          · exact Or.inl q5
          · rcases g4 with g4 | ⟨g4, g5, g6⟩
            · exact Or.inl (by rw [q5]; exact g4)
            · refine Or.inr ⟨by rw [q5]; exact g4, fun r hr oo j hj => ?_, by rw [if_neg o, q7]; exact g6⟩
              by_cases er : r < i
              · exact g5 r er oo j hj
              · have : r = i := by omega
                subst this
                have := q6 j (by rw [i3]; exact hj)
                rw [g6] at this
                exact this
        · simp (disch := omega) only [f_X2_pass_34, f_X2_pass_63, nI_add, pk_mul, nI_clamp, nI_eqE, nI_leE, nI_ltE, nI_eq0, nI_le0, nI_lt0, nI_ge0, nI_gt0, pk_rem, pk_sub, inb_t, gd_y, zl_e, bd_y, isB_n0, isB_n1, n0_eq, n1_eq, if_n0, if_n1, isB_if, not_true_eq_false, not_false_eq_true, ite_true, ite_false, Nat.le_refl, Nat.lt_irrefl, gn, qe, dk, o, q1, Bool.false_eq_true]
  -- the ears
  have L := lp_rel (fun n i (x : Mem) => f_X2_pass_10 b k2 (nI (if lot = true then 1 else 0)) (fun x3 μ => f_X2_pass_31 b k2 (nI (if lot = true then 1 else 0)) x3 μ) n (nI 0) (nI i) x) (fun i x => NN x b (a_hX d σ (fun f t' => decide (f < σ 0) && decide (t' < i))) h d ∧ FB b μ x ∧ x.1 b 6 = nI 0) (σ 0) (fun ρ : Int32 × Mem => ρ.1 = nI (a_act lot d σ).2 ∧ NN ρ.2 b (a_go lot d σ) ((h + 1) % 19) d ∧ FB b μ ρ.2 ∧ (ρ.2.1 b 6 = nI 1 ∨ (ρ.2.1 b 6 = nI 0 ∧ (∀ r, r < σ 0 → a_out d (a_hr d σ) r = false → ∀ j, j < σ 3 → RQ (a_hr d σ) r j) ∧ a_act lot d σ = (a_hr d σ, 0)))) ?_ ?_ zfu 0 (sI μ b 6 (nI 0)) (by omega) (by unfold zfu; omega) ?_
  · obtain ⟨ρ, q1, q2, q3, q4, q5⟩ := L
    refine ⟨ρ.2, ?_, q3, q4, q5⟩
    rw [← q2]
    exact q1
  · intro n x ⟨g1, g2, g3⟩
    have gn := g1.n
    rw [show a_hX d σ (fun f t' => decide (f < σ 0) && decide (t' < σ 0)) 0 = σ 0 from a_hX_o (by omega)] at gn
    obtain ⟨ρ, q1, q2⟩ := acts x g1 g2 g3
    refine ⟨ρ, ?_, q2⟩
    simp (disch := omega) only [f_X2_pass_10, nI_add, pk_mul, nI_clamp, nI_eqE, nI_leE, nI_ltE, nI_eq0, nI_le0, nI_lt0, nI_ge0, nI_gt0, pk_rem, pk_sub, inb_t, gd_y, zl_e, bd_y, isB_n0, isB_n1, n0_eq, n1_eq, if_n0, if_n1, isB_if, not_true_eq_false, not_false_eq_true, ite_true, ite_false, Nat.le_refl, Nat.lt_irrefl, gn]
    exact q1
  · intro n i x hi ⟨g1, g2, g3⟩
    left
    have gn := g1.n
    rw [show a_hX d σ (fun f t' => decide (f < σ 0) && decide (t' < i)) 0 = σ 0 from a_hX_o (by omega)] at gn
    obtain ⟨μ2, q1, q2, q3, q4⟩ := n2_hear w z hi g1
    have qe : ¬ σ 0 ≤ i := by omega
    refine ⟨μ2, ⟨q2, g2.t q3, by rw [q4]; exact g3⟩, ?_⟩
    simp (disch := omega) only [f_X2_pass_10, nI_add, pk_mul, nI_clamp, nI_eqE, nI_leE, nI_ltE, nI_eq0, nI_le0, nI_lt0, nI_ge0, nI_gt0, pk_rem, pk_sub, inb_t, gd_y, zl_e, bd_y, isB_n0, isB_n1, n0_eq, n1_eq, if_n0, if_n1, isB_if, not_true_eq_false, not_false_eq_true, ite_true, ite_false, Nat.le_refl, Nat.lt_irrefl, gn, qe, q1]
  · have q : a_hX d σ (fun f t' => decide (f < σ 0) && decide (t' < 0)) = σ := a_hX_0 (fun f t _ _ => by simp)
    exact ⟨by simp only [q]; exact c.stir hn, FB.w (by omega) (by omega), rd_s⟩
