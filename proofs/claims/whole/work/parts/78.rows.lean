/-! PURE PART: rows of sheets: film, delays, seen, copy -/
def a_fl (σ : St) (o i : Nat) (g : Nat → Int64) : Nat → Int64 := fun j => if o ≤ j ∧ j < o + i then (nI (σ (6 + 6 * (j - o) + 2))).toInt64 else g j
theorem a_fl_0 {σ : St} {o : Nat} {g : Nat → Int64} : a_fl σ o 0 g = g := by
  funext j
  unfold a_fl
  rw [if_neg (by omega)]
theorem a_fl_s {σ : St} {o i : Nat} {g : Nat → Int64} : vp_updL (a_fl σ o i g) (o + i) (nI (σ (6 + 6 * i + 2))).toInt64 = a_fl σ o (i + 1) g := by
  funext j
  unfold vp_updL a_fl
  by_cases e1 : j = o + i
  · rw [if_pos e1, if_pos (by omega), show j - o = i by omega]
  · rw [if_neg e1]
    by_cases e2 : o ≤ j ∧ j < o + i
    · rw [if_pos e2, if_pos (by omega)]
    · rw [if_neg e2, if_neg (by omega)]
theorem bad_row {a1 a2 a3 a4 : Int32} {μ : Mem} (h : ¬ (bw a1 0 3 = true ∧ bw a2 0 3 = true)) : f_X7_refusalOfRow a1 a2 a3 a4 μ = some (-1, μ) := by
  unfold f_X7_refusalOfRow
  by_cases c1 : bw a1 0 3 = true
  · have c2 : ¬ bw a2 0 3 = true := fun z => h ⟨c1, z⟩
    simp (disch := omega) only [within_n, zl_e, bd_y, if_n0, n0_eq, n1_eq, Bool.false_eq_true, not_true_eq_false, not_false_eq_true, if_true, if_false, Nat.one_ne_zero, rM_rM, c1, c2]
  · simp (disch := omega) only [within_n, zl_e, bd_y, if_n0, n0_eq, n1_eq, Bool.false_eq_true, not_true_eq_false, not_false_eq_true, if_true, if_false, Nat.one_ne_zero, rM_rM, c1]
theorem m1z : ((-1 : Int32) = 0) = False := by decide
theorem o_film : ok_film II := by
  intro a1 a2 a3 μ I
  obtain ⟨⟨σ, h, r, w, z', m, n, s', l', g⟩, -, -, i4, -⟩ := id I
  have hn := w.n
  unfold f_X7_film f_X8_film
  by_cases c12 : bw a1 0 3 = true ∧ bw a2 0 3 = true
  · obtain ⟨s, _, hs, _, rfl⟩ := bw_t c12.1
    obtain ⟨l, _, hl, _, rfl⟩ := bw_t c12.2
    have hs4 : s < 4 := by omega
    have r0 : (sI μ 113 0 (nI 0)).1 114 0 = nI (σ 0) := by rw [rd_k (by omega)]; exact r 0 (by omega)
    rcases ref_pair (μ' := sI μ 113 0 (nI 0)) (a3 := a3) (a4 := nI (σ 0)) (i4 s hs4) hs4 hl (rd_k (by omega)) (rd_k (by omega)) with ⟨v, v0, v1, v2⟩ | ⟨v1, v2, j1, j2, j3, z, hz, i2, i3, k⟩
    · refine ⟨v, μ, sI μ 113 0 (nI 0), ?_, ?_, I.fx FX.th⟩
      · simp (disch := omega) only [n.n, v1, zl_e, bd_y, if_n0, n0_eq, n1_eq, Bool.false_eq_true, not_true_eq_false, not_false_eq_true, if_true, if_false, Nat.one_ne_zero, rM_rM, v0]
      · simp (disch := omega) only [isSheet_e, zl_e, bd_y, if_n0, n0_eq, n1_eq, Bool.false_eq_true, not_true_eq_false, not_false_eq_true, if_true, if_false, Nat.one_ne_zero, rM_rM, c12, and_self, nI_add, pk_mul, nI_clamp, nI_eqE, nI_leE, nI_ltE, nI_eq0, nI_le0, nI_lt0, nI_ge0, nI_gt0, pk_rem, pk_sub, inb_t, gd_y, zl_e, bd_y, isB_n0, isB_n1, n0_eq, n1_eq, if_n0, if_n1, isB_if, not_true_eq_false, not_false_eq_true, ite_true, ite_false, Nat.le_refl, Nat.lt_irrefl, r0, v2, v0]
    · obtain ⟨f, hf, _, rfl⟩ := rk_t (by omega) k
      have e7 : f_X7_film_30 (nI s) (nI l) (nI f) (fun μ => f_X7_film_79 (nI s) (nI l) (nI f) μ) zfu (nI 0) μ = some (nI (σ 0), sB μ (109 + s) (a_fl σ f (σ 0) (μ.2 (109 + s)))) := by
        refine Eq.trans ?_ (lp_eq (fun q i => f_X7_film_30 (nI s) (nI l) (nI f) (fun μ => f_X7_film_79 (nI s) (nI l) (nI f) μ) q (nI i) (sB μ (109 + s) (a_fl σ f i (μ.2 (109 + s))))) (σ 0) _ ?_ ?_ zfu 0 (by omega) (by unfold zfu; omega))
        · simp only [a_fl_0, sB_self]
        · intro q
          simp (disch := omega) only [f_X7_film_30, f_X7_film_79, nI_add, pk_mul, nI_clamp, nI_eqE, nI_leE, nI_ltE, nI_eq0, nI_le0, nI_lt0, nI_ge0, nI_gt0, pk_rem, pk_sub, inb_t, gd_y, zl_e, bd_y, isB_n0, isB_n1, n0_eq, n1_eq, if_n0, if_n1, isB_if, not_true_eq_false, not_false_eq_true, ite_true, ite_false, Nat.le_refl, Nat.lt_irrefl, rdB_1, n.n]
        · intro q i hi
          have qe : ¬ σ 0 ≤ i := by omega
          have sh : μ.1 4 i = nI (σ (6 + 6 * i + 2)) := n.2.1.2.1 i hi
          simp (disch := omega) only [f_X7_film_30, nI_add, pk_mul, nI_clamp, nI_eqE, nI_leE, nI_ltE, nI_eq0, nI_le0, nI_lt0, nI_ge0, nI_gt0, pk_rem, pk_sub, inb_t, gd_y, zl_e, bd_y, isB_n0, isB_n1, n0_eq, n1_eq, if_n0, if_n1, isB_if, not_true_eq_false, not_false_eq_true, ite_true, ite_false, Nat.le_refl, Nat.lt_irrefl, rdB_1, n.n, qe, sh, show 105 + s + 4 = 109 + s by omega, sL_sB, a_fl_s]
      have e8 : ∀ y : Mem, RR y 114 σ → f_X8_film_41 (nI s) (nI l) (nI f) (fun μ => f_X8_film_88 (nI s) (nI l) (nI f) μ) zfu (nI 0) y = some (nI (σ 0), sB y 122 (a_fl σ (24 * s + f) (σ 0) (y.2 122))) := by
        intro y ry
        refine Eq.trans ?_ (lp_eq (fun q i => f_X8_film_41 (nI s) (nI l) (nI f) (fun μ => f_X8_film_88 (nI s) (nI l) (nI f) μ) q (nI i) (sB y 122 (a_fl σ (24 * s + f) i (y.2 122)))) (σ 0) _ ?_ ?_ zfu 0 (by omega) (by unfold zfu; omega))
        · simp only [a_fl_0, sB_self]
        · intro q
          simp (disch := omega) only [f_X8_film_41, f_X8_film_88, nI_add, pk_mul, nI_clamp, nI_eqE, nI_leE, nI_ltE, nI_eq0, nI_le0, nI_lt0, nI_ge0, nI_gt0, pk_rem, pk_sub, inb_t, gd_y, zl_e, bd_y, isB_n0, isB_n1, n0_eq, n1_eq, if_n0, if_n1, isB_if, not_true_eq_false, not_false_eq_true, ite_true, ite_false, Nat.le_refl, Nat.lt_irrefl, rdB_1, ry 0 (by omega)]
        · intro q i hi
          have qe : ¬ σ 0 ≤ i := by omega
          have sh := ry (6 + 6 * i + 2) (by omega)
          simp (disch := omega) only [f_X8_film_41, nI_add, pk_mul, nI_clamp, nI_eqE, nI_leE, nI_ltE, nI_eq0, nI_le0, nI_lt0, nI_ge0, nI_gt0, pk_rem, pk_sub, inb_t, gd_y, zl_e, bd_y, isB_n0, isB_n1, n0_eq, n1_eq, if_n0, if_n1, isB_if, not_true_eq_false, not_false_eq_true, ite_true, ite_false, Nat.le_refl, Nat.lt_irrefl, rdB_1, ry 0 (by omega), qe, sh, sL_sB, a_fl_s]
      refine ⟨nI (σ 0), sB μ (109 + s) (a_fl σ f (σ 0) (μ.2 (109 + s))), sB (sI (sB μ (109 + s) (a_fl σ f (σ 0) (μ.2 (109 + s)))) 113 0 (nI 0)) 122 (a_fl σ (24 * s + f) (σ 0) (μ.2 122)), ?_, ?_, ?_⟩
      · simp (disch := omega) only [n.n, v1, zl_e, bd_y, if_n0, n0_eq, n1_eq, Bool.false_eq_true, not_true_eq_false, not_false_eq_true, if_true, if_false, Nat.one_ne_zero, rM_rM, e7]
      · have w2 : f_X8_wrongOf (nI s) (nI l) (nI f) (nI (σ 0)) (sI (sB μ (109 + s) (a_fl σ f (σ 0) (μ.2 (109 + s)))) 113 0 (nI 0)) = some (nI 0, sI (sB μ (109 + s) (a_fl σ f (σ 0) (μ.2 (109 + s)))) 113 0 (nI 0)) := by
          rw [wo_e hs4 hz hl (by rw [rd_k (by omega), rdB_1]; exact j3) (by rw [rd_k (by omega), rdB_1]; exact i3), if_pos rfl, if_pos k]
        have r1 : RR (sI (sB μ (109 + s) (a_fl σ f (σ 0) (μ.2 (109 + s)))) 113 0 (nI 0)) 114 σ := fun j hj => by rw [rd_k (by omega), rdB_1]; exact r j hj
        simp (disch := omega) only [isSheet_e, zl_e, bd_y, if_n0, n0_eq, n1_eq, Bool.false_eq_true, not_true_eq_false, not_false_eq_true, if_true, if_false, Nat.one_ne_zero, rM_rM, c12, and_self, nI_add, pk_mul, nI_clamp, nI_eqE, nI_leE, nI_ltE, nI_eq0, nI_le0, nI_lt0, nI_ge0, nI_gt0, pk_rem, pk_sub, inb_t, gd_y, zl_e, bd_y, isB_n0, isB_n1, n0_eq, n1_eq, if_n0, if_n1, isB_if, not_true_eq_false, not_false_eq_true, ite_true, ite_false, Nat.le_refl, Nat.lt_irrefl, r1 0 (by omega), w2, e8 _ r1]
        rw [rd_2, rdB_k (by omega)]
      · refine I.sheets (fun q hq => by rw [rdB_1, rd_k (by omega), rdB_1]) (fun j hj => by rw [rdB_1, rd_j hj, rdB_1]) (fun t ht => ?_)
        obtain ⟨_, _, i5⟩ := i4 t ht
        refine (i4 t ht).cg (by rw [rdB_1, rd_k (by omega), rdB_1]) (by rw [rdB_1, rd_k (by omega), rdB_1]) (by rw [rdB_1, rd_k (by omega), rdB_1]) (fun i hi => ?_)
        rw [rdB_k (by omega), rd_2, rdB_s]
        unfold a_fl
        by_cases e : t = s
        · subst e
          rw [rdB_s]
          by_cases c : f ≤ i ∧ i < f + σ 0
          · rw [if_pos c, if_pos (by omega), show 24 * t + i - (24 * t + f) = i - f by omega]
          · rw [if_neg c, if_neg (by omega)]
            exact i5 i hi
        · rw [rdB_k (by omega), if_neg (by omega)]
          exact i5 i hi
  · refine ⟨-1, μ, sI μ 113 0 (nI 0), ?_, ?_, I.fx FX.th⟩
    · rw [bad_row c12, bd_y]
      simp only [m1z, if_false]
    · simp (disch := omega) only [isSheet_e, zl_e, bd_y, if_n0, n0_eq, n1_eq, Bool.false_eq_true, not_true_eq_false, not_false_eq_true, if_true, if_false, Nat.one_ne_zero, rM_rM, c12]
/-! seen -/
theorem n6_shown {μ : Mem} {σ : St} {h f k : Nat} (a : NW μ σ h 24) (hk : 109 ≤ k) (hk2 : k < 113) (hf : f + σ 0 ≤ 24) : ∃ x, f_X6_shownFromNow k (nI f) μ = some (nI (a_un (a_sa (fun r => μ.2 k (f + r))) 9 61 0 σ), x) ∧ FT μ x := by
  have ib : isItB k = true := by
    unfold isItB
    simp [hk, hk2]
  unfold f_X6_shownFromNow
  rw [ib, gd_y, zl_e, zl_e]
  have f0 : FT μ (sI (sI μ 65 4 (nI k)) 65 5 (nI f)) := (FT.w (by omega) (by omega)).t (FT.w (by omega) (by omega))
  obtain ⟨w, z, m, n, s, l⟩ := a.ft f0
  obtain ⟨x, g1, g2, g3, g4⟩ := n6_begin (x := nI 0) n w s
  rw [a_lr_z] at g2
  have x4 : x.1 65 4 = nI k := by rw [g3.2 65 (by omega), rd_j (by omega), rd_s]
  have x5 : x.1 65 5 = nI f := by rw [g3.2 65 (by omega), rd_s]
  have xx : x.2 = μ.2 := by rw [g3.1]; rfl
  obtain ⟨x', u1, u2⟩ := n6_until (k1 := 24) (a2 := nI 2) (a3 := nI 0) (p := a_sa (fun r => μ.2 k (f + r))) GP_sa g2 w z (by omega) (l.fb g3 (by omega)) (by omega) (fun μ' h' τ c w' fb t0 => by
    have y4 : μ'.1 65 4 = nI k := by rw [fb.2 65 (by omega)]; exact x4
    have y5 : μ'.1 65 5 = nI f := by rw [fb.2 65 (by omega)]; exact x5
    have sa := n2_showsAs (k := k) (from_ := f) c w' (by rw [t0]; exact hf)
    have yy : μ'.2 = μ.2 := by rw [fb.1]; exact xx
    rw [yy] at sa
    unfold f_X6_isAt
    simp (disch := omega) only [nI_add, pk_mul, nI_clamp, nI_eqE, nI_leE, nI_ltE, nI_eq0, nI_le0, nI_lt0, nI_ge0, nI_gt0, pk_rem, pk_sub, inb_t, gd_y, zl_e, bd_y, isB_n0, isB_n1, n0_eq, n1_eq, if_n0, if_n1, isB_if, not_true_eq_false, not_false_eq_true, ite_true, ite_false, Nat.le_refl, Nat.lt_irrefl, y4, y5, ib, Nat.reduceEqDiff, show ¬ k = 0 by omega, sa]
    by_cases q : a_sa (fun r => μ.2 k (f + r)) τ = true
    · simp only [q, not_true_eq_false, if_false, if_true]
    · simp only [q, Bool.false_eq_true, not_false_eq_true, if_true, if_false]) (fun e => absurd e (by rw [nI_eqE (by omega) (by omega)]; omega))
  refine ⟨x', ?_, f0.t ((FT.fb g3).t (FT.fb u2))⟩
  rw [g1, bd_y, u1, bd_y]
theorem e8_seen {μ : Mem} {σ : St} {s f : Nat} {a2 : Int32} {it : Nat → Int64} (hit : ∀ q, q < σ 0 → μ.2 122 (24 * s + f + q) = it q) (r : RR μ 114 σ) (w : WF σ) (m : σ 1 ≤ 999) (hL : L16 μ false) (hD : D17 μ 9) (hs : s < 4) (hf : f + σ 0 ≤ 24) : ∃ c τ, (Option.bind (f_X8_copies 114 116 μ) fun p => f_X8_seen_52 (nI s) a2 (nI f) zfu (nI 0) p) = some (if a_un (a_sa it) 9 61 0 σ = 61 then -4 else nI (a_un (a_sa it) 9 61 0 σ), rM (sI μ 113 18 c) 116 τ) := by
  have hn := w.n
  rw [e8_copies r (by omega), bd_y]
  -- the comparing
  have cmp : ∀ (kx : Int32 → Int32 → Mem → Option (Int32 × Mem)) (x5 : Int32) (c : Int32) (τ : St), WF τ → τ 0 = σ 0 → f_X8_seen_65 (nI s) a2 (nI f) kx zfu x5 (nI 1) (nI 0) (rM (sI μ 113 18 c) 116 τ) = kx x5 (nI (if a_sa it τ = true then 1 else 0)) (rM (sI μ 113 18 c) 116 τ) := by
    intro kx x5 c τ wt t0
    unfold a_sa
    rw [t0]
    have z0 : (rM (sI μ 113 18 c) 116 τ).1 114 0 = nI (σ 0) := by rw [rM_k (by omega), rd_k (by omega)]; exact r 0 (by omega)
    refine lp_eq (fun q i => f_X8_seen_65 (nI s) a2 (nI f) kx q x5 (nI (if decide (pc (fun r => !decide (it r = (nI (τ (6 + 6 * r + 2))).toInt64)) i = 0) = true then 1 else 0)) (nI i) (rM (sI μ 113 18 c) 116 τ)) (σ 0) _ ?_ ?_ zfu 0 (by omega) (by unfold zfu; omega)
    · intro q
      simp (disch := omega) only [f_X8_seen_65, nI_add, pk_mul, nI_clamp, nI_eqE, nI_leE, nI_ltE, nI_eq0, nI_le0, nI_lt0, nI_ge0, nI_gt0, pk_rem, pk_sub, inb_t, gd_y, zl_e, bd_y, isB_n0, isB_n1, n0_eq, n1_eq, if_n0, if_n1, isB_if, not_true_eq_false, not_false_eq_true, ite_true, ite_false, Nat.le_refl, Nat.lt_irrefl, z0]
    · intro q i hi
      have qe : ¬ σ 0 ≤ i := by omega
      have un : pc (fun r => !decide (it r = (nI (τ (6 + 6 * r + 2))).toInt64)) (i + 1) = pc (fun r => !decide (it r = (nI (τ (6 + 6 * r + 2))).toInt64)) i + (if (!decide (it i = (nI (τ (6 + 6 * i + 2))).toInt64)) = true then 1 else 0) := rfl
      rw [un]
      simp (disch := omega) only [f_X8_seen_65, f_X8_seen_119, f_X8_seen_120, nI_add, pk_mul, nI_clamp, nI_eqE, nI_leE, nI_ltE, nI_eq0, nI_le0, nI_lt0, nI_ge0, nI_gt0, pk_rem, pk_sub, inb_t, gd_y, zl_e, bd_y, isB_n0, isB_n1, n0_eq, n1_eq, if_n0, if_n1, isB_if, not_true_eq_false, not_false_eq_true, ite_true, ite_false, Nat.le_refl, Nat.lt_irrefl, z0, qe, rM_r, rM_2, rd_2, hit i hi, lg_0]
      by_cases c0 : pc (fun r => !decide (it r = (nI (τ (6 + 6 * r + 2))).toInt64)) i = 0
      · by_cases q2 : it i = (nI (τ (6 + 6 * i + 2))).toInt64
        · simp [c0, q2]
        · simp [c0, q2]
      · simp [c0]
  have L := lp_rel (fun q k (x : Mem) => f_X8_seen_52 (nI s) a2 (nI f) q (nI k) x) (fun k x => (∃ c, x = rM (sI μ 113 18 c) 116 (a_it 9 σ k)) ∧ a_un (a_sa it) 9 61 0 σ = a_un (a_sa it) 9 (61 - k) k (a_it 9 σ k)) 61 (fun ρ : Int32 × Mem => ρ.1 = (if a_un (a_sa it) 9 61 0 σ = 61 then -4 else nI (a_un (a_sa it) 9 61 0 σ)) ∧ ∃ c τ, ρ.2 = rM (sI μ 113 18 c) 116 τ) ?_ ?_ zfu 0 (rM μ 116 σ) (by omega) (by unfold zfu; omega) ⟨⟨μ.1 113 18, congrArg (fun m => rM m 116 σ) (sI_id rfl).symm⟩, rfl⟩
  · obtain ⟨ρ, g1, g2, c, τ, g3⟩ := L
    exact ⟨c, τ, by rw [g1, ← g2, ← g3]⟩
  · intro q x ⟨⟨c, g1⟩, g2⟩
    refine ⟨(-4, x), ?_, by rw [g2]; rfl, c, _, g1⟩
    simp (disch := omega) only [f_X8_seen_52, nI_add, pk_mul, nI_clamp, nI_eqE, nI_leE, nI_ltE, nI_eq0, nI_le0, nI_lt0, nI_ge0, nI_gt0, pk_rem, pk_sub, inb_t, gd_y, zl_e, bd_y, isB_n0, isB_n1, n0_eq, n1_eq, if_n0, if_n1, isB_if, not_true_eq_false, not_false_eq_true, ite_true, ite_false, Nat.le_refl, Nat.lt_irrefl]
  · intro q k x hk ⟨⟨c, g1⟩, g2⟩
    subst g1
    have qe : ¬ 61 ≤ k := by omega
    obtain ⟨wm, _, t0⟩ := a_it_1 (d := 9) w (by omega) k (by omega)
    rw [show 61 - k = (60 - k) + 1 by omega, a_un_s (k := 60 - k) (m := k)] at g2
    have cm := cmp (fun x5 x6 μ => f_X8_seen_128 (nI s) a2 (nI f) (fun x5 μ => f_X8_seen_52 (nI s) a2 (nI f) q x5 μ) x5 x6 μ) (nI k) c _ wm t0
    by_cases e : a_sa it (a_it 9 σ k) = true
    · right
      refine ⟨(nI k, rM (sI μ 113 18 c) 116 (a_it 9 σ k)), ?_, ?_, c, a_it 9 σ k, rfl⟩
      · rw [e] at cm
        simp (disch := omega) only [f_X8_seen_52, nI_add, pk_mul, nI_clamp, nI_eqE, nI_leE, nI_ltE, nI_eq0, nI_le0, nI_lt0, nI_ge0, nI_gt0, pk_rem, pk_sub, inb_t, gd_y, zl_e, bd_y, isB_n0, isB_n1, n0_eq, n1_eq, if_n0, if_n1, isB_if, not_true_eq_false, not_false_eq_true, ite_true, ite_false, Nat.le_refl, Nat.lt_irrefl, qe]
        rw [cm]
        simp (disch := omega) only [f_X8_seen_128, nI_add, pk_mul, nI_clamp, nI_eqE, nI_leE, nI_ltE, nI_eq0, nI_le0, nI_lt0, nI_ge0, nI_gt0, pk_rem, pk_sub, inb_t, gd_y, zl_e, bd_y, isB_n0, isB_n1, n0_eq, n1_eq, if_n0, if_n1, isB_if, not_true_eq_false, not_false_eq_true, ite_true, ite_false, Nat.le_refl, Nat.lt_irrefl, Nat.one_ne_zero]
      · rw [g2, if_pos e, if_neg (by omega)]
    · left
      rw [if_neg e] at g2
      have e' : a_sa it (a_it 9 σ k) = false := by simpa using e
      rw [e'] at cm
      refine ⟨_, ⟨⟨nI (a_act false 9 (a_it 9 σ k)).2, rfl⟩, ?_⟩, ?_⟩
      · rw [show 61 - (k + 1) = 60 - k by omega]; exact g2
      · simp (disch := omega) only [f_X8_seen_52, nI_add, pk_mul, nI_clamp, nI_eqE, nI_leE, nI_ltE, nI_eq0, nI_le0, nI_lt0, nI_ge0, nI_gt0, pk_rem, pk_sub, inb_t, gd_y, zl_e, bd_y, isB_n0, isB_n1, n0_eq, n1_eq, if_n0, if_n1, isB_if, not_true_eq_false, not_false_eq_true, ite_true, ite_false, Nat.le_refl, Nat.lt_irrefl, qe]
        rw [cm]
        simp (disch := omega) only [f_X8_seen_128, nI_add, pk_mul, nI_clamp, nI_eqE, nI_leE, nI_ltE, nI_eq0, nI_le0, nI_lt0, nI_ge0, nI_gt0, pk_rem, pk_sub, inb_t, gd_y, zl_e, bd_y, isB_n0, isB_n1, n0_eq, n1_eq, if_n0, if_n1, isB_if, not_true_eq_false, not_false_eq_true, ite_true, ite_false, Nat.le_refl, Nat.lt_irrefl, Bool.false_eq_true, e8_go hL hD wm]
        rfl
theorem o_seen : ok_seen II := by
  intro a1 a2 a3 μ I
  obtain ⟨⟨σ, h, r, w, z', m, n, s', l', g⟩, -, -, i4, hL, hD⟩ := id I
  have hn := w.n
  have nw : NW μ σ h 24 := ⟨w, z', m, n, s', l'⟩
  unfold f_X7_seen f_X8_seen
  by_cases c12 : bw a1 0 3 = true ∧ bw a2 0 3 = true
  · obtain ⟨s, _, hs, _, rfl⟩ := bw_t c12.1
    obtain ⟨l, _, hl, _, rfl⟩ := bw_t c12.2
    have hs4 : s < 4 := by omega
    have r0 : (sI μ 113 0 (nI 0)).1 114 0 = nI (σ 0) := by rw [rd_k (by omega)]; exact r 0 (by omega)
    rcases ref_pair (μ' := sI μ 113 0 (nI 0)) (a3 := a3) (a4 := nI (σ 0)) (i4 s hs4) hs4 hl (rd_k (by omega)) (rd_k (by omega)) with ⟨v, v0, v1, v2⟩ | ⟨v1, v2, j1, j2, j3, z, hz, i2, i3, k⟩
    · refine ⟨v, μ, sI μ 113 0 (nI 0), ?_, ?_, I.fx FX.th⟩
      · simp (disch := omega) only [n.n, v1, zl_e, bd_y, if_n0, n0_eq, n1_eq, Bool.false_eq_true, not_true_eq_false, not_false_eq_true, if_true, if_false, Nat.one_ne_zero, rM_rM, v0]
      · simp (disch := omega) only [isSheet_e, zl_e, bd_y, if_n0, n0_eq, n1_eq, Bool.false_eq_true, not_true_eq_false, not_false_eq_true, if_true, if_false, Nat.one_ne_zero, rM_rM, c12, and_self, nI_add, pk_mul, nI_clamp, nI_eqE, nI_leE, nI_ltE, nI_eq0, nI_le0, nI_lt0, nI_ge0, nI_gt0, pk_rem, pk_sub, inb_t, gd_y, zl_e, bd_y, isB_n0, isB_n1, n0_eq, n1_eq, if_n0, if_n1, isB_if, not_true_eq_false, not_false_eq_true, ite_true, ite_false, Nat.le_refl, Nat.lt_irrefl, r0, v2, v0]
    · obtain ⟨f, hf, _, rfl⟩ := rk_t (by omega) k
      obtain ⟨x, p1, p2⟩ := n6_shown (f := f) (k := 105 + s + 4) nw (by omega) (by omega) (by omega)
      have r1 : RR (sI x 113 0 (nI 0)) 114 σ := fun j hj => by rw [rd_k (by omega), p2.2 114 (by omega)]; exact r j hj
      have itm := (i4 s hs4).2.2
      obtain ⟨c, τ, e8⟩ := e8_seen (s := s) (f := f) (a2 := nI l) (it := fun q => μ.2 (105 + s + 4) (f + q)) (fun q hq => by
        rw [rd_2, p2.1, show 24 * s + f + q = 24 * s + (f + q) by omega, ← itm (f + q) (by omega), show 105 + s + 4 = 109 + s by omega]) r1 w m ((hL.ft p2).t (by omega)) ((hD.ft (by rw [p2.2 113 (by omega)])).t (by omega)) hs4 (by omega)
      have le := a_un_le (p := a_sa (fun q => μ.2 (105 + s + 4) (f + q))) (d := 9) 61 0 σ (by omega)
      have fz : FX μ (rM (sI (sI x 113 0 (nI 0)) 113 18 c) 116 τ) := (FX.ft p2).t (FX.th.t (FX.rx (by omega)))
      refine ⟨if a_un (a_sa (fun q => μ.2 (105 + s + 4) (f + q))) 9 61 0 σ = 61 then -4 else nI (a_un (a_sa (fun q => μ.2 (105 + s + 4) (f + q))) 9 61 0 σ), x, rM (sI (sI x 113 0 (nI 0)) 113 18 c) 116 τ, ?_, ?_, I.fx fz⟩
      · simp (disch := omega) only [n.n, v1, zl_e, bd_y, if_n0, n0_eq, n1_eq, Bool.false_eq_true, not_true_eq_false, not_false_eq_true, if_true, if_false, Nat.one_ne_zero, rM_rM, inb_t, gd_y, nI_clamp, p1, nI_eqE]
        split <;> rfl
      · have w2 : f_X8_wrongOf (nI s) (nI l) (nI f) (nI (σ 0)) (sI x 113 0 (nI 0)) = some (nI 0, sI x 113 0 (nI 0)) := by
          rw [wo_e hs4 hz hl (by rw [rd_k (by omega), p2.2 120 (by omega)]; exact j3) (by rw [rd_k (by omega), p2.2 121 (by omega)]; exact i3), if_pos rfl, if_pos k]
        rw [zl_e, isSheet_e, bd_y]
        simp (disch := omega) only [c12, and_self, if_true, n1_eq, if_false, inb_t, gd_y, nI_clamp, r1 0 (by omega), w2, n0_eq]
        rw [bd_y]
        simp only [n0_eq, if_true]
        exact e8
  · refine ⟨-1, μ, sI μ 113 0 (nI 0), ?_, ?_, I.fx FX.th⟩
    · rw [bad_row c12, bd_y]
      simp only [m1z, if_false]
    · simp (disch := omega) only [isSheet_e, zl_e, bd_y, if_n0, n0_eq, n1_eq, Bool.false_eq_true, not_true_eq_false, not_false_eq_true, if_true, if_false, Nat.one_ne_zero, rM_rM, c12]
/-! delays -/
theorem i64_bw {v : Int64} : (f : Mem) → f_X8_in v 1 9 f = some (nI (if (1 : Int64) ≤ v ∧ v ≤ 9 then 1 else 0), f) := by
  intro f
  rw [in_e]
  simp only [Int64.le_iff_toInt_le]
/-- delays from a rock become items, up to i -/
def a_dy (σ : St) (q i : Nat) (it : Nat → Nat) : St := fun j => if 60 + 9 * q ≤ j ∧ j < 60 + 9 * q + i ∧ j ≠ 60 + 9 * q + q then it (j - (60 + 9 * q)) else σ j
theorem a_dy_0 {σ : St} {q : Nat} {it : Nat → Nat} : a_dy σ q 0 it = σ := by
  funext j
  unfold a_dy
  rw [if_neg (by omega)]
theorem a_dy_s {σ : St} {q i : Nat} {it : Nat → Nat} : a_dy σ q (i + 1) it = if i = q then a_dy σ q i it else nu (a_dy σ q i it) (60 + 9 * q + i) (it i) := by
  funext j
  by_cases e : i = q
  · rw [if_pos e]
    unfold a_dy
    by_cases c : 60 + 9 * q ≤ j ∧ j < 60 + 9 * q + i ∧ j ≠ 60 + 9 * q + q
    · rw [if_pos c, if_pos (by omega)]
    · rw [if_neg c, if_neg (by omega)]
  · rw [if_neg e]
    unfold nu a_dy
    by_cases e1 : j = 60 + 9 * q + i
    · rw [if_pos e1, if_pos (by omega), e1, show 60 + 9 * q + i - (60 + 9 * q) = i by omega]
    · rw [if_neg e1]
      by_cases c : 60 + 9 * q ≤ j ∧ j < 60 + 9 * q + i ∧ j ≠ 60 + 9 * q + q
      · rw [if_pos c, if_pos (by omega)]
      · rw [if_neg c, if_neg (by omega)]
theorem a_dy_n {σ : St} {q i j : Nat} {it : Nat → Nat} (h : j < 60 ∨ 141 ≤ j) (hq : q < 9) (hi : i ≤ 9) : a_dy σ q i it j = σ j := by
  unfold a_dy
  rw [if_neg (by omega)]
theorem i64_nat {v : Int64} (h1 : (1 : Int64) ≤ v) (h2 : v ≤ 9) : ∃ k, 1 ≤ k ∧ k ≤ 9 ∧ v.toInt32 = nI k := by
  rw [Int64.le_iff_toInt_le] at h1 h2
  have e1 : (1 : Int64).toInt = 1 := by decide
  have e9 : (9 : Int64).toInt = 9 := by decide
  rw [e1] at h1
  rw [e9] at h2
  refine ⟨v.toInt.toNat, by omega, by omega, ?_⟩
  have : v = lN v.toInt.toNat := by
    apply Int64.toInt_inj.mp
    rw [lN_toInt (by omega)]
    omega
  rw [this, lN_i]
  congr 1
  rw [lN_toInt (by omega)]
  omega
theorem o_delays : ok_delays II := by
  intro a1 a2 a3 a4 μ I
  obtain ⟨⟨σ, h, r, w, z', m, n, s', l', g⟩, -, -, i4, -⟩ := id I
  have hn := w.n
  unfold f_X7_delays f_X8_delays
  by_cases c1 : br a1 (σ 0) = true
  · by_cases c12 : bw a2 0 3 = true ∧ bw a3 0 3 = true
    · obtain ⟨q, hq, hq2, rfl⟩ := br_t' c1
      obtain ⟨s, _, hs, _, rfl⟩ := bw_t c12.1
      obtain ⟨l, _, hl, _, rfl⟩ := bw_t c12.2
      have hs4 : s < 4 := by omega
      rcases ref_pair (μ' := sI μ 113 0 (nI 0)) (a3 := a4) (a4 := nI (σ 0)) (i4 s hs4) hs4 hl (rd_k (by omega)) (rd_k (by omega)) with ⟨v, v0, v1, v2⟩ | ⟨v1, v2, j1, j2, j3, z, hz, i2, i3, k⟩
      · refine ⟨v, μ, rM (sI μ 113 0 (nI 0)) 114 σ, ?_, ?_, I.ref r⟩
        · simp (disch := omega) only [x7_isRock n.n hn, zl_e, bd_y, if_n0, n0_eq, n1_eq, Bool.false_eq_true, not_true_eq_false, not_false_eq_true, if_true, if_false, Nat.one_ne_zero, rM_rM, c1, n.n, v1, v0]
        · have v2' := v2
          rw [← th_rM r] at v2' ⊢
          simp (disch := omega) only [x8_isRock hn, zl_e, bd_y, if_n0, n0_eq, n1_eq, Bool.false_eq_true, not_true_eq_false, not_false_eq_true, if_true, if_false, Nat.one_ne_zero, rM_rM, c1, isSheet_e, c12, and_self, inb_t, gd_y, nI_clamp, rM_r, v2', v0]
      · obtain ⟨f, hf, _, rfl⟩ := rk_t (by omega) k
        have itm := (i4 s hs4).2.2
        have e22 : ∀ i, i < σ 0 → μ.2 122 (24 * s + f + i) = μ.2 (109 + s) (f + i) := fun i hi => by rw [show 24 * s + f + i = 24 * s + (f + i) by omega]; exact (itm (f + i) (by omega)).symm
        -- all are well, or the first that is not
        by_cases ok : ∀ i, i < σ 0 → i ≠ q → (1 : Int64) ≤ μ.2 (109 + s) (f + i) ∧ μ.2 (109 + s) (f + i) ≤ 9
        · -- the new delays
          have dl : ∀ i, i < σ 0 → i ≠ q → ∃ v, 1 ≤ v ∧ v ≤ 9 ∧ (μ.2 (109 + s) (f + i)).toInt32 = nI v := fun i h1 h2 => i64_nat (ok i h1 h2).1 (ok i h1 h2).2
          let it : Nat → Nat := fun i => ((μ.2 (109 + s) (f + i)).toInt32).toNatClampNeg
          have itv : ∀ i, i < σ 0 → i ≠ q → (μ.2 (109 + s) (f + i)).toInt32 = nI (it i) ∧ it i ≤ 9 := by
            intro i h1 h2
            obtain ⟨v, _, hv, e⟩ := dl i h1 h2
            have : it i = v := by
              show ((μ.2 (109 + s) (f + i)).toInt32).toNatClampNeg = v
              rw [e, nI_clamp (by omega)]
            rw [this]
            exact ⟨e, hv⟩
          have p7 : ∀ kx : Mem → Option (Int32 × Mem), f_X7_delays_52 (nI q) (nI s) (nI l) (nI f) kx zfu (nI 0) μ = kx μ := by
            intro kx
            refine lp_eq (fun fu i => f_X7_delays_52 (nI q) (nI s) (nI l) (nI f) kx fu (nI i) μ) (σ 0) _ ?_ ?_ zfu 0 (by omega) (by unfold zfu; omega)
            · intro fu
              simp (disch := omega) only [f_X7_delays_52, nI_add, pk_mul, nI_clamp, nI_eqE, nI_leE, nI_ltE, nI_eq0, nI_le0, nI_lt0, nI_ge0, nI_gt0, pk_rem, pk_sub, inb_t, gd_y, zl_e, bd_y, isB_n0, isB_n1, n0_eq, n1_eq, if_n0, if_n1, isB_if, not_true_eq_false, not_false_eq_true, ite_true, ite_false, Nat.le_refl, Nat.lt_irrefl, n.n]
            · intro fu i hi
              have qe : ¬ σ 0 ≤ i := by omega
              simp (disch := omega) only [f_X7_delays_52, f_X7_delays_102, nI_add, pk_mul, nI_clamp, nI_eqE, nI_leE, nI_ltE, nI_eq0, nI_le0, nI_lt0, nI_ge0, nI_gt0, pk_rem, pk_sub, inb_t, gd_y, zl_e, bd_y, isB_n0, isB_n1, n0_eq, n1_eq, if_n0, if_n1, isB_if, not_true_eq_false, not_false_eq_true, ite_true, ite_false, Nat.le_refl, Nat.lt_irrefl, n.n, qe, show 105 + s + 4 = 109 + s by omega]
              by_cases e : i = q
              · rw [if_pos e]
              · have o := ok i hi e
                rw [if_neg e, if_neg (by rw [lg_cmp_lt]; exact Int64.not_lt.mpr o.1), if_pos (by rw [lg_cmp_le]; exact o.2)]
          have w7 : ∃ x, f_X7_delays_108 (nI q) (nI s) (nI l) (nI f) μ = some (nI (σ 0), x) ∧ NN x 2 (a_dy σ q (σ 0) it) h 9 ∧ FB 2 μ x ∧ x.1 2 6 = μ.1 2 6 := by
            unfold f_X7_delays_108
            have L := lp_rel (fun fu i (x : Mem) => f_X7_delays_111 (nI q) (nI s) (nI l) (nI f) (fun μ => f_X7_delays_162 (nI q) (nI s) (nI l) (nI f) μ) fu (nI i) x) (fun i x => NN x 2 (a_dy σ q i it) h 9 ∧ FB 2 μ x ∧ x.1 2 6 = μ.1 2 6) (σ 0) (fun ρ : Int32 × Mem => ρ.1 = nI (σ 0) ∧ NN ρ.2 2 (a_dy σ q (σ 0) it) h 9 ∧ FB 2 μ ρ.2 ∧ ρ.2.1 2 6 = μ.1 2 6) ?_ ?_ zfu 0 μ (by omega) (by unfold zfu; omega) ⟨by rw [a_dy_0]; exact n, FB.r, rfl⟩
            · obtain ⟨ρ, g1, g2, g3, g4, g5⟩ := L
              exact ⟨ρ.2, g1.trans (by rw [← g2]), g3, g4, g5⟩
            · intro fu x ⟨g1, g2, g3⟩
              have x0 := g1.n
              rw [a_dy_n (by omega) (by omega) hn] at x0
              refine ⟨(nI (σ 0), x), ?_, rfl, g1, g2, g3⟩
              simp (disch := omega) only [f_X7_delays_111, f_X7_delays_162, nI_add, pk_mul, nI_clamp, nI_eqE, nI_leE, nI_ltE, nI_eq0, nI_le0, nI_lt0, nI_ge0, nI_gt0, pk_rem, pk_sub, inb_t, gd_y, zl_e, bd_y, isB_n0, isB_n1, n0_eq, n1_eq, if_n0, if_n1, isB_if, not_true_eq_false, not_false_eq_true, ite_true, ite_false, Nat.le_refl, Nat.lt_irrefl, x0]
            · intro fu i x hi ⟨g1, g2, g3⟩
              left
              have qe : ¬ σ 0 ≤ i := by omega
              have x0 := g1.n
              have d0 : a_dy σ q i it 0 = σ 0 := a_dy_n (by omega) (by omega) (by omega)
              rw [d0] at x0
              rw [a_dy_s]
              by_cases e : i = q
              · refine ⟨x, ⟨by rw [if_pos e]; exact g1, g2, g3⟩, ?_⟩
                subst e
                simp (disch := omega) only [f_X7_delays_111, f_X7_delays_156, nI_add, pk_mul, nI_clamp, nI_eqE, nI_leE, nI_ltE, nI_eq0, nI_le0, nI_lt0, nI_ge0, nI_gt0, pk_rem, pk_sub, inb_t, gd_y, zl_e, bd_y, isB_n0, isB_n1, n0_eq, n1_eq, if_n0, if_n1, isB_if, not_true_eq_false, not_false_eq_true, ite_true, ite_false, Nat.le_refl, Nat.lt_irrefl, x0, qe]
              · have iv := (itv i hi e).1
                have x2 : x.2 (109 + s) (f + i) = μ.2 (109 + s) (f + i) := by rw [g2.1]
                refine ⟨sI x (2 + 7 + q) i (nI (it i)), ⟨by rw [if_neg e]; exact g1.del (by rw [d0]; exact hn) (by rw [d0]; exact hq) (by rw [d0]; exact hi), g2.t (FB.w (by omega) (by omega)), by rw [rd_k (by omega)]; exact g3⟩, ?_⟩
                simp (disch := omega) only [f_X7_delays_111, f_X7_delays_156, nI_add, pk_mul, nI_clamp, nI_eqE, nI_leE, nI_ltE, nI_eq0, nI_le0, nI_lt0, nI_ge0, nI_gt0, pk_rem, pk_sub, inb_t, gd_y, zl_e, bd_y, isB_n0, isB_n1, n0_eq, n1_eq, if_n0, if_n1, isB_if, not_true_eq_false, not_false_eq_true, ite_true, ite_false, Nat.le_refl, Nat.lt_irrefl, x0, qe, e, show 105 + s + 4 = 109 + s by omega, x2, iv]
          obtain ⟨x, w1, w2, w3, w4⟩ := w7
          have r1 : RR x 114 σ := fun j hj => by rw [w3.2 114 (by omega)]; exact r j hj
          have x22 : ∀ i, i < σ 0 → (sI x 113 0 (nI 0)).2 122 (24 * s + f + i) = μ.2 (109 + s) (f + i) := fun i hi => by rw [rd_2, w3.1]; exact e22 i hi
          have p8 : ∀ kx : Mem → Option (Int32 × Mem), f_X8_delays_50 (nI q) (nI s) (nI l) (nI f) kx zfu (nI 0) (rM (sI x 113 0 (nI 0)) 114 σ) = kx (rM (sI x 113 0 (nI 0)) 114 σ) := by
            intro kx
            refine lp_eq (fun fu i => f_X8_delays_50 (nI q) (nI s) (nI l) (nI f) kx fu (nI i) (rM (sI x 113 0 (nI 0)) 114 σ)) (σ 0) _ ?_ ?_ zfu 0 (by omega) (by unfold zfu; omega)
            · intro fu
              simp (disch := omega) only [f_X8_delays_50, nI_add, pk_mul, nI_clamp, nI_eqE, nI_leE, nI_ltE, nI_eq0, nI_le0, nI_lt0, nI_ge0, nI_gt0, pk_rem, pk_sub, inb_t, gd_y, zl_e, bd_y, isB_n0, isB_n1, n0_eq, n1_eq, if_n0, if_n1, isB_if, not_true_eq_false, not_false_eq_true, ite_true, ite_false, Nat.le_refl, Nat.lt_irrefl, rM_r]
            · intro fu i hi
              have qe : ¬ σ 0 ≤ i := by omega
              simp (disch := omega) only [f_X8_delays_50, f_X8_delays_95, nI_add, pk_mul, nI_clamp, nI_eqE, nI_leE, nI_ltE, nI_eq0, nI_le0, nI_lt0, nI_ge0, nI_gt0, pk_rem, pk_sub, inb_t, gd_y, zl_e, bd_y, isB_n0, isB_n1, n0_eq, n1_eq, if_n0, if_n1, isB_if, not_true_eq_false, not_false_eq_true, ite_true, ite_false, Nat.le_refl, Nat.lt_irrefl, rM_r, qe, rM_2, x22 i hi, i64_bw]
              by_cases e : i = q
              · rw [if_pos e]
              · have o := ok i hi e
                rw [if_neg e, if_neg (by simp [o.1, o.2])]
          have w8 : f_X8_delays_101 (nI q) (nI s) (nI l) (nI f) (rM (sI x 113 0 (nI 0)) 114 σ) = some (nI (σ 0), rM (sI x 113 0 (nI 0)) 114 (a_dy σ q (σ 0) it)) := by
            unfold f_X8_delays_101
            refine Eq.trans ?_ (lp_eq (fun fu i => f_X8_delays_104 (nI q) (nI s) (nI l) (nI f) (fun μ => f_X8_delays_158 (nI q) (nI s) (nI l) (nI f) μ) fu (nI i) (rM (sI x 113 0 (nI 0)) 114 (a_dy σ q i it))) (σ 0) _ ?_ ?_ zfu 0 (by omega) (by unfold zfu; omega))
            · simp only [a_dy_0]
            · intro fu
              have d0 : a_dy σ q (σ 0) it 0 = σ 0 := a_dy_n (by omega) (by omega) hn
              simp (disch := omega) only [f_X8_delays_104, f_X8_delays_158, nI_add, pk_mul, nI_clamp, nI_eqE, nI_leE, nI_ltE, nI_eq0, nI_le0, nI_lt0, nI_ge0, nI_gt0, pk_rem, pk_sub, inb_t, gd_y, zl_e, bd_y, isB_n0, isB_n1, n0_eq, n1_eq, if_n0, if_n1, isB_if, not_true_eq_false, not_false_eq_true, ite_true, ite_false, Nat.le_refl, Nat.lt_irrefl, rM_r, d0]
            · intro fu i hi
              have qe : ¬ σ 0 ≤ i := by omega
              have d0 : a_dy σ q i it 0 = σ 0 := a_dy_n (by omega) (by omega) (by omega)
              rw [a_dy_s]
              by_cases e : i = q
              · rw [if_pos e]
                subst e
                simp (disch := omega) only [f_X8_delays_104, f_X8_delays_152, nI_add, pk_mul, nI_clamp, nI_eqE, nI_leE, nI_ltE, nI_eq0, nI_le0, nI_lt0, nI_ge0, nI_gt0, pk_rem, pk_sub, inb_t, gd_y, zl_e, bd_y, isB_n0, isB_n1, n0_eq, n1_eq, if_n0, if_n1, isB_if, not_true_eq_false, not_false_eq_true, ite_true, ite_false, Nat.le_refl, Nat.lt_irrefl, rM_r, d0, qe]
              · have iv := (itv i hi e).1
                rw [if_neg e]
                simp (disch := omega) only [f_X8_delays_104, f_X8_delays_152, nI_add, pk_mul, nI_clamp, nI_eqE, nI_leE, nI_ltE, nI_eq0, nI_le0, nI_lt0, nI_ge0, nI_gt0, pk_rem, pk_sub, inb_t, gd_y, zl_e, bd_y, isB_n0, isB_n1, n0_eq, n1_eq, if_n0, if_n1, isB_if, not_true_eq_false, not_false_eq_true, ite_true, ite_false, Nat.le_refl, Nat.lt_irrefl, rM_r, d0, qe, e, rM_2, x22 i hi, iv, rM_w]
          refine ⟨nI (σ 0), x, rM (sI x 113 0 (nI 0)) 114 (a_dy σ q (σ 0) it), ?_, ?_, ?_⟩
          · simp (disch := omega) only [x7_isRock n.n hn, zl_e, bd_y, if_n0, n0_eq, n1_eq, Bool.false_eq_true, not_true_eq_false, not_false_eq_true, if_true, if_false, Nat.one_ne_zero, rM_rM, c1, n.n, v1, inb_t, gd_y, p7, w1]
          · have wo := wo_e (μ := rM (sI x 113 0 (nI 0)) 114 σ) (a2 := nI l) (a3 := nI f) (a4 := nI (σ 0)) hs4 hz hl (by rw [rM_k (by omega), rd_k (by omega), w3.2 120 (by omega)]; exact j3) (by rw [rM_k (by omega), rd_k (by omega), w3.2 121 (by omega)]; exact i3)
            rw [if_pos rfl, if_pos k] at wo
            rw [← th_rM r1]
            simp (disch := omega) only [x8_isRock hn, zl_e, bd_y, if_n0, n0_eq, n1_eq, Bool.false_eq_true, not_true_eq_false, not_false_eq_true, if_true, if_false, Nat.one_ne_zero, rM_rM, c1, isSheet_e, c12, and_self, inb_t, gd_y, nI_clamp, rM_r, wo, p8, w8]
          · have dn : ∀ j, (j < 60 ∨ 141 ≤ j) → a_dy σ q (σ 0) it j = σ j := fun j hj => a_dy_n hj (by omega) hn
            refine I.fin (FS.fb w3) ?_ ?_ (by rw [dn 1 (by omega)]; exact m) w2 (by rw [w4]; exact s') ((l'.fb w3 (by omega)).st w.ru (dn 3 (by omega)) (fun j h1 h2 => dn j (by omega))) ((g.mem (fun k h1 h2 => w3.2 k (by omega))).st w.lo (dn 4 (by omega)) (fun j h1 h2 => dn j (by omega)))
            · intro j hj
              by_cases c : 60 + 9 * q ≤ j ∧ j < 60 + 9 * q + σ 0 ∧ j ≠ 60 + 9 * q + q
              · have : a_dy σ q (σ 0) it j = it (j - (60 + 9 * q)) := by unfold a_dy; rw [if_pos c]
                rw [this, bd_l (by omega) (by omega)]
                exact (itv _ (by omega) (by omega)).2
              · have : a_dy σ q (σ 0) it j = σ j := by unfold a_dy; rw [if_neg c]
                rw [this]
                exact w j hj
            · intro a b t ha hb ht hc
              rw [dn 0 (by omega)] at hc
              rw [dn _ (by omega)]
              exact z' a b t ha hb ht hc
        · -- NOT
          have ex : ∃ i, i < σ 0 ∧ i ≠ q ∧ ¬ ((1 : Int64) ≤ μ.2 (109 + s) (f + i) ∧ μ.2 (109 + s) (f + i) ≤ 9) := by
            apply Classical.byContradiction
            intro ne
            apply ok
            intro i h1 h2
            apply Classical.byContradiction
            intro h3
            exact ne ⟨i, h1, h2, h3⟩
          have p7 : ∀ kx : Mem → Option (Int32 × Mem), f_X7_delays_52 (nI q) (nI s) (nI l) (nI f) kx zfu (nI 0) μ = some (-2, μ) := by
            intro kx
            refine lp_eqI (fun fu i => f_X7_delays_52 (nI q) (nI s) (nI l) (nI f) kx fu (nI i) μ) (fun i => ∀ j, j < i → j ≠ q → (1 : Int64) ≤ μ.2 (109 + s) (f + j) ∧ μ.2 (109 + s) (f + j) ≤ 9) (σ 0) _ ?_ ?_ zfu 0 (by omega) (by unfold zfu; omega) (fun j hj => absurd hj (by omega))
            · intro fu g1
              exact absurd g1 ok
            · intro fu i hi g1 _
              have qe : ¬ σ 0 ≤ i := by omega
              simp (disch := omega) only [f_X7_delays_52, f_X7_delays_102, nI_add, pk_mul, nI_clamp, nI_eqE, nI_leE, nI_ltE, nI_eq0, nI_le0, nI_lt0, nI_ge0, nI_gt0, pk_rem, pk_sub, inb_t, gd_y, zl_e, bd_y, isB_n0, isB_n1, n0_eq, n1_eq, if_n0, if_n1, isB_if, not_true_eq_false, not_false_eq_true, ite_true, ite_false, Nat.le_refl, Nat.lt_irrefl, n.n, qe, show 105 + s + 4 = 109 + s by omega]
              by_cases e : i = q
              · left
                refine ⟨fun j hj hne => g1 j (by omega) hne, by rw [if_pos e]⟩
              · rw [if_neg e]
                by_cases o1 : (1 : Int64) ≤ μ.2 (109 + s) (f + i)
                · rw [if_neg (by rw [lg_cmp_lt]; exact Int64.not_lt.mpr o1)]
                  by_cases o2 : μ.2 (109 + s) (f + i) ≤ 9
                  · left
                    refine ⟨fun j hj hne => ?_, by rw [if_pos (by rw [lg_cmp_le]; exact o2)]⟩
                    by_cases ej : j < i
                    · exact g1 j ej hne
                    · rw [show j = i by omega]; exact ⟨o1, o2⟩
                  · right
                    rw [if_neg (by rw [lg_cmp_le]; exact o2)]
                · right
                  rw [if_pos (by rw [lg_cmp_lt]; exact Int64.not_le.mp o1)]
          have p8 : ∀ kx : Mem → Option (Int32 × Mem), f_X8_delays_50 (nI q) (nI s) (nI l) (nI f) kx zfu (nI 0) (rM (sI μ 113 0 (nI 0)) 114 σ) = some (-2, rM (sI μ 113 0 (nI 0)) 114 σ) := by
            intro kx
            refine lp_eqI (fun fu i => f_X8_delays_50 (nI q) (nI s) (nI l) (nI f) kx fu (nI i) (rM (sI μ 113 0 (nI 0)) 114 σ)) (fun i => ∀ j, j < i → j ≠ q → (1 : Int64) ≤ μ.2 (109 + s) (f + j) ∧ μ.2 (109 + s) (f + j) ≤ 9) (σ 0) _ ?_ ?_ zfu 0 (by omega) (by unfold zfu; omega) (fun j hj => absurd hj (by omega))
            · intro fu g1
              exact absurd g1 ok
            · intro fu i hi g1 _
              have qe : ¬ σ 0 ≤ i := by omega
              simp (disch := omega) only [f_X8_delays_50, f_X8_delays_95, nI_add, pk_mul, nI_clamp, nI_eqE, nI_leE, nI_ltE, nI_eq0, nI_le0, nI_lt0, nI_ge0, nI_gt0, pk_rem, pk_sub, inb_t, gd_y, zl_e, bd_y, isB_n0, isB_n1, n0_eq, n1_eq, if_n0, if_n1, isB_if, not_true_eq_false, not_false_eq_true, ite_true, ite_false, Nat.le_refl, Nat.lt_irrefl, rM_r, qe, rM_2, rd_2, e22 i hi, i64_bw]
              by_cases e : i = q
              · left
                refine ⟨fun j hj hne => g1 j (by omega) hne, by rw [if_pos e]⟩
              · rw [if_neg e]
                by_cases o : (1 : Int64) ≤ μ.2 (109 + s) (f + i) ∧ μ.2 (109 + s) (f + i) ≤ 9
                · left
                  refine ⟨fun j hj hne => ?_, by rw [if_neg (by simp [o.1, o.2])]⟩
                  by_cases ej : j < i
                  · exact g1 j ej hne
                  · rw [show j = i by omega]; exact o
                · right
                  rw [if_pos o]
          refine ⟨-2, μ, rM (sI μ 113 0 (nI 0)) 114 σ, ?_, ?_, I.ref r⟩
          · simp (disch := omega) only [x7_isRock n.n hn, zl_e, bd_y, if_n0, n0_eq, n1_eq, Bool.false_eq_true, not_true_eq_false, not_false_eq_true, if_true, if_false, Nat.one_ne_zero, rM_rM, c1, n.n, v1, inb_t, gd_y, p7]
          · have v2' := v2
            rw [← th_rM r] at v2' ⊢
            simp (disch := omega) only [x8_isRock hn, zl_e, bd_y, if_n0, n0_eq, n1_eq, Bool.false_eq_true, not_true_eq_false, not_false_eq_true, if_true, if_false, Nat.one_ne_zero, rM_rM, c1, isSheet_e, c12, and_self, inb_t, gd_y, nI_clamp, rM_r, v2', p8]
    · refine ⟨-1, μ, rM (sI μ 113 0 (nI 0)) 114 σ, ?_, ?_, I.ref r⟩
      · simp (disch := omega) only [x7_isRock n.n hn, zl_e, bd_y, if_n0, n0_eq, n1_eq, Bool.false_eq_true, not_true_eq_false, not_false_eq_true, if_true, if_false, Nat.one_ne_zero, rM_rM, c1, bad_row c12, m1z]
      · rw [← th_rM r]
        simp (disch := omega) only [x8_isRock hn, zl_e, bd_y, if_n0, n0_eq, n1_eq, Bool.false_eq_true, not_true_eq_false, not_false_eq_true, if_true, if_false, Nat.one_ne_zero, rM_rM, c1, isSheet_e, c12]
  · refine ⟨-1, μ, rM (sI μ 113 0 (nI 0)) 114 σ, ?_, ?_, I.ref r⟩
    · simp (disch := omega) only [x7_isRock n.n hn, zl_e, bd_y, if_n0, n0_eq, n1_eq, Bool.false_eq_true, not_true_eq_false, not_false_eq_true, if_true, if_false, Nat.one_ne_zero, rM_rM, c1]
    · rw [← th_rM r]
      simp (disch := omega) only [x8_isRock hn, zl_e, bd_y, if_n0, n0_eq, n1_eq, Bool.false_eq_true, not_true_eq_false, not_false_eq_true, if_true, if_false, Nat.one_ne_zero, rM_rM, c1]
