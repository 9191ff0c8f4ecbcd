/-! PURE PART: rocks, both -/
theorem o_rocks : ok_rocks II := by
  intro μ I
  obtain ⟨⟨σ, h, r, w, z, m, n, s, l, g⟩, i2, i3, i4, hL, hD⟩ := id I
  obtain ⟨L, N, t, tq⟩ := i3.l
  have hN := t.2.1
  obtain ⟨x, p1, e1, f1, d1⟩ := c_readRocks t
  have xk : ∀ k, (k < 93 ∨ 103 ≤ k) → (sI (CM x p1 (t_rocks L N).1) 93 0 (nI 0)).1 k = μ.1 k := fun k hk => by rw [rd_k (by omega), CM_k (by omega), f1.2 k (by omega)]
  have xq : ∀ {y : Mem}, (∀ k, 103 ≤ k → y.1 k = μ.1 k) → QL L N (sI y 113 0 (nI 0)) := fun {y} hy => ⟨by rw [rd_j (by omega), hy 113 (by omega)]; exact tq.1, tq.2.1, fun i hi => by rw [rd_k (by omega), hy 118 (by omega)]; exact tq.2.2 i hi⟩
  cases hw : (t_rocks L N).1 with
  | some k =>
    obtain ⟨y, p2, l2, c2, e2, f2, d2, w2⟩ := e_readsRocks (xq (y := sI (CM x p1 (t_rocks L N).1) 93 0 (nI 0)) (fun k hk => xk k (by omega)))
    have kN := w2 k hw
    rw [hw] at e1 e2 xk f2
    have k10 : (sI (RM y p2 l2 (some k) c2) 113 7 (nI 0)).1 113 10 = nI k := by rw [rd_j (by omega), RM_10]; rfl
    refine ⟨rv (some k) (nI (t_rocks L N).2.1), sI (CM x p1 (some k)) 93 0 (nI 0), sI (RM y p2 l2 (some k) c2) 113 7 (nI 0), ?_, ?_, ?_⟩
    · unfold f_X7_rocks
      rw [e1, bd_y, zl_e]
      show (if rv (some k) (nI (t_rocks L N).2.1) < 0 then _ else _) = _
      rw [if_pos (of_eq_true (rv_lt (by omega)))]
    · unfold f_X8_rocks
      rw [zl_e, e2, bd_y]
      rw [if_neg (show ¬ ((sI (RM y p2 l2 (some k) c2) 113 7 (nI 0)).1 113 10 < 0) by rw [k10]; exact nI_pos (by omega)), k10]
      rfl
    · have yk : ∀ q, (q < 93 ∨ (103 ≤ q ∧ q < 113) ∨ (113 < q ∧ q ≠ 119)) → (sI (RM y p2 l2 (some k) c2) 113 7 (nI 0)).1 q = μ.1 q := fun q hq => by rw [rd_k (by omega), RM_k (by omega), f2.2 q (by omega), rd_k (by omega), xk q (by omega)]
      refine I.tz (σ := σ) (h := h) (fun q hq => yk q (by omega)) (fun j hj => ?_) ?_ ?_ rd_s (IA.mem (μ := μ) ⟨r, w, z, m, n, s, l, g⟩ (yk 114 (by omega)) (fun q h1 h2 => yk q (by omega)) (fun q h1 h2 => yk q (by omega)) (fun q h1 h2 => yk q (by omega)))
      · rw [rd_j (by omega), RM_j (by omega), f2.2 113 (by omega), rd_j (by omega), xk 113 (by omega)]
      · show y.2 = μ.2
        rw [f2.1]
        exact f1.1
      · rw [rd_k (by omega), RM_k (by omega), f2.2 93 (by omega), rd_k (by omega), rd_s]
  | none =>
    obtain ⟨D8, D1⟩ := d1 hw
    generalize hc : (t_rocks L N).2.1 = c at D8 D1 e1
    rw [hw] at e1 xk
    have db : DB (t_rocks L N).2.2 := t_rocks_b
    have nx : NN (sI (CM x p1 none) 93 0 (nI 0)) 2 σ h 9 := n.mem w.n (fun k h1 h2 => xk k (by omega))
    obtain ⟨u, b1, b2, b3, b4⟩ := n2_anew nx
    have uD : ∀ o, o < 4 → ∀ k, k < c → u.1 (99 + o) k = nI ((t_rocks L N).2.2 (4 * k + o)) := fun o ho k hk => by rw [b3.2 (99 + o) (by omega), rd_k (by omega), CM_k (by omega)]; exact D1 o ho k hk
    obtain ⟨v, g1, g2, g3, g4⟩ := c_rocksL (σ := σ) (h := h) w db D8 uD zfu 0 u (by omega) (by unfold zfu; omega) b2 FB.r rfl
    obtain ⟨r0, rw_, rz, r1, rk⟩ := a_rs_w w db c D8
    have v9 : ∀ k, (k < 2 ∨ 24 ≤ k) → v.1 k = (sI (CM x p1 none) 93 0 (nI 0)).1 k := fun k hk => by rw [g3.2 k (by omega), b3.2 k (by omega)]
    have vk : ∀ k, (k < 2 ∨ (24 ≤ k ∧ k < 93) ∨ 103 ≤ k) → v.1 k = μ.1 k := fun k hk => by rw [v9 k (by omega), xk k (by omega)]
    obtain ⟨y, p2, l2, c2, e2, f2, d2, w2⟩ := e_readsRocks (xq (y := v) (fun k hk => vk k (by omega)))
    obtain ⟨E0, E1⟩ := d2 hw
    rw [hc] at E0
    subst E0
    rw [hw] at e2
    have yk : ∀ q, q ≠ 113 → q ≠ 119 → (sI (RM y p2 l2 none c2) 113 7 (nI 0)).1 q = v.1 q := fun q h1 h2 => by rw [rd_k (by omega), RM_k (by omega), f2.2 q (by omega), rd_k (by omega)]
    have y13 : ∀ j, (j = 5 ∨ j = 16 ∨ j = 17) → (sI (RM y p2 l2 none c2) 113 7 (nI 0)).1 113 j = μ.1 113 j := fun j hj => by rw [rd_j (by omega), RM_j (by omega), f2.2 113 (by omega), rd_j (by omega), vk 113 (by omega)]
    have y7 : (sI (RM y p2 l2 none c2) 113 7 (nI 0)).1 113 7 = nI 0 := rd_s
    have y10 : (sI (RM y p2 l2 none c2) 113 7 (nI 0)).1 113 10 = wI none := by rw [rd_j (by omega), RM_10]
    have y12 : (sI (RM y p2 l2 none c2) 113 7 (nI 0)).1 113 12 = nI c2 := by rw [rd_j (by omega), RM_12]
    have y9 : ∀ j, j < 4 * c2 → (sI (RM y p2 l2 none c2) 113 7 (nI 0)).1 119 j = nI ((t_rocks L N).2.2 j) := fun j hj => by rw [rd_k (by omega), RM_k (by omega)]; exact E1 j hj
    have y2 : (sI (RM y p2 l2 none c2) 113 7 (nI 0)).2 = μ.2 := by
      show y.2 = μ.2
      rw [f2.1]
      show v.2 = μ.2
      rw [g3.1, b3.1]
      exact f1.1
    have yr : RR (sI (RM y p2 l2 none c2) 113 7 (nI 0)) 114 σ := fun j hj => by rw [yk 114 (by omega) (by omega), vk 114 (by omega)]; exact r j hj
    generalize hy : sI (RM y p2 l2 none c2) 113 7 (nI 0) = Y at e2 yk y13 y7 y10 y12 y9 y2 yr
    have cc : ∀ {c : Nat}, c ≤ 9 → ¬ (rv none (nI c) < 0) := fun {c} h => nI_pos (by omega)
    refine ⟨nI c2, v, rM Y 114 (a_rs σ (t_rocks L N).2.2 c2), ?_, ?_, ?_⟩
    · unfold f_X7_rocks
      rw [e1, bd_y, zl_e]
      show (if rv none (nI c2) < 0 then _ else _) = _
      rw [if_neg (cc D8), b1, bd_y]
      exact g1
    · unfold f_X8_rocks
      rw [zl_e, e2, bd_y, if_pos (show Y.1 113 10 < 0 by rw [y10]; exact of_eq_true wn_lt)]
      have := e_rocksL (μ := Y) (σ := σ) w db D8 y12 y9
      rw [← this]
      show _ = f_X8_rocks_91 (fun μ => f_X8_rocks_150 μ) zfu (nI 0) (rM Y 114 (a_bg σ 81))
      have eb := e_rocksB (μ := Y) (σ := σ) (K := fun μ => f_X8_rocks_89 μ)
      rw [← a_bg_0] at eb
      have ec : sI (sI (sI Y 114 0 (nI 0)) 114 1 (nI 0)) 114 2 (nI 0) = rM Y 114 (nu (nu (nu σ 0 0) 1 0) 2 0) := by
        conv => lhs; rw [← rM_o yr]
        simp (disch := omega) only [rM_w]
      rw [← ec] at eb
      simp (disch := omega) only [nI_add, pk_mul, nI_clamp, nI_eqE, nI_leE, nI_ltE, nI_eq0, nI_le0, nI_lt0, nI_ge0, nI_gt0, pk_rem, pk_sub, inb_t, gd_y, zl_e, bd_y, isB_n0, isB_n1, n0_eq, n1_eq, if_n0, if_n1, isB_if, not_true_eq_false, not_false_eq_true, ite_true, ite_false, Nat.le_refl, Nat.lt_irrefl]
      exact eb
    · have zk : ∀ q, q ≠ 113 → q ≠ 114 → q ≠ 119 → (rM Y 114 (a_rs σ (t_rocks L N).2.2 c2)).1 q = v.1 q := fun q h1 h2 h3 => by rw [rM_k h2, yk q h1 h3]
      have l1 : NL v 24 σ := l.mem (fun k h1 h2 => vk k (by omega))
      have g1' : NG v 29 σ := g.mem (fun k h1 h2 => vk k (by omega))
      refine I.tz (σ := a_rs σ (t_rocks L N).2.2 c2) (h := h) (fun q hq => by rw [zk q (by omega) (by omega) (by omega), vk q (by omega)]) (fun j hj => by rw [rM_k (by omega)]; exact y13 j hj) y2 ?_ (by rw [rM_k (by omega)]; exact y7) ⟨rM_rr, rw_, rz, ?_, ?_, ?_, ?_, ?_⟩
      · rw [zk 93 (by omega) (by omega) (by omega), v9 93 (by omega), rd_s]
      · rw [r1]; omega
      · exact g2.mem rw_.n (fun k h1 h2 => zk k (by omega) (by omega) (by omega))
      · rw [zk 2 (by omega) (by omega) (by omega), g4, b4, xk 2 (by omega)]; exact s
      · exact (l1.st w.ru (rk 3 (by omega)) (fun j h1 h2 => rk j (by omega))).mem (fun k h1 h2 => zk k (by omega) (by omega) (by omega))
      · exact (g1'.st (w 4 (by omega)) (rk 4 (by omega)) (fun j h1 h2 => rk j (by omega))).mem (fun k h1 h2 => zk k (by omega) (by omega) (by omega))
