/-! PURE PART: the class's night: acts -/
theorem NN.stir {μ : Mem} {b h d : Nat} {σ : St} {v : Int32} (c : NN μ b σ h d) (hn : σ 0 ≤ 9) : NN (sI μ b 6 v) b σ h d :=
  ⟨c.1.mem (fun j hj => rd_j (by omega)), c.2.1.mem hn (fun k h1 h2 => rd_k (by omega)), c.2.2.1.mem (fun k h1 h2 => rd_k (by omega)), c.2.2.2.mem (fun k h1 h2 => rd_k (by omega))⟩
theorem n2_show {μ : Mem} {b h d r q : Nat} {σ : St} (c : NN μ b σ h d) (w : WF σ) (hr : r < σ 0) : ∃ μ', f_X2_show b (nI r) (nI q) μ = some μ' ∧ NN μ' b (if σ (6 + 6 * r + 2) = 2 then nu σ (6 + 6 * r + 2) q else σ) h d ∧ FB b μ μ' ∧ (μ'.1 b 6 = nI 1 ∨ (μ'.1 b 6 = μ.1 b 6 ∧ ¬ σ (6 + 6 * r + 2) = 2)) := by
  have hn := w.n
  have hs := w.s (show r < 9 by omega)
  unfold f_X2_show
  simp (disch := omega) only [nI_add, pk_mul, nI_clamp, nI_eqE, nI_leE, nI_ltE, nI_eq0, nI_le0, nI_lt0, nI_ge0, nI_gt0, pk_rem, pk_sub, inb_t, gd_y, zl_e, bd_y, isB_n0, isB_n1, n0_eq, n1_eq, if_n0, if_n1, isB_if, not_true_eq_false, not_false_eq_true, ite_true, ite_false, Nat.le_refl, Nat.lt_irrefl, c.2.1.2.1 r hr]
  by_cases e : σ (6 + 6 * r + 2) = 2
  · rw [if_pos e, if_pos e]
    refine ⟨_, rfl, NN.stir ?_ (by rw [nu_n (by omega)]; exact hn), (FB.w (by omega) (by omega)).t (FB.w (by omega) (by omega)), Or.inl rd_s⟩
    obtain ⟨cS, ⟨a1, a2, a3, a4, a5, a6⟩, cH, cR⟩ := c
    refine ⟨(cS.mem (fun j hj => by rw [rd_k (by omega)])).st (nu_n (by omega)) (nu_n (by omega)) (nu_n (by omega)) (nu_n (by omega)), ?_, (cH.mem (fun k h1 h2 => rd_k (by omega))).st hn (nu_n (by omega)) (fun r' _ => nu_n (by omega)) (fun j h1 h2 => nu_n (by omega)), (cR.mem (fun k h1 h2 => rd_k (by omega))).st (nu_n (by omega)) (fun j h1 h2 => nu_n (by omega))⟩
    unfold NA
    rw [nu_n (by omega)]
    refine ⟨fun r' h' => ?_, fun r' h' => ?_, fun r' h' => ?_, fun r' h' => ?_, fun r' h' => ?_, fun a x ha hx hne => ?_⟩
    · rw [rd_k (by omega), nu_n (by omega)]; exact a1 r' h'
    · by_cases e2 : r' = r
      · subst e2; rw [rd_s, nu_s]
      · rw [rd_j e2, nu_n (by omega)]; exact a2 r' h'
    · rw [rd_k (by omega), nu_n (by omega)]; exact a3 r' h'
    · rw [rd_k (by omega), nu_n (by omega)]; exact a4 r' h'
    · rw [rd_k (by omega), nu_n (by omega)]; exact a5 r' h'
    · rw [rd_k (by omega), nu_n (by omega)]; exact a6 a x ha hx hne
  · rw [if_neg e, if_neg e]
    exact ⟨_, rfl, c, FB.r, Or.inr ⟨rfl, e⟩⟩
theorem n2_believe {μ : Mem} {b h d r q : Nat} {σ : St} (c : NN μ b σ h d) (w : WF σ) (hr : r < σ 0) (hq : q ≤ 1) : ∃ μ', f_X2_believe b (nI r) (nI q) μ = some μ' ∧ NN μ' b (nu σ (6 + 6 * r + 1) q) h d ∧ FB b μ μ' ∧ (μ'.1 b 6 = nI 1 ∨ (μ'.1 b 6 = μ.1 b 6 ∧ σ (6 + 6 * r + 1) = q)) := by
  have hn := w.n
  have r9 : r < 9 := by omega
  have hb := w.b r9
  unfold f_X2_believe
  rw [n2_believed c w hr]
  simp (disch := omega) only [nI_add, pk_mul, nI_clamp, nI_eqE, nI_leE, nI_ltE, nI_eq0, nI_le0, nI_lt0, nI_ge0, nI_gt0, pk_rem, pk_sub, inb_t, gd_y, zl_e, bd_y, isB_n0, isB_n1, n0_eq, n1_eq, if_n0, if_n1, isB_if, not_true_eq_false, not_false_eq_true, ite_true, ite_false, Nat.le_refl, Nat.lt_irrefl]
  by_cases e : σ (6 + 6 * r + 1) = q
  · rw [if_pos e, nu_id e]
    exact ⟨_, rfl, c, FB.r, Or.inr ⟨rfl, e⟩⟩
  · rw [if_neg e]
    refine ⟨_, rfl, NN.stir ?_ (by rw [nu_n (by omega)]; exact hn), ((FB.w (by omega) (by omega)).t (FB.w (by omega) (by omega))).t (FB.w (by omega) (by omega)), Or.inl rd_s⟩
    obtain ⟨cS, cA, cH, cR⟩ := c
    refine ⟨(cS.mem (fun j hj => by rw [rd_k (by omega), rd_k (by omega)])).st (nu_n (by omega)) (nu_n (by omega)) (nu_n (by omega)) (nu_n (by omega)), (cA.mem hn (fun k h1 h2 => by rw [rd_k (by omega), rd_k (by omega)])).st hn (fun j hj => nu_n (by omega)), ?_, (cR.mem (fun k h1 h2 => by rw [rd_k (by omega), rd_k (by omega)])).st (nu_n (by omega)) (fun j h1 h2 => nu_n (by omega))⟩
    intro p r' f hp hr'
    rw [nu_n (by omega)] at hr' ⊢
    have old := fun p hp => cH p r' f hp hr'
    by_cases e2 : r' = r
    · subst e2
      have n32 : f < 32 ∨ 32 ≤ f := by omega
      have hbf : a_hb (nu σ (6 + 6 * r' + 1) q) r' f = if r' = f then q else σ (141 + 9 * r' + f) := by
        unfold a_hb
        rw [nu_s, nu_n (by omega)]
      have hbo : a_hb σ r' f = if r' = f then σ (6 + 6 * r' + 1) else σ (141 + 9 * r' + f) := rfl
      rw [hbf]
      rw [hbo] at old
      by_cases f32 : f < 32
      · by_cases p0 : p = q
        · subst p0
          rw [rd_k (by omega), rd_s, bt_or, bt_1 (by omega), old p hp]
          by_cases e3 : r' = f
          · subst e3; simp [hr']
          · simp [e3, Ne.symm e3]
        · have p1 : p = 1 - q := by omega
          rw [p1, rd_s, bt_and, bt_not _ f32, bt_1 (by omega), rd_k (by omega), ← p1, old p hp]
          by_cases e3 : r' = f
          · subst e3; simp; omega
          · simp [e3, Ne.symm e3]
      · rw [bt_big (by omega)]
        simp [show ¬ f < σ 0 by omega]
    · rw [a_hb_st (σ := σ) (nu_n (by omega)) (nu_n (by omega))]
      rw [← old p hp]
      by_cases p0 : p = q
      · subst p0
        rw [rd_k (by omega), rd_j e2]
      · have p1 : p = 1 - q := by omega
        rw [p1, rd_j e2, rd_k (by omega)]
theorem dr_f {d : Nat} : nI (d * 1103515245 + 12345) &&& nI 2147483647 = nI (a_dr d) := by
  rw [← dr_e, pk_mul, nI_add]
theorem n2_send63 {μ : Mem} {b h d r to q tm : Nat} {x : Int32} {σ : St} (c : NN μ b σ h d) (w : WF σ) (hr : r < σ 0) (ht : to < σ 0) (hq : q ≤ 1) (htm : tm ≤ 100) : ∃ μ', f_X2_send_63 b (nI r) (nI to) (nI q) x (nI tm) μ = some μ' ∧ NN μ' b (nu σ (222 + 19 * (9 * r + to) + (σ 1 + tm) % 19) (q + 1)) h d ∧ FB b μ μ' ∧ μ'.1 b 6 = μ.1 b 6 := by
  have hn := w.n
  have h4 := c.1.2.2.2.2.1
  have h19 := c.1.2.2.2.2.2.1
  unfold f_X2_send_63
  simp (disch := omega) only [nI_add, pk_mul, nI_clamp, nI_eqE, nI_leE, nI_ltE, nI_eq0, nI_le0, nI_lt0, nI_ge0, nI_gt0, pk_rem, pk_sub, inb_t, gd_y, bd_y, isB_n0, isB_n1, n0_eq, n1_eq, if_n0, if_n1, isB_if, not_true_eq_false, not_false_eq_true, ite_true, ite_false, Nat.le_refl, Nat.lt_irrefl, h4]
  simp only [zl_e]
  simp (disch := omega) only [nI_add, pk_mul, nI_clamp, nI_eqE, nI_leE, nI_ltE, nI_eq0, nI_le0, nI_lt0, nI_ge0, nI_gt0, pk_rem, pk_sub, inb_t, gd_y, bd_y, isB_n0, isB_n1, n0_eq, n1_eq, if_n0, if_n1, isB_if, not_true_eq_false, not_false_eq_true, ite_true, ite_false, Nat.le_refl, Nat.lt_irrefl]
  refine ⟨_, rfl, ?_, (FB.w (by omega) (by omega)).t (FB.w (by omega) (by omega)), by rw [rd_k (by omega), rd_k (by omega)]⟩
  obtain ⟨cS, cA, cH, cR⟩ := c
  refine ⟨(cS.mem (fun j hj => by rw [rd_k (by omega), rd_k (by omega)])).st (nu_n (by omega)) (nu_n (by omega)) (nu_n (by omega)) (nu_n (by omega)), (cA.mem hn (fun k h1 h2 => by rw [rd_k (by omega), rd_k (by omega)])).st hn (fun j hj => nu_n (by omega)), (cH.mem (fun k h1 h2 => by rw [rd_k (by omega), rd_k (by omega)])).st hn (nu_n (by omega)) (fun r' _ => nu_n (by omega)) (fun j h1 h2 => nu_n (by omega)), ?_⟩
  intro p s t f hp hs ht'
  rw [show nu σ (222 + 19 * (9 * r + to) + (σ 1 + tm) % 19) (q + 1) 1 = σ 1 from nu_n (by omega)]
  have old := fun p hp => cR p s t f hp hs ht'
  by_cases f9 : f < 9
  · by_cases e : (h + s) % 19 * 9 + t = (h + tm) % 19 * 9 + to
    · have e1 : t = to := by omega
      have e2 : (σ 1 + s) % 19 = (σ 1 + tm) % 19 := by omega
      by_cases e3 : f = r
      · subst e1; subst e3
        rw [← e2, nu_s, e]
        rw [e] at old
        by_cases p0 : p = q
        · subst p0
          rw [rd_k (by omega), rd_s, bt_or, bt_1 (by omega)]
          simp [f9]
        · have p1 : p = 1 - q := by omega
          rw [p1, rd_s, bt_and, bt_not _ (by omega), bt_1 (by omega)]
          simp
          omega
      · rw [nu_n (by omega), e, ← old p hp, e]
        by_cases p0 : p = q
        · subst p0
          rw [rd_k (by omega), rd_s, bt_or, bt_1 (by omega)]
          simp [e3]
        · have p1 : p = 1 - q := by omega
          rw [p1, rd_s, bt_and, bt_not _ (by omega), bt_1 (by omega), rd_k (by omega)]
          simp [e3]
    · rw [nu_n (by omega), ← old p hp]
      by_cases p0 : p = q
      · subst p0
        rw [rd_k (by omega), rd_j e]
      · have p1 : p = 1 - q := by omega
        rw [p1, rd_j e, rd_k (by omega)]
  · simp only [f9, false_and, decide_false] at old ⊢
    by_cases f32 : f < 32
    · by_cases e : (h + s) % 19 * 9 + t = (h + tm) % 19 * 9 + to
      · rw [e] at old ⊢
        by_cases p0 : p = q
        · subst p0
          rw [rd_k (by omega), rd_s, bt_or, bt_1 (by omega), old p hp]
          simp
          omega
        · have p1 : p = 1 - q := by omega
          rw [p1, rd_s, bt_and, bt_not _ f32, bt_1 (by omega), rd_k (by omega), ← p1, old p hp]
          simp
      · rw [← old p hp]
        by_cases p0 : p = q
        · subst p0
          rw [rd_k (by omega), rd_j e]
        · have p1 : p = 1 - q := by omega
          rw [p1, rd_j e, rd_k (by omega)]
    · exact bt_big (by omega)
theorem n2_send47 {μ : Mem} {b h d r to q t0 : Nat} {x : Int32} {σ : St} (c : NN μ b σ h d) (w : WF σ) (hr : r < σ 0) (ht : to < σ 0) (hq : q ≤ 1) (h0 : t0 ≤ 20) : ∃ μ', f_X2_send_47 b (nI r) (nI to) (nI q) x (nI t0) μ = some μ' ∧ NN μ' b (nu σ (222 + 19 * (9 * r + to) + (σ 1 + (if σ (6 + 6 * r) = 3 then 2 * t0 else t0)) % 19) (q + 1)) h d ∧ FB b μ μ' ∧ μ'.1 b 6 = μ.1 b 6 := by
  have hn := w.n
  have hk := w.k (show r < 9 by omega)
  unfold f_X2_send_47
  simp (disch := omega) only [nI_add, pk_mul, nI_clamp, nI_eqE, nI_leE, nI_ltE, nI_eq0, nI_le0, nI_lt0, nI_ge0, nI_gt0, pk_rem, pk_sub, inb_t, gd_y, bd_y, isB_n0, isB_n1, n0_eq, n1_eq, if_n0, if_n1, isB_if, not_true_eq_false, not_false_eq_true, ite_true, ite_false, Nat.le_refl, Nat.lt_irrefl, c.2.1.1 r hr]
  simp only [zl_e]
  by_cases e : σ (6 + 6 * r) = 3
  · rw [if_pos e, if_pos e, Nat.mul_comm t0 2]
    exact n2_send63 c w hr ht hq (by omega)
  · rw [if_neg e, if_neg e]
    exact n2_send63 c w hr ht hq (by omega)
theorem n2_sendL {μ : Mem} {b r to q v m : Nat} (h3 : μ.1 b 3 = nI v) (hr : r < 9) (ht : to < 9) (hm : a_dr v / 65536 % 9 + 1 = m) : f_X2_send b (nI r) (nI to) (nI q) (nI 1) μ = f_X2_send_47 b (nI r) (nI to) (nI q) (nI 1) (nI m) (sI μ b 3 (nI (a_dr v))) := by
  have hd := a_dr_lt (d := v)
  unfold f_X2_send
  rw [inb_t hr (by omega), inb_t ht (by omega), gd_t, gd_t, h3, dr_e]
  rw [zl_e, if_neg (by rw [n1_eq]; exact id), zl_e, zl_e, rd_s, show nI (a_dr v) >>> (nI 16 &&& 31) = nI (a_dr v / 65536) from pk_shrN (by omega) _ 16 (by decide), pk_rem (by omega) (by omega) (by omega), nI_add, hm]
theorem n2_send0 {μ : Mem} {b r to q v : Nat} (h3 : μ.1 (b + 7 + r) to = nI v) (hr : r < 9) (ht : to < 9) : f_X2_send b (nI r) (nI to) (nI q) (nI 0) μ = f_X2_send_47 b (nI r) (nI to) (nI q) (nI 0) (nI v) μ := by
  unfold f_X2_send
  rw [inb_t hr (by omega), inb_t ht (by omega), gd_t, gd_t, nI_clamp (by omega), nI_clamp (by omega), h3]
  rw [zl_e, if_pos (by rw [n0_eq]; trivial)]
theorem n2_send {μ : Mem} {b h d r to q : Nat} {lot : Bool} {σ : St} (c : NN μ b σ h d) (w : WF σ) (hr : r < σ 0) (ht : to < σ 0) (hne : r ≠ to) (hq : q ≤ 1) : ∃ μ', f_X2_send b (nI r) (nI to) (nI q) (nI (if lot = true then 1 else 0)) μ = some μ' ∧ NN μ' b (nu (a_dw lot σ) (222 + 19 * (9 * r + to) + (σ 1 + a_tm lot σ r to) % 19) (q + 1)) h d ∧ FB b μ μ' ∧ μ'.1 b 6 = μ.1 b 6 := by
  have hn := w.n
  have r9 : r < 9 := by omega
  have hl := w.l r9 (show to < 9 by omega)
  have hd2 := a_dr_lt (d := σ 5)
  unfold a_tm a_t0 a_dw
  cases lot
  · simp only [Bool.false_eq_true, if_false]
    rw [n2_send0 (c.2.1.2.2.2.2.2 r to hr ht hne) r9 (by omega)]
    exact n2_send47 c w hr ht hq (by omega)
  · simp only [if_true]
    rw [n2_sendL c.1.2.2.2.1 r9 (by omega) rfl]
    have c' : NN (sI μ b 3 (nI (a_dr (σ 5)))) b (nu σ 5 (a_dr (σ 5))) h d := by
      obtain ⟨⟨c0, c1, c2, c3, c4, c5, c6⟩, cA, cH, cR⟩ := c
      refine ⟨⟨?_, ?_, ?_, ?_, ?_, c5, ?_⟩, (cA.mem hn (fun k h1 h2 => rd_k (by omega))).st hn (fun j hj => nu_n (by omega)), (cH.mem (fun k h1 h2 => rd_k (by omega))).st hn (nu_n (by omega)) (fun r' _ => nu_n (by omega)) (fun j h1 h2 => nu_n (by omega)), (cR.mem (fun k h1 h2 => rd_k (by omega))).st (nu_n (by omega)) (fun j h1 h2 => nu_n (by omega))⟩
      · rw [rd_j (by omega), nu_n (by omega)]; exact c0
      · rw [rd_j (by omega), nu_n (by omega)]; exact c1
      · rw [rd_j (by omega), nu_n (by omega)]; exact c2
      · rw [rd_s, nu_s]
      · rw [rd_j (by omega)]; exact c4
      · rw [rd_j (by omega)]; exact c6
    obtain ⟨μ', g1, g2, g3, g4⟩ := n2_send47 (x := nI 1) (q := q) (t0 := a_dr (σ 5) / 65536 % 9 + 1) c' (w.up (by rw [bd_5]; omega)) (by rw [nu_n (by omega)]; exact hr) (by rw [nu_n (by omega)]; exact ht) hq (by omega)
    refine ⟨μ', g1, ?_, (FB.w (by omega) (by omega)).t g3, by rw [g4, rd_j (by omega)]⟩
    rw [show nu σ 5 (a_dr (σ 5)) 1 = σ 1 from nu_n (by omega), show nu σ 5 (a_dr (σ 5)) (6 + 6 * r) = σ (6 + 6 * r) from nu_n (by omega)] at g2
    exact g2
theorem n2_colourSent {k r to q bf : Nat} {μ : Mem} (hk : k ≤ 5) (hq : q ≤ 1) (hb : bf ≤ 2) (hne : to ≠ r) : f_X2_colourSent (nI k) (nI q) (nI bf) (nI (if r ≤ to then 0 else 1)) μ = some (nI (a_sb k r to q bf), μ) := by
  unfold f_X2_colourSent a_sb
  by_cases c1 : r ≤ to
  · simp (disch := omega) only [nI_add, pk_mul, nI_clamp, nI_eqE, nI_leE, nI_ltE, nI_eq0, nI_le0, nI_lt0, nI_ge0, nI_gt0, pk_rem, pk_sub, inb_t, gd_y, zl_e, bd_y, isB_n0, isB_n1, n0_eq, n1_eq, if_n0, if_n1, isB_if, not_true_eq_false, not_false_eq_true, ite_true, ite_false, Nat.le_refl, Nat.lt_irrefl, c1]
    rw [if_pos (show r < to by omega)]
    by_cases k1 : k = 1
    · simp [k1]
    · by_cases k2 : k = 2
      · simp only [k2, Nat.reduceEqDiff, if_true, if_false]
        by_cases b2 : bf = 2
        · rw [if_pos b2, if_neg (by omega)]
        · rw [if_neg b2, if_pos (by omega)]
      · by_cases k3 : k = 3
        · simp [k3]
        · by_cases k4 : k = 4
          · simp only [k4, Nat.reduceEqDiff, if_true, if_false]
            rw [if_neg (by omega)]
          · simp [k1, k2, k3, k4]
  · simp (disch := omega) only [nI_add, pk_mul, nI_clamp, nI_eqE, nI_leE, nI_ltE, nI_eq0, nI_le0, nI_lt0, nI_ge0, nI_gt0, pk_rem, pk_sub, inb_t, gd_y, zl_e, bd_y, isB_n0, isB_n1, n0_eq, n1_eq, if_n0, if_n1, isB_if, not_true_eq_false, not_false_eq_true, ite_true, ite_false, Nat.le_refl, Nat.lt_irrefl, c1]
    rw [if_neg (show ¬ r < to by omega)]
    by_cases k1 : k = 1
    · simp [k1]
    · by_cases k2 : k = 2
      · simp only [k2, Nat.reduceEqDiff, if_true, if_false]
        by_cases b2 : bf = 2
        · rw [if_pos b2, if_neg (by omega)]
        · rw [if_neg b2, if_pos (by omega)]
      · by_cases k3 : k = 3
        · simp [k3]
        · by_cases k4 : k = 4
          · simp only [k4, Nat.reduceEqDiff, if_true, if_false]
            rw [if_pos (by omega)]
          · simp [k1, k2, k3, k4]
theorem n2_say {μ : Mem} {b h d r q : Nat} {lot : Bool} {s : St × Nat} (c : NN μ b s.1 h d) (w : WF s.1) (hr : r < s.1 0) (hq : q ≤ 1) : ∃ v μ', f_X2_say b (nI r) (nI q) (nI (if lot = true then 1 else 0)) μ = some (nI v, μ') ∧ NN μ' b (a_say lot r q s).1 h d ∧ (a_say lot r q s).2 = s.2 + v ∧ FB b μ μ' ∧ (μ'.1 b 6 = nI 1 ∨ (μ'.1 b 6 = μ.1 b 6 ∧ s.1 (6 + 6 * r + 3) = q)) := by
  obtain ⟨σ, e0⟩ := s
  simp only at *
  have hn := w.n
  have r9 : r < 9 := by omega
  have hd := w.d r9
  have hk := w.k r9
  unfold f_X2_say a_say
  simp (disch := omega) only [nI_add, pk_mul, nI_clamp, nI_eqE, nI_leE, nI_ltE, nI_eq0, nI_le0, nI_lt0, nI_ge0, nI_gt0, pk_rem, pk_sub, inb_t, gd_y, zl_e, bd_y, isB_n0, isB_n1, n0_eq, n1_eq, if_n0, if_n1, isB_if, not_true_eq_false, not_false_eq_true, ite_true, ite_false, Nat.le_refl, Nat.lt_irrefl, c.2.1.2.2.1 r hr]
  by_cases e : σ (6 + 6 * r + 3) = q
  · simp only [e, if_true]
    exact ⟨0, μ, rfl, c, rfl, FB.r, Or.inr ⟨rfl, trivial⟩⟩
  · simp only [e, if_false]
    have c' : NN (sI (sI μ (b + 3) r (nI q)) b 6 (nI 1)) b (nu σ (6 + 6 * r + 3) q) h d := by
      refine NN.stir ?_ (by rw [nu_n (by omega)]; exact hn)
      obtain ⟨cS, ⟨a1, a2, a3, a4, a5, a6⟩, cH, cR⟩ := c
      refine ⟨(cS.mem (fun j hj => by rw [rd_k (by omega)])).st (nu_n (by omega)) (nu_n (by omega)) (nu_n (by omega)) (nu_n (by omega)), ?_, (cH.mem (fun k h1 h2 => rd_k (by omega))).st hn (nu_n (by omega)) (fun r' _ => nu_n (by omega)) (fun j h1 h2 => nu_n (by omega)), (cR.mem (fun k h1 h2 => rd_k (by omega))).st (nu_n (by omega)) (fun j h1 h2 => nu_n (by omega))⟩
      unfold NA
      rw [nu_n (by omega)]
      refine ⟨fun r' h' => ?_, fun r' h' => ?_, fun r' h' => ?_, fun r' h' => ?_, fun r' h' => ?_, fun a x ha hx hne => ?_⟩
      · rw [rd_k (by omega), nu_n (by omega)]; exact a1 r' h'
      · rw [rd_k (by omega), nu_n (by omega)]; exact a2 r' h'
      · by_cases e2 : r' = r
        · subst e2; rw [rd_s, nu_s]
        · rw [rd_j e2, nu_n (by omega)]; exact a3 r' h'
      · rw [rd_k (by omega), nu_n (by omega)]; exact a4 r' h'
      · rw [rd_k (by omega), nu_n (by omega)]; exact a5 r' h'
      · rw [rd_k (by omega), nu_n (by omega)]; exact a6 a x ha hx hne
    have w' : WF (nu σ (6 + 6 * r + 3) q) := w.up (by rw [bd_d r9]; omega)
    have fb' : FB b μ (sI (sI μ (b + 3) r (nI q)) b 6 (nI 1)) := (FB.w (by omega) (by omega)).t (FB.w (by omega) (by omega))
    have z0 : nu σ (6 + 6 * r + 3) q 0 = σ 0 := nu_n (by omega)
    have zk : nu σ (6 + 6 * r + 3) q (6 + 6 * r) = σ (6 + 6 * r) := nu_n (by omega)
    have kd : (sI (sI μ (b + 3) r (nI q)) b 6 (nI 1)).1 (b + 1) r = nI (σ (6 + 6 * r)) := by
      rw [c'.2.1.1 r (by rw [z0]; exact hr), zk]
    rw [kd]
    have cnt := a_sN_c (lot := lot) (r := r) (c := q) (bf := σ (6 + 6 * r + 3)) (s := (nu σ (6 + 6 * r + 3) q, e0)) r9 (t := σ 0) hn
    simp only [zk] at cnt
    simp (disch := omega) only [nI_add, pk_mul, nI_clamp, nI_eqE, nI_leE, nI_ltE, nI_eq0, nI_le0, nI_lt0, nI_ge0, nI_gt0, pk_rem, pk_sub, inb_t, gd_y, zl_e, bd_y, isB_n0, isB_n1, n0_eq, n1_eq, if_n0, if_n1, isB_if, not_true_eq_false, not_false_eq_true, ite_true, ite_false, Nat.le_refl, Nat.lt_irrefl]
    by_cases k5 : σ (6 + 6 * r) = 5
    · simp only [k5, if_true] at cnt ⊢
      refine ⟨0, _, rfl, ?_, by rw [cnt, Nat.add_zero], fb', Or.inl rd_s⟩
      have same : ∀ t, t ≤ 9 → a_sN lot r q (σ (6 + 6 * r + 3)) (nu σ (6 + 6 * r + 3) q, e0) t = (nu σ (6 + 6 * r + 3) q, e0) := by
        intro t
        induction t with
        | zero => intro _; rfl
        | succ t ih =>
          intro ht
          show a_s1 _ _ _ _ _ (a_sN _ _ _ _ _ t) = _
          rw [ih (by omega)]
          unfold a_s1
          simp only [zk, k5, if_true]
          split <;> rfl
      rw [same _ hn]
      exact c'
    · simp only [k5, if_false] at cnt ⊢
      rw [if_pos hr] at cnt
      have L := lp_rel (fun n i μ' => f_X2_say_43 b (nI r) (nI q) (nI (if lot = true then 1 else 0)) (fun μ => f_X2_say_95 b (nI r) (nI q) (nI (if lot = true then 1 else 0)) μ) n (nI (σ (6 + 6 * r + 3))) (nI i) μ') (fun i μ' => NN μ' b (a_sN lot r q (σ (6 + 6 * r + 3)) (nu σ (6 + 6 * r + 3) q, e0) i).1 h d ∧ FB b μ μ' ∧ μ'.1 b 6 = nI 1) (σ 0) (fun ρ => ρ.1 = nI (σ 0 - 1) ∧ NN ρ.2 b (a_sN lot r q (σ (6 + 6 * r + 3)) (nu σ (6 + 6 * r + 3) q, e0) (σ 0)).1 h d ∧ FB b μ ρ.2 ∧ ρ.2.1 b 6 = nI 1) ?_ ?_ zfu 0 _ (by omega) (by unfold zfu; omega) ⟨c', fb', rd_s⟩
      · obtain ⟨ρ, g1, g2, g3, g4, g5⟩ := L
        exact ⟨σ 0 - 1, ρ.2, by rw [g1, ← g2], g3, by rw [cnt], g4, Or.inl g5⟩
      · intro n μ' ⟨g1, g2, g3⟩
        have e1 : (a_sN lot r q (σ (6 + 6 * r + 3)) (nu σ (6 + 6 * r + 3) q, e0) (σ 0)).1 0 = σ 0 := (a_sN_n r9 (by omega) (by omega) hn).trans z0
        have g0 := g1.n
        rw [e1] at g0
        refine ⟨(nI (σ 0 - 1), μ'), ?_, rfl, g1, g2, g3⟩
        simp (disch := omega) only [f_X2_say_43, f_X2_say_95, nI_add, pk_mul, nI_clamp, nI_eqE, nI_leE, nI_ltE, nI_eq0, nI_le0, nI_lt0, nI_ge0, nI_gt0, pk_rem, pk_sub, inb_t, gd_y, zl_e, bd_y, isB_n0, isB_n1, n0_eq, n1_eq, if_n0, if_n1, isB_if, not_true_eq_false, not_false_eq_true, ite_true, ite_false, Nat.le_refl, Nat.lt_irrefl, g0]
      · intro n i μ' hi ⟨g1, g2, g3⟩
        left
        have i9 : i ≤ 9 := by omega
        have e1 : (a_sN lot r q (σ (6 + 6 * r + 3)) (nu σ (6 + 6 * r + 3) q, e0) i).1 0 = σ 0 := (a_sN_n r9 (by omega) (by omega) i9).trans z0
        have ek : (a_sN lot r q (σ (6 + 6 * r + 3)) (nu σ (6 + 6 * r + 3) q, e0) i).1 (6 + 6 * r) = σ (6 + 6 * r) := (a_sN_n r9 (by omega) (by omega) i9).trans zk
        have wi : WF (a_sN lot r q (σ (6 + 6 * r + 3)) (nu σ (6 + 6 * r + 3) q, e0) i).1 := a_sN_w w' r9 hq i9
        have g0 := g1.n
        rw [e1] at g0
        have gk := g1.2.1.1 r (by rw [e1]; exact hr)
        rw [ek] at gk
        have q0 : ¬ σ 0 ≤ i := by omega
        have un : a_sN lot r q (σ (6 + 6 * r + 3)) (nu σ (6 + 6 * r + 3) q, e0) (i + 1) = a_s1 lot r q (σ (6 + 6 * r + 3)) i (a_sN lot r q (σ (6 + 6 * r + 3)) (nu σ (6 + 6 * r + 3) q, e0) i) := rfl
        rw [un]
        generalize a_sN lot r q (σ (6 + 6 * r + 3)) (nu σ (6 + 6 * r + 3) q, e0) i = s at *
        by_cases c1 : i = r
        · refine ⟨μ', ⟨?_, g2, g3⟩, ?_⟩
          · unfold a_s1; rw [if_pos c1]; exact g1
          · subst c1
            simp (disch := omega) only [f_X2_say_43, f_X2_say_89, nI_add, pk_mul, nI_clamp, nI_eqE, nI_leE, nI_ltE, nI_eq0, nI_le0, nI_lt0, nI_ge0, nI_gt0, pk_rem, pk_sub, inb_t, gd_y, zl_e, bd_y, isB_n0, isB_n1, n0_eq, n1_eq, if_n0, if_n1, isB_if, not_true_eq_false, not_false_eq_true, ite_true, ite_false, Nat.le_refl, Nat.lt_irrefl, g0, q0]
        · have cs := a_sb_le (k := σ (6 + 6 * r)) (r := r) (to := i) (bf := σ (6 + 6 * r + 3)) hq
          obtain ⟨μ2, s1, s2, s3, s4⟩ := n2_send (lot := lot) (q := a_sb (σ (6 + 6 * r)) r i q (σ (6 + 6 * r + 3))) g1 wi (by rw [e1]; exact hr) (by rw [e1]; exact hi) (Ne.symm c1) cs
          refine ⟨μ2, ⟨?_, g2.t s3, by rw [s4]; exact g3⟩, ?_⟩
          · unfold a_s1
            rw [if_neg c1, ek, if_neg k5]
            exact s2
          · simp (disch := omega) only [f_X2_say_43, nI_add, pk_mul, nI_clamp, nI_eqE, nI_leE, nI_ltE, nI_eq0, nI_le0, nI_lt0, nI_ge0, nI_gt0, pk_rem, pk_sub, inb_t, gd_y, zl_e, bd_y, isB_n0, isB_n1, n0_eq, n1_eq, if_n0, if_n1, isB_if, not_true_eq_false, not_false_eq_true, ite_true, ite_false, Nat.le_refl, Nat.lt_irrefl, g0, q0, c1, gk]
            have cc := n2_colourSent (k := σ (6 + 6 * r)) (r := r) (to := i) (q := q) (bf := σ (6 + 6 * r + 3)) (μ := μ') hk hq hd c1
            by_cases c2 : r ≤ i
            · simp only [c2, if_true] at cc ⊢
              simp (disch := omega) only [f_X2_say_82, f_X2_say_89, cc, s1, nI_add, pk_mul, nI_clamp, nI_eqE, nI_leE, nI_ltE, nI_eq0, nI_le0, nI_lt0, nI_ge0, nI_gt0, pk_rem, pk_sub, inb_t, gd_y, zl_e, bd_y, isB_n0, isB_n1, n0_eq, n1_eq, if_n0, if_n1, isB_if, not_true_eq_false, not_false_eq_true, ite_true, ite_false, Nat.le_refl, Nat.lt_irrefl]
            · simp only [c2, if_false] at cc ⊢
              simp (disch := omega) only [f_X2_say_82, f_X2_say_89, cc, s1, nI_add, pk_mul, nI_clamp, nI_eqE, nI_leE, nI_ltE, nI_eq0, nI_le0, nI_lt0, nI_ge0, nI_gt0, pk_rem, pk_sub, inb_t, gd_y, zl_e, bd_y, isB_n0, isB_n1, n0_eq, n1_eq, if_n0, if_n1, isB_if, not_true_eq_false, not_false_eq_true, ite_true, ite_false, Nat.le_refl, Nat.lt_irrefl]
/-! the law -/
def NL (μ : Mem) (k : Nat) (σ : St) : Prop := μ.1 k 0 = nI (σ 3) ∧ ∀ i, i < σ 3 → μ.1 (k + 1) i = nI (σ (1761 + 4 * i)) ∧ μ.1 (k + 2) i = nI (σ (1761 + 4 * i + 1)) ∧ μ.1 (k + 3) i = nI (σ (1761 + 4 * i + 2)) ∧ μ.1 (k + 4) i = nI (σ (1761 + 4 * i + 3))
theorem NL.mem {μ μ' : Mem} {k : Nat} {σ : St} (c : NL μ k σ) (e : ∀ q, k ≤ q → q < k + 5 → μ'.1 q = μ.1 q) : NL μ' k σ := by
  obtain ⟨c0, c1⟩ := c
  refine ⟨by rw [e k (by omega) (by omega)]; exact c0, fun i hi => ?_⟩
  rw [e (k + 1) (by omega) (by omega), e (k + 2) (by omega) (by omega), e (k + 3) (by omega) (by omega), e (k + 4) (by omega) (by omega)]
  exact c1 i hi
theorem NL.fb {μ μ' : Mem} {k b : Nat} {σ : St} (c : NL μ k σ) (f : FB b μ μ') (hk : k + 5 ≤ b ∨ b + 22 ≤ k) : NL μ' k σ := c.mem (fun q h1 h2 => f.2 q (by omega))
theorem NL.st {μ : Mem} {k : Nat} {σ τ : St} (c : NL μ k σ) (h8 : σ 3 ≤ 8) (e3 : τ 3 = σ 3) (e : ∀ j, 1761 ≤ j → j < 1793 → τ j = σ j) : NL μ k τ := by
  obtain ⟨c0, c1⟩ := c
  unfold NL
  rw [e3]
  refine ⟨c0, fun i hi => ?_⟩
  rw [e _ (by omega) (by omega), e _ (by omega) (by omega), e _ (by omega) (by omega), e _ (by omega) (by omega)]
  exact c1 i hi
/-- a rule changes nothing -/
def RQ (σ : St) (r j : Nat) : Prop := a_cb σ r (σ (1761 + 4 * j)) (σ 0) < σ (1761 + 4 * j + 1) ∨ (σ (1761 + 4 * j + 2) = 0 ∧ σ (6 + 6 * r + 3) = a_co σ r j) ∨ (σ (1761 + 4 * j + 2) = 1 ∧ σ (6 + 6 * r + 1) = a_co σ r j) ∨ (¬ σ (1761 + 4 * j + 2) = 0 ∧ ¬ σ (1761 + 4 * j + 2) = 1 ∧ ¬ σ (6 + 6 * r + 2) = 2)
theorem RQ_e {lot : Bool} {r j : Nat} {s : St × Nat} (h : RQ s.1 r j) : a_r1 lot r j s = s := by
  unfold a_r1
  by_cases c1 : a_cb s.1 r (s.1 (1761 + 4 * j)) (s.1 0) < s.1 (1761 + 4 * j + 1)
  · rw [if_pos c1]
  · rw [if_neg c1]
    rcases h with h | ⟨h1, h2⟩ | ⟨h1, h2⟩ | ⟨h1, h2, h3⟩
    · exact absurd h c1
    · rw [if_pos h1]
      unfold a_say
      rw [if_pos h2]
    · rw [if_neg (by omega), if_pos h1, nu_id h2]
    · rw [if_neg h1, if_neg h2, if_neg h3]
theorem a_cb_cg {σ τ : St} {r c : Nat} (h1 : τ (6 + 6 * r + 1) = σ (6 + 6 * r + 1)) (h2 : ∀ f, f < 9 → τ (141 + 9 * r + f) = σ (141 + 9 * r + f)) {n : Nat} (hn : n ≤ 9) : a_cb τ r c n = a_cb σ r c n := by
  induction n with
  | zero => rfl
  | succ n ih =>
    show a_cb τ r c n + a_ci τ r c n = a_cb σ r c n + a_ci σ r c n
    rw [ih (by omega)]
    unfold a_ci
    rw [a_hb_st h1 (h2 n (by omega))]
theorem RQ_st {σ τ : St} {r j : Nat} (hn : σ 0 ≤ 9) (e : ∀ i, i ≠ 1 → τ i = σ i) (h : RQ σ r j) : RQ τ r j := by
  have e0 := e 0 (by omega)
  have r0 := e (1761 + 4 * j) (by omega)
  have r1 := e (1761 + 4 * j + 1) (by omega)
  have r2 := e (1761 + 4 * j + 2) (by omega)
  have r3 := e (1761 + 4 * j + 3) (by omega)
  have s1 := e (6 + 6 * r + 1) (by omega)
  have s2 := e (6 + 6 * r + 2) (by omega)
  have s3 := e (6 + 6 * r + 3) (by omega)
  unfold RQ a_co at *
  rw [e0, r0, r1, r2, r3, s1, s2, s3, a_cb_cg (σ := σ) s1 (fun f _ => e _ (by omega)) hn]
  exact h
theorem n2_act {μ : Mem} {b h d r k2 : Nat} {lot : Bool} {s : St × Nat} (c : NN μ b s.1 h d) (w : WF s.1) (hr : r < s.1 0) (cl : NL μ k2 s.1) (hk2 : k2 + 5 ≤ b ∨ b + 22 ≤ k2) : ∃ v μ', f_X2_act b (nI r) k2 (nI (if lot = true then 1 else 0)) μ = some (nI v, μ') ∧ NN μ' b (a_aI lot r s (s.1 3)).1 h d ∧ (a_aI lot r s (s.1 3)).2 = s.2 + v ∧ FB b μ μ' ∧ (μ'.1 b 6 = nI 1 ∨ (μ'.1 b 6 = μ.1 b 6 ∧ (∀ j, j < s.1 3 → RQ s.1 r j) ∧ a_aI lot r s (s.1 3) = s)) := by
  have hn := w.n
  have h8 := w.ru
  have r9 : r < 9 := by omega
  unfold f_X2_act
  have L := lp_rel (fun n i (x : Int32 × Mem) => f_X2_act_6 b (nI r) k2 (nI (if lot = true then 1 else 0)) n x.1 (nI i) x.2) (fun i x => ∃ v, x.1 = nI v ∧ (a_aI lot r s i).2 = s.2 + v ∧ NN x.2 b (a_aI lot r s i).1 h d ∧ FB b μ x.2 ∧ (x.2.1 b 6 = nI 1 ∨ (x.2.1 b 6 = μ.1 b 6 ∧ (∀ j, j < i → RQ s.1 r j) ∧ a_aI lot r s i = s))) (s.1 3) (fun x => ∃ v, x.1 = nI v ∧ (a_aI lot r s (s.1 3)).2 = s.2 + v ∧ NN x.2 b (a_aI lot r s (s.1 3)).1 h d ∧ FB b μ x.2 ∧ (x.2.1 b 6 = nI 1 ∨ (x.2.1 b 6 = μ.1 b 6 ∧ (∀ j, j < s.1 3 → RQ s.1 r j) ∧ a_aI lot r s (s.1 3) = s))) ?_ ?_ zfu 0 (nI 0, μ) (by omega) (by unfold zfu; omega) ⟨0, rfl, rfl, c, FB.r, Or.inr ⟨rfl, fun j hj => absurd hj (by omega), rfl⟩⟩
  · obtain ⟨x, g1, v, g2, g3, g4, g5, g6⟩ := L
    refine ⟨v, x.2, ?_, g4, g3, g5, g6⟩
    rw [← g2]
    exact g1
  · intro n x ⟨v, g2, g3, g4, g5, g6⟩
    refine ⟨x, ?_, v, g2, g3, g4, g5, g6⟩
    have l0 := (cl.fb g5 hk2).1
    simp (disch := omega) only [f_X2_act_6, nI_add, pk_mul, nI_clamp, nI_eqE, nI_leE, nI_ltE, nI_eq0, nI_le0, nI_lt0, nI_ge0, nI_gt0, pk_rem, pk_sub, inb_t, gd_y, zl_e, bd_y, isB_n0, isB_n1, n0_eq, n1_eq, if_n0, if_n1, isB_if, not_true_eq_false, not_false_eq_true, ite_true, ite_false, Nat.le_refl, Nat.lt_irrefl, l0]
  · intro n i x hi ⟨v, g2, g3, g4, g5, g6⟩
    left
    have i8 : i < 8 := by omega
    have e0 : (a_aI lot r s i).1 0 = s.1 0 := a_aI_0 hn r9 i
    have el : ∀ j, 1761 ≤ j → (a_aI lot r s i).1 j = s.1 j := fun j hj => a_aI_n hn r9 i (by omega) (by omega) (by omega) (by omega) (by omega)
    have wi : WF (a_aI lot r s i).1 := a_aI_w w r9 (by omega)
    have lw := (cl.fb g5 hk2).2 i hi
    obtain ⟨l1, l2, l3, l4⟩ := lw
    have l0 := (cl.fb g5 hk2).1
    rw [← el _ (by omega)] at l1 l2 l3 l4
    have q0 := wi.r0 i8
    have q1 := wi.r1 i8
    have q2 := wi.r2 i8
    have q3 := wi.r3 i8
    have qe : ¬ s.1 3 ≤ i := by omega
    have un : a_aI lot r s (i + 1) = a_r1 lot r i (a_aI lot r s i) := rfl
    rw [un]
    obtain ⟨x1, μ'⟩ := x
    simp only at *
    subst g2
    generalize hs : a_aI lot r s i = t at *
    have hr' : r < t.1 0 := by rw [e0]; exact hr
    have cb := a_cb_le (σ := t.1) (r := r) (c := t.1 (1761 + 4 * i)) (k := t.1 0)
    have co := a_co_le wi r9 i8
    have bel := n2_believed g4 wi hr'
    have cnt := n2_counted g4 wi hr' q0
    have fin : ∀ μ2 : Mem, μ2.1 b 6 = μ'.1 b 6 → RQ t.1 r i → (μ2.1 b 6 = nI 1 ∨ (μ2.1 b 6 = μ.1 b 6 ∧ (∀ j, j < i + 1 → RQ s.1 r j) ∧ a_r1 lot r i t = s)) := by
      intro μ2 e1 e2
      rcases g6 with g6 | ⟨g6, g7, g8⟩
      · exact Or.inl (by rw [e1]; exact g6)
      · refine Or.inr ⟨by rw [e1]; exact g6, fun j hj => ?_, by rw [RQ_e e2]; exact g8⟩
        by_cases ej : j < i
        · exact g7 j ej
        · rw [show j = i by omega, ← g8]; exact e2
    have key : ∀ u, u = a_co t.1 r i → ¬ a_cb t.1 r (t.1 (1761 + 4 * i)) (t.1 0) < t.1 (1761 + 4 * i + 1) → ∃ x' : Int32 × Mem, (∃ v, x'.1 = nI v ∧ (a_r1 lot r i t).2 = s.2 + v ∧ NN x'.2 b (a_r1 lot r i t).1 h d ∧ FB b μ x'.2 ∧ (x'.2.1 b 6 = nI 1 ∨ (x'.2.1 b 6 = μ.1 b 6 ∧ (∀ j, j < i + 1 → RQ s.1 r j) ∧ a_r1 lot r i t = s))) ∧ f_X2_act_63 b (nI r) k2 (nI (if lot = true then 1 else 0)) (fun x4 x5 μ => f_X2_act_6 b (nI r) k2 (nI (if lot = true then 1 else 0)) n x4 x5 μ) (nI v) (nI i) (nI u) μ' = f_X2_act_6 b (nI r) k2 (nI (if lot = true then 1 else 0)) n x'.1 (nI (i + 1)) x'.2 := by
      intro u hu hc
      subst hu
      unfold f_X2_act_63 f_X2_act_133
      simp (disch := omega) only [nI_add, pk_mul, nI_clamp, nI_eqE, nI_leE, nI_ltE, nI_eq0, nI_le0, nI_lt0, nI_ge0, nI_gt0, pk_rem, pk_sub, inb_t, gd_y, zl_e, bd_y, isB_n0, isB_n1, n0_eq, n1_eq, if_n0, if_n1, isB_if, not_true_eq_false, not_false_eq_true, ite_true, ite_false, Nat.le_refl, Nat.lt_irrefl, l3]
      by_cases c0 : t.1 (1761 + 4 * i + 2) = 0
      · have e1 : a_r1 lot r i t = a_say lot r (a_co t.1 r i) t := by unfold a_r1; rw [if_neg hc, if_pos c0]
        simp only [c0, if_true]
        obtain ⟨v2, μ2, s1, s2, s3, s4, s5⟩ := n2_say (lot := lot) (q := a_co t.1 r i) g4 wi hr' co
        refine ⟨(nI (v + v2), μ2), ⟨v + v2, rfl, by rw [e1, s3]; omega, by rw [e1]; exact s2, g5.t s4, ?_⟩, by simp only [s1, bd_y, nI_add]⟩
        rcases s5 with s5 | ⟨s5, s6⟩
        · exact Or.inl s5
        · exact fin μ2 s5 (Or.inr (Or.inl ⟨c0, s6⟩))
      · simp only [c0, if_false]
        by_cases c1 : t.1 (1761 + 4 * i + 2) = 1
        · have e1 : a_r1 lot r i t = (nu t.1 (6 + 6 * r + 1) (a_co t.1 r i), t.2) := by unfold a_r1; rw [if_neg hc, if_neg c0, if_pos c1]
          simp only [c1, if_true]
          obtain ⟨μ2, s1, s2, s3, s4⟩ := n2_believe (q := a_co t.1 r i) g4 wi hr' co
          refine ⟨(nI v, μ2), ⟨v, rfl, by rw [e1]; exact g3, by rw [e1]; exact s2, g5.t s3, ?_⟩, by simp only [s1, bd_y, nI_add]⟩
          rcases s4 with s4 | ⟨s4, s5⟩
          · exact Or.inl s4
          · exact fin μ2 s4 (Or.inr (Or.inr (Or.inl ⟨c1, s5⟩)))
        · simp only [c1, if_false]
          obtain ⟨μ2, s1, s2, s3, s4⟩ := n2_show (q := a_co t.1 r i) g4 wi hr'
          by_cases c2 : t.1 (6 + 6 * r + 2) = 2
          · have e1 : a_r1 lot r i t = (nu t.1 (6 + 6 * r + 2) (a_co t.1 r i), t.2) := by unfold a_r1; rw [if_neg hc, if_neg c0, if_neg c1, if_pos c2]
            rw [if_pos c2] at s2
            refine ⟨(nI v, μ2), ⟨v, rfl, by rw [e1]; exact g3, by rw [e1]; exact s2, g5.t s3, ?_⟩, by simp only [s1, bd_y, nI_add]⟩
            rcases s4 with s4 | ⟨s4, s5⟩
            · exact Or.inl s4
            · exact absurd c2 s5
          · have e1 : a_r1 lot r i t = t := by unfold a_r1; rw [if_neg hc, if_neg c0, if_neg c1, if_neg c2]
            rw [if_neg c2] at s2
            refine ⟨(nI v, μ2), ⟨v, rfl, by rw [e1]; exact g3, by rw [e1]; exact s2, g5.t s3, ?_⟩, by simp only [s1, bd_y, nI_add]⟩
            rcases s4 with s4 | ⟨s4, s5⟩
            · exact Or.inl s4
            · exact fin μ2 s4 (Or.inr (Or.inr (Or.inr ⟨c0, c1, c2⟩)))
    simp (disch := omega) only [f_X2_act_6, nI_add, pk_mul, nI_clamp, nI_eqE, nI_leE, nI_ltE, nI_eq0, nI_le0, nI_lt0, nI_ge0, nI_gt0, pk_rem, pk_sub, inb_t, gd_y, zl_e, bd_y, isB_n0, isB_n1, n0_eq, n1_eq, if_n0, if_n1, isB_if, not_true_eq_false, not_false_eq_true, ite_true, ite_false, Nat.le_refl, Nat.lt_irrefl, l0, qe, l1, l2, l4, cnt]
    by_cases c1 : a_cb t.1 r (t.1 (1761 + 4 * i)) (t.1 0) < t.1 (1761 + 4 * i + 1)
    · simp only [c1, if_true]
      refine ⟨(nI v, μ'), ⟨v, rfl, ?_, ?_, g5, ?_⟩, ?_⟩
      · unfold a_r1; rw [if_pos c1]; exact g3
      · unfold a_r1; rw [if_pos c1]; exact g4
      · exact fin μ' rfl (Or.inl c1)
      · simp only [f_X2_act_133, nI_add]
    · simp only [c1, if_false]
      by_cases c2 : t.1 (1761 + 4 * i + 3) = 2
      · simp only [c2, if_true, bel, bd_y]
        exact key _ (by unfold a_co; rw [if_pos c2]) c1
      · simp only [c2, if_false]
        exact key _ (by unfold a_co; rw [if_neg c2]) c1
