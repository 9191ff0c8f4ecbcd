/-! PURE PART: the first calls -/
theorem NN.kind {μ : Mem} {b h d r v : Nat} {σ : St} (c : NN μ b σ h d) (hn : σ 0 ≤ 9) (hr : r < σ 0) : NN (sI μ (b + 1) r (nI v)) b (nu σ (6 + 6 * r) v) h d := by
  obtain ⟨cS, ⟨a1, a2, a3, a4, a5, a6⟩, cH, cR⟩ := c
  refine ⟨(cS.mem (fun j hj => by rw [rd_k (by omega)])).st (nu_n (by omega)) (nu_n (by omega)) (nu_n (by omega)) (nu_n (by omega)), ?_, (cH.mem (fun k h1 h2 => rd_k (by omega))).st hn (nu_n (by omega)) (fun r' _ => nu_n (by omega)) (fun j h1 h2 => nu_n (by omega)), (cR.mem (fun k h1 h2 => rd_k (by omega))).st (nu_n (by omega)) (fun j h1 h2 => nu_n (by omega))⟩
  unfold NA
  rw [nu_n (by omega)]
  refine ⟨fun r' h' => ?_, fun r' h' => ?_, fun r' h' => ?_, fun r' h' => ?_, fun r' h' => ?_, fun a q ha hq hne => ?_⟩
  · by_cases e2 : r' = r
    · subst e2; rw [rd_s, nu_s]
    · rw [rd_j e2, nu_n (by omega)]; exact a1 r' h'
  · rw [rd_k (by omega), nu_n (by omega)]; exact a2 r' h'
  · rw [rd_k (by omega), nu_n (by omega)]; exact a3 r' h'
  · rw [rd_k (by omega), nu_n (by omega)]; exact a4 r' h'
  · rw [rd_k (by omega), nu_n (by omega)]; exact a5 r' h'
  · rw [rd_k (by omega), nu_n (by omega)]; exact a6 a q ha hq hne
theorem NN.from_ {μ : Mem} {b h d r v : Nat} {σ : St} (c : NN μ b σ h d) (hn : σ 0 ≤ 9) (hr : r < σ 0) : NN (sI μ (b + 4) r (nI v)) b (nu σ (6 + 6 * r + 4) v) h d := by
  obtain ⟨cS, ⟨a1, a2, a3, a4, a5, a6⟩, cH, cR⟩ := c
  refine ⟨(cS.mem (fun j hj => by rw [rd_k (by omega)])).st (nu_n (by omega)) (nu_n (by omega)) (nu_n (by omega)) (nu_n (by omega)), ?_, (cH.mem (fun k h1 h2 => rd_k (by omega))).st hn (nu_n (by omega)) (fun r' _ => nu_n (by omega)) (fun j h1 h2 => nu_n (by omega)), (cR.mem (fun k h1 h2 => rd_k (by omega))).st (nu_n (by omega)) (fun j h1 h2 => nu_n (by omega))⟩
  unfold NA
  rw [nu_n (by omega)]
  refine ⟨fun r' h' => ?_, fun r' h' => ?_, fun r' h' => ?_, fun r' h' => ?_, fun r' h' => ?_, fun a q ha hq hne => ?_⟩
  · rw [rd_k (by omega), nu_n (by omega)]; exact a1 r' h'
  · rw [rd_k (by omega), nu_n (by omega)]; exact a2 r' h'
  · rw [rd_k (by omega), nu_n (by omega)]; exact a3 r' h'
  · by_cases e2 : r' = r
    · subst e2; rw [rd_s, nu_s]
    · rw [rd_j e2, nu_n (by omega)]; exact a4 r' h'
  · rw [rd_k (by omega), nu_n (by omega)]; exact a5 r' h'
  · rw [rd_k (by omega), nu_n (by omega)]; exact a6 a q ha hq hne
theorem NN.until_ {μ : Mem} {b h d r v : Nat} {σ : St} (c : NN μ b σ h d) (hn : σ 0 ≤ 9) (hr : r < σ 0) : NN (sI μ (b + 5) r (nI v)) b (nu σ (6 + 6 * r + 5) v) h d := by
  obtain ⟨cS, ⟨a1, a2, a3, a4, a5, a6⟩, cH, cR⟩ := c
  refine ⟨(cS.mem (fun j hj => by rw [rd_k (by omega)])).st (nu_n (by omega)) (nu_n (by omega)) (nu_n (by omega)) (nu_n (by omega)), ?_, (cH.mem (fun k h1 h2 => rd_k (by omega))).st hn (nu_n (by omega)) (fun r' _ => nu_n (by omega)) (fun j h1 h2 => nu_n (by omega)), (cR.mem (fun k h1 h2 => rd_k (by omega))).st (nu_n (by omega)) (fun j h1 h2 => nu_n (by omega))⟩
  unfold NA
  rw [nu_n (by omega)]
  refine ⟨fun r' h' => ?_, fun r' h' => ?_, fun r' h' => ?_, fun r' h' => ?_, fun r' h' => ?_, fun a q ha hq hne => ?_⟩
  · rw [rd_k (by omega), nu_n (by omega)]; exact a1 r' h'
  · rw [rd_k (by omega), nu_n (by omega)]; exact a2 r' h'
  · rw [rd_k (by omega), nu_n (by omega)]; exact a3 r' h'
  · rw [rd_k (by omega), nu_n (by omega)]; exact a4 r' h'
  · by_cases e2 : r' = r
    · subst e2; rw [rd_s, nu_s]
    · rw [rd_j e2, nu_n (by omega)]; exact a5 r' h'
  · rw [rd_k (by omega), nu_n (by omega)]; exact a6 a q ha hq hne
theorem NN.del {μ : Mem} {b h d r q v : Nat} {σ : St} (c : NN μ b σ h d) (hn : σ 0 ≤ 9) (hr : r < σ 0) (hq : q < σ 0) : NN (sI μ (b + 7 + r) q (nI v)) b (nu σ (60 + 9 * r + q) v) h d := by
  obtain ⟨cS, ⟨a1, a2, a3, a4, a5, a6⟩, cH, cR⟩ := c
  refine ⟨(cS.mem (fun j hj => by rw [rd_k (by omega)])).st (nu_n (by omega)) (nu_n (by omega)) (nu_n (by omega)) (nu_n (by omega)), ?_, (cH.mem (fun k h1 h2 => rd_k (by omega))).st hn (nu_n (by omega)) (fun r' _ => nu_n (by omega)) (fun j h1 h2 => nu_n (by omega)), (cR.mem (fun k h1 h2 => rd_k (by omega))).st (nu_n (by omega)) (fun j h1 h2 => nu_n (by omega))⟩
  unfold NA
  rw [nu_n (by omega)]
  refine ⟨fun r' h' => ?_, fun r' h' => ?_, fun r' h' => ?_, fun r' h' => ?_, fun r' h' => ?_, fun a x ha hx hne => ?_⟩
  · rw [rd_k (by omega), nu_n (by omega)]; exact a1 r' h'
  · rw [rd_k (by omega), nu_n (by omega)]; exact a2 r' h'
  · rw [rd_k (by omega), nu_n (by omega)]; exact a3 r' h'
  · rw [rd_k (by omega), nu_n (by omega)]; exact a4 r' h'
  · rw [rd_k (by omega), nu_n (by omega)]; exact a5 r' h'
  · by_cases e : a = r
    · subst e
      by_cases e2 : x = q
      · subst e2; rw [rd_s, nu_s]
      · rw [rd_j e2, nu_n (by omega)]; exact a6 a x ha hx hne
    · rw [rd_k (by omega), nu_n (by omega)]; exact a6 a x ha hx hne
theorem NN.draw {μ : Mem} {b h d v : Nat} {σ : St} (c : NN μ b σ h d) (hn : σ 0 ≤ 9) : NN (sI μ b 3 (nI v)) b (nu σ 5 v) h d := by
  obtain ⟨⟨c0, c1, c2, c3, c4, c5, c6⟩, cA, cH, cR⟩ := c
  refine ⟨⟨?_, ?_, ?_, ?_, ?_, c5, ?_⟩, (cA.mem hn (fun k h1 h2 => rd_k (by omega))).st hn (fun j hj => nu_n (by omega)), (cH.mem (fun k h1 h2 => rd_k (by omega))).st hn (nu_n (by omega)) (fun r' _ => nu_n (by omega)) (fun j h1 h2 => nu_n (by omega)), (cR.mem (fun k h1 h2 => rd_k (by omega))).st (nu_n (by omega)) (fun j h1 h2 => nu_n (by omega))⟩
  · rw [rd_j (by omega), nu_n (by omega)]; exact c0
  · rw [rd_j (by omega), nu_n (by omega)]; exact c1
  · rw [rd_j (by omega), nu_n (by omega)]; exact c2
  · rw [rd_s, nu_s]
  · rw [rd_j (by omega)]; exact c4
  · rw [rd_j (by omega)]; exact c6
theorem th_rM {μ : Mem} {σ : St} {v : Int32} (r : RR μ 114 σ) : rM (sI μ 113 0 v) 114 σ = sI μ 113 0 v := rM_o (fun j hj => by rw [rd_k (by omega)]; exact r j hj)
theorem II.ref {μ : Mem} {σ : St} {v : Int32} (a : II μ) (r : RR μ 114 σ) : II (rM (sI μ 113 0 v) 114 σ) := by
  rw [th_rM r]
  exact a.fx FX.th
theorem II.fin {μ μ1 : Mem} {σ : St} {h : Nat} {v : Int32} (a : II μ) (f : FS μ μ1) (w : WF σ) (z : ZR σ) (m : σ 1 ≤ 999) (n : NN μ1 2 σ h 9) (s : isB (μ1.1 2 6) = true) (l : NL μ1 24 σ) (g : NG μ1 29 σ) : II (rM (sI μ1 113 0 v) 114 σ) := by
  have e : ∀ k, k < 113 → (rM (sI μ1 113 0 v) 114 σ).1 k = μ1.1 k := fun k hk => by rw [rM_k (by omega), rd_k (by omega)]
  refine a.fs (σ := σ) (h := h) ((f.t (FS.th (Or.inl rfl))).t (FS.rm (Or.inl rfl))) ⟨rM_rr, w, z, m, n.mem w.n (fun k h1 h2 => e k (by omega)), by rw [e 2 (by omega)]; exact s, l.mem (fun k h1 h2 => e k (by omega)), g.mem (fun k h1 h2 => e k (by omega))⟩
