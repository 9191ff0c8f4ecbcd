/-! FROM THE LAW'S ENTRY TO ITS LOOP -/
def pi_ (k : Nat) : Nat := if k < 65 then k else if k < 93 then k + 12 else if k < 105 then k - 28 else if k < 109 then 105 + 2 * (k - 105) else if k < 113 then 106 + 2 * (k - 109) else k
def ad_ (B b : Nat) (aK aV : Nat → Nat) : Nat → Nat := fun k => if k < 125 then B + pi_ k else if k < 1006 then aK (k - 1000) else if k < 2006 then aV (k - 2000) else b
def m0 : Nat → Nat → Int32 := fun k => if k = 114 then nvX8_kS 81 else if k = 120 then (upd (upd (upd (upd (fun _ => 0) 0 (-1)) 1 (-1)) 2 (-1)) 3 (-1)) else if k = 2 then (fun j => if j = 3 then 1 else 0) else if k = 34 then (fun j => if j = 3 then 1 else 0) else if k = 66 then (fun j => if j = 3 then 1 else 0) else if k = 93 then (fun j => if j = 8 then (-1) else 0) else if k = 113 then (fun j => if j = 17 then (-1) else 0) else (fun _ => 0)
def mu0 : Mem := (m0, fun _ _ => 0)
theorem pi_lt {k : Nat} (h : k < 125) : pi_ k < 125 := by
  unfold pi_
  (repeat' split)
  all_goals omega
theorem pi_inj {i j : Nat} (hi : i < 125) (hj : j < 125) (h : pi_ i = pi_ j) : i = j := by
  unfold pi_ at h
  repeat' split at h
  all_goals omega
def shF (cl : Nat → ClassId) : va_E := .inl (cl 4, 4, .inr (.inr (.inr (.inr (va_up (va_up (va_up (va_up (fun _ => none) 0 (some (105))) 1 (some (107))) 2 (some (109))) 3 (some (111)))))))
theorem set_mid {α : Type} {A C : List α} {x y : α} {n : Nat} (h : A.length = n) : (A ++ x :: C).set n y = A ++ y :: C := by
  subst h
  rw [List.set_append_right _ _ (Nat.le_refl _), Nat.sub_self]
  rfl
theorem look_r {α : Type} {A C : List α} {n i : Nat} (h : A.length = n) : (A ++ C)[n + i]? = C[i]? := by
  subst h
  rw [List.getElem?_append_right (by omega)]
  congr 1
  omega
theorem look_l {α : Type} {A C : List α} {n i : Nat} (h : A.length = n) (hi : i < n) : (A ++ C)[i]? = A[i]? := List.getElem?_append_left (by omega)
def c6X7 (cl : Nat → ClassId) : List va_E := (oX3 106 :: nwX3 cl 106)
def c7X7 (cl : Nat → ClassId) : List va_E := (oX3 108 :: nwX3 cl 108)
def c8X7 (cl : Nat → ClassId) : List va_E := (oX3 110 :: nwX3 cl 110)
def c9X7 (cl : Nat → ClassId) : List va_E := (oX3 112 :: nwX3 cl 112)
def c5X7 (cl : Nat → ClassId) : List va_E := (oX6 78 2 24 :: nwX6 cl 78)
def c3X7 (cl : Nat → ClassId) : List va_E := (oX5 66 :: nwX5 cl 66)
def c2X7 (cl : Nat → ClassId) : List va_E := (oX4 34 :: nwX4 cl 34)
def c1X7 (cl : Nat → ClassId) : List va_E := (oX4 2 :: nwX4 cl 2)
def c10 (cl : Nat → ClassId) : List va_E := (oX8 114 :: nwX8 cl 114)
theorem lc1 (cl : Nat → ClassId) : (c1X7 cl).length = 32 := by unfold c1X7; rw [List.length_cons, lnX4]
theorem lc2 (cl : Nat → ClassId) : (c2X7 cl).length = 32 := by unfold c2X7; rw [List.length_cons, lnX4]
theorem lc3 (cl : Nat → ClassId) : (c3X7 cl).length = 11 := by unfold c3X7; rw [List.length_cons, lnX5]
theorem lc5 (cl : Nat → ClassId) : (c5X7 cl).length = 28 := by unfold c5X7; rw [List.length_cons, lnX6]
theorem lc6 (cl : Nat → ClassId) : (c6X7 cl).length = 2 := by unfold c6X7; rw [List.length_cons, lnX3]
theorem lc7 (cl : Nat → ClassId) : (c7X7 cl).length = 2 := by unfold c7X7; rw [List.length_cons, lnX3]
theorem lc8 (cl : Nat → ClassId) : (c8X7 cl).length = 2 := by unfold c8X7; rw [List.length_cons, lnX3]
theorem lc9 (cl : Nat → ClassId) : (c9X7 cl).length = 2 := by unfold c9X7; rw [List.length_cons, lnX3]
theorem lc10 (cl : Nat → ClassId) : (c10 cl).length = 12 := by unfold c10; rw [List.length_cons, lnX8]
theorem fA7 (cl : Nat → ClassId) : nvX7_6 cl 1 = c1X7 cl ++ (c2X7 cl ++ c3X7 cl) := by
  unfold nvX7_6 nvX7_4 nvX7_2 nvX7_0
  rw [List.nil_append, List.append_assoc]
  rfl
theorem f7_9 (cl : Nat → ClassId) : ∃ x, nvX7_9 cl 1 = nvX7_6 cl 1 ++ x :: c5X7 cl := by
  refine ⟨.inl (cl 4, 4, .inr (.inr (.inr (.inr (fun _ => none))))), ?_⟩
  unfold nvX7_9 nvX7_7
  rw [List.append_assoc, List.cons_append, List.nil_append]
  rfl
theorem f7_12 (cl : Nat → ClassId) : ∃ x, nvX7_12 cl 1 = nvX7_6 cl 1 ++ x :: (c5X7 cl ++ c6X7 cl) := by
  obtain ⟨x, hx⟩ := f7_9 cl
  refine ⟨.inl (cl 4, 4, .inr (.inr (.inr (.inr (va_up (fun _ => none) 0 (some (1 + 104))))))), ?_⟩
  unfold nvX7_12 nvX7_11
  rw [hx, List.append_assoc, List.cons_append, set_mid (lnX7_6 cl 1)]
  rfl
theorem f7_15 (cl : Nat → ClassId) : ∃ x, nvX7_15 cl 1 = nvX7_6 cl 1 ++ x :: ((c5X7 cl ++ c6X7 cl) ++ c7X7 cl) := by
  obtain ⟨x, hx⟩ := f7_12 cl
  refine ⟨.inl (cl 4, 4, .inr (.inr (.inr (.inr (va_up (va_up (fun _ => none) 0 (some (1 + 104))) 1 (some (1 + 106))))))), ?_⟩
  unfold nvX7_15 nvX7_14
  rw [hx, List.append_assoc, List.cons_append, set_mid (lnX7_6 cl 1)]
  rfl
theorem f7_18 (cl : Nat → ClassId) : ∃ x, nvX7_18 cl 1 = nvX7_6 cl 1 ++ x :: (((c5X7 cl ++ c6X7 cl) ++ c7X7 cl) ++ c8X7 cl) := by
  obtain ⟨x, hx⟩ := f7_15 cl
  refine ⟨.inl (cl 4, 4, .inr (.inr (.inr (.inr (va_up (va_up (va_up (fun _ => none) 0 (some (1 + 104))) 1 (some (1 + 106))) 2 (some (1 + 108))))))), ?_⟩
  unfold nvX7_18 nvX7_17
  rw [hx, List.append_assoc, List.cons_append, set_mid (lnX7_6 cl 1)]
  rfl
theorem f7_21 (cl : Nat → ClassId) : nwX7 cl 1 = c1X7 cl ++ (c2X7 cl ++ (c3X7 cl ++ ([shF cl] ++ (c5X7 cl ++ (c6X7 cl ++ (c7X7 cl ++ (c8X7 cl ++ c9X7 cl))))))) := by
  obtain ⟨x, hx⟩ := f7_18 cl
  have h : nwX7 cl 1 = nvX7_6 cl 1 ++ shF cl :: ((((c5X7 cl ++ c6X7 cl) ++ c7X7 cl) ++ c8X7 cl) ++ c9X7 cl) := by
    unfold nwX7 nvX7_21 nvX7_20
    rw [hx, List.append_assoc, List.cons_append, set_mid (lnX7_6 cl 1)]
    rfl
  rw [h, fA7]
  simp only [List.append_assoc, List.cons_append, List.nil_append]
def nwE (cl : Nat → ClassId) : List va_E := (oX7 1 :: nwX7 cl 1) ++ (oX8 114 :: nwX8 cl 114)
theorem nwE_f (cl : Nat → ClassId) : nwE cl = [oX7 1] ++ (c1X7 cl ++ (c2X7 cl ++ (c3X7 cl ++ ([shF cl] ++ (c5X7 cl ++ (c6X7 cl ++ (c7X7 cl ++ (c8X7 cl ++ (c9X7 cl ++ c10 cl))))))))) := by
  unfold nwE
  rw [f7_21]
  simp only [List.append_assoc, List.cons_append, List.nil_append]
  rfl
theorem ce_A {cl : Nat → ClassId} {B b k N c0 cr : Nat} {aK aV : Nat → Nat} (hl : jm_lay k = .inl (3, N, c0)) (h : ∀ i, i < N → pi_ (c0 + i) = cr + i ∧ c0 + i < 125) : kE B (kA cl 3 N cr) = jm_cell (ad_ B b aK aV) cl mu0 k := by
  unfold jm_cell
  rw [hl]
  show (Sum.inl (cl 3, N, Sum.inr (Sum.inr (Sum.inr (Sum.inr (fun i => (if i < N then some (cr + i) else none).map (fun k => B + k)))))) : va_E) = Sum.inl (cl 3, N, Sum.inr (Sum.inr (Sum.inr (Sum.inr (fun i => if i < N then some (ad_ B b aK aV (c0 + i)) else none)))))
  have e : (fun i => (if i < N then some (cr + i) else none).map (fun k => B + k)) = fun i => if i < N then some (ad_ B b aK aV (c0 + i)) else none := by
    funext i
    by_cases hi : i < N
    · rw [if_pos hi, if_pos hi]
      obtain ⟨h1, h2⟩ := h i hi
      show some (B + (cr + i)) = some (ad_ B b aK aV (c0 + i))
      unfold ad_
      rw [if_pos h2, h1]
    · rw [if_neg hi, if_neg hi]
      rfl
  rw [e]
theorem ce_104 {cl : Nat → ClassId} {B b : Nat} {aK aV : Nat → Nat} : kE B (.inl (cl 4, 4, .inr (.inr (.inr (.inr (va_up (va_up (va_up (va_up (fun _ => none) 0 (some 105)) 1 (some 107)) 2 (some 109)) 3 (some 111))))))) = jm_cell (ad_ B b aK aV) cl mu0 104 := by
  show (Sum.inl (cl 4, 4, Sum.inr (Sum.inr (Sum.inr (Sum.inr (fun i => ((va_up (va_up (va_up (va_up (fun _ => none) 0 (some 105)) 1 (some 107)) 2 (some 109)) 3 (some 111)) i).map (fun k => B + k)))))) : va_E) = Sum.inl (cl 4, 4, Sum.inr (Sum.inr (Sum.inr (Sum.inr (fun i => if i < 4 then some (ad_ B b aK aV (105 + i)) else none)))))
  have e : (fun i => ((va_up (va_up (va_up (va_up (fun _ => (none : Option Nat)) 0 (some 105)) 1 (some 107)) 2 (some 109)) 3 (some 111)) i).map (fun k => B + k)) = fun i => if i < 4 then some (ad_ B b aK aV (105 + i)) else none := by
    funext i
    match i with
    | 0 => rfl
    | 1 => rfl
    | 2 => rfl
    | 3 => rfl
    | i + 4 => simp [va_up]
  rw [e]
theorem ce_0 {cl : Nat → ClassId} {B b : Nat} {aK aV : Nat → Nat} : kE B (oX7 1) = jm_cell (ad_ B b aK aV) cl mu0 0 := by
  unfold jm_cell
  rw [is_0.2]
  show _ = (Sum.inr (7, jm_fs (ad_ B b aK aV) (mu0.1 0) _) : va_E)
  unfold jm_fs
  simp only [List.mapIdx_cons, List.mapIdx_nil]
  rfl
theorem ce_1 {cl : Nat → ClassId} {B b : Nat} {aK aV : Nat → Nat} : kE B (oX4 2) = jm_cell (ad_ B b aK aV) cl mu0 1 := rfl
theorem ce_2 {cl : Nat → ClassId} {B b : Nat} {aK aV : Nat → Nat} : kE B (oX2 3) = jm_cell (ad_ B b aK aV) cl mu0 2 := by
  unfold jm_cell
  rw [(isN_0 isN2).2]
  show _ = (Sum.inr (2, jm_fs (ad_ B b aK aV) (mu0.1 2) _) : va_E)
  unfold jm_fs
  simp only [List.mapIdx_cons, List.mapIdx_nil]
  rfl
theorem ce_3 {cl : Nat → ClassId} {B b : Nat} {aK aV : Nat → Nat} : kE B (kI cl 9) = jm_cell (ad_ B b aK aV) cl mu0 3 := rfl
theorem ce_4 {cl : Nat → ClassId} {B b : Nat} {aK aV : Nat → Nat} : kE B (kI cl 9) = jm_cell (ad_ B b aK aV) cl mu0 4 := rfl
theorem ce_5 {cl : Nat → ClassId} {B b : Nat} {aK aV : Nat → Nat} : kE B (kI cl 9) = jm_cell (ad_ B b aK aV) cl mu0 5 := rfl
theorem ce_6 {cl : Nat → ClassId} {B b : Nat} {aK aV : Nat → Nat} : kE B (kI cl 9) = jm_cell (ad_ B b aK aV) cl mu0 6 := rfl
theorem ce_7 {cl : Nat → ClassId} {B b : Nat} {aK aV : Nat → Nat} : kE B (kI cl 9) = jm_cell (ad_ B b aK aV) cl mu0 7 := rfl
theorem ce_8 {cl : Nat → ClassId} {B b : Nat} {aK aV : Nat → Nat} : kE B (kA cl 3 9 9) = jm_cell (ad_ B b aK aV) cl mu0 8 := ce_A (c0 := 9) rfl (by unfold pi_; intro i hi; (repeat' split) <;> omega)
theorem ce_9 {cl : Nat → ClassId} {B b : Nat} {aK aV : Nat → Nat} : kE B (kI cl 9) = jm_cell (ad_ B b aK aV) cl mu0 9 := rfl
theorem ce_10 {cl : Nat → ClassId} {B b : Nat} {aK aV : Nat → Nat} : kE B (kI cl 9) = jm_cell (ad_ B b aK aV) cl mu0 10 := rfl
theorem ce_11 {cl : Nat → ClassId} {B b : Nat} {aK aV : Nat → Nat} : kE B (kI cl 9) = jm_cell (ad_ B b aK aV) cl mu0 11 := rfl
theorem ce_12 {cl : Nat → ClassId} {B b : Nat} {aK aV : Nat → Nat} : kE B (kI cl 9) = jm_cell (ad_ B b aK aV) cl mu0 12 := rfl
theorem ce_13 {cl : Nat → ClassId} {B b : Nat} {aK aV : Nat → Nat} : kE B (kI cl 9) = jm_cell (ad_ B b aK aV) cl mu0 13 := rfl
theorem ce_14 {cl : Nat → ClassId} {B b : Nat} {aK aV : Nat → Nat} : kE B (kI cl 9) = jm_cell (ad_ B b aK aV) cl mu0 14 := rfl
theorem ce_15 {cl : Nat → ClassId} {B b : Nat} {aK aV : Nat → Nat} : kE B (kI cl 9) = jm_cell (ad_ B b aK aV) cl mu0 15 := rfl
theorem ce_16 {cl : Nat → ClassId} {B b : Nat} {aK aV : Nat → Nat} : kE B (kI cl 9) = jm_cell (ad_ B b aK aV) cl mu0 16 := rfl
theorem ce_17 {cl : Nat → ClassId} {B b : Nat} {aK aV : Nat → Nat} : kE B (kI cl 9) = jm_cell (ad_ B b aK aV) cl mu0 17 := rfl
theorem ce_18 {cl : Nat → ClassId} {B b : Nat} {aK aV : Nat → Nat} : kE B (kA cl 3 2 19) = jm_cell (ad_ B b aK aV) cl mu0 18 := ce_A (c0 := 19) rfl (by unfold pi_; intro i hi; (repeat' split) <;> omega)
theorem ce_19 {cl : Nat → ClassId} {B b : Nat} {aK aV : Nat → Nat} : kE B (kI cl 9) = jm_cell (ad_ B b aK aV) cl mu0 19 := rfl
theorem ce_20 {cl : Nat → ClassId} {B b : Nat} {aK aV : Nat → Nat} : kE B (kI cl 9) = jm_cell (ad_ B b aK aV) cl mu0 20 := rfl
theorem ce_21 {cl : Nat → ClassId} {B b : Nat} {aK aV : Nat → Nat} : kE B (kA cl 3 2 22) = jm_cell (ad_ B b aK aV) cl mu0 21 := ce_A (c0 := 22) rfl (by unfold pi_; intro i hi; (repeat' split) <;> omega)
theorem ce_22 {cl : Nat → ClassId} {B b : Nat} {aK aV : Nat → Nat} : kE B (kI cl 171) = jm_cell (ad_ B b aK aV) cl mu0 22 := rfl
theorem ce_23 {cl : Nat → ClassId} {B b : Nat} {aK aV : Nat → Nat} : kE B (kI cl 171) = jm_cell (ad_ B b aK aV) cl mu0 23 := rfl
theorem ce_24 {cl : Nat → ClassId} {B b : Nat} {aK aV : Nat → Nat} : kE B (oX0 25) = jm_cell (ad_ B b aK aV) cl mu0 24 := rfl
theorem ce_25 {cl : Nat → ClassId} {B b : Nat} {aK aV : Nat → Nat} : kE B (kI cl 8) = jm_cell (ad_ B b aK aV) cl mu0 25 := rfl
theorem ce_26 {cl : Nat → ClassId} {B b : Nat} {aK aV : Nat → Nat} : kE B (kI cl 8) = jm_cell (ad_ B b aK aV) cl mu0 26 := rfl
theorem ce_27 {cl : Nat → ClassId} {B b : Nat} {aK aV : Nat → Nat} : kE B (kI cl 8) = jm_cell (ad_ B b aK aV) cl mu0 27 := rfl
theorem ce_28 {cl : Nat → ClassId} {B b : Nat} {aK aV : Nat → Nat} : kE B (kI cl 8) = jm_cell (ad_ B b aK aV) cl mu0 28 := rfl
theorem ce_29 {cl : Nat → ClassId} {B b : Nat} {aK aV : Nat → Nat} : kE B (oX1 30) = jm_cell (ad_ B b aK aV) cl mu0 29 := rfl
theorem ce_30 {cl : Nat → ClassId} {B b : Nat} {aK aV : Nat → Nat} : kE B (kI cl 12) = jm_cell (ad_ B b aK aV) cl mu0 30 := rfl
theorem ce_31 {cl : Nat → ClassId} {B b : Nat} {aK aV : Nat → Nat} : kE B (kI cl 12) = jm_cell (ad_ B b aK aV) cl mu0 31 := rfl
theorem ce_32 {cl : Nat → ClassId} {B b : Nat} {aK aV : Nat → Nat} : kE B (kI cl 12) = jm_cell (ad_ B b aK aV) cl mu0 32 := rfl
theorem ce_33 {cl : Nat → ClassId} {B b : Nat} {aK aV : Nat → Nat} : kE B (oX4 34) = jm_cell (ad_ B b aK aV) cl mu0 33 := rfl
theorem ce_34 {cl : Nat → ClassId} {B b : Nat} {aK aV : Nat → Nat} : kE B (oX2 35) = jm_cell (ad_ B b aK aV) cl mu0 34 := by
  unfold jm_cell
  rw [(isN_0 isN34).2]
  show _ = (Sum.inr (2, jm_fs (ad_ B b aK aV) (mu0.1 34) _) : va_E)
  unfold jm_fs
  simp only [List.mapIdx_cons, List.mapIdx_nil]
  rfl
theorem ce_35 {cl : Nat → ClassId} {B b : Nat} {aK aV : Nat → Nat} : kE B (kI cl 9) = jm_cell (ad_ B b aK aV) cl mu0 35 := rfl
theorem ce_36 {cl : Nat → ClassId} {B b : Nat} {aK aV : Nat → Nat} : kE B (kI cl 9) = jm_cell (ad_ B b aK aV) cl mu0 36 := rfl
theorem ce_37 {cl : Nat → ClassId} {B b : Nat} {aK aV : Nat → Nat} : kE B (kI cl 9) = jm_cell (ad_ B b aK aV) cl mu0 37 := rfl
theorem ce_38 {cl : Nat → ClassId} {B b : Nat} {aK aV : Nat → Nat} : kE B (kI cl 9) = jm_cell (ad_ B b aK aV) cl mu0 38 := rfl
theorem ce_39 {cl : Nat → ClassId} {B b : Nat} {aK aV : Nat → Nat} : kE B (kI cl 9) = jm_cell (ad_ B b aK aV) cl mu0 39 := rfl
theorem ce_40 {cl : Nat → ClassId} {B b : Nat} {aK aV : Nat → Nat} : kE B (kA cl 3 9 41) = jm_cell (ad_ B b aK aV) cl mu0 40 := ce_A (c0 := 41) rfl (by unfold pi_; intro i hi; (repeat' split) <;> omega)
theorem ce_41 {cl : Nat → ClassId} {B b : Nat} {aK aV : Nat → Nat} : kE B (kI cl 9) = jm_cell (ad_ B b aK aV) cl mu0 41 := rfl
theorem ce_42 {cl : Nat → ClassId} {B b : Nat} {aK aV : Nat → Nat} : kE B (kI cl 9) = jm_cell (ad_ B b aK aV) cl mu0 42 := rfl
theorem ce_43 {cl : Nat → ClassId} {B b : Nat} {aK aV : Nat → Nat} : kE B (kI cl 9) = jm_cell (ad_ B b aK aV) cl mu0 43 := rfl
theorem ce_44 {cl : Nat → ClassId} {B b : Nat} {aK aV : Nat → Nat} : kE B (kI cl 9) = jm_cell (ad_ B b aK aV) cl mu0 44 := rfl
theorem ce_45 {cl : Nat → ClassId} {B b : Nat} {aK aV : Nat → Nat} : kE B (kI cl 9) = jm_cell (ad_ B b aK aV) cl mu0 45 := rfl
theorem ce_46 {cl : Nat → ClassId} {B b : Nat} {aK aV : Nat → Nat} : kE B (kI cl 9) = jm_cell (ad_ B b aK aV) cl mu0 46 := rfl
theorem ce_47 {cl : Nat → ClassId} {B b : Nat} {aK aV : Nat → Nat} : kE B (kI cl 9) = jm_cell (ad_ B b aK aV) cl mu0 47 := rfl
theorem ce_48 {cl : Nat → ClassId} {B b : Nat} {aK aV : Nat → Nat} : kE B (kI cl 9) = jm_cell (ad_ B b aK aV) cl mu0 48 := rfl
theorem ce_49 {cl : Nat → ClassId} {B b : Nat} {aK aV : Nat → Nat} : kE B (kI cl 9) = jm_cell (ad_ B b aK aV) cl mu0 49 := rfl
theorem ce_50 {cl : Nat → ClassId} {B b : Nat} {aK aV : Nat → Nat} : kE B (kA cl 3 2 51) = jm_cell (ad_ B b aK aV) cl mu0 50 := ce_A (c0 := 51) rfl (by unfold pi_; intro i hi; (repeat' split) <;> omega)
theorem ce_51 {cl : Nat → ClassId} {B b : Nat} {aK aV : Nat → Nat} : kE B (kI cl 9) = jm_cell (ad_ B b aK aV) cl mu0 51 := rfl
theorem ce_52 {cl : Nat → ClassId} {B b : Nat} {aK aV : Nat → Nat} : kE B (kI cl 9) = jm_cell (ad_ B b aK aV) cl mu0 52 := rfl
theorem ce_53 {cl : Nat → ClassId} {B b : Nat} {aK aV : Nat → Nat} : kE B (kA cl 3 2 54) = jm_cell (ad_ B b aK aV) cl mu0 53 := ce_A (c0 := 54) rfl (by unfold pi_; intro i hi; (repeat' split) <;> omega)
theorem ce_54 {cl : Nat → ClassId} {B b : Nat} {aK aV : Nat → Nat} : kE B (kI cl 171) = jm_cell (ad_ B b aK aV) cl mu0 54 := rfl
theorem ce_55 {cl : Nat → ClassId} {B b : Nat} {aK aV : Nat → Nat} : kE B (kI cl 171) = jm_cell (ad_ B b aK aV) cl mu0 55 := rfl
theorem ce_56 {cl : Nat → ClassId} {B b : Nat} {aK aV : Nat → Nat} : kE B (oX0 57) = jm_cell (ad_ B b aK aV) cl mu0 56 := rfl
theorem ce_57 {cl : Nat → ClassId} {B b : Nat} {aK aV : Nat → Nat} : kE B (kI cl 8) = jm_cell (ad_ B b aK aV) cl mu0 57 := rfl
theorem ce_58 {cl : Nat → ClassId} {B b : Nat} {aK aV : Nat → Nat} : kE B (kI cl 8) = jm_cell (ad_ B b aK aV) cl mu0 58 := rfl
theorem ce_59 {cl : Nat → ClassId} {B b : Nat} {aK aV : Nat → Nat} : kE B (kI cl 8) = jm_cell (ad_ B b aK aV) cl mu0 59 := rfl
theorem ce_60 {cl : Nat → ClassId} {B b : Nat} {aK aV : Nat → Nat} : kE B (kI cl 8) = jm_cell (ad_ B b aK aV) cl mu0 60 := rfl
theorem ce_61 {cl : Nat → ClassId} {B b : Nat} {aK aV : Nat → Nat} : kE B (oX1 62) = jm_cell (ad_ B b aK aV) cl mu0 61 := rfl
theorem ce_62 {cl : Nat → ClassId} {B b : Nat} {aK aV : Nat → Nat} : kE B (kI cl 12) = jm_cell (ad_ B b aK aV) cl mu0 62 := rfl
theorem ce_63 {cl : Nat → ClassId} {B b : Nat} {aK aV : Nat → Nat} : kE B (kI cl 12) = jm_cell (ad_ B b aK aV) cl mu0 63 := rfl
theorem ce_64 {cl : Nat → ClassId} {B b : Nat} {aK aV : Nat → Nat} : kE B (kI cl 12) = jm_cell (ad_ B b aK aV) cl mu0 64 := rfl
theorem ce_65 {cl : Nat → ClassId} {B b : Nat} {aK aV : Nat → Nat} : kE B (oX6 78 (2) (24)) = jm_cell (ad_ B b aK aV) cl mu0 65 := by
  unfold jm_cell
  rw [is_65.2]
  show _ = (Sum.inr (6, jm_fs (ad_ B b aK aV) (mu0.1 65) _) : va_E)
  unfold jm_fs
  simp only [List.mapIdx_cons, List.mapIdx_nil]
  rfl
theorem ce_66 {cl : Nat → ClassId} {B b : Nat} {aK aV : Nat → Nat} : kE B (oX2 79) = jm_cell (ad_ B b aK aV) cl mu0 66 := by
  unfold jm_cell
  rw [(isN_0 isN66).2]
  show _ = (Sum.inr (2, jm_fs (ad_ B b aK aV) (mu0.1 66) _) : va_E)
  unfold jm_fs
  simp only [List.mapIdx_cons, List.mapIdx_nil]
  rfl
theorem ce_67 {cl : Nat → ClassId} {B b : Nat} {aK aV : Nat → Nat} : kE B (kI cl 9) = jm_cell (ad_ B b aK aV) cl mu0 67 := rfl
theorem ce_68 {cl : Nat → ClassId} {B b : Nat} {aK aV : Nat → Nat} : kE B (kI cl 9) = jm_cell (ad_ B b aK aV) cl mu0 68 := rfl
theorem ce_69 {cl : Nat → ClassId} {B b : Nat} {aK aV : Nat → Nat} : kE B (kI cl 9) = jm_cell (ad_ B b aK aV) cl mu0 69 := rfl
theorem ce_70 {cl : Nat → ClassId} {B b : Nat} {aK aV : Nat → Nat} : kE B (kI cl 9) = jm_cell (ad_ B b aK aV) cl mu0 70 := rfl
theorem ce_71 {cl : Nat → ClassId} {B b : Nat} {aK aV : Nat → Nat} : kE B (kI cl 9) = jm_cell (ad_ B b aK aV) cl mu0 71 := rfl
theorem ce_72 {cl : Nat → ClassId} {B b : Nat} {aK aV : Nat → Nat} : kE B (kA cl 3 9 85) = jm_cell (ad_ B b aK aV) cl mu0 72 := ce_A (c0 := 73) rfl (by unfold pi_; intro i hi; (repeat' split) <;> omega)
theorem ce_73 {cl : Nat → ClassId} {B b : Nat} {aK aV : Nat → Nat} : kE B (kI cl 9) = jm_cell (ad_ B b aK aV) cl mu0 73 := rfl
theorem ce_74 {cl : Nat → ClassId} {B b : Nat} {aK aV : Nat → Nat} : kE B (kI cl 9) = jm_cell (ad_ B b aK aV) cl mu0 74 := rfl
theorem ce_75 {cl : Nat → ClassId} {B b : Nat} {aK aV : Nat → Nat} : kE B (kI cl 9) = jm_cell (ad_ B b aK aV) cl mu0 75 := rfl
theorem ce_76 {cl : Nat → ClassId} {B b : Nat} {aK aV : Nat → Nat} : kE B (kI cl 9) = jm_cell (ad_ B b aK aV) cl mu0 76 := rfl
theorem ce_77 {cl : Nat → ClassId} {B b : Nat} {aK aV : Nat → Nat} : kE B (kI cl 9) = jm_cell (ad_ B b aK aV) cl mu0 77 := rfl
theorem ce_78 {cl : Nat → ClassId} {B b : Nat} {aK aV : Nat → Nat} : kE B (kI cl 9) = jm_cell (ad_ B b aK aV) cl mu0 78 := rfl
theorem ce_79 {cl : Nat → ClassId} {B b : Nat} {aK aV : Nat → Nat} : kE B (kI cl 9) = jm_cell (ad_ B b aK aV) cl mu0 79 := rfl
theorem ce_80 {cl : Nat → ClassId} {B b : Nat} {aK aV : Nat → Nat} : kE B (kI cl 9) = jm_cell (ad_ B b aK aV) cl mu0 80 := rfl
theorem ce_81 {cl : Nat → ClassId} {B b : Nat} {aK aV : Nat → Nat} : kE B (kI cl 9) = jm_cell (ad_ B b aK aV) cl mu0 81 := rfl
theorem ce_82 {cl : Nat → ClassId} {B b : Nat} {aK aV : Nat → Nat} : kE B (kA cl 3 2 95) = jm_cell (ad_ B b aK aV) cl mu0 82 := ce_A (c0 := 83) rfl (by unfold pi_; intro i hi; (repeat' split) <;> omega)
theorem ce_83 {cl : Nat → ClassId} {B b : Nat} {aK aV : Nat → Nat} : kE B (kI cl 9) = jm_cell (ad_ B b aK aV) cl mu0 83 := rfl
theorem ce_84 {cl : Nat → ClassId} {B b : Nat} {aK aV : Nat → Nat} : kE B (kI cl 9) = jm_cell (ad_ B b aK aV) cl mu0 84 := rfl
theorem ce_85 {cl : Nat → ClassId} {B b : Nat} {aK aV : Nat → Nat} : kE B (kA cl 3 2 98) = jm_cell (ad_ B b aK aV) cl mu0 85 := ce_A (c0 := 86) rfl (by unfold pi_; intro i hi; (repeat' split) <;> omega)
theorem ce_86 {cl : Nat → ClassId} {B b : Nat} {aK aV : Nat → Nat} : kE B (kI cl 171) = jm_cell (ad_ B b aK aV) cl mu0 86 := rfl
theorem ce_87 {cl : Nat → ClassId} {B b : Nat} {aK aV : Nat → Nat} : kE B (kI cl 171) = jm_cell (ad_ B b aK aV) cl mu0 87 := rfl
theorem ce_88 {cl : Nat → ClassId} {B b : Nat} {aK aV : Nat → Nat} : kE B (oX0 101) = jm_cell (ad_ B b aK aV) cl mu0 88 := rfl
theorem ce_89 {cl : Nat → ClassId} {B b : Nat} {aK aV : Nat → Nat} : kE B (kI cl 8) = jm_cell (ad_ B b aK aV) cl mu0 89 := rfl
theorem ce_90 {cl : Nat → ClassId} {B b : Nat} {aK aV : Nat → Nat} : kE B (kI cl 8) = jm_cell (ad_ B b aK aV) cl mu0 90 := rfl
theorem ce_91 {cl : Nat → ClassId} {B b : Nat} {aK aV : Nat → Nat} : kE B (kI cl 8) = jm_cell (ad_ B b aK aV) cl mu0 91 := rfl
theorem ce_92 {cl : Nat → ClassId} {B b : Nat} {aK aV : Nat → Nat} : kE B (kI cl 8) = jm_cell (ad_ B b aK aV) cl mu0 92 := rfl
theorem ce_93 {cl : Nat → ClassId} {B b : Nat} {aK aV : Nat → Nat} : kE B (oX5 66) = jm_cell (ad_ B b aK aV) cl mu0 93 := by
  unfold jm_cell
  rw [is_93.2]
  show _ = (Sum.inr (5, jm_fs (ad_ B b aK aV) (mu0.1 93) _) : va_E)
  unfold jm_fs
  simp only [List.mapIdx_cons, List.mapIdx_nil]
  rfl
theorem ce_94 {cl : Nat → ClassId} {B b : Nat} {aK aV : Nat → Nat} : kE B (oX0 67) = jm_cell (ad_ B b aK aV) cl mu0 94 := rfl
theorem ce_95 {cl : Nat → ClassId} {B b : Nat} {aK aV : Nat → Nat} : kE B (kI cl 8) = jm_cell (ad_ B b aK aV) cl mu0 95 := rfl
theorem ce_96 {cl : Nat → ClassId} {B b : Nat} {aK aV : Nat → Nat} : kE B (kI cl 8) = jm_cell (ad_ B b aK aV) cl mu0 96 := rfl
theorem ce_97 {cl : Nat → ClassId} {B b : Nat} {aK aV : Nat → Nat} : kE B (kI cl 8) = jm_cell (ad_ B b aK aV) cl mu0 97 := rfl
theorem ce_98 {cl : Nat → ClassId} {B b : Nat} {aK aV : Nat → Nat} : kE B (kI cl 8) = jm_cell (ad_ B b aK aV) cl mu0 98 := rfl
theorem ce_99 {cl : Nat → ClassId} {B b : Nat} {aK aV : Nat → Nat} : kE B (kI cl 9) = jm_cell (ad_ B b aK aV) cl mu0 99 := rfl
theorem ce_100 {cl : Nat → ClassId} {B b : Nat} {aK aV : Nat → Nat} : kE B (kI cl 9) = jm_cell (ad_ B b aK aV) cl mu0 100 := rfl
theorem ce_101 {cl : Nat → ClassId} {B b : Nat} {aK aV : Nat → Nat} : kE B (kI cl 9) = jm_cell (ad_ B b aK aV) cl mu0 101 := rfl
theorem ce_102 {cl : Nat → ClassId} {B b : Nat} {aK aV : Nat → Nat} : kE B (kI cl 9) = jm_cell (ad_ B b aK aV) cl mu0 102 := rfl
theorem ce_103 {cl : Nat → ClassId} {B b : Nat} {aK aV : Nat → Nat} : kE B (kCh cl 160) = jm_cell (ad_ B b aK aV) cl mu0 103 := rfl
theorem ce_105 {cl : Nat → ClassId} {B b : Nat} {aK aV : Nat → Nat} : kE B (oX3 106) = jm_cell (ad_ B b aK aV) cl mu0 105 := rfl
theorem ce_106 {cl : Nat → ClassId} {B b : Nat} {aK aV : Nat → Nat} : kE B (oX3 108) = jm_cell (ad_ B b aK aV) cl mu0 106 := rfl
theorem ce_107 {cl : Nat → ClassId} {B b : Nat} {aK aV : Nat → Nat} : kE B (oX3 110) = jm_cell (ad_ B b aK aV) cl mu0 107 := rfl
theorem ce_108 {cl : Nat → ClassId} {B b : Nat} {aK aV : Nat → Nat} : kE B (oX3 112) = jm_cell (ad_ B b aK aV) cl mu0 108 := rfl
theorem ce_109 {cl : Nat → ClassId} {B b : Nat} {aK aV : Nat → Nat} : kE B (kJ cl 24) = jm_cell (ad_ B b aK aV) cl mu0 109 := rfl
theorem ce_110 {cl : Nat → ClassId} {B b : Nat} {aK aV : Nat → Nat} : kE B (kJ cl 24) = jm_cell (ad_ B b aK aV) cl mu0 110 := rfl
theorem ce_111 {cl : Nat → ClassId} {B b : Nat} {aK aV : Nat → Nat} : kE B (kJ cl 24) = jm_cell (ad_ B b aK aV) cl mu0 111 := rfl
theorem ce_112 {cl : Nat → ClassId} {B b : Nat} {aK aV : Nat → Nat} : kE B (kJ cl 24) = jm_cell (ad_ B b aK aV) cl mu0 112 := rfl
theorem ce_113 {cl : Nat → ClassId} {B b : Nat} {aK aV : Nat → Nat} : kE B (oX8 114) = jm_cell (ad_ B b aK aV) cl mu0 113 := by
  unfold jm_cell
  rw [is_113.2]
  show _ = (Sum.inr (8, jm_fs (ad_ B b aK aV) (mu0.1 113) _) : va_E)
  unfold jm_fs
  simp only [List.mapIdx_cons, List.mapIdx_nil]
  rfl
theorem ce_114 {cl : Nat → ClassId} {B b : Nat} {aK aV : Nat → Nat} : kE B (.inl (cl 0, 1829, .inl (nvX8_kS 81))) = jm_cell (ad_ B b aK aV) cl mu0 114 := rfl
theorem ce_115 {cl : Nat → ClassId} {B b : Nat} {aK aV : Nat → Nat} : kE B (kI cl 1829) = jm_cell (ad_ B b aK aV) cl mu0 115 := rfl
theorem ce_116 {cl : Nat → ClassId} {B b : Nat} {aK aV : Nat → Nat} : kE B (kI cl 1829) = jm_cell (ad_ B b aK aV) cl mu0 116 := rfl
theorem ce_117 {cl : Nat → ClassId} {B b : Nat} {aK aV : Nat → Nat} : kE B (kI cl 1829) = jm_cell (ad_ B b aK aV) cl mu0 117 := rfl
theorem ce_118 {cl : Nat → ClassId} {B b : Nat} {aK aV : Nat → Nat} : kE B (kI cl 160) = jm_cell (ad_ B b aK aV) cl mu0 118 := rfl
theorem ce_119 {cl : Nat → ClassId} {B b : Nat} {aK aV : Nat → Nat} : kE B (kI cl 36) = jm_cell (ad_ B b aK aV) cl mu0 119 := rfl
theorem ce_120 {cl : Nat → ClassId} {B b : Nat} {aK aV : Nat → Nat} : kE B (.inl (cl 0, 4, .inl (upd (upd (upd (upd (fun _ => 0) 0 (-1)) 1 (-1)) 2 (-1)) 3 (-1)))) = jm_cell (ad_ B b aK aV) cl mu0 120 := rfl
theorem ce_121 {cl : Nat → ClassId} {B b : Nat} {aK aV : Nat → Nat} : kE B (kI cl 4) = jm_cell (ad_ B b aK aV) cl mu0 121 := rfl
theorem ce_122 {cl : Nat → ClassId} {B b : Nat} {aK aV : Nat → Nat} : kE B (kJ cl 96) = jm_cell (ad_ B b aK aV) cl mu0 122 := rfl
theorem ce_123 {cl : Nat → ClassId} {B b : Nat} {aK aV : Nat → Nat} : kE B (kI cl 9) = jm_cell (ad_ B b aK aV) cl mu0 123 := rfl
theorem ce_124 {cl : Nat → ClassId} {B b : Nat} {aK aV : Nat → Nat} : kE B (kJ cl 24) = jm_cell (ad_ B b aK aV) cl mu0 124 := rfl
set_option maxRecDepth 100000 in
theorem c1X7_e (cl : Nat → ClassId) : c1X7 cl = [oX4 2, oX2 3, kI cl 9, kI cl 9, kI cl 9, kI cl 9, kI cl 9, kA cl 3 9 9, kI cl 9, kI cl 9, kI cl 9, kI cl 9, kI cl 9, kI cl 9, kI cl 9, kI cl 9, kI cl 9, kA cl 3 2 19, kI cl 9, kI cl 9, kA cl 3 2 22, kI cl 171, kI cl 171, oX0 25, kI cl 8, kI cl 8, kI cl 8, kI cl 8, oX1 30, kI cl 12, kI cl 12, kI cl 12] := rfl
set_option maxRecDepth 100000 in
theorem c2X7_e (cl : Nat → ClassId) : c2X7 cl = [oX4 34, oX2 35, kI cl 9, kI cl 9, kI cl 9, kI cl 9, kI cl 9, kA cl 3 9 41, kI cl 9, kI cl 9, kI cl 9, kI cl 9, kI cl 9, kI cl 9, kI cl 9, kI cl 9, kI cl 9, kA cl 3 2 51, kI cl 9, kI cl 9, kA cl 3 2 54, kI cl 171, kI cl 171, oX0 57, kI cl 8, kI cl 8, kI cl 8, kI cl 8, oX1 62, kI cl 12, kI cl 12, kI cl 12] := rfl
set_option maxRecDepth 100000 in
theorem c3X7_e (cl : Nat → ClassId) : c3X7 cl = [oX5 66, oX0 67, kI cl 8, kI cl 8, kI cl 8, kI cl 8, kI cl 9, kI cl 9, kI cl 9, kI cl 9, kCh cl 160] := rfl
set_option maxRecDepth 100000 in
theorem c5X7_e (cl : Nat → ClassId) : c5X7 cl = [oX6 78 (2) (24), oX2 79, kI cl 9, kI cl 9, kI cl 9, kI cl 9, kI cl 9, kA cl 3 9 85, kI cl 9, kI cl 9, kI cl 9, kI cl 9, kI cl 9, kI cl 9, kI cl 9, kI cl 9, kI cl 9, kA cl 3 2 95, kI cl 9, kI cl 9, kA cl 3 2 98, kI cl 171, kI cl 171, oX0 101, kI cl 8, kI cl 8, kI cl 8, kI cl 8] := rfl
set_option maxRecDepth 100000 in
theorem c6X7_e (cl : Nat → ClassId) : c6X7 cl = [oX3 106, kJ cl 24] := rfl
set_option maxRecDepth 100000 in
theorem c7X7_e (cl : Nat → ClassId) : c7X7 cl = [oX3 108, kJ cl 24] := rfl
set_option maxRecDepth 100000 in
theorem c8X7_e (cl : Nat → ClassId) : c8X7 cl = [oX3 110, kJ cl 24] := rfl
set_option maxRecDepth 100000 in
theorem c9X7_e (cl : Nat → ClassId) : c9X7 cl = [oX3 112, kJ cl 24] := rfl
theorem x8_11 (cl : Nat → ClassId) (n0 : Nat) : nvX8_11 cl n0 = [kI cl 1829, kI cl 1829, kI cl 1829, kI cl 1829, kI cl 160, kI cl 36, kI cl 4, kI cl 4, kJ cl 96, kI cl 9, kJ cl 24] := rfl
theorem c10_e (cl : Nat → ClassId) : c10 cl = [oX8 114, .inl (cl 0, 1829, .inl (nvX8_kS 81)), kI cl 1829, kI cl 1829, kI cl 1829, kI cl 160, kI cl 36, .inl (cl 0, 4, .inl (upd (upd (upd (upd (fun _ => 0) 0 (-1)) 1 (-1)) 2 (-1)) 3 (-1))), kI cl 4, kJ cl 96, kI cl 9, kJ cl 24] := by
  unfold c10 nwX8 nvX8_k nvX8_16 nvX8_15 nvX8_14 nvX8_13 nvX8_12
  rw [x8_11]
  rfl
theorem le_0 (cl : Nat → ClassId) : (nwE cl)[0]? = some (oX7 1) := by
  rw [nwE_f]
  show (_ ++ _)[0]? = _
  exact (look_l rfl (show (0 : Nat) < 1 by decide)).trans rfl
theorem le_1 (cl : Nat → ClassId) : (nwE cl)[1]? = some (oX4 2) := by
  rw [nwE_f]
  show (_ ++ _)[1 + (0)]? = _
  exact (look_r rfl).trans ((look_l (lc1 cl) (show (0 : Nat) < 32 by decide)).trans (by rw [c1X7_e]; rfl))
theorem le_2 (cl : Nat → ClassId) : (nwE cl)[2]? = some (oX2 3) := by
  rw [nwE_f]
  show (_ ++ _)[1 + (1)]? = _
  exact (look_r rfl).trans ((look_l (lc1 cl) (show (1 : Nat) < 32 by decide)).trans (by rw [c1X7_e]; rfl))
theorem le_3 (cl : Nat → ClassId) : (nwE cl)[3]? = some (kI cl 9) := by
  rw [nwE_f]
  show (_ ++ _)[1 + (2)]? = _
  exact (look_r rfl).trans ((look_l (lc1 cl) (show (2 : Nat) < 32 by decide)).trans (by rw [c1X7_e]; rfl))
theorem le_4 (cl : Nat → ClassId) : (nwE cl)[4]? = some (kI cl 9) := by
  rw [nwE_f]
  show (_ ++ _)[1 + (3)]? = _
  exact (look_r rfl).trans ((look_l (lc1 cl) (show (3 : Nat) < 32 by decide)).trans (by rw [c1X7_e]; rfl))
theorem le_5 (cl : Nat → ClassId) : (nwE cl)[5]? = some (kI cl 9) := by
  rw [nwE_f]
  show (_ ++ _)[1 + (4)]? = _
  exact (look_r rfl).trans ((look_l (lc1 cl) (show (4 : Nat) < 32 by decide)).trans (by rw [c1X7_e]; rfl))
theorem le_6 (cl : Nat → ClassId) : (nwE cl)[6]? = some (kI cl 9) := by
  rw [nwE_f]
  show (_ ++ _)[1 + (5)]? = _
  exact (look_r rfl).trans ((look_l (lc1 cl) (show (5 : Nat) < 32 by decide)).trans (by rw [c1X7_e]; rfl))
theorem le_7 (cl : Nat → ClassId) : (nwE cl)[7]? = some (kI cl 9) := by
  rw [nwE_f]
  show (_ ++ _)[1 + (6)]? = _
  exact (look_r rfl).trans ((look_l (lc1 cl) (show (6 : Nat) < 32 by decide)).trans (by rw [c1X7_e]; rfl))
theorem le_8 (cl : Nat → ClassId) : (nwE cl)[8]? = some (kA cl 3 9 9) := by
  rw [nwE_f]
  show (_ ++ _)[1 + (7)]? = _
  exact (look_r rfl).trans ((look_l (lc1 cl) (show (7 : Nat) < 32 by decide)).trans (by rw [c1X7_e]; rfl))
theorem le_9 (cl : Nat → ClassId) : (nwE cl)[9]? = some (kI cl 9) := by
  rw [nwE_f]
  show (_ ++ _)[1 + (8)]? = _
  exact (look_r rfl).trans ((look_l (lc1 cl) (show (8 : Nat) < 32 by decide)).trans (by rw [c1X7_e]; rfl))
theorem le_10 (cl : Nat → ClassId) : (nwE cl)[10]? = some (kI cl 9) := by
  rw [nwE_f]
  show (_ ++ _)[1 + (9)]? = _
  exact (look_r rfl).trans ((look_l (lc1 cl) (show (9 : Nat) < 32 by decide)).trans (by rw [c1X7_e]; rfl))
theorem le_11 (cl : Nat → ClassId) : (nwE cl)[11]? = some (kI cl 9) := by
  rw [nwE_f]
  show (_ ++ _)[1 + (10)]? = _
  exact (look_r rfl).trans ((look_l (lc1 cl) (show (10 : Nat) < 32 by decide)).trans (by rw [c1X7_e]; rfl))
theorem le_12 (cl : Nat → ClassId) : (nwE cl)[12]? = some (kI cl 9) := by
  rw [nwE_f]
  show (_ ++ _)[1 + (11)]? = _
  exact (look_r rfl).trans ((look_l (lc1 cl) (show (11 : Nat) < 32 by decide)).trans (by rw [c1X7_e]; rfl))
theorem le_13 (cl : Nat → ClassId) : (nwE cl)[13]? = some (kI cl 9) := by
  rw [nwE_f]
  show (_ ++ _)[1 + (12)]? = _
  exact (look_r rfl).trans ((look_l (lc1 cl) (show (12 : Nat) < 32 by decide)).trans (by rw [c1X7_e]; rfl))
theorem le_14 (cl : Nat → ClassId) : (nwE cl)[14]? = some (kI cl 9) := by
  rw [nwE_f]
  show (_ ++ _)[1 + (13)]? = _
  exact (look_r rfl).trans ((look_l (lc1 cl) (show (13 : Nat) < 32 by decide)).trans (by rw [c1X7_e]; rfl))
theorem le_15 (cl : Nat → ClassId) : (nwE cl)[15]? = some (kI cl 9) := by
  rw [nwE_f]
  show (_ ++ _)[1 + (14)]? = _
  exact (look_r rfl).trans ((look_l (lc1 cl) (show (14 : Nat) < 32 by decide)).trans (by rw [c1X7_e]; rfl))
theorem le_16 (cl : Nat → ClassId) : (nwE cl)[16]? = some (kI cl 9) := by
  rw [nwE_f]
  show (_ ++ _)[1 + (15)]? = _
  exact (look_r rfl).trans ((look_l (lc1 cl) (show (15 : Nat) < 32 by decide)).trans (by rw [c1X7_e]; rfl))
theorem le_17 (cl : Nat → ClassId) : (nwE cl)[17]? = some (kI cl 9) := by
  rw [nwE_f]
  show (_ ++ _)[1 + (16)]? = _
  exact (look_r rfl).trans ((look_l (lc1 cl) (show (16 : Nat) < 32 by decide)).trans (by rw [c1X7_e]; rfl))
theorem le_18 (cl : Nat → ClassId) : (nwE cl)[18]? = some (kA cl 3 2 19) := by
  rw [nwE_f]
  show (_ ++ _)[1 + (17)]? = _
  exact (look_r rfl).trans ((look_l (lc1 cl) (show (17 : Nat) < 32 by decide)).trans (by rw [c1X7_e]; rfl))
theorem le_19 (cl : Nat → ClassId) : (nwE cl)[19]? = some (kI cl 9) := by
  rw [nwE_f]
  show (_ ++ _)[1 + (18)]? = _
  exact (look_r rfl).trans ((look_l (lc1 cl) (show (18 : Nat) < 32 by decide)).trans (by rw [c1X7_e]; rfl))
theorem le_20 (cl : Nat → ClassId) : (nwE cl)[20]? = some (kI cl 9) := by
  rw [nwE_f]
  show (_ ++ _)[1 + (19)]? = _
  exact (look_r rfl).trans ((look_l (lc1 cl) (show (19 : Nat) < 32 by decide)).trans (by rw [c1X7_e]; rfl))
theorem le_21 (cl : Nat → ClassId) : (nwE cl)[21]? = some (kA cl 3 2 22) := by
  rw [nwE_f]
  show (_ ++ _)[1 + (20)]? = _
  exact (look_r rfl).trans ((look_l (lc1 cl) (show (20 : Nat) < 32 by decide)).trans (by rw [c1X7_e]; rfl))
theorem le_22 (cl : Nat → ClassId) : (nwE cl)[22]? = some (kI cl 171) := by
  rw [nwE_f]
  show (_ ++ _)[1 + (21)]? = _
  exact (look_r rfl).trans ((look_l (lc1 cl) (show (21 : Nat) < 32 by decide)).trans (by rw [c1X7_e]; rfl))
theorem le_23 (cl : Nat → ClassId) : (nwE cl)[23]? = some (kI cl 171) := by
  rw [nwE_f]
  show (_ ++ _)[1 + (22)]? = _
  exact (look_r rfl).trans ((look_l (lc1 cl) (show (22 : Nat) < 32 by decide)).trans (by rw [c1X7_e]; rfl))
theorem le_24 (cl : Nat → ClassId) : (nwE cl)[24]? = some (oX0 25) := by
  rw [nwE_f]
  show (_ ++ _)[1 + (23)]? = _
  exact (look_r rfl).trans ((look_l (lc1 cl) (show (23 : Nat) < 32 by decide)).trans (by rw [c1X7_e]; rfl))
theorem le_25 (cl : Nat → ClassId) : (nwE cl)[25]? = some (kI cl 8) := by
  rw [nwE_f]
  show (_ ++ _)[1 + (24)]? = _
  exact (look_r rfl).trans ((look_l (lc1 cl) (show (24 : Nat) < 32 by decide)).trans (by rw [c1X7_e]; rfl))
theorem le_26 (cl : Nat → ClassId) : (nwE cl)[26]? = some (kI cl 8) := by
  rw [nwE_f]
  show (_ ++ _)[1 + (25)]? = _
  exact (look_r rfl).trans ((look_l (lc1 cl) (show (25 : Nat) < 32 by decide)).trans (by rw [c1X7_e]; rfl))
theorem le_27 (cl : Nat → ClassId) : (nwE cl)[27]? = some (kI cl 8) := by
  rw [nwE_f]
  show (_ ++ _)[1 + (26)]? = _
  exact (look_r rfl).trans ((look_l (lc1 cl) (show (26 : Nat) < 32 by decide)).trans (by rw [c1X7_e]; rfl))
theorem le_28 (cl : Nat → ClassId) : (nwE cl)[28]? = some (kI cl 8) := by
  rw [nwE_f]
  show (_ ++ _)[1 + (27)]? = _
  exact (look_r rfl).trans ((look_l (lc1 cl) (show (27 : Nat) < 32 by decide)).trans (by rw [c1X7_e]; rfl))
theorem le_29 (cl : Nat → ClassId) : (nwE cl)[29]? = some (oX1 30) := by
  rw [nwE_f]
  show (_ ++ _)[1 + (28)]? = _
  exact (look_r rfl).trans ((look_l (lc1 cl) (show (28 : Nat) < 32 by decide)).trans (by rw [c1X7_e]; rfl))
theorem le_30 (cl : Nat → ClassId) : (nwE cl)[30]? = some (kI cl 12) := by
  rw [nwE_f]
  show (_ ++ _)[1 + (29)]? = _
  exact (look_r rfl).trans ((look_l (lc1 cl) (show (29 : Nat) < 32 by decide)).trans (by rw [c1X7_e]; rfl))
theorem le_31 (cl : Nat → ClassId) : (nwE cl)[31]? = some (kI cl 12) := by
  rw [nwE_f]
  show (_ ++ _)[1 + (30)]? = _
  exact (look_r rfl).trans ((look_l (lc1 cl) (show (30 : Nat) < 32 by decide)).trans (by rw [c1X7_e]; rfl))
theorem le_32 (cl : Nat → ClassId) : (nwE cl)[32]? = some (kI cl 12) := by
  rw [nwE_f]
  show (_ ++ _)[1 + (31)]? = _
  exact (look_r rfl).trans ((look_l (lc1 cl) (show (31 : Nat) < 32 by decide)).trans (by rw [c1X7_e]; rfl))
theorem le_33 (cl : Nat → ClassId) : (nwE cl)[33]? = some (oX4 34) := by
  rw [nwE_f]
  show (_ ++ _)[1 + (32 + (0))]? = _
  exact (look_r rfl).trans ((look_r (lc1 cl)).trans ((look_l (lc2 cl) (show (0 : Nat) < 32 by decide)).trans (by rw [c2X7_e]; rfl)))
theorem le_34 (cl : Nat → ClassId) : (nwE cl)[34]? = some (oX2 35) := by
  rw [nwE_f]
  show (_ ++ _)[1 + (32 + (1))]? = _
  exact (look_r rfl).trans ((look_r (lc1 cl)).trans ((look_l (lc2 cl) (show (1 : Nat) < 32 by decide)).trans (by rw [c2X7_e]; rfl)))
theorem le_35 (cl : Nat → ClassId) : (nwE cl)[35]? = some (kI cl 9) := by
  rw [nwE_f]
  show (_ ++ _)[1 + (32 + (2))]? = _
  exact (look_r rfl).trans ((look_r (lc1 cl)).trans ((look_l (lc2 cl) (show (2 : Nat) < 32 by decide)).trans (by rw [c2X7_e]; rfl)))
theorem le_36 (cl : Nat → ClassId) : (nwE cl)[36]? = some (kI cl 9) := by
  rw [nwE_f]
  show (_ ++ _)[1 + (32 + (3))]? = _
  exact (look_r rfl).trans ((look_r (lc1 cl)).trans ((look_l (lc2 cl) (show (3 : Nat) < 32 by decide)).trans (by rw [c2X7_e]; rfl)))
theorem le_37 (cl : Nat → ClassId) : (nwE cl)[37]? = some (kI cl 9) := by
  rw [nwE_f]
  show (_ ++ _)[1 + (32 + (4))]? = _
  exact (look_r rfl).trans ((look_r (lc1 cl)).trans ((look_l (lc2 cl) (show (4 : Nat) < 32 by decide)).trans (by rw [c2X7_e]; rfl)))
theorem le_38 (cl : Nat → ClassId) : (nwE cl)[38]? = some (kI cl 9) := by
  rw [nwE_f]
  show (_ ++ _)[1 + (32 + (5))]? = _
  exact (look_r rfl).trans ((look_r (lc1 cl)).trans ((look_l (lc2 cl) (show (5 : Nat) < 32 by decide)).trans (by rw [c2X7_e]; rfl)))
theorem le_39 (cl : Nat → ClassId) : (nwE cl)[39]? = some (kI cl 9) := by
  rw [nwE_f]
  show (_ ++ _)[1 + (32 + (6))]? = _
  exact (look_r rfl).trans ((look_r (lc1 cl)).trans ((look_l (lc2 cl) (show (6 : Nat) < 32 by decide)).trans (by rw [c2X7_e]; rfl)))
theorem le_40 (cl : Nat → ClassId) : (nwE cl)[40]? = some (kA cl 3 9 41) := by
  rw [nwE_f]
  show (_ ++ _)[1 + (32 + (7))]? = _
  exact (look_r rfl).trans ((look_r (lc1 cl)).trans ((look_l (lc2 cl) (show (7 : Nat) < 32 by decide)).trans (by rw [c2X7_e]; rfl)))
theorem le_41 (cl : Nat → ClassId) : (nwE cl)[41]? = some (kI cl 9) := by
  rw [nwE_f]
  show (_ ++ _)[1 + (32 + (8))]? = _
  exact (look_r rfl).trans ((look_r (lc1 cl)).trans ((look_l (lc2 cl) (show (8 : Nat) < 32 by decide)).trans (by rw [c2X7_e]; rfl)))
theorem le_42 (cl : Nat → ClassId) : (nwE cl)[42]? = some (kI cl 9) := by
  rw [nwE_f]
  show (_ ++ _)[1 + (32 + (9))]? = _
  exact (look_r rfl).trans ((look_r (lc1 cl)).trans ((look_l (lc2 cl) (show (9 : Nat) < 32 by decide)).trans (by rw [c2X7_e]; rfl)))
theorem le_43 (cl : Nat → ClassId) : (nwE cl)[43]? = some (kI cl 9) := by
  rw [nwE_f]
  show (_ ++ _)[1 + (32 + (10))]? = _
  exact (look_r rfl).trans ((look_r (lc1 cl)).trans ((look_l (lc2 cl) (show (10 : Nat) < 32 by decide)).trans (by rw [c2X7_e]; rfl)))
theorem le_44 (cl : Nat → ClassId) : (nwE cl)[44]? = some (kI cl 9) := by
  rw [nwE_f]
  show (_ ++ _)[1 + (32 + (11))]? = _
  exact (look_r rfl).trans ((look_r (lc1 cl)).trans ((look_l (lc2 cl) (show (11 : Nat) < 32 by decide)).trans (by rw [c2X7_e]; rfl)))
theorem le_45 (cl : Nat → ClassId) : (nwE cl)[45]? = some (kI cl 9) := by
  rw [nwE_f]
  show (_ ++ _)[1 + (32 + (12))]? = _
  exact (look_r rfl).trans ((look_r (lc1 cl)).trans ((look_l (lc2 cl) (show (12 : Nat) < 32 by decide)).trans (by rw [c2X7_e]; rfl)))
theorem le_46 (cl : Nat → ClassId) : (nwE cl)[46]? = some (kI cl 9) := by
  rw [nwE_f]
  show (_ ++ _)[1 + (32 + (13))]? = _
  exact (look_r rfl).trans ((look_r (lc1 cl)).trans ((look_l (lc2 cl) (show (13 : Nat) < 32 by decide)).trans (by rw [c2X7_e]; rfl)))
theorem le_47 (cl : Nat → ClassId) : (nwE cl)[47]? = some (kI cl 9) := by
  rw [nwE_f]
  show (_ ++ _)[1 + (32 + (14))]? = _
  exact (look_r rfl).trans ((look_r (lc1 cl)).trans ((look_l (lc2 cl) (show (14 : Nat) < 32 by decide)).trans (by rw [c2X7_e]; rfl)))
theorem le_48 (cl : Nat → ClassId) : (nwE cl)[48]? = some (kI cl 9) := by
  rw [nwE_f]
  show (_ ++ _)[1 + (32 + (15))]? = _
  exact (look_r rfl).trans ((look_r (lc1 cl)).trans ((look_l (lc2 cl) (show (15 : Nat) < 32 by decide)).trans (by rw [c2X7_e]; rfl)))
theorem le_49 (cl : Nat → ClassId) : (nwE cl)[49]? = some (kI cl 9) := by
  rw [nwE_f]
  show (_ ++ _)[1 + (32 + (16))]? = _
  exact (look_r rfl).trans ((look_r (lc1 cl)).trans ((look_l (lc2 cl) (show (16 : Nat) < 32 by decide)).trans (by rw [c2X7_e]; rfl)))
theorem le_50 (cl : Nat → ClassId) : (nwE cl)[50]? = some (kA cl 3 2 51) := by
  rw [nwE_f]
  show (_ ++ _)[1 + (32 + (17))]? = _
  exact (look_r rfl).trans ((look_r (lc1 cl)).trans ((look_l (lc2 cl) (show (17 : Nat) < 32 by decide)).trans (by rw [c2X7_e]; rfl)))
theorem le_51 (cl : Nat → ClassId) : (nwE cl)[51]? = some (kI cl 9) := by
  rw [nwE_f]
  show (_ ++ _)[1 + (32 + (18))]? = _
  exact (look_r rfl).trans ((look_r (lc1 cl)).trans ((look_l (lc2 cl) (show (18 : Nat) < 32 by decide)).trans (by rw [c2X7_e]; rfl)))
theorem le_52 (cl : Nat → ClassId) : (nwE cl)[52]? = some (kI cl 9) := by
  rw [nwE_f]
  show (_ ++ _)[1 + (32 + (19))]? = _
  exact (look_r rfl).trans ((look_r (lc1 cl)).trans ((look_l (lc2 cl) (show (19 : Nat) < 32 by decide)).trans (by rw [c2X7_e]; rfl)))
theorem le_53 (cl : Nat → ClassId) : (nwE cl)[53]? = some (kA cl 3 2 54) := by
  rw [nwE_f]
  show (_ ++ _)[1 + (32 + (20))]? = _
  exact (look_r rfl).trans ((look_r (lc1 cl)).trans ((look_l (lc2 cl) (show (20 : Nat) < 32 by decide)).trans (by rw [c2X7_e]; rfl)))
theorem le_54 (cl : Nat → ClassId) : (nwE cl)[54]? = some (kI cl 171) := by
  rw [nwE_f]
  show (_ ++ _)[1 + (32 + (21))]? = _
  exact (look_r rfl).trans ((look_r (lc1 cl)).trans ((look_l (lc2 cl) (show (21 : Nat) < 32 by decide)).trans (by rw [c2X7_e]; rfl)))
theorem le_55 (cl : Nat → ClassId) : (nwE cl)[55]? = some (kI cl 171) := by
  rw [nwE_f]
  show (_ ++ _)[1 + (32 + (22))]? = _
  exact (look_r rfl).trans ((look_r (lc1 cl)).trans ((look_l (lc2 cl) (show (22 : Nat) < 32 by decide)).trans (by rw [c2X7_e]; rfl)))
theorem le_56 (cl : Nat → ClassId) : (nwE cl)[56]? = some (oX0 57) := by
  rw [nwE_f]
  show (_ ++ _)[1 + (32 + (23))]? = _
  exact (look_r rfl).trans ((look_r (lc1 cl)).trans ((look_l (lc2 cl) (show (23 : Nat) < 32 by decide)).trans (by rw [c2X7_e]; rfl)))
theorem le_57 (cl : Nat → ClassId) : (nwE cl)[57]? = some (kI cl 8) := by
  rw [nwE_f]
  show (_ ++ _)[1 + (32 + (24))]? = _
  exact (look_r rfl).trans ((look_r (lc1 cl)).trans ((look_l (lc2 cl) (show (24 : Nat) < 32 by decide)).trans (by rw [c2X7_e]; rfl)))
theorem le_58 (cl : Nat → ClassId) : (nwE cl)[58]? = some (kI cl 8) := by
  rw [nwE_f]
  show (_ ++ _)[1 + (32 + (25))]? = _
  exact (look_r rfl).trans ((look_r (lc1 cl)).trans ((look_l (lc2 cl) (show (25 : Nat) < 32 by decide)).trans (by rw [c2X7_e]; rfl)))
theorem le_59 (cl : Nat → ClassId) : (nwE cl)[59]? = some (kI cl 8) := by
  rw [nwE_f]
  show (_ ++ _)[1 + (32 + (26))]? = _
  exact (look_r rfl).trans ((look_r (lc1 cl)).trans ((look_l (lc2 cl) (show (26 : Nat) < 32 by decide)).trans (by rw [c2X7_e]; rfl)))
theorem le_60 (cl : Nat → ClassId) : (nwE cl)[60]? = some (kI cl 8) := by
  rw [nwE_f]
  show (_ ++ _)[1 + (32 + (27))]? = _
  exact (look_r rfl).trans ((look_r (lc1 cl)).trans ((look_l (lc2 cl) (show (27 : Nat) < 32 by decide)).trans (by rw [c2X7_e]; rfl)))
theorem le_61 (cl : Nat → ClassId) : (nwE cl)[61]? = some (oX1 62) := by
  rw [nwE_f]
  show (_ ++ _)[1 + (32 + (28))]? = _
  exact (look_r rfl).trans ((look_r (lc1 cl)).trans ((look_l (lc2 cl) (show (28 : Nat) < 32 by decide)).trans (by rw [c2X7_e]; rfl)))
theorem le_62 (cl : Nat → ClassId) : (nwE cl)[62]? = some (kI cl 12) := by
  rw [nwE_f]
  show (_ ++ _)[1 + (32 + (29))]? = _
  exact (look_r rfl).trans ((look_r (lc1 cl)).trans ((look_l (lc2 cl) (show (29 : Nat) < 32 by decide)).trans (by rw [c2X7_e]; rfl)))
theorem le_63 (cl : Nat → ClassId) : (nwE cl)[63]? = some (kI cl 12) := by
  rw [nwE_f]
  show (_ ++ _)[1 + (32 + (30))]? = _
  exact (look_r rfl).trans ((look_r (lc1 cl)).trans ((look_l (lc2 cl) (show (30 : Nat) < 32 by decide)).trans (by rw [c2X7_e]; rfl)))
theorem le_64 (cl : Nat → ClassId) : (nwE cl)[64]? = some (kI cl 12) := by
  rw [nwE_f]
  show (_ ++ _)[1 + (32 + (31))]? = _
  exact (look_r rfl).trans ((look_r (lc1 cl)).trans ((look_l (lc2 cl) (show (31 : Nat) < 32 by decide)).trans (by rw [c2X7_e]; rfl)))
theorem le_65 (cl : Nat → ClassId) : (nwE cl)[65]? = some (oX5 66) := by
  rw [nwE_f]
  show (_ ++ _)[1 + (32 + (32 + (0)))]? = _
  exact (look_r rfl).trans ((look_r (lc1 cl)).trans ((look_r (lc2 cl)).trans ((look_l (lc3 cl) (show (0 : Nat) < 11 by decide)).trans (by rw [c3X7_e]; rfl))))
theorem le_66 (cl : Nat → ClassId) : (nwE cl)[66]? = some (oX0 67) := by
  rw [nwE_f]
  show (_ ++ _)[1 + (32 + (32 + (1)))]? = _
  exact (look_r rfl).trans ((look_r (lc1 cl)).trans ((look_r (lc2 cl)).trans ((look_l (lc3 cl) (show (1 : Nat) < 11 by decide)).trans (by rw [c3X7_e]; rfl))))
theorem le_67 (cl : Nat → ClassId) : (nwE cl)[67]? = some (kI cl 8) := by
  rw [nwE_f]
  show (_ ++ _)[1 + (32 + (32 + (2)))]? = _
  exact (look_r rfl).trans ((look_r (lc1 cl)).trans ((look_r (lc2 cl)).trans ((look_l (lc3 cl) (show (2 : Nat) < 11 by decide)).trans (by rw [c3X7_e]; rfl))))
theorem le_68 (cl : Nat → ClassId) : (nwE cl)[68]? = some (kI cl 8) := by
  rw [nwE_f]
  show (_ ++ _)[1 + (32 + (32 + (3)))]? = _
  exact (look_r rfl).trans ((look_r (lc1 cl)).trans ((look_r (lc2 cl)).trans ((look_l (lc3 cl) (show (3 : Nat) < 11 by decide)).trans (by rw [c3X7_e]; rfl))))
theorem le_69 (cl : Nat → ClassId) : (nwE cl)[69]? = some (kI cl 8) := by
  rw [nwE_f]
  show (_ ++ _)[1 + (32 + (32 + (4)))]? = _
  exact (look_r rfl).trans ((look_r (lc1 cl)).trans ((look_r (lc2 cl)).trans ((look_l (lc3 cl) (show (4 : Nat) < 11 by decide)).trans (by rw [c3X7_e]; rfl))))
theorem le_70 (cl : Nat → ClassId) : (nwE cl)[70]? = some (kI cl 8) := by
  rw [nwE_f]
  show (_ ++ _)[1 + (32 + (32 + (5)))]? = _
  exact (look_r rfl).trans ((look_r (lc1 cl)).trans ((look_r (lc2 cl)).trans ((look_l (lc3 cl) (show (5 : Nat) < 11 by decide)).trans (by rw [c3X7_e]; rfl))))
theorem le_71 (cl : Nat → ClassId) : (nwE cl)[71]? = some (kI cl 9) := by
  rw [nwE_f]
  show (_ ++ _)[1 + (32 + (32 + (6)))]? = _
  exact (look_r rfl).trans ((look_r (lc1 cl)).trans ((look_r (lc2 cl)).trans ((look_l (lc3 cl) (show (6 : Nat) < 11 by decide)).trans (by rw [c3X7_e]; rfl))))
theorem le_72 (cl : Nat → ClassId) : (nwE cl)[72]? = some (kI cl 9) := by
  rw [nwE_f]
  show (_ ++ _)[1 + (32 + (32 + (7)))]? = _
  exact (look_r rfl).trans ((look_r (lc1 cl)).trans ((look_r (lc2 cl)).trans ((look_l (lc3 cl) (show (7 : Nat) < 11 by decide)).trans (by rw [c3X7_e]; rfl))))
theorem le_73 (cl : Nat → ClassId) : (nwE cl)[73]? = some (kI cl 9) := by
  rw [nwE_f]
  show (_ ++ _)[1 + (32 + (32 + (8)))]? = _
  exact (look_r rfl).trans ((look_r (lc1 cl)).trans ((look_r (lc2 cl)).trans ((look_l (lc3 cl) (show (8 : Nat) < 11 by decide)).trans (by rw [c3X7_e]; rfl))))
theorem le_74 (cl : Nat → ClassId) : (nwE cl)[74]? = some (kI cl 9) := by
  rw [nwE_f]
  show (_ ++ _)[1 + (32 + (32 + (9)))]? = _
  exact (look_r rfl).trans ((look_r (lc1 cl)).trans ((look_r (lc2 cl)).trans ((look_l (lc3 cl) (show (9 : Nat) < 11 by decide)).trans (by rw [c3X7_e]; rfl))))
theorem le_75 (cl : Nat → ClassId) : (nwE cl)[75]? = some (kCh cl 160) := by
  rw [nwE_f]
  show (_ ++ _)[1 + (32 + (32 + (10)))]? = _
  exact (look_r rfl).trans ((look_r (lc1 cl)).trans ((look_r (lc2 cl)).trans ((look_l (lc3 cl) (show (10 : Nat) < 11 by decide)).trans (by rw [c3X7_e]; rfl))))
theorem le_76 (cl : Nat → ClassId) : (nwE cl)[76]? = some (shF cl) := by
  rw [nwE_f]
  show (_ ++ _)[1 + (32 + (32 + (11 + (0))))]? = _
  exact (look_r rfl).trans ((look_r (lc1 cl)).trans ((look_r (lc2 cl)).trans ((look_r (lc3 cl)).trans ((look_l rfl (show (0 : Nat) < 1 by decide)).trans rfl))))
theorem le_77 (cl : Nat → ClassId) : (nwE cl)[77]? = some (oX6 78 (2) (24)) := by
  rw [nwE_f]
  show (_ ++ _)[1 + (32 + (32 + (11 + (1 + (0)))))]? = _
  exact (look_r rfl).trans ((look_r (lc1 cl)).trans ((look_r (lc2 cl)).trans ((look_r (lc3 cl)).trans ((look_r rfl).trans ((look_l (lc5 cl) (show (0 : Nat) < 28 by decide)).trans (by rw [c5X7_e]; rfl))))))
theorem le_78 (cl : Nat → ClassId) : (nwE cl)[78]? = some (oX2 79) := by
  rw [nwE_f]
  show (_ ++ _)[1 + (32 + (32 + (11 + (1 + (1)))))]? = _
  exact (look_r rfl).trans ((look_r (lc1 cl)).trans ((look_r (lc2 cl)).trans ((look_r (lc3 cl)).trans ((look_r rfl).trans ((look_l (lc5 cl) (show (1 : Nat) < 28 by decide)).trans (by rw [c5X7_e]; rfl))))))
theorem le_79 (cl : Nat → ClassId) : (nwE cl)[79]? = some (kI cl 9) := by
  rw [nwE_f]
  show (_ ++ _)[1 + (32 + (32 + (11 + (1 + (2)))))]? = _
  exact (look_r rfl).trans ((look_r (lc1 cl)).trans ((look_r (lc2 cl)).trans ((look_r (lc3 cl)).trans ((look_r rfl).trans ((look_l (lc5 cl) (show (2 : Nat) < 28 by decide)).trans (by rw [c5X7_e]; rfl))))))
theorem le_80 (cl : Nat → ClassId) : (nwE cl)[80]? = some (kI cl 9) := by
  rw [nwE_f]
  show (_ ++ _)[1 + (32 + (32 + (11 + (1 + (3)))))]? = _
  exact (look_r rfl).trans ((look_r (lc1 cl)).trans ((look_r (lc2 cl)).trans ((look_r (lc3 cl)).trans ((look_r rfl).trans ((look_l (lc5 cl) (show (3 : Nat) < 28 by decide)).trans (by rw [c5X7_e]; rfl))))))
theorem le_81 (cl : Nat → ClassId) : (nwE cl)[81]? = some (kI cl 9) := by
  rw [nwE_f]
  show (_ ++ _)[1 + (32 + (32 + (11 + (1 + (4)))))]? = _
  exact (look_r rfl).trans ((look_r (lc1 cl)).trans ((look_r (lc2 cl)).trans ((look_r (lc3 cl)).trans ((look_r rfl).trans ((look_l (lc5 cl) (show (4 : Nat) < 28 by decide)).trans (by rw [c5X7_e]; rfl))))))
theorem le_82 (cl : Nat → ClassId) : (nwE cl)[82]? = some (kI cl 9) := by
  rw [nwE_f]
  show (_ ++ _)[1 + (32 + (32 + (11 + (1 + (5)))))]? = _
  exact (look_r rfl).trans ((look_r (lc1 cl)).trans ((look_r (lc2 cl)).trans ((look_r (lc3 cl)).trans ((look_r rfl).trans ((look_l (lc5 cl) (show (5 : Nat) < 28 by decide)).trans (by rw [c5X7_e]; rfl))))))
theorem le_83 (cl : Nat → ClassId) : (nwE cl)[83]? = some (kI cl 9) := by
  rw [nwE_f]
  show (_ ++ _)[1 + (32 + (32 + (11 + (1 + (6)))))]? = _
  exact (look_r rfl).trans ((look_r (lc1 cl)).trans ((look_r (lc2 cl)).trans ((look_r (lc3 cl)).trans ((look_r rfl).trans ((look_l (lc5 cl) (show (6 : Nat) < 28 by decide)).trans (by rw [c5X7_e]; rfl))))))
theorem le_84 (cl : Nat → ClassId) : (nwE cl)[84]? = some (kA cl 3 9 85) := by
  rw [nwE_f]
  show (_ ++ _)[1 + (32 + (32 + (11 + (1 + (7)))))]? = _
  exact (look_r rfl).trans ((look_r (lc1 cl)).trans ((look_r (lc2 cl)).trans ((look_r (lc3 cl)).trans ((look_r rfl).trans ((look_l (lc5 cl) (show (7 : Nat) < 28 by decide)).trans (by rw [c5X7_e]; rfl))))))
theorem le_85 (cl : Nat → ClassId) : (nwE cl)[85]? = some (kI cl 9) := by
  rw [nwE_f]
  show (_ ++ _)[1 + (32 + (32 + (11 + (1 + (8)))))]? = _
  exact (look_r rfl).trans ((look_r (lc1 cl)).trans ((look_r (lc2 cl)).trans ((look_r (lc3 cl)).trans ((look_r rfl).trans ((look_l (lc5 cl) (show (8 : Nat) < 28 by decide)).trans (by rw [c5X7_e]; rfl))))))
theorem le_86 (cl : Nat → ClassId) : (nwE cl)[86]? = some (kI cl 9) := by
  rw [nwE_f]
  show (_ ++ _)[1 + (32 + (32 + (11 + (1 + (9)))))]? = _
  exact (look_r rfl).trans ((look_r (lc1 cl)).trans ((look_r (lc2 cl)).trans ((look_r (lc3 cl)).trans ((look_r rfl).trans ((look_l (lc5 cl) (show (9 : Nat) < 28 by decide)).trans (by rw [c5X7_e]; rfl))))))
theorem le_87 (cl : Nat → ClassId) : (nwE cl)[87]? = some (kI cl 9) := by
  rw [nwE_f]
  show (_ ++ _)[1 + (32 + (32 + (11 + (1 + (10)))))]? = _
  exact (look_r rfl).trans ((look_r (lc1 cl)).trans ((look_r (lc2 cl)).trans ((look_r (lc3 cl)).trans ((look_r rfl).trans ((look_l (lc5 cl) (show (10 : Nat) < 28 by decide)).trans (by rw [c5X7_e]; rfl))))))
theorem le_88 (cl : Nat → ClassId) : (nwE cl)[88]? = some (kI cl 9) := by
  rw [nwE_f]
  show (_ ++ _)[1 + (32 + (32 + (11 + (1 + (11)))))]? = _
  exact (look_r rfl).trans ((look_r (lc1 cl)).trans ((look_r (lc2 cl)).trans ((look_r (lc3 cl)).trans ((look_r rfl).trans ((look_l (lc5 cl) (show (11 : Nat) < 28 by decide)).trans (by rw [c5X7_e]; rfl))))))
theorem le_89 (cl : Nat → ClassId) : (nwE cl)[89]? = some (kI cl 9) := by
  rw [nwE_f]
  show (_ ++ _)[1 + (32 + (32 + (11 + (1 + (12)))))]? = _
  exact (look_r rfl).trans ((look_r (lc1 cl)).trans ((look_r (lc2 cl)).trans ((look_r (lc3 cl)).trans ((look_r rfl).trans ((look_l (lc5 cl) (show (12 : Nat) < 28 by decide)).trans (by rw [c5X7_e]; rfl))))))
theorem le_90 (cl : Nat → ClassId) : (nwE cl)[90]? = some (kI cl 9) := by
  rw [nwE_f]
  show (_ ++ _)[1 + (32 + (32 + (11 + (1 + (13)))))]? = _
  exact (look_r rfl).trans ((look_r (lc1 cl)).trans ((look_r (lc2 cl)).trans ((look_r (lc3 cl)).trans ((look_r rfl).trans ((look_l (lc5 cl) (show (13 : Nat) < 28 by decide)).trans (by rw [c5X7_e]; rfl))))))
theorem le_91 (cl : Nat → ClassId) : (nwE cl)[91]? = some (kI cl 9) := by
  rw [nwE_f]
  show (_ ++ _)[1 + (32 + (32 + (11 + (1 + (14)))))]? = _
  exact (look_r rfl).trans ((look_r (lc1 cl)).trans ((look_r (lc2 cl)).trans ((look_r (lc3 cl)).trans ((look_r rfl).trans ((look_l (lc5 cl) (show (14 : Nat) < 28 by decide)).trans (by rw [c5X7_e]; rfl))))))
theorem le_92 (cl : Nat → ClassId) : (nwE cl)[92]? = some (kI cl 9) := by
  rw [nwE_f]
  show (_ ++ _)[1 + (32 + (32 + (11 + (1 + (15)))))]? = _
  exact (look_r rfl).trans ((look_r (lc1 cl)).trans ((look_r (lc2 cl)).trans ((look_r (lc3 cl)).trans ((look_r rfl).trans ((look_l (lc5 cl) (show (15 : Nat) < 28 by decide)).trans (by rw [c5X7_e]; rfl))))))
theorem le_93 (cl : Nat → ClassId) : (nwE cl)[93]? = some (kI cl 9) := by
  rw [nwE_f]
  show (_ ++ _)[1 + (32 + (32 + (11 + (1 + (16)))))]? = _
  exact (look_r rfl).trans ((look_r (lc1 cl)).trans ((look_r (lc2 cl)).trans ((look_r (lc3 cl)).trans ((look_r rfl).trans ((look_l (lc5 cl) (show (16 : Nat) < 28 by decide)).trans (by rw [c5X7_e]; rfl))))))
theorem le_94 (cl : Nat → ClassId) : (nwE cl)[94]? = some (kA cl 3 2 95) := by
  rw [nwE_f]
  show (_ ++ _)[1 + (32 + (32 + (11 + (1 + (17)))))]? = _
  exact (look_r rfl).trans ((look_r (lc1 cl)).trans ((look_r (lc2 cl)).trans ((look_r (lc3 cl)).trans ((look_r rfl).trans ((look_l (lc5 cl) (show (17 : Nat) < 28 by decide)).trans (by rw [c5X7_e]; rfl))))))
theorem le_95 (cl : Nat → ClassId) : (nwE cl)[95]? = some (kI cl 9) := by
  rw [nwE_f]
  show (_ ++ _)[1 + (32 + (32 + (11 + (1 + (18)))))]? = _
  exact (look_r rfl).trans ((look_r (lc1 cl)).trans ((look_r (lc2 cl)).trans ((look_r (lc3 cl)).trans ((look_r rfl).trans ((look_l (lc5 cl) (show (18 : Nat) < 28 by decide)).trans (by rw [c5X7_e]; rfl))))))
theorem le_96 (cl : Nat → ClassId) : (nwE cl)[96]? = some (kI cl 9) := by
  rw [nwE_f]
  show (_ ++ _)[1 + (32 + (32 + (11 + (1 + (19)))))]? = _
  exact (look_r rfl).trans ((look_r (lc1 cl)).trans ((look_r (lc2 cl)).trans ((look_r (lc3 cl)).trans ((look_r rfl).trans ((look_l (lc5 cl) (show (19 : Nat) < 28 by decide)).trans (by rw [c5X7_e]; rfl))))))
theorem le_97 (cl : Nat → ClassId) : (nwE cl)[97]? = some (kA cl 3 2 98) := by
  rw [nwE_f]
  show (_ ++ _)[1 + (32 + (32 + (11 + (1 + (20)))))]? = _
  exact (look_r rfl).trans ((look_r (lc1 cl)).trans ((look_r (lc2 cl)).trans ((look_r (lc3 cl)).trans ((look_r rfl).trans ((look_l (lc5 cl) (show (20 : Nat) < 28 by decide)).trans (by rw [c5X7_e]; rfl))))))
theorem le_98 (cl : Nat → ClassId) : (nwE cl)[98]? = some (kI cl 171) := by
  rw [nwE_f]
  show (_ ++ _)[1 + (32 + (32 + (11 + (1 + (21)))))]? = _
  exact (look_r rfl).trans ((look_r (lc1 cl)).trans ((look_r (lc2 cl)).trans ((look_r (lc3 cl)).trans ((look_r rfl).trans ((look_l (lc5 cl) (show (21 : Nat) < 28 by decide)).trans (by rw [c5X7_e]; rfl))))))
theorem le_99 (cl : Nat → ClassId) : (nwE cl)[99]? = some (kI cl 171) := by
  rw [nwE_f]
  show (_ ++ _)[1 + (32 + (32 + (11 + (1 + (22)))))]? = _
  exact (look_r rfl).trans ((look_r (lc1 cl)).trans ((look_r (lc2 cl)).trans ((look_r (lc3 cl)).trans ((look_r rfl).trans ((look_l (lc5 cl) (show (22 : Nat) < 28 by decide)).trans (by rw [c5X7_e]; rfl))))))
theorem le_100 (cl : Nat → ClassId) : (nwE cl)[100]? = some (oX0 101) := by
  rw [nwE_f]
  show (_ ++ _)[1 + (32 + (32 + (11 + (1 + (23)))))]? = _
  exact (look_r rfl).trans ((look_r (lc1 cl)).trans ((look_r (lc2 cl)).trans ((look_r (lc3 cl)).trans ((look_r rfl).trans ((look_l (lc5 cl) (show (23 : Nat) < 28 by decide)).trans (by rw [c5X7_e]; rfl))))))
theorem le_101 (cl : Nat → ClassId) : (nwE cl)[101]? = some (kI cl 8) := by
  rw [nwE_f]
  show (_ ++ _)[1 + (32 + (32 + (11 + (1 + (24)))))]? = _
  exact (look_r rfl).trans ((look_r (lc1 cl)).trans ((look_r (lc2 cl)).trans ((look_r (lc3 cl)).trans ((look_r rfl).trans ((look_l (lc5 cl) (show (24 : Nat) < 28 by decide)).trans (by rw [c5X7_e]; rfl))))))
theorem le_102 (cl : Nat → ClassId) : (nwE cl)[102]? = some (kI cl 8) := by
  rw [nwE_f]
  show (_ ++ _)[1 + (32 + (32 + (11 + (1 + (25)))))]? = _
  exact (look_r rfl).trans ((look_r (lc1 cl)).trans ((look_r (lc2 cl)).trans ((look_r (lc3 cl)).trans ((look_r rfl).trans ((look_l (lc5 cl) (show (25 : Nat) < 28 by decide)).trans (by rw [c5X7_e]; rfl))))))
theorem le_103 (cl : Nat → ClassId) : (nwE cl)[103]? = some (kI cl 8) := by
  rw [nwE_f]
  show (_ ++ _)[1 + (32 + (32 + (11 + (1 + (26)))))]? = _
  exact (look_r rfl).trans ((look_r (lc1 cl)).trans ((look_r (lc2 cl)).trans ((look_r (lc3 cl)).trans ((look_r rfl).trans ((look_l (lc5 cl) (show (26 : Nat) < 28 by decide)).trans (by rw [c5X7_e]; rfl))))))
theorem le_104 (cl : Nat → ClassId) : (nwE cl)[104]? = some (kI cl 8) := by
  rw [nwE_f]
  show (_ ++ _)[1 + (32 + (32 + (11 + (1 + (27)))))]? = _
  exact (look_r rfl).trans ((look_r (lc1 cl)).trans ((look_r (lc2 cl)).trans ((look_r (lc3 cl)).trans ((look_r rfl).trans ((look_l (lc5 cl) (show (27 : Nat) < 28 by decide)).trans (by rw [c5X7_e]; rfl))))))
theorem le_105 (cl : Nat → ClassId) : (nwE cl)[105]? = some (oX3 106) := by
  rw [nwE_f]
  show (_ ++ _)[1 + (32 + (32 + (11 + (1 + (28 + (0))))))]? = _
  exact (look_r rfl).trans ((look_r (lc1 cl)).trans ((look_r (lc2 cl)).trans ((look_r (lc3 cl)).trans ((look_r rfl).trans ((look_r (lc5 cl)).trans ((look_l (lc6 cl) (show (0 : Nat) < 2 by decide)).trans (by rw [c6X7_e]; rfl)))))))
theorem le_106 (cl : Nat → ClassId) : (nwE cl)[106]? = some (kJ cl 24) := by
  rw [nwE_f]
  show (_ ++ _)[1 + (32 + (32 + (11 + (1 + (28 + (1))))))]? = _
  exact (look_r rfl).trans ((look_r (lc1 cl)).trans ((look_r (lc2 cl)).trans ((look_r (lc3 cl)).trans ((look_r rfl).trans ((look_r (lc5 cl)).trans ((look_l (lc6 cl) (show (1 : Nat) < 2 by decide)).trans (by rw [c6X7_e]; rfl)))))))
theorem le_107 (cl : Nat → ClassId) : (nwE cl)[107]? = some (oX3 108) := by
  rw [nwE_f]
  show (_ ++ _)[1 + (32 + (32 + (11 + (1 + (28 + (2 + (0)))))))]? = _
  exact (look_r rfl).trans ((look_r (lc1 cl)).trans ((look_r (lc2 cl)).trans ((look_r (lc3 cl)).trans ((look_r rfl).trans ((look_r (lc5 cl)).trans ((look_r (lc6 cl)).trans ((look_l (lc7 cl) (show (0 : Nat) < 2 by decide)).trans (by rw [c7X7_e]; rfl))))))))
theorem le_108 (cl : Nat → ClassId) : (nwE cl)[108]? = some (kJ cl 24) := by
  rw [nwE_f]
  show (_ ++ _)[1 + (32 + (32 + (11 + (1 + (28 + (2 + (1)))))))]? = _
  exact (look_r rfl).trans ((look_r (lc1 cl)).trans ((look_r (lc2 cl)).trans ((look_r (lc3 cl)).trans ((look_r rfl).trans ((look_r (lc5 cl)).trans ((look_r (lc6 cl)).trans ((look_l (lc7 cl) (show (1 : Nat) < 2 by decide)).trans (by rw [c7X7_e]; rfl))))))))
theorem le_109 (cl : Nat → ClassId) : (nwE cl)[109]? = some (oX3 110) := by
  rw [nwE_f]
  show (_ ++ _)[1 + (32 + (32 + (11 + (1 + (28 + (2 + (2 + (0))))))))]? = _
  exact (look_r rfl).trans ((look_r (lc1 cl)).trans ((look_r (lc2 cl)).trans ((look_r (lc3 cl)).trans ((look_r rfl).trans ((look_r (lc5 cl)).trans ((look_r (lc6 cl)).trans ((look_r (lc7 cl)).trans ((look_l (lc8 cl) (show (0 : Nat) < 2 by decide)).trans (by rw [c8X7_e]; rfl)))))))))
theorem le_110 (cl : Nat → ClassId) : (nwE cl)[110]? = some (kJ cl 24) := by
  rw [nwE_f]
  show (_ ++ _)[1 + (32 + (32 + (11 + (1 + (28 + (2 + (2 + (1))))))))]? = _
  exact (look_r rfl).trans ((look_r (lc1 cl)).trans ((look_r (lc2 cl)).trans ((look_r (lc3 cl)).trans ((look_r rfl).trans ((look_r (lc5 cl)).trans ((look_r (lc6 cl)).trans ((look_r (lc7 cl)).trans ((look_l (lc8 cl) (show (1 : Nat) < 2 by decide)).trans (by rw [c8X7_e]; rfl)))))))))
theorem le_111 (cl : Nat → ClassId) : (nwE cl)[111]? = some (oX3 112) := by
  rw [nwE_f]
  show (_ ++ _)[1 + (32 + (32 + (11 + (1 + (28 + (2 + (2 + (2 + (0)))))))))]? = _
  exact (look_r rfl).trans ((look_r (lc1 cl)).trans ((look_r (lc2 cl)).trans ((look_r (lc3 cl)).trans ((look_r rfl).trans ((look_r (lc5 cl)).trans ((look_r (lc6 cl)).trans ((look_r (lc7 cl)).trans ((look_r (lc8 cl)).trans ((look_l (lc9 cl) (show (0 : Nat) < 2 by decide)).trans (by rw [c9X7_e]; rfl))))))))))
theorem le_112 (cl : Nat → ClassId) : (nwE cl)[112]? = some (kJ cl 24) := by
  rw [nwE_f]
  show (_ ++ _)[1 + (32 + (32 + (11 + (1 + (28 + (2 + (2 + (2 + (1)))))))))]? = _
  exact (look_r rfl).trans ((look_r (lc1 cl)).trans ((look_r (lc2 cl)).trans ((look_r (lc3 cl)).trans ((look_r rfl).trans ((look_r (lc5 cl)).trans ((look_r (lc6 cl)).trans ((look_r (lc7 cl)).trans ((look_r (lc8 cl)).trans ((look_l (lc9 cl) (show (1 : Nat) < 2 by decide)).trans (by rw [c9X7_e]; rfl))))))))))
theorem le_113 (cl : Nat → ClassId) : (nwE cl)[113]? = some (oX8 114) := by
  rw [nwE_f]
  show (_ ++ _)[1 + (32 + (32 + (11 + (1 + (28 + (2 + (2 + (2 + (2 + (0))))))))))]? = _
  exact (look_r rfl).trans ((look_r (lc1 cl)).trans ((look_r (lc2 cl)).trans ((look_r (lc3 cl)).trans ((look_r rfl).trans ((look_r (lc5 cl)).trans ((look_r (lc6 cl)).trans ((look_r (lc7 cl)).trans ((look_r (lc8 cl)).trans ((look_r (lc9 cl)).trans ((by rw [c10_e]; rfl)))))))))))
theorem le_114 (cl : Nat → ClassId) : (nwE cl)[114]? = some (.inl (cl 0, 1829, .inl (nvX8_kS 81))) := by
  rw [nwE_f]
  show (_ ++ _)[1 + (32 + (32 + (11 + (1 + (28 + (2 + (2 + (2 + (2 + (1))))))))))]? = _
  exact (look_r rfl).trans ((look_r (lc1 cl)).trans ((look_r (lc2 cl)).trans ((look_r (lc3 cl)).trans ((look_r rfl).trans ((look_r (lc5 cl)).trans ((look_r (lc6 cl)).trans ((look_r (lc7 cl)).trans ((look_r (lc8 cl)).trans ((look_r (lc9 cl)).trans ((by rw [c10_e]; rfl)))))))))))
theorem le_115 (cl : Nat → ClassId) : (nwE cl)[115]? = some (kI cl 1829) := by
  rw [nwE_f]
  show (_ ++ _)[1 + (32 + (32 + (11 + (1 + (28 + (2 + (2 + (2 + (2 + (2))))))))))]? = _
  exact (look_r rfl).trans ((look_r (lc1 cl)).trans ((look_r (lc2 cl)).trans ((look_r (lc3 cl)).trans ((look_r rfl).trans ((look_r (lc5 cl)).trans ((look_r (lc6 cl)).trans ((look_r (lc7 cl)).trans ((look_r (lc8 cl)).trans ((look_r (lc9 cl)).trans ((by rw [c10_e]; rfl)))))))))))
theorem le_116 (cl : Nat → ClassId) : (nwE cl)[116]? = some (kI cl 1829) := by
  rw [nwE_f]
  show (_ ++ _)[1 + (32 + (32 + (11 + (1 + (28 + (2 + (2 + (2 + (2 + (3))))))))))]? = _
  exact (look_r rfl).trans ((look_r (lc1 cl)).trans ((look_r (lc2 cl)).trans ((look_r (lc3 cl)).trans ((look_r rfl).trans ((look_r (lc5 cl)).trans ((look_r (lc6 cl)).trans ((look_r (lc7 cl)).trans ((look_r (lc8 cl)).trans ((look_r (lc9 cl)).trans ((by rw [c10_e]; rfl)))))))))))
theorem le_117 (cl : Nat → ClassId) : (nwE cl)[117]? = some (kI cl 1829) := by
  rw [nwE_f]
  show (_ ++ _)[1 + (32 + (32 + (11 + (1 + (28 + (2 + (2 + (2 + (2 + (4))))))))))]? = _
  exact (look_r rfl).trans ((look_r (lc1 cl)).trans ((look_r (lc2 cl)).trans ((look_r (lc3 cl)).trans ((look_r rfl).trans ((look_r (lc5 cl)).trans ((look_r (lc6 cl)).trans ((look_r (lc7 cl)).trans ((look_r (lc8 cl)).trans ((look_r (lc9 cl)).trans ((by rw [c10_e]; rfl)))))))))))
theorem le_118 (cl : Nat → ClassId) : (nwE cl)[118]? = some (kI cl 160) := by
  rw [nwE_f]
  show (_ ++ _)[1 + (32 + (32 + (11 + (1 + (28 + (2 + (2 + (2 + (2 + (5))))))))))]? = _
  exact (look_r rfl).trans ((look_r (lc1 cl)).trans ((look_r (lc2 cl)).trans ((look_r (lc3 cl)).trans ((look_r rfl).trans ((look_r (lc5 cl)).trans ((look_r (lc6 cl)).trans ((look_r (lc7 cl)).trans ((look_r (lc8 cl)).trans ((look_r (lc9 cl)).trans ((by rw [c10_e]; rfl)))))))))))
theorem le_119 (cl : Nat → ClassId) : (nwE cl)[119]? = some (kI cl 36) := by
  rw [nwE_f]
  show (_ ++ _)[1 + (32 + (32 + (11 + (1 + (28 + (2 + (2 + (2 + (2 + (6))))))))))]? = _
  exact (look_r rfl).trans ((look_r (lc1 cl)).trans ((look_r (lc2 cl)).trans ((look_r (lc3 cl)).trans ((look_r rfl).trans ((look_r (lc5 cl)).trans ((look_r (lc6 cl)).trans ((look_r (lc7 cl)).trans ((look_r (lc8 cl)).trans ((look_r (lc9 cl)).trans ((by rw [c10_e]; rfl)))))))))))
theorem le_120 (cl : Nat → ClassId) : (nwE cl)[120]? = some (.inl (cl 0, 4, .inl (upd (upd (upd (upd (fun _ => 0) 0 (-1)) 1 (-1)) 2 (-1)) 3 (-1)))) := by
  rw [nwE_f]
  show (_ ++ _)[1 + (32 + (32 + (11 + (1 + (28 + (2 + (2 + (2 + (2 + (7))))))))))]? = _
  exact (look_r rfl).trans ((look_r (lc1 cl)).trans ((look_r (lc2 cl)).trans ((look_r (lc3 cl)).trans ((look_r rfl).trans ((look_r (lc5 cl)).trans ((look_r (lc6 cl)).trans ((look_r (lc7 cl)).trans ((look_r (lc8 cl)).trans ((look_r (lc9 cl)).trans ((by rw [c10_e]; rfl)))))))))))
theorem le_121 (cl : Nat → ClassId) : (nwE cl)[121]? = some (kI cl 4) := by
  rw [nwE_f]
  show (_ ++ _)[1 + (32 + (32 + (11 + (1 + (28 + (2 + (2 + (2 + (2 + (8))))))))))]? = _
  exact (look_r rfl).trans ((look_r (lc1 cl)).trans ((look_r (lc2 cl)).trans ((look_r (lc3 cl)).trans ((look_r rfl).trans ((look_r (lc5 cl)).trans ((look_r (lc6 cl)).trans ((look_r (lc7 cl)).trans ((look_r (lc8 cl)).trans ((look_r (lc9 cl)).trans ((by rw [c10_e]; rfl)))))))))))
theorem le_122 (cl : Nat → ClassId) : (nwE cl)[122]? = some (kJ cl 96) := by
  rw [nwE_f]
  show (_ ++ _)[1 + (32 + (32 + (11 + (1 + (28 + (2 + (2 + (2 + (2 + (9))))))))))]? = _
  exact (look_r rfl).trans ((look_r (lc1 cl)).trans ((look_r (lc2 cl)).trans ((look_r (lc3 cl)).trans ((look_r rfl).trans ((look_r (lc5 cl)).trans ((look_r (lc6 cl)).trans ((look_r (lc7 cl)).trans ((look_r (lc8 cl)).trans ((look_r (lc9 cl)).trans ((by rw [c10_e]; rfl)))))))))))
theorem le_123 (cl : Nat → ClassId) : (nwE cl)[123]? = some (kI cl 9) := by
  rw [nwE_f]
  show (_ ++ _)[1 + (32 + (32 + (11 + (1 + (28 + (2 + (2 + (2 + (2 + (10))))))))))]? = _
  exact (look_r rfl).trans ((look_r (lc1 cl)).trans ((look_r (lc2 cl)).trans ((look_r (lc3 cl)).trans ((look_r rfl).trans ((look_r (lc5 cl)).trans ((look_r (lc6 cl)).trans ((look_r (lc7 cl)).trans ((look_r (lc8 cl)).trans ((look_r (lc9 cl)).trans ((by rw [c10_e]; rfl)))))))))))
theorem le_124 (cl : Nat → ClassId) : (nwE cl)[124]? = some (kJ cl 24) := by
  rw [nwE_f]
  show (_ ++ _)[1 + (32 + (32 + (11 + (1 + (28 + (2 + (2 + (2 + (2 + (11))))))))))]? = _
  exact (look_r rfl).trans ((look_r (lc1 cl)).trans ((look_r (lc2 cl)).trans ((look_r (lc3 cl)).trans ((look_r rfl).trans ((look_r (lc5 cl)).trans ((look_r (lc6 cl)).trans ((look_r (lc7 cl)).trans ((look_r (lc8 cl)).trans ((look_r (lc9 cl)).trans ((by rw [c10_e]; rfl)))))))))))
set_option maxRecDepth 100000 in
theorem ce_all {cl : Nat → ClassId} {B b k : Nat} {aK aV : Nat → Nat} (h : k < 125) : ∃ e, (nwE cl)[pi_ k]? = some e ∧ kE B e = jm_cell (ad_ B b aK aV) cl mu0 k := by
  match k, h with
  | 0, _ => exact ⟨_, le_0 cl, ce_0⟩
  | 1, _ => exact ⟨_, le_1 cl, ce_1⟩
  | 2, _ => exact ⟨_, le_2 cl, ce_2⟩
  | 3, _ => exact ⟨_, le_3 cl, ce_3⟩
  | 4, _ => exact ⟨_, le_4 cl, ce_4⟩
  | 5, _ => exact ⟨_, le_5 cl, ce_5⟩
  | 6, _ => exact ⟨_, le_6 cl, ce_6⟩
  | 7, _ => exact ⟨_, le_7 cl, ce_7⟩
  | 8, _ => exact ⟨_, le_8 cl, ce_8⟩
  | 9, _ => exact ⟨_, le_9 cl, ce_9⟩
  | 10, _ => exact ⟨_, le_10 cl, ce_10⟩
  | 11, _ => exact ⟨_, le_11 cl, ce_11⟩
  | 12, _ => exact ⟨_, le_12 cl, ce_12⟩
  | 13, _ => exact ⟨_, le_13 cl, ce_13⟩
  | 14, _ => exact ⟨_, le_14 cl, ce_14⟩
  | 15, _ => exact ⟨_, le_15 cl, ce_15⟩
  | 16, _ => exact ⟨_, le_16 cl, ce_16⟩
  | 17, _ => exact ⟨_, le_17 cl, ce_17⟩
  | 18, _ => exact ⟨_, le_18 cl, ce_18⟩
  | 19, _ => exact ⟨_, le_19 cl, ce_19⟩
  | 20, _ => exact ⟨_, le_20 cl, ce_20⟩
  | 21, _ => exact ⟨_, le_21 cl, ce_21⟩
  | 22, _ => exact ⟨_, le_22 cl, ce_22⟩
  | 23, _ => exact ⟨_, le_23 cl, ce_23⟩
  | 24, _ => exact ⟨_, le_24 cl, ce_24⟩
  | 25, _ => exact ⟨_, le_25 cl, ce_25⟩
  | 26, _ => exact ⟨_, le_26 cl, ce_26⟩
  | 27, _ => exact ⟨_, le_27 cl, ce_27⟩
  | 28, _ => exact ⟨_, le_28 cl, ce_28⟩
  | 29, _ => exact ⟨_, le_29 cl, ce_29⟩
  | 30, _ => exact ⟨_, le_30 cl, ce_30⟩
  | 31, _ => exact ⟨_, le_31 cl, ce_31⟩
  | 32, _ => exact ⟨_, le_32 cl, ce_32⟩
  | 33, _ => exact ⟨_, le_33 cl, ce_33⟩
  | 34, _ => exact ⟨_, le_34 cl, ce_34⟩
  | 35, _ => exact ⟨_, le_35 cl, ce_35⟩
  | 36, _ => exact ⟨_, le_36 cl, ce_36⟩
  | 37, _ => exact ⟨_, le_37 cl, ce_37⟩
  | 38, _ => exact ⟨_, le_38 cl, ce_38⟩
  | 39, _ => exact ⟨_, le_39 cl, ce_39⟩
  | 40, _ => exact ⟨_, le_40 cl, ce_40⟩
  | 41, _ => exact ⟨_, le_41 cl, ce_41⟩
  | 42, _ => exact ⟨_, le_42 cl, ce_42⟩
  | 43, _ => exact ⟨_, le_43 cl, ce_43⟩
  | 44, _ => exact ⟨_, le_44 cl, ce_44⟩
  | 45, _ => exact ⟨_, le_45 cl, ce_45⟩
  | 46, _ => exact ⟨_, le_46 cl, ce_46⟩
  | 47, _ => exact ⟨_, le_47 cl, ce_47⟩
  | 48, _ => exact ⟨_, le_48 cl, ce_48⟩
  | 49, _ => exact ⟨_, le_49 cl, ce_49⟩
  | 50, _ => exact ⟨_, le_50 cl, ce_50⟩
  | 51, _ => exact ⟨_, le_51 cl, ce_51⟩
  | 52, _ => exact ⟨_, le_52 cl, ce_52⟩
  | 53, _ => exact ⟨_, le_53 cl, ce_53⟩
  | 54, _ => exact ⟨_, le_54 cl, ce_54⟩
  | 55, _ => exact ⟨_, le_55 cl, ce_55⟩
  | 56, _ => exact ⟨_, le_56 cl, ce_56⟩
  | 57, _ => exact ⟨_, le_57 cl, ce_57⟩
  | 58, _ => exact ⟨_, le_58 cl, ce_58⟩
  | 59, _ => exact ⟨_, le_59 cl, ce_59⟩
  | 60, _ => exact ⟨_, le_60 cl, ce_60⟩
  | 61, _ => exact ⟨_, le_61 cl, ce_61⟩
  | 62, _ => exact ⟨_, le_62 cl, ce_62⟩
  | 63, _ => exact ⟨_, le_63 cl, ce_63⟩
  | 64, _ => exact ⟨_, le_64 cl, ce_64⟩
  | 65, _ => exact ⟨_, le_77 cl, ce_65⟩
  | 66, _ => exact ⟨_, le_78 cl, ce_66⟩
  | 67, _ => exact ⟨_, le_79 cl, ce_67⟩
  | 68, _ => exact ⟨_, le_80 cl, ce_68⟩
  | 69, _ => exact ⟨_, le_81 cl, ce_69⟩
  | 70, _ => exact ⟨_, le_82 cl, ce_70⟩
  | 71, _ => exact ⟨_, le_83 cl, ce_71⟩
  | 72, _ => exact ⟨_, le_84 cl, ce_72⟩
  | 73, _ => exact ⟨_, le_85 cl, ce_73⟩
  | 74, _ => exact ⟨_, le_86 cl, ce_74⟩
  | 75, _ => exact ⟨_, le_87 cl, ce_75⟩
  | 76, _ => exact ⟨_, le_88 cl, ce_76⟩
  | 77, _ => exact ⟨_, le_89 cl, ce_77⟩
  | 78, _ => exact ⟨_, le_90 cl, ce_78⟩
  | 79, _ => exact ⟨_, le_91 cl, ce_79⟩
  | 80, _ => exact ⟨_, le_92 cl, ce_80⟩
  | 81, _ => exact ⟨_, le_93 cl, ce_81⟩
  | 82, _ => exact ⟨_, le_94 cl, ce_82⟩
  | 83, _ => exact ⟨_, le_95 cl, ce_83⟩
  | 84, _ => exact ⟨_, le_96 cl, ce_84⟩
  | 85, _ => exact ⟨_, le_97 cl, ce_85⟩
  | 86, _ => exact ⟨_, le_98 cl, ce_86⟩
  | 87, _ => exact ⟨_, le_99 cl, ce_87⟩
  | 88, _ => exact ⟨_, le_100 cl, ce_88⟩
  | 89, _ => exact ⟨_, le_101 cl, ce_89⟩
  | 90, _ => exact ⟨_, le_102 cl, ce_90⟩
  | 91, _ => exact ⟨_, le_103 cl, ce_91⟩
  | 92, _ => exact ⟨_, le_104 cl, ce_92⟩
  | 93, _ => exact ⟨_, le_65 cl, ce_93⟩
  | 94, _ => exact ⟨_, le_66 cl, ce_94⟩
  | 95, _ => exact ⟨_, le_67 cl, ce_95⟩
  | 96, _ => exact ⟨_, le_68 cl, ce_96⟩
  | 97, _ => exact ⟨_, le_69 cl, ce_97⟩
  | 98, _ => exact ⟨_, le_70 cl, ce_98⟩
  | 99, _ => exact ⟨_, le_71 cl, ce_99⟩
  | 100, _ => exact ⟨_, le_72 cl, ce_100⟩
  | 101, _ => exact ⟨_, le_73 cl, ce_101⟩
  | 102, _ => exact ⟨_, le_74 cl, ce_102⟩
  | 103, _ => exact ⟨_, le_75 cl, ce_103⟩
  | 104, _ => exact ⟨_, le_76 cl, ce_104⟩
  | 105, _ => exact ⟨_, le_105 cl, ce_105⟩
  | 106, _ => exact ⟨_, le_107 cl, ce_106⟩
  | 107, _ => exact ⟨_, le_109 cl, ce_107⟩
  | 108, _ => exact ⟨_, le_111 cl, ce_108⟩
  | 109, _ => exact ⟨_, le_106 cl, ce_109⟩
  | 110, _ => exact ⟨_, le_108 cl, ce_110⟩
  | 111, _ => exact ⟨_, le_110 cl, ce_111⟩
  | 112, _ => exact ⟨_, le_112 cl, ce_112⟩
  | 113, _ => exact ⟨_, le_113 cl, ce_113⟩
  | 114, _ => exact ⟨_, le_114 cl, ce_114⟩
  | 115, _ => exact ⟨_, le_115 cl, ce_115⟩
  | 116, _ => exact ⟨_, le_116 cl, ce_116⟩
  | 117, _ => exact ⟨_, le_117 cl, ce_117⟩
  | 118, _ => exact ⟨_, le_118 cl, ce_118⟩
  | 119, _ => exact ⟨_, le_119 cl, ce_119⟩
  | 120, _ => exact ⟨_, le_120 cl, ce_120⟩
  | 121, _ => exact ⟨_, le_121 cl, ce_121⟩
  | 122, _ => exact ⟨_, le_122 cl, ce_122⟩
  | 123, _ => exact ⟨_, le_123 cl, ce_123⟩
  | 124, _ => exact ⟨_, le_124 cl, ce_124⟩
  | k + 125, h => exact absurd h (by omega)
