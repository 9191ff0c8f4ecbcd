/-- the words that all methods share -/
def G0 : List Cond := lw_tbl.filter goodWord
/-! THE WORLD: all cells of the class's object and of the reference's, by number; what they hold is a memory -/
abbrev Mem : Type := (Nat → Nat → Int32) × (Nat → Nat → Int64)
abbrev jm_S : Type := (Nat × Nat × Nat) ⊕ (Nat × List (Nat × Nat))
def jm_night (b : Nat) (j : Nat) : jm_S := if j = 0 then .inr (2, [(0, 0), (0, 0), (0, 0), (0, 0), (0, 0), (0, 0), (0, 0), (2, b + 1), (2, b + 2), (2, b + 3), (2, b + 4), (2, b + 5), (2, b + 6), (2, b + 16), (2, b + 19)])
  else if j < 6 then .inl (0, 9, 0) else if j = 6 then .inl (3, 9, b + 7) else if j < 16 then .inl (0, 9, 0) else if j = 16 then .inl (3, 2, b + 17) else if j < 19 then .inl (0, 9, 0) else if j = 19 then .inl (3, 2, b + 20) else .inl (0, 171, 0)
def jm_law (b : Nat) (j : Nat) : jm_S := if j = 0 then .inr (0, [(0, 0), (2, b + 1), (2, b + 2), (2, b + 3), (2, b + 4)]) else .inl (0, 8, 0)
def jm_logs (b : Nat) (j : Nat) : jm_S := if j = 0 then .inr (1, [(0, 0), (2, b + 1), (2, b + 2), (2, b + 3)]) else .inl (0, 12, 0)
def jm_state (b : Nat) : jm_S := .inr (4, [(2, b + 1), (2, b + 23), (2, b + 28)])
def jm_lay (k : Nat) : jm_S :=
  if k = 0 then .inr (7, [(2, 1), (2, 33), (0, 0), (2, 65), (2, 93), (2, 104)])
  else if k = 1 then jm_state 1
  else if k < 24 then jm_night 2 (k - 2)
  else if k < 29 then jm_law 24 (k - 24)
  else if k < 33 then jm_logs 29 (k - 29)
  else if k = 33 then jm_state 33
  else if k < 56 then jm_night 34 (k - 34)
  else if k < 61 then jm_law 56 (k - 56)
  else if k < 65 then jm_logs 61 (k - 61)
  else if k = 65 then .inr (6, [(2, 2), (2, 24), (2, 66), (2, 88), (1, 0), (0, 0), (0, 0), (0, 0)])
  else if k < 88 then jm_night 66 (k - 66)
  else if k < 93 then jm_law 88 (k - 88)
  else if k = 93 then .inr (5, [(0, 0), (2, 94), (2, 99), (2, 100), (2, 101), (2, 102), (2, 103), (0, 0), (0, 0)])
  else if k < 99 then jm_law 94 (k - 94)
  else if k < 103 then .inl (0, 9, 0)
  else if k = 103 then .inl (1, 160, 0)
  else if k = 104 then .inl (4, 4, 105)
  else if k < 109 then .inr (3, [(0, 0), (0, 0), (0, 0), (2, k + 4)])
  else if k < 113 then .inl (2, 24, 0)
  else if k = 113 then .inr (8, [(0, 0), (2, 114), (2, 115), (2, 116), (2, 117), (0, 0), (2, 118), (0, 0), (0, 0), (0, 0), (0, 0), (2, 119), (0, 0), (2, 120), (2, 121), (2, 122), (0, 0), (0, 0), (0, 0), (2, 123), (2, 124)])
  else if k < 118 then .inl (0, 1829, 0)
  else if k = 118 then .inl (0, 160, 0)
  else if k = 119 then .inl (0, 36, 0)
  else if k < 122 then .inl (0, 4, 0)
  else if k = 122 then .inl (2, 96, 0)
  else if k = 123 then .inl (0, 9, 0)
  else .inl (2, 24, 0)
def jm_fv (ad : Nat → Nat) (x : Int32) (c : Nat × Nat) : Value := match c.1 with
  | 0 => .int x
  | 1 => if x = 0 then .null else .ref (ad x.toNatClampNeg)
  | _ => .ref (ad c.2)
def jm_fs (ad : Nat → Nat) (f : Nat → Int32) (fl : List (Nat × Nat)) : List Value := fl.mapIdx (fun j c => jm_fv ad (f j) c)
def jm_cs (ad : Nat → Nat) (cl : Nat → ClassId) (f : Nat → Int32) (g : Nat → Int64) (sh : jm_S) : va_E := match sh with
  | .inr o => .inr (o.1, jm_fs ad f o.2)
  | .inl a => if a.1 = 2 then .inl (cl 2, a.2.1, .inr (.inl g)) else if a.1 = 0 then .inl (cl 0, a.2.1, .inl f) else if a.1 = 1 then .inl (cl 1, a.2.1, .inl f) else .inl (cl a.1, a.2.1, .inr (.inr (.inr (.inr (fun i => if i < a.2.1 then some (ad (a.2.2 + i)) else none)))))
def jm_cell (ad : Nat → Nat) (cl : Nat → ClassId) (μ : Mem) (k : Nat) : va_E := jm_cs ad cl (μ.1 k) (μ.2 k) (jm_lay k)
def jm_W (ad : Nat → Nat) (cl : Nat → ClassId) (μ : Mem) : va_W := (List.range 125).map (fun k => (ad k, jm_cell ad cl μ k))
def jm_T (cl : Nat → ClassId) : List (ClassId × FieldType) := [(cl 0, .int), (cl 1, .char), (cl 2, .long), (cl 3, .array .int), (cl 4, .object "NineLamps$Sheet")]
def jm_inj (ad : Nat → Nat) : Prop := ∀ i j, i < 125 → j < 125 → ad i = ad j → i = j
def jm_R (ad : Nat → Nat) : Nat → Prop := fun q => ∃ k, k < 125 ∧ q = ad k
def jm_cv (ad : Nat → Nat) : Value → Value
  | .ref k => .ref (ad k)
  | v => v
def jm_lv (ad : Nat → Nat) (lv : List (Nat × Value)) : List (Nat × Value) := lv.map (fun q => (q.1, jm_cv ad q.2))
/-- the six String constants of the class: cells 1000 + i, their bytes 2000 + i -/
def sk_len : List Nat := [3, 10, 3, 3, 6, 2]
def sk_byt : List (List Int32) := [[114, 103, 97], [48, 49, 50, 51, 52, 53, 54, 55, 56, 57], [115, 98, 108], [114, 103, 111], [112, 108, 101, 115, 116, 109], [114, 103]]
def sk_tx : List String := ["rga", "0123456789", "sbl", "rgo", "plestm", "rg"]
def sk_ix : List Nat := [67, 73, 75, 77, 87, 89]
def jm_Str (ad : Nat → Nat) (A : Nat → Prop) (U : State) (H : Heap) : Prop := vk_S 6 sk_len sk_byt (fun i => ad (1000 + i)) (fun i => ad (2000 + i)) A U H ∧ (∀ i, i < 6 → vk_R "NineLamps$Tape" (sk_ix.getD i 0) (sk_tx.getD i "") (ad (1000 + i)) U) ∧ va_Z "java/lang/String" "COMPACT_STRINGS" "Z" (.int 1) A U H
theorem jm_Str.to {ad : Nat → Nat} {A B : Nat → Prop} {s U : State} {H H1 : Heap} (h : jm_Str ad A s H) (hW : s.WarmedH U.vm) (hq : ∀ a : Nat, a < H.size → ¬ A a → H1[a]? = H[a]?) (hAB : ∀ q, B q → A q) : jm_Str ad B U H1 := ⟨((h.1.kept hq).moved hW.alike).narrow hAB, fun i hi => (h.2.1 i hi).warm hW, ((h.2.2.kept hq).moved hW.alike).narrow hAB⟩
theorem jm_Str.same {ad : Nat → Nat} {A : Nat → Prop} {s U : State} {H : Heap} (h : jm_Str ad A s H) (hv : U.vm = s.vm) : jm_Str ad A U H := ⟨h.1.moved (by rw [hv]; exact Vm.Alike.refl s.vm), fun i hi => (h.2.1 i hi).same hv, h.2.2.moved (by rw [hv]; exact Vm.Alike.refl s.vm)⟩
/-- memory writes -/
def sA (μ : Mem) (k : Nat) (f : Nat → Int32) : Mem := (va_up μ.1 k f, μ.2)
def sI (μ : Mem) (k j : Nat) (v : Int32) : Mem := sA μ k (upd (μ.1 k) j v)
def sB (μ : Mem) (k : Nat) (f : Nat → Int64) : Mem := (μ.1, va_up μ.2 k f)
def sL (μ : Mem) (k j : Nat) (v : Int64) : Mem := sB μ k (vp_updL (μ.2 k) j v)
/-- guards and names in the pure texts -/
def gd {α : Type} (b : Bool) (x : Option α) : Option α := if b = true then x else none
def zl {α β : Type} (v : α) (f : α → β) : β := f v
def inb (i : Int32) (n : Nat) : Bool := !(decide (i < 0) || decide (n ≤ i.toNatClampNeg))
def isB (v : Int32) : Bool := decide (v = 0) || decide (v = 1)
theorem gd_e {α : Type} {b : Bool} {x : Option α} {r : α} (h : gd b x = some r) : b = true ∧ x = some r := by
  unfold gd at h
  by_cases hb : b = true
  · rw [if_pos hb] at h; exact ⟨hb, h⟩
  · rw [if_neg hb] at h; cases h
theorem zl_u {α β : Type} {v x : α} {f : α → Option β} {r : β} (h : zl v f = some r) (e : x = v) : f x = some r := by rw [e]; exact h
theorem bd_e {α β : Type} {v : Option α} {f : α → Option β} {r : β} (h : v.bind f = some r) : ∃ x, v = some x ∧ f x = some r := Option.bind_eq_some_iff.mp h
theorem inb_e {i : Int32} {n : Nat} (h : inb i n = true) : vp_in i n := by
  unfold inb at h
  unfold vp_in
  simp at h
  intro q
  rcases q with q | q
  · exact absurd q (Int32.not_lt.mpr h.1)
  · omega
theorem isB_e {v : Int32} (h : isB v = true) : v = 0 ∨ v = 1 := by
  unfold isB at h
  simp at h
  exact h
theorem isB_n {v : Int32} (h : isB v = true) : narrow .boolean (.int v) = .int v := by
  rcases isB_e h with rfl | rfl <;> rfl
theorem isB_f {v : Int32} (h : isB v = true) : fits .boolean (.int v) = true := by
  rcases isB_e h with rfl | rfl <;> rfl
/-! what the world's list says -/
theorem jm_at {ad : Nat → Nat} {cl : Nat → ClassId} {μ : Mem} {k : Nat} (h : k < 125) : (jm_W ad cl μ)[k]? = some (ad k, jm_cell ad cl μ k) := by
  unfold jm_W
  rw [List.getElem?_map, List.getElem?_range h]
  rfl
theorem jm_atS {ad : Nat → Nat} {cl : Nat → ClassId} {μ : Mem} {k : Nat} {sh : jm_S} (h : k < 125) (hs : jm_lay k = sh) : (jm_W ad cl μ)[k]? = some (ad k, jm_cs ad cl (μ.1 k) (μ.2 k) sh) := by
  rw [jm_at h]; unfold jm_cell; rw [hs]
theorem jm_len {ad : Nat → Nat} {cl : Nat → ClassId} {μ : Mem} : (jm_W ad cl μ).length = 125 := by simp [jm_W]
theorem jm_set {ad : Nat → Nat} {cl : Nat → ClassId} {μ μ' : Mem} {k : Nat} {x : va_E} (hk : ∀ k', k' ≠ k → jm_cell ad cl μ' k' = jm_cell ad cl μ k') (hx : jm_cell ad cl μ' k = x) : (jm_W ad cl μ).set k (ad k, x) = jm_W ad cl μ' := by
  apply List.ext_getElem?
  intro i
  by_cases hi : i < 125
  · rw [List.getElem?_set, jm_at hi, jm_at hi]
    by_cases e : k = i
    · subst e
      rw [if_pos rfl, if_pos (by rw [jm_len]; exact hi), hx]
    · rw [if_neg e, hk i (fun q => e q.symm)]
  · rw [List.getElem?_eq_none (by rw [List.length_set, jm_len]; omega), List.getElem?_eq_none (by rw [jm_len]; omega)]
theorem jm_D {ad : Nat → Nat} {cl : Nat → ClassId} {μ : Mem} {A : Nat → Prop} (hi : jm_inj ad) (hA : ∀ k, k < 125 → A (ad k)) : va_D A (jm_W ad cl μ) := by
  refine ⟨fun i j p q h1 h2 e => ?_, fun k q h => ?_⟩
  · have l1 : i < 125 := by have := (List.getElem?_eq_some_iff.mp h1).1; rw [jm_len] at this; exact this
    have l2 : j < 125 := by have := (List.getElem?_eq_some_iff.mp h2).1; rw [jm_len] at this; exact this
    rw [jm_at l1] at h1
    rw [jm_at l2] at h2
    cases h1
    cases h2
    exact hi i j l1 l2 e
  · have l1 : k < 125 := by have := (List.getElem?_eq_some_iff.mp h).1; rw [jm_len] at this; exact this
    rw [jm_at l1] at h
    cases h
    exact hA k l1
theorem jm_cell_sA {ad : Nat → Nat} {cl : Nat → ClassId} {μ : Mem} {k : Nat} {f : Nat → Int32} : ∀ k', k' ≠ k → jm_cell ad cl (sA μ k f) k' = jm_cell ad cl μ k' := by
  intro k' h
  unfold jm_cell sA
  simp only [va_up, if_neg h]
theorem jm_cell_sB {ad : Nat → Nat} {cl : Nat → ClassId} {μ : Mem} {k : Nat} {f : Nat → Int64} : ∀ k', k' ≠ k → jm_cell ad cl (sB μ k f) k' = jm_cell ad cl μ k' := by
  intro k' h
  unfold jm_cell sB
  simp only [va_up, if_neg h]
theorem jm_cell_sAk {ad : Nat → Nat} {cl : Nat → ClassId} {μ : Mem} {k : Nat} {f : Nat → Int32} : jm_cell ad cl (sA μ k f) k = jm_cs ad cl f (μ.2 k) (jm_lay k) := by
  unfold jm_cell sA
  simp only [va_up, if_pos]
theorem jm_cell_sBk {ad : Nat → Nat} {cl : Nat → ClassId} {μ : Mem} {k : Nat} {f : Nat → Int64} : jm_cell ad cl (sB μ k f) k = jm_cs ad cl (μ.1 k) f (jm_lay k) := by
  unfold jm_cell sB
  simp only [va_up, if_pos]
theorem jm_fs_at {ad : Nat → Nat} {f : Nat → Int32} {fl : List (Nat × Nat)} {j : Nat} {c : Nat × Nat} (h : fl[j]? = some c) : (jm_fs ad f fl)[j]? = some (jm_fv ad (f j) c) := by
  unfold jm_fs
  rw [List.getElem?_mapIdx, h]
  rfl
theorem jm_fs_len {ad : Nat → Nat} {f : Nat → Int32} {fl : List (Nat × Nat)} : (jm_fs ad f fl).length = fl.length := by simp [jm_fs]
theorem jm_fs_set {ad : Nat → Nat} {f : Nat → Int32} {fl : List (Nat × Nat)} {j : Nat} {c : Nat × Nat} {x : Int32} (h : fl[j]? = some c) : (jm_fs ad f fl).set j (jm_fv ad x c) = jm_fs ad (upd f j x) fl := by
  apply List.ext_getElem?
  intro i
  by_cases hi : i < fl.length
  · have e1 : fl[i]? = some fl[i] := List.getElem?_eq_getElem hi
    rw [List.getElem?_set, jm_fs_at e1, jm_fs_at e1]
    by_cases e : j = i
    · subst e
      rw [if_pos rfl, if_pos (by rw [jm_fs_len]; exact hi)]
      rw [h] at e1
      cases e1
      simp [upd]
    · rw [if_neg e]
      simp [upd, show ¬ i = j from fun q => e q.symm]
  · rw [List.getElem?_eq_none (by rw [List.length_set, jm_fs_len]; omega), List.getElem?_eq_none (by rw [jm_fs_len]; omega)]
theorem jm_cat {ad : Nat → Nat} {v : Value} : (jm_cv ad v).category = v.category := by cases v <;> rfl
theorem jm_lv_at {ad : Nat → Nat} {lv : List (Nat × Value)} {k i : Nat} {v : Value} (h : lv[k]? = some (i, v)) : (jm_lv ad lv)[k]? = some (i, jm_cv ad v) := by
  unfold jm_lv
  rw [List.getElem?_map, h]
  rfl
def jm_st (lv : List (Nat × Value)) (i : Nat) (v : Value) : List (Nat × Value) := (i, v) :: lv.filter (fun q => !(q.1 == i) && !(q.1 + 1 == i && q.2.category == 2))
theorem jm_lv_st {ad : Nat → Nat} {lv : List (Nat × Value)} {i : Nat} {v : Value} : (i, jm_cv ad v) :: (jm_lv ad lv).filter (fun q => !(q.1 == i) && !(q.1 + 1 == i && q.2.category == 2)) = jm_lv ad (jm_st lv i v) := by
  unfold jm_st jm_lv
  rw [List.map_cons, List.filter_map]
  refine congrArg (List.cons _) ?_
  refine congrArg (List.map _) ?_
  refine congrArg (fun p => List.filter p lv) ?_
  funext q
  show (!(q.1 == i) && !(q.1 + 1 == i && (jm_cv ad q.2).category == 2)) = _
  rw [jm_cat]
def jm_st2 (lv : List (Nat × Value)) (i : Nat) (v : Value) : List (Nat × Value) := (i, v) :: lv.filter (fun q => !(q.1 == i) && (!(q.1 == i + 1) && !(q.1 + 1 == i && q.2.category == 2)))
theorem jm_lv_st2 {ad : Nat → Nat} {lv : List (Nat × Value)} {i : Nat} {v : Value} : (i, jm_cv ad v) :: (jm_lv ad lv).filter (fun q => !(q.1 == i) && (!(q.1 == i + 1) && !(q.1 + 1 == i && q.2.category == 2))) = jm_lv ad (jm_st2 lv i v) := by
  unfold jm_st2 jm_lv
  rw [List.map_cons, List.filter_map]
  refine congrArg (List.cons _) ?_
  refine congrArg (List.map _) ?_
  refine congrArg (fun p => List.filter p lv) ?_
  funext q
  show (!(q.1 == i) && (!(q.1 == i + 1) && !(q.1 + 1 == i && (jm_cv ad q.2).category == 2))) = _
  rw [jm_cat]
theorem jm_pick {ad : Nat → Nat} {lv : List (Nat × Value)} (ks : List Nat) : lv_pick (jm_lv ad lv) ks = jm_lv ad (lv_pick lv ks) := by
  unfold lv_pick jm_lv
  induction ks with
  | nil => rfl
  | cons k ks ih =>
    rw [List.filterMap_cons, List.filterMap_cons, List.getElem?_map]
    cases h : lv[k]? with
    | none => simpa [h] using ih
    | some q => simpa [h] using ih
theorem jm_args {ad : Nat → Nat} : ∀ (vs : List Value) (n : Nat), lv_args n (vs.map (jm_cv ad)) = jm_lv ad (lv_args n vs) := by
  intro vs
  induction vs with
  | nil => intro n; rfl
  | cons v vs ih =>
    intro n
    show lv_args n (jm_cv ad v :: vs.map (jm_cv ad)) = _
    unfold lv_args
    rw [jm_cat, ih]
    rfl
