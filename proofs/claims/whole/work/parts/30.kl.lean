/-! CONSTRUCTORS: cells are made one behind another from the address B on -/
def knest : List (String × Nat × MethodName × String) := [("NineLamps", 9, yX4_init, "NineLamps"), ("NineLamps$State", 9, yX2_init, "NineLamps"), ("NineLamps$State", 18, yX0_init, "NineLamps"), ("NineLamps$State", 25, yX1_init, "NineLamps"), ("NineLamps", 25, yX5_init, "NineLamps"), ("NineLamps$Tape", 17, yX0_init, "NineLamps"), ("NineLamps$Trials", 11, yX2_init, "NineLamps"), ("NineLamps$Trials", 20, yX0_init, "NineLamps"), ("NineLamps", 53, yX3_init, "NineLamps")]
def va_AOA (ty : FieldType) (U : State) : Prop := (Cond.arrayOver (.array ty)).before #[] U = true
theorem va_AOA.use {ty : FieldType} {A : Array Value} {U : State} (h : va_AOA ty U) : (Cond.arrayOver (.array ty)).before A U = true := h
theorem va_AOA.moved {t : FieldType} {u U : State} (hvm : u.vm.Alike U.vm) (h : va_AOA t u) : va_AOA t U := by
  obtain ⟨comp, c, k, h1, h2, h3, h4, h5⟩ := arrayOverA_spec h
  obtain ⟨k', hk', he⟩ := hvm.2.2 _ _ h3
  have hi : (U.vm.classes.findIdx? fun (x : Class) => match x.kind with | .array component _ => component == comp | _ => false) = some c := by
    have e1 := va_idx_bare U.vm comp
    have e2 := va_idx_bare u.vm comp
    have hbe : U.vm.bare = u.vm.bare := by first | exact hvm.bare_eq | exact hvm.bare_eq.symm
    rw [hbe] at e1
    exact e1.symm.trans (e2.trans h2)
  have hkind : k'.kind = .array comp (.array t) := by rw [he]; exact h4
  have f1 : U.vm.findClass (FieldType.array t).toString = some comp := by rw [hvm.findClass]; exact h1
  have f2 : U.vm.findClass ("[" ++ (FieldType.array t).toString) = some c := by rw [hvm.findClass]; exact h5
  unfold va_AOA Cond.before Cond.holds
  simp only [Cond.value]
  rw [f1, Option.bind_some]
  refine (congrArg (fun o : Option Nat => (o.bind (fun c => (U.vm.classes[c]?).map fun (k : Class) => match k.kind with | .array _ ty => decide (ty = FieldType.array t) && decide (U.vm.findClass ("[" ++ (FieldType.array t).toString) = some c) | _ => false) == some true)) hi).trans ?_
  simp [hk', hkind, f2]
/-- the words that don't ride among the good ones -/
def kN (U : State) : Prop := (∀ q ∈ knest, va_Nw (.methodLinkNest q.1 q.2.1 q.2.2.1 q.2.2.2) U) ∧ va_AO "NineLamps$Sheet" U ∧ va_AOA .int U
theorem kN.warm {s U : State} (hW : s.WarmedH U.vm) (h : kN s) : kN U := ⟨fun q hq => va_Nw.warmM hW (h.1 q hq), h.2.1.moved hW.alike, h.2.2.moved hW.alike⟩
theorem kN.same {u U : State} (hv : u.vm = U.vm) (h : kN u) : kN U := ⟨fun q hq => va_Nw.same rfl hv (h.1 q hq), h.2.1.moved (by rw [hv]; exact Vm.Alike.refl U.vm), h.2.2.moved (by rw [hv]; exact Vm.Alike.refl U.vm)⟩
def kE (B : Nat) : va_E → va_E
  | .inr o => .inr (o.1, o.2.map (jm_cv (fun k => B + k)))
  | .inl (c, n, .inr (.inr (.inr (.inr f)))) => .inl (c, n, .inr (.inr (.inr (.inr (fun i => (f i).map (fun k => B + k))))))
  | e => e
def kst (ac0 : Nat → va_E) (k0 n0 : Nat) (o : va_E) (nw : List va_E) : Nat → va_E := fun k => if k = k0 then o else if n0 ≤ k then nw.getD (k - n0) o else ac0 k
def kP (D : va_G) (B : Nat) (ac : Nat → va_E) (n : Nat) (H : Heap) : Prop := ∀ k, k < n → va_at D vwCl (B + k, kE B (ac k)) H
def kw (B : Nat) (ac : Nat → va_E) (n : Nat) : va_W := (List.range n).map (fun k => (B + k, kE B (ac k)))
theorem kw_at {B : Nat} {ac : Nat → va_E} {n k : Nat} (h : k < n) : (kw B ac n)[k]? = some (B + k, kE B (ac k)) := by
  unfold kw
  rw [List.getElem?_map, List.getElem?_range h]
  rfl
theorem kw_len {B : Nat} {ac : Nat → va_E} {n : Nat} : (kw B ac n).length = n := by simp [kw]
theorem kw_P {D : va_G} {B : Nat} {ac : Nat → va_E} {n : Nat} {H : Heap} (h : kP D B ac n H) : va_P D vwCl (kw B ac n) H := fun k q hq => by
  have l1 : k < n := by have := (List.getElem?_eq_some_iff.mp hq).1; rw [kw_len] at this; exact this
  rw [kw_at l1] at hq
  cases hq
  exact h k l1
theorem kw_D {B : Nat} {ac : Nat → va_E} {n : Nat} : va_D (fun q => B ≤ q) (kw B ac n) := by
  refine ⟨fun i j p q h1 h2 e => ?_, fun k q h => ?_⟩
  · have l1 : i < n := by have := (List.getElem?_eq_some_iff.mp h1).1; rw [kw_len] at this; exact this
    have l2 : j < n := by have := (List.getElem?_eq_some_iff.mp h2).1; rw [kw_len] at this; exact this
    rw [kw_at l1] at h1
    rw [kw_at l2] at h2
    cases h1
    cases h2
    have e : B + i = B + j := e
    omega
  · have l1 : k < n := by have := (List.getElem?_eq_some_iff.mp h).1; rw [kw_len] at this; exact this
    rw [kw_at l1] at h
    cases h
    exact Nat.le_add_right B k
/-- a cell was written -/
theorem kP_set {D : va_G} {B : Nat} {ac ac' : Nat → va_E} {n k : Nat} {e : va_E} {H : Heap} (hk : k < n) (h : va_P D vwCl ((kw B ac n).set k (B + k, kE B e)) H) (h1 : ac' k = e) (h2 : ∀ j, j < n → j ≠ k → ac' j = ac j) : kP D B ac' n H := by
  intro j hj
  refine h j _ ?_
  rw [List.getElem?_set]
  by_cases q : k = j
  · subst q
    rw [if_pos rfl, if_pos (by rw [kw_len]; exact hj), h1]
  · rw [if_neg q, kw_at hj, h2 j hj (fun q2 => q q2.symm)]
/-- a cell was made -/
theorem kP_push {D : va_G} {B : Nat} {ac ac' : Nat → va_E} {n : Nat} {H H1 : Heap} (h : kP D B ac n H) (hk : ∀ q, q < B + n → H1[q]? = H[q]?) (hn : va_at D vwCl (B + n, kE B (ac' n)) H1) (h2 : ∀ j, j < n → ac' j = ac j) : kP D B ac' (n + 1) H1 := by
  intro j hj
  by_cases q : j = n
  · subst q; exact hn
  · have hj : j < n := by omega
    rw [h2 j hj]
    exact (h j hj).kept (hk _ (by show B + j < B + n; omega))
theorem kst_k {ac0 : Nat → va_E} {k0 n0 : Nat} {o : va_E} {nw : List va_E} : kst ac0 k0 n0 o nw k0 = o := if_pos rfl
theorem kst_n {ac0 : Nat → va_E} {k0 n0 i : Nat} {o e : va_E} {nw : List va_E} (hk : k0 < n0 ∨ n0 + nw.length ≤ k0) (h : nw[i]? = some e) : kst ac0 k0 n0 o nw (n0 + i) = e := by
  have hl := (List.getElem?_eq_some_iff.mp h).1
  unfold kst
  rw [if_neg (by omega), if_pos (by omega), show n0 + i - n0 = i by omega, List.getD_eq_getElem?_getD, h]
  rfl
theorem kst_o {ac0 : Nat → va_E} {k0 n0 j : Nat} {o o' : va_E} {nw : List va_E} (hj : j < n0 + nw.length) (h : j ≠ k0) : kst ac0 k0 n0 o' nw j = kst ac0 k0 n0 o nw j := by
  unfold kst
  rw [if_neg h, if_neg h]
  by_cases q : n0 ≤ j
  · rw [if_pos q, if_pos q, List.getD_eq_getElem?_getD, List.getD_eq_getElem?_getD, List.getElem?_eq_getElem (by omega)]
    rfl
  · rw [if_neg q, if_neg q]
theorem kst_app {ac0 : Nat → va_E} {k0 n0 j : Nat} {o : va_E} {nw e : List va_E} (hj : j < n0 + nw.length) : kst ac0 k0 n0 o (nw ++ e) j = kst ac0 k0 n0 o nw j := by
  unfold kst
  by_cases h : j = k0
  · rw [if_pos h, if_pos h]
  · rw [if_neg h, if_neg h]
    by_cases q : n0 ≤ j
    · rw [if_pos q, if_pos q, List.getD_eq_getElem?_getD, List.getD_eq_getElem?_getD, List.getElem?_append_left (by omega)]
    · rw [if_neg q, if_neg q]
/-- behind a constructor that was called for the last cell: the maker's own words again -/
theorem kst_in {ac0 : Nat → va_E} {k0 n0 j : Nat} {o d o' : va_E} {nw nw' : List va_E} (hk : k0 < n0 ∨ n0 + (nw.length + 1 + nw'.length) ≤ k0) (hj : j < n0 + nw.length + 1 + nw'.length) : kst (kst ac0 k0 n0 o (nw ++ [d])) (n0 + nw.length) (n0 + nw.length + 1) o' nw' j = kst ac0 k0 n0 o (nw ++ (o' :: nw')) j := by
  by_cases h1 : j < n0 + nw.length
  · rw [kst_app h1]
    rw [show kst (kst ac0 k0 n0 o (nw ++ [d])) (n0 + nw.length) (n0 + nw.length + 1) o' nw' j = kst ac0 k0 n0 o (nw ++ [d]) j from by
      conv => lhs; unfold kst
      rw [if_neg (by omega), if_neg (by omega)]
      rfl]
    exact kst_app h1
  · obtain ⟨i, rfl⟩ : ∃ i, j = n0 + (nw.length + i) := ⟨j - n0 - nw.length, by omega⟩
    have hk' : k0 < n0 ∨ n0 + (nw ++ (o' :: nw')).length ≤ k0 := by simp; omega
    rw [kst_n (e := (o' :: nw').getD i o') hk' ?_]
    · by_cases hi : i = 0
      · subst hi
        exact kst_k
      · obtain ⟨i, rfl⟩ : ∃ k, i = k + 1 := ⟨i - 1, by omega⟩
        conv => lhs; unfold kst
        rw [if_neg (by omega), if_pos (by omega), show n0 + (nw.length + (i + 1)) - (n0 + nw.length + 1) = i by omega]
        rfl
    · rw [List.getElem?_append_right (by omega), show nw.length + i - nw.length = i by omega, List.getD_eq_getElem?_getD, List.getElem?_eq_getElem (by simp; omega)]
      rfl

theorem kP_snoc {D : va_G} {B : Nat} {ac0 : Nat → va_E} {k0 n0 : Nat} {o e : va_E} {nw : List va_E} {H H1 : Heap} (h : kP D B (kst ac0 k0 n0 o nw) (n0 + nw.length) H) (hk : k0 < n0 ∨ n0 + nw.length < k0) (o1 : ∀ q, q < B + (n0 + nw.length) → H1[q]? = H[q]?) (hn : va_at D vwCl (B + (n0 + nw.length), kE B e) H1) : kP D B (kst ac0 k0 n0 o (nw ++ [e])) (n0 + (nw ++ [e]).length) H1 := by
  have hl : n0 + (nw ++ [e]).length = n0 + nw.length + 1 := by rw [List.length_append]; simp; omega
  rw [hl]
  refine kP_push h o1 ?_ (fun j hj => kst_app hj)
  rw [kst_n (e := e) (by rw [List.length_append]; simp; omega) (by rw [List.getElem?_append_right (Nat.le_refl _)]; simp)]
  exact hn
theorem W_sz {p : Program} {l : Launch} {e : Env} {R : Room} {s : State} {m : MethodId} {args : Array Value} {below : List Frame} {meth : Method} {c : Code} {H : Heap} {locs : List Loc} {cells slots : Nat} {Q : State → Prop} {g : JFrame} (k : H.size ≤ s.heap.size + cells → W p l e R s m args below meth c H locs cells slots Q g) : W p l e R s m args below meth c H locs cells slots Q g := fun T hT X => k (by
  have h := X.same.2.2.1
  rw [← hT]
  exact h) T hT X
theorem k_hz {D : va_G} {B n cells : Nat} {ac : Nat → va_E} {H H0 : Heap} {locs : List Loc} (hB : B ≤ H0.size) (h2 : kP D B ac n H) (hc : H0.size + cells = B + n) (h3 : va_S (fun q => B ≤ q) H0 H locs) (hsz : H.size ≤ H0.size + cells) : H.size = B + n := by
  by_cases h : n = 0
  · have := h3.1; omega
  · have h9 := (h2 (n - 1) (by omega)).lt
    have h9 : B + (n - 1) < H.size := h9
    omega
abbrev kG : Type := Program × Launch × Env × Room × State × MethodId × Array Value × List Frame × Method × Code × va_G × (Nat → ClassId) × (State → Prop) × Nat
def jK : kG → Nat → Nat → List (Nat × Value) → List Value → (Nat → va_E) → Nat → Nat → va_E → List va_E → Nat → Nat → Prop
  | (p, l, e, R, s, m, args, below, meth, c, D, cl, Q, B), nL, pc, lv, st, ac0, k0, n0, o, nw, cells, slots => ∀ (ls : Array Slot) (H : Heap) (locs : List Loc), lv_has ls nL (jm_lv (fun k => B + k) lv) → kP D B (kst ac0 k0 n0 o nw) (n0 + nw.length) H → s.heap.size + cells = B + (n0 + nw.length) → va_S (fun q => B ≤ q) s.heap H locs → W p l e R s m args below meth c H locs cells slots Q (F0 m pc ls (st.map (jm_cv (fun k => B + k))))
def kC : kG → Nat → ByteArray → String → Room → Prop
  | (p, l, e, R, s, m, args, below, meth, c, D, cl, Q, B), nL, cc, own, rm => p.tables.exec = Jvm.exec ∧ c.code = cc ∧ c.maxLocals = nL ∧ s.vm.findClass own = some m.cls ∧ (∀ w ∈ G0, w.before args s = true) ∧ va_K D vwCl (jm_T cl) s ∧ B ≤ s.heap.size ∧ R = rm ∧ kN s
def kgl : kG → Launch | (_, l, _) => l
def kgD : kG → va_G | (_, _, _, _, _, _, _, _, _, _, D, _) => D
def kgcl : kG → (Nat → ClassId) | (_, _, _, _, _, _, _, _, _, _, _, cl, _) => cl
def kgB : kG → Nat | (_, _, _, _, _, _, _, _, _, _, _, _, _, B) => B
def kgm : kG → Method | (_, _, _, _, _, _, _, _, meth, _) => meth
def kE_V : kG → ByteArray → (Nat → va_E) → Nat → Nat → va_E → List va_E → Nat → Nat → Prop
  | (p, l, e, R, s, m, args, below, meth, c, D, cl, Q, B), cc, ac0, k0, n0, o, nw, cells, slots => ∀ (pc : Nat) (ls : Array Slot) (H : Heap) (locs : List Loc), decode cc pc = .ok (.return_, 1) → kP D B (kst ac0 k0 n0 o nw) (n0 + nw.length) H → s.heap.size + cells = B + (n0 + nw.length) → va_S (fun q => B ≤ q) s.heap H locs → W p l e R s m args below meth c H locs cells slots Q (F0 m pc ls [])
section KROWS
variable {Γ : kG} {nL : Nat} {cc : ByteArray} {own : String} {rm : Room} {pc pc' : Nat} {lv lv' : List (Nat × Value)} {st : List Value} {ac0 : Nat → va_E} {k0 n0 cells slots : Nat} {o : va_E} {nw nw' : List va_E}
theorem k_lv (ks : List Nat) (h : lv_pick lv ks = lv') (k : jK Γ nL pc lv' st ac0 k0 n0 o nw cells slots) : jK Γ nL pc lv st ac0 k0 n0 o nw cells slots := by
  obtain ⟨p, l, e, R, s, m, args, below, meth, c, D, cl, Q, B⟩ := Γ
  exact fun ls H locs h1 h2 hz h3 => k ls H locs (lv_sub h1 ks (by rw [jm_pick, h])) h2 hz h3
theorem k_iconst {n : Int} {v : Int32} (C : kC Γ nL cc own rm) (hd : decode cc pc = .ok (.iconst n, 1)) (hp : pc + 1 = pc') (hv : Int32.ofInt n = v) (k : jK Γ nL pc' lv (.int v :: st) ac0 k0 n0 o nw cells slots) : jK Γ nL pc lv st ac0 k0 n0 o nw cells slots := by
  subst hp
  obtain ⟨p, l, e, R, s, m, args, below, meth, c, D, cl, Q, B⟩ := Γ
  obtain ⟨hx, hb, hml, hown, hts, hK, hB, hR, hN⟩ := C
  exact fun ls H locs h1 h2 hz h3 => lv_iconst hx hb hd hv (k ls H locs h1 h2 hz h3)
theorem k_bipush {n : Int} {v : Int32} (C : kC Γ nL cc own rm) (hd : decode cc pc = .ok (.bipush n, 2)) (hp : pc + 2 = pc') (hv : (Int8.ofInt n).toInt32 = v) (k : jK Γ nL pc' lv (.int v :: st) ac0 k0 n0 o nw cells slots) : jK Γ nL pc lv st ac0 k0 n0 o nw cells slots := by
  subst hp
  obtain ⟨p, l, e, R, s, m, args, below, meth, c, D, cl, Q, B⟩ := Γ
  obtain ⟨hx, hb, hml, hown, hts, hK, hB, hR, hN⟩ := C
  exact fun ls H locs h1 h2 hz h3 => lv_bipush hx hb hd hv (k ls H locs h1 h2 hz h3)
theorem k_sipush {n : Int} {v : Int32} (C : kC Γ nL cc own rm) (hd : decode cc pc = .ok (.sipush n, 3)) (hp : pc + 3 = pc') (hv : (Int16.ofInt n).toInt32 = v) (k : jK Γ nL pc' lv (.int v :: st) ac0 k0 n0 o nw cells slots) : jK Γ nL pc lv st ac0 k0 n0 o nw cells slots := by
  subst hp
  obtain ⟨p, l, e, R, s, m, args, below, meth, c, D, cl, Q, B⟩ := Γ
  obtain ⟨hx, hb, hml, hown, hts, hK, hB, hR, hN⟩ := C
  exact fun ls H locs h1 h2 hz h3 => lv_sipush hx hb hd hv (k ls H locs h1 h2 hz h3)
theorem k_null  (C : kC Γ nL cc own rm) (hd : decode cc pc = .ok (.aconst_null, 1)) (hp : pc + 1 = pc')  (k : jK Γ nL pc' lv (.null :: st) ac0 k0 n0 o nw cells slots) : jK Γ nL pc lv st ac0 k0 n0 o nw cells slots := by
  subst hp
  obtain ⟨p, l, e, R, s, m, args, below, meth, c, D, cl, Q, B⟩ := Γ
  obtain ⟨hx, hb, hml, hown, hts, hK, hB, hR, hN⟩ := C
  exact fun ls H locs h1 h2 hz h3 => lv_null hx hb hd (k ls H locs h1 h2 hz h3)
theorem k_iload_n {i : Fin 4} {x : Int32} (C : kC Γ nL cc own rm) (hd : decode cc pc = .ok (.iload_n i, 1)) (hp : pc + 1 = pc') (q : Nat) (hq : lv[q]? = some ((i : Nat), .int x)) (k : jK Γ nL pc' lv (.int x :: st) ac0 k0 n0 o nw cells slots) : jK Γ nL pc lv st ac0 k0 n0 o nw cells slots := by
  subst hp
  obtain ⟨p, l, e, R, s, m, args, below, meth, c, D, cl, Q, B⟩ := Γ
  obtain ⟨hx, hb, hml, hown, hts, hK, hB, hR, hN⟩ := C
  exact fun ls H locs h1 h2 hz h3 => lv_iload_n hx hb hd rfl (lv_at h1 q (jm_lv_at hq)) (k ls H locs h1 h2 hz h3)
theorem k_istore_n {i : Fin 4} {x : Int32} (C : kC Γ nL cc own rm) (hd : decode cc pc = .ok (.istore_n i, 1)) (hp : pc + 1 = pc') (hn : (i : Nat) < nL) (hl : jm_st lv (i : Nat) (.int x) = lv') (k : jK Γ nL pc' lv' st ac0 k0 n0 o nw cells slots) : jK Γ nL pc lv (.int x :: st) ac0 k0 n0 o nw cells slots := by
  subst hp
  obtain ⟨p, l, e, R, s, m, args, below, meth, c, D, cl, Q, B⟩ := Γ
  obtain ⟨hx, hb, hml, hown, hts, hK, hB, hR, hN⟩ := C
  exact fun ls H locs h1 h2 hz h3 => lv_istore_n (lv' := jm_lv (fun k => B + k) lv') hx hb hd rfl h1 hn ((jm_lv_st (ad := fun k => B + k) (v := .int x)).trans (congrArg (jm_lv (fun k => B + k)) hl)) (fun ls h1 => k ls H locs h1 h2 hz h3)
theorem k_aload_n {i : Fin 4} {x : Nat} (C : kC Γ nL cc own rm) (hd : decode cc pc = .ok (.aload_n i, 1)) (hp : pc + 1 = pc') (q : Nat) (hq : lv[q]? = some ((i : Nat), .ref x)) (k : jK Γ nL pc' lv (.ref x :: st) ac0 k0 n0 o nw cells slots) : jK Γ nL pc lv st ac0 k0 n0 o nw cells slots := by
  subst hp
  obtain ⟨p, l, e, R, s, m, args, below, meth, c, D, cl, Q, B⟩ := Γ
  obtain ⟨hx, hb, hml, hown, hts, hK, hB, hR, hN⟩ := C
  exact fun ls H locs h1 h2 hz h3 => lv_aload_n hx hb hd rfl (lv_at h1 q (jm_lv_at hq)) (k ls H locs h1 h2 hz h3)
theorem k_astore_n {i : Fin 4} {x : Nat} (C : kC Γ nL cc own rm) (hd : decode cc pc = .ok (.astore_n i, 1)) (hp : pc + 1 = pc') (hn : (i : Nat) < nL) (hl : jm_st lv (i : Nat) (.ref x) = lv') (k : jK Γ nL pc' lv' st ac0 k0 n0 o nw cells slots) : jK Γ nL pc lv (.ref x :: st) ac0 k0 n0 o nw cells slots := by
  subst hp
  obtain ⟨p, l, e, R, s, m, args, below, meth, c, D, cl, Q, B⟩ := Γ
  obtain ⟨hx, hb, hml, hown, hts, hK, hB, hR, hN⟩ := C
  exact fun ls H locs h1 h2 hz h3 => lv_astore_n (lv' := jm_lv (fun k => B + k) lv') hx hb hd rfl h1 hn ((jm_lv_st (ad := fun k => B + k) (v := .ref x)).trans (congrArg (jm_lv (fun k => B + k)) hl)) (fun ls h1 => k ls H locs h1 h2 hz h3)
theorem k_iinc {i : Nat} {n : Int} {x d v : Int32} (C : kC Γ nL cc own rm) (hd : decode cc pc = .ok (.iinc i n, 3)) (hp : pc + 3 = pc') (hv : Int32.ofInt n = d) (q : Nat) (hq : lv[q]? = some (i, .int x)) (hn : i < nL) (hv2 : x + d = v) (hl : jm_st lv i (.int v) = lv') (k : jK Γ nL pc' lv' st ac0 k0 n0 o nw cells slots) : jK Γ nL pc lv st ac0 k0 n0 o nw cells slots := by
  subst hp
  obtain ⟨p, l, e, R, s, m, args, below, meth, c, D, cl, Q, B⟩ := Γ
  obtain ⟨hx, hb, hml, hown, hts, hK, hB, hR, hN⟩ := C
  exact fun ls H locs h1 h2 hz h3 => lv_iinc (lv' := jm_lv (fun k => B + k) lv') hx hb hd h1 (jm_lv_at hq) (by rw [hv]; exact hv2) hn ((jm_lv_st (ad := fun k => B + k) (v := .int v)).trans (congrArg (jm_lv (fun k => B + k)) hl)) (fun ls h1 => k ls H locs h1 h2 hz h3)
theorem k_iadd {x y v : Int32} (C : kC Γ nL cc own rm) (hd : decode cc pc = .ok (.iadd, 1)) (hp : pc + 1 = pc') (hv : x + y = v) (k : jK Γ nL pc' lv (.int v :: st) ac0 k0 n0 o nw cells slots) : jK Γ nL pc lv (.int y :: .int x :: st) ac0 k0 n0 o nw cells slots := by
  subst hp
  obtain ⟨p, l, e, R, s, m, args, below, meth, c, D, cl, Q, B⟩ := Γ
  obtain ⟨hx, hb, hml, hown, hts, hK, hB, hR, hN⟩ := C
  exact fun ls H locs h1 h2 hz h3 => lv_iadd hx hb hd (by rw [hv]; exact (k ls H locs h1 h2 hz h3))
theorem k_dup {v : Value} (C : kC Γ nL cc own rm) (hd : decode cc pc = .ok (.dup, 1)) (hp : pc + 1 = pc') (hv : v.category = 1) (k : jK Γ nL pc' lv (v :: v :: st) ac0 k0 n0 o nw cells slots) : jK Γ nL pc lv (v :: st) ac0 k0 n0 o nw cells slots := by
  subst hp
  obtain ⟨p, l, e, R, s, m, args, below, meth, c, D, cl, Q, B⟩ := Γ
  obtain ⟨hx, hb, hml, hown, hts, hK, hB, hR, hN⟩ := C
  exact fun ls H locs h1 h2 hz h3 => lv_dup hx hb hd (by rw [jm_cat]; exact hv) (k ls H locs h1 h2 hz h3)
theorem k_goto {off : Int} (C : kC Γ nL cc own rm) (hd : decode cc pc = .ok (.goto off, 3)) (ht : (pc : Int) + off = (pc' : Int)) (k : jK Γ nL pc' lv st ac0 k0 n0 o nw cells slots) : jK Γ nL pc lv st ac0 k0 n0 o nw cells slots := by
  obtain ⟨p, l, e, R, s, m, args, below, meth, c, D, cl, Q, B⟩ := Γ
  obtain ⟨hx, hb, hml, hown, hts, hK, hB, hR, hN⟩ := C
  exact fun ls H locs h1 h2 hz h3 => lv_goto hx hb hd ht (k ls H locs h1 h2 hz h3)
theorem k_ge {x y : Int32} {off : Int} {tgt : Nat} (C : kC Γ nL cc own rm) (hd : decode cc pc = .ok (.if_icmp .ge off, 3)) (hp : pc + 3 = pc') (ht : (pc : Int) + off = (tgt : Int)) (kt : y ≤ x → jK Γ nL tgt lv st ac0 k0 n0 o nw cells slots) (kf : ¬ y ≤ x → jK Γ nL pc' lv st ac0 k0 n0 o nw cells slots) : jK Γ nL pc lv (.int y :: .int x :: st) ac0 k0 n0 o nw cells slots := by
  subst hp
  obtain ⟨p, l, e, R, s, m, args, below, meth, c, D, cl, Q, B⟩ := Γ
  obtain ⟨hx, hb, hml, hown, hts, hK, hB, hR, hN⟩ := C
  exact fun ls H locs h1 h2 hz h3 => lv_icmp_ge hx hb hd ht (fun q => kt q ls H locs h1 h2 hz h3) (fun q => kf q ls H locs h1 h2 hz h3)
theorem k_objInit {idx x : Nat} (C : kC Γ nL cc own rm) (hd : decode cc pc = .ok (.invokespecial idx, 3)) (hp : pc + 3 = pc') (hl : Cond.methodLink own idx Lib.objectInit ∈ G0) (hi : Cond.instanceMethod Lib.objectInit ∈ G0) (hc : Cond.code Lib.objectInit ⟨#[0xb1]⟩ 1 none ∈ G0) (hr : 1 ≤ rm.frames ∧ (st.map fun v => v.category).sum + 12 ≤ rm.locals) (k : jK Γ nL pc' lv st ac0 k0 n0 o nw cells slots) : jK Γ nL pc lv (.ref x :: st) ac0 k0 n0 o nw cells slots := by
  subst hp
  obtain ⟨p, l, e, R, s, m, args, below, meth, c, D, cl, Q, B⟩ := Γ
  obtain ⟨hx, hb, hml, hown, hts, hK, hB, hR, hN⟩ := C
  subst hR
  intro ls H locs h1 h2 hz h3
  refine W.objInit hx hb hown (hts _ hl) (hts _ hi) (hts _ hc) rfl (by rw [hml]; exact h1.1) rfl hd hr.1 ?_ (k ls H locs h1 h2 hz h3)
  have := hr.2
  rw [jm_catsum]
  show 2 * (F0 m pc ls _).monitorRoom + _ + 12 ≤ _
  simp only [JFrame.monitorRoom]
  simpa using this
theorem k_new {idx ci N L : Nat} {CC : String} {T : u_T} {ty : Nat → FieldType} {fs : List Value} (C : kC Γ nL cc own rm) (hd : decode cc pc = .ok (.new idx, 3)) (hp : pc + 3 = pc') (hcl : vwCl[ci]? = some (CC, T, N)) (hin : ∀ w ∈ u_ws CC T N, w ∈ G0) (hty : ∀ k, k < N → parseFieldDescriptor (T k).2.2.1 = some (ty k)) (hw1 : Cond.classLink own idx CC ∈ G0) (hw2 : Cond.instantiable CC N ∈ G0) (hw3 : Cond.initialized CC ∈ G0) (hfs : ∀ j, j < N → defaultValue (ty j) = vp_V fs j) (hfm : ∀ ad : Nat → Nat, fs.map (jm_cv ad) = fs) (hroom : cells + 1 ≤ rm.cells ∧ slots + N ≤ rm.slots) (hL : nw.length = L) (hk : k0 < n0 ∨ n0 + nw.length < k0) (k : jK Γ nL pc' lv (.ref (n0 + L) :: st) ac0 k0 n0 o (nw ++ [.inr (ci, fs)]) (cells + 1) (slots + N)) : jK Γ nL pc lv st ac0 k0 n0 o nw cells slots := by
  subst hp
  subst hL
  obtain ⟨p, l, e, R, s, m, args, below, meth, c, D, cl, Q, B⟩ := Γ
  obtain ⟨hx, hb, hml, hown, hts, hK, hB, hR, hN⟩ := C
  subst hR
  intro ls H locs h1 h2 hc h3
  refine W_sz fun hsz => ?_
  have hz := k_hz hB h2 hc h3 hsz
  have hKn := hK.1 ci _ hcl
  refine W.newcK hx hb hown (hts _ hw1) (hts _ hw2) (hts _ hw3) rfl hd hroom.1 hroom.2 hKn.2.1 hz fun H1 kC hkC e1 z1 o1 => ?_
  refine k ls H1 locs h1 ?_ (by rw [List.length_append]; simp; omega) ⟨Nat.le_trans h3.1 (by omega), fun x g1 g2 => (o1 x (Nat.lt_of_lt_of_le g1 (by have := h3.1; omega))).trans (h3.2.1 x g1 g2), h3.2.2⟩
  refine kP_snoc h2 hk o1 ?_
  show va_at D vwCl (B + (n0 + nw.length), .inr (ci, fs.map (jm_cv (fun k => B + k)))) H1
  rw [hfm]
  exact ⟨_, hcl, (u_born ty hts hin hKn hkC e1 hty).to hfs⟩
theorem k_newa {atype : ArrayType} {ty : FieldType} {t N L : Nat} {x : Int32} {z : vp_A} (C : kC Γ nL cc own rm) (hd : decode cc pc = .ok (.newarray atype, 2)) (hp : pc + 2 = pc') (hty : newarray.typeOf atype = ty) (hw : Cond.arrayClass ty ∈ G0) (ht : ∀ cl : Nat → ClassId, (jm_T cl)[t]? = some (cl t, ty)) (hra : ∀ (U : State) (cA : ClassId), va_RA U cA ty → U.vm.findClass ("[" ++ ty.toString) = some cA) (hz0 : ∀ cA : ClassId, vp_cell cA z = arrV cA N (fun _ => defaultValue ty)) (hkz : ∀ (B : Nat) (cA : ClassId), kE B (.inl (cA, z)) = .inl (cA, z)) (hx0 : ¬ x < 0) (hxN : x.toNatClampNeg = N) (hby : N * componentBytes ty ≤ 536870912) (hroom : cells + 1 ≤ rm.cells ∧ slots + N ≤ rm.slots) (hL : nw.length = L) (hk : k0 < n0 ∨ n0 + nw.length < k0) (k : jK Γ nL pc' lv (.ref (n0 + L) :: st) ac0 k0 n0 o (nw ++ [.inl (kgcl Γ t, z)]) (cells + 1) (slots + N)) : jK Γ nL pc lv (.int x :: st) ac0 k0 n0 o nw cells slots := by
  subst hp
  subst hL
  obtain ⟨p, l, e, R, s, m, args, below, meth, c, D, cl, Q, B⟩ := Γ
  obtain ⟨hx, hb, hml, hown, hts, hK, hB, hR, hN⟩ := C
  subst hR
  intro ls H locs h1 h2 hc h3
  refine W_sz fun hsz => ?_
  have hz := k_hz hB h2 hc h3 hsz
  refine va_newaK hx hb (by rw [hty]; exact hts _ hw) rfl hd rfl hx0 hxN (by rw [hty]; exact hby) hroom.1 hroom.2 hz fun H1 cA e1 z1 o1 _ f1 => ?_
  rw [hty] at e1 f1
  have ec : cA = cl t := by
    have h9 := hra s (cl t) (hK.2 t _ (ht cl)).2
    rw [f1] at h9
    exact Option.some.inj h9
  subst ec
  refine k ls H1 locs h1 ?_ (by rw [List.length_append]; simp; omega) ⟨Nat.le_trans h3.1 (by omega), fun x g1 g2 => (o1 x (Nat.lt_of_lt_of_le g1 (by have := h3.1; omega))).trans (h3.2.1 x g1 g2), h3.2.2⟩
  refine kP_snoc (e := .inl (cl t, z)) h2 hk o1 ?_
  rw [hkz]
  show H1[B + (n0 + nw.length)]? = some (vp_cell (cl t) z)
  rw [hz0]
  exact e1
theorem k_anew {idx N L : Nat} {x : Int32} (C : kC Γ nL cc own rm) (hd : decode cc pc = .ok (.anewarray idx, 3)) (hp : pc + 3 = pc') (hw : Cond.classLink own idx "NineLamps$Sheet" ∈ G0) (hx0 : ¬ x < 0) (hxN : x.toNatClampNeg = N) (hby : N * 4 ≤ 536870912) (hroom : cells + 1 ≤ rm.cells ∧ slots + N ≤ rm.slots) (hL : nw.length = L) (hk : k0 < n0 ∨ n0 + nw.length < k0) (k : jK Γ nL pc' lv (.ref (n0 + L) :: st) ac0 k0 n0 o (nw ++ [.inl (kgcl Γ 4, N, .inr (.inr (.inr (.inr (fun _ => none)))))]) (cells + 1) (slots + N)) : jK Γ nL pc lv (.int x :: st) ac0 k0 n0 o nw cells slots := by
  subst hp
  subst hL
  subst hxN
  obtain ⟨p, l, e, R, s, m, args, below, meth, c, D, cl, Q, B⟩ := Γ
  obtain ⟨hx, hb, hml, hown, hts, hK, hB, hR, hN⟩ := C
  subst hR
  intro ls H locs h1 h2 hc h3
  refine W_sz fun hsz => ?_
  have hz := k_hz hB h2 hc h3 hsz
  refine W.anew hx hb hown (hts _ hw) hN.2.1 rfl hd rfl hx0 hby hroom.1 hroom.2 fun cA kA comp f1 f2 f3 f4 => ?_
  have ec : cA = cl 4 := by
    obtain ⟨kA', comp', r1, r2, r3, r4⟩ := (hK.2 4 (cl 4, .object "NineLamps$Sheet") rfl).2
    rw [f1] at r4
    exact Option.some.inj r4
  subst ec
  rw [show (F0 m pc ls (List.map (jm_cv fun k => B + k) (.int x :: st))).pc = pc from rfl]
  have z1 : (H.push { cls := cl 4, slots := Array.replicate x.toNatClampNeg .null, vm := .none }).size = H.size + 1 := by simp
  have o1 : ∀ q, q < H.size → (H.push { cls := cl 4, slots := Array.replicate x.toNatClampNeg .null, vm := .none })[q]? = H[q]? := fun q hq => by rw [Array.getElem?_push, if_neg (Nat.ne_of_lt hq)]
  have e1 : (H.push { cls := cl 4, slots := Array.replicate x.toNatClampNeg .null, vm := .none })[H.size]? = some (vp_cell (cl 4) (x.toNatClampNeg, .inr (.inr (.inr (.inr (fun _ => none)))))) := by rw [vp_cell_q, ← arrV_new]; simp [va_rf]
  generalize H.push { cls := cl 4, slots := Array.replicate x.toNatClampNeg .null, vm := .none } = H1 at z1 o1 e1 ⊢
  rw [hz] at z1 o1 e1 ⊢
  refine k ls H1 locs h1 ?_ (by rw [List.length_append]; simp; omega) ⟨Nat.le_trans h3.1 (by omega), fun x g1 g2 => (o1 x (Nat.lt_of_lt_of_le g1 (by have := h3.1; omega))).trans (h3.2.1 x g1 g2), h3.2.2⟩
  refine kP_snoc (e := .inl (cl 4, x.toNatClampNeg, .inr (.inr (.inr (.inr (fun _ => none)))))) h2 hk o1 ?_
  exact e1
theorem kst_row {ac0 : Nat → va_E} {k0 n0 N j : Nat} {o r : va_E} {nw : List va_E} {u : va_E} (hk : k0 < n0 ∨ n0 + (nw.length + 1 + N) ≤ k0) (h1 : n0 + nw.length < j) (h2 : j < n0 + nw.length + 1 + N) : kst ac0 k0 n0 o (nw ++ (u :: List.replicate N r)) j = r := by
  obtain ⟨i, rfl⟩ : ∃ i, j = n0 + (nw.length + (i + 1)) := ⟨j - n0 - nw.length - 1, by omega⟩
  refine kst_n (by rw [List.length_append]; simp; omega) ?_
  rw [List.getElem?_append_right (by omega), show nw.length + (i + 1) - nw.length = i + 1 by omega]
  show (List.replicate N r)[i]? = some r
  rw [List.getElem?_replicate, if_pos (by omega)]
theorem vr_outer (c : ClassId) (N h0 : Nat) : ∀ i : Nat, Jvm.Free.Multi.outerC c N h0 i = arrV c N (fun j => va_rf (if j < i then some (h0 + 1 + j) else none))
  | 0 => by
    show ({ cls := c, slots := Array.replicate N .null, vm := .none } : Cell) = _
    rw [arrV_new]
    refine congrArg (arrV c N) (funext fun j => ?_)
    simp [va_rf]
  | i + 1 => by
    show (Jvm.Free.Multi.outerC c N h0 i).setSlot i (.ref (h0 + 1 + i)) = _
    rw [vr_outer c N h0 i, arrV_store]
    refine congrArg (arrV c N) (funext fun j => ?_)
    by_cases e : j = i
    · subst e
      simp [updV, va_rf]
    · by_cases h : j < i
      · simp [updV, e, h, Nat.lt_succ_of_lt h]
      · simp [updV, e, h, show ¬ j < i + 1 by omega]
theorem k_mna {idx N M L : Nat} {x y : Int32} (C : kC Γ nL cc own rm) (hd : decode cc pc = .ok (.multianewarray idx 2, 4)) (hp : pc + 4 = pc') (hw : Cond.classLink own idx "[[I" ∈ G0) (hwa : Cond.arrayClass .int ∈ G0) (hx0 : ¬ x < 0) (hy0 : ¬ y < 0) (hxN : x.toNatClampNeg = N) (hyM : y.toNatClampNeg = M) (hb1 : N * 4 ≤ 536870912) (hb2 : M * 4 ≤ 536870912) (hroom : cells + (1 + N) ≤ rm.cells ∧ slots + (N + N * M) ≤ rm.slots) (hL : nw.length = L) (hk : k0 < n0 ∨ n0 + (nw.length + 1 + N) ≤ k0) (k : jK Γ nL pc' lv (.ref (n0 + L) :: st) ac0 k0 n0 o (nw ++ (.inl (kgcl Γ 3, N, .inr (.inr (.inr (.inr (fun i => if i < N then some (n0 + L + 1 + i) else none))))) :: List.replicate N (.inl (kgcl Γ 0, M, .inl (fun _ => 0))))) (cells + 1 + N) (slots + N + N * M)) : jK Γ nL pc lv (.int y :: .int x :: st) ac0 k0 n0 o nw cells slots := by
  subst hp
  subst hL
  subst hxN
  subst hyM
  obtain ⟨p, l, e, R, s, m, args, below, meth, c, D, cl, Q, B⟩ := Γ
  obtain ⟨hx, hb, hml, hown, hts, hK, hB, hR, hN⟩ := C
  subst hR
  intro ls H locs h1 h2 hc h3
  refine W_sz fun hsz => ?_
  have hz := k_hz hB h2 hc h3 hsz
  intro T hT Xs
  obtain ⟨vm₁, cA, comp, -, fA, fC, hO, -, X', step⟩ := Xs.multianewarray2F hx hown (hts _ hw) hN.2.2.use (hts _ hwa) (g := F0 m pc ls (.int y :: .int x :: st.map (jm_cv (fun k => B + k)))) rfl (by rw [hb]; exact hd) rfl hx0 hy0 hb1 hb2 (by omega) rfl rfl hroom.1 hroom.2
  have e0 : comp = cl 0 := by
    have h9 : s.vm.findClass ("[" ++ FieldType.int.toString) = some (cl 0) := (hK.2 0 (cl 0, .int) rfl).2
    exact Option.some.inj (fC.symm.trans h9)
  have e3 : cA = cl 3 := by
    have h9 : s.vm.findClass ("[" ++ (FieldType.array .int).toString) = some (cl 3) := (hK.2 3 (cl 3, .array .int) rfl).2
    exact Option.some.inj (fA.symm.trans h9)
  subst e0
  subst e3
  generalize hF : Jvm.Free.Multi.fill (T.setVm vm₁) (cl 3) (cl 0) x.toNatClampNeg y.toNatClampNeg (defaultValue .int) x.toNatClampNeg = F at X' step
  have hTh : (T.setVm vm₁).heap = H := hT
  obtain ⟨f1, f2, -, -⟩ := Jvm.Free.Multi.fill_facts (T.setVm vm₁) (cl 3) (cl 0) x.toNatClampNeg y.toNatClampNeg (defaultValue .int) x.toNatClampNeg
  rw [hF, hTh] at f1 f2
  have hold : ∀ q : Nat, q < H.size → F.heap[q]? = H[q]? := fun q hq => by
    have := Jvm.Free.Multi.fill_old (T.setVm vm₁) (cl 3) (cl 0) x.toNatClampNeg y.toNatClampNeg (defaultValue .int) (a := q) (by rw [hTh]; exact hq) x.toNatClampNeg
    rw [hF, hTh] at this
    exact this
  have hrow : ∀ j : Nat, j < x.toNatClampNeg → F.heap[H.size + 1 + j]? = some (vp_cell (cl 0) (y.toNatClampNeg, .inl (fun _ => 0))) := fun j hj => by
    have := Jvm.Free.Multi.fill_inner (T.setVm vm₁) (cl 3) (cl 0) x.toNatClampNeg y.toNatClampNeg (defaultValue .int) x.toNatClampNeg j hj
    rw [hF, hTh] at this
    rw [this, vp_cell_i, ← arrV_new]
    rfl
  rw [vr_outer] at f2
  have hlen : n0 + (nw ++ ((.inl (cl 3, x.toNatClampNeg, .inr (.inr (.inr (.inr (fun i => if i < x.toNatClampNeg then some (n0 + nw.length + 1 + i) else none))))) : va_E) :: List.replicate x.toNatClampNeg (.inl (cl 0, y.toNatClampNeg, .inl (fun _ => 0))))).length = n0 + nw.length + 1 + x.toNatClampNeg := by rw [List.length_append]; simp; omega
  have hP : kP D B (kst ac0 k0 n0 o (nw ++ ((.inl (cl 3, x.toNatClampNeg, .inr (.inr (.inr (.inr (fun i => if i < x.toNatClampNeg then some (n0 + nw.length + 1 + i) else none))))) : va_E) :: List.replicate x.toNatClampNeg (.inl (cl 0, y.toNatClampNeg, .inl (fun _ => 0)))))) (n0 + (nw ++ ((.inl (cl 3, x.toNatClampNeg, .inr (.inr (.inr (.inr (fun i => if i < x.toNatClampNeg then some (n0 + nw.length + 1 + i) else none))))) : va_E) :: List.replicate x.toNatClampNeg (.inl (cl 0, y.toNatClampNeg, .inl (fun _ => 0))))).length) F.heap := by
    rw [hlen]
    intro j hj
    by_cases g1 : j < n0 + nw.length
    · rw [kst_app g1]
      exact (h2 j g1).kept (hold _ (by show B + j < H.size; rw [hz]; omega))
    · by_cases g2 : j = n0 + nw.length
      · subst g2
        rw [kst_n (e := (.inl (cl 3, x.toNatClampNeg, .inr (.inr (.inr (.inr (fun i => if i < x.toNatClampNeg then some (n0 + nw.length + 1 + i) else none))))) : va_E)) (by rw [List.length_append]; simp; omega) (by rw [List.getElem?_append_right (Nat.le_refl _)]; simp)]
        show F.heap[B + (n0 + nw.length)]? = some (vp_cell (cl 3) (x.toNatClampNeg, .inr (.inr (.inr (.inr (fun i => (if i < x.toNatClampNeg then some (n0 + nw.length + 1 + i) else none).map (fun k => B + k)))))))
        rw [vp_cell_q, ← hz, f2]
        refine congrArg some (congrArg (arrV (cl 3) x.toNatClampNeg) (funext fun i => ?_))
        by_cases g3 : i < x.toNatClampNeg
        · rw [if_pos g3, if_pos g3]
          show va_rf (some (H.size + 1 + i)) = va_rf (some (B + (n0 + nw.length + 1 + i)))
          rw [hz]
          congr 2
          omega
        · rw [if_neg g3, if_neg g3]
          rfl
      · rw [kst_row (by omega) (by omega) hj]
        have h9 := hrow (j - (n0 + nw.length) - 1) (by omega)
        show F.heap[B + j]? = _
        rw [show B + j = H.size + 1 + (j - (n0 + nw.length) - 1) by rw [hz]; omega]
        exact h9
  obtain ⟨t, a1, b1⟩ := k ls F.heap locs h1 hP (by rw [List.length_append]; simp; omega) ⟨by rw [f1]; have := h3.1; omega, fun q g1 g2 => (hold q (Nat.lt_of_lt_of_le g1 h3.1)).trans (h3.2.1 q g1 g2), h3.2.2⟩ F rfl X'
  refine ⟨t, step t ?_, b1⟩
  have e : T.heap.size = B + (n0 + nw.length) := by rw [hT]; exact hz
  rw [e]
  exact a1
theorem k_putV {idx ci j : Nat} {fs : List Value} {ty : FieldType} {v : Value} (C : kC Γ nL cc own rm) (hd : decode cc pc = .ok (.putfield idx, 3)) (hp : pc + 3 = pc') (hf : jm_fp own idx ci j ty) (hk : k0 < n0) (ho : o = .inr (ci, fs)) (hj : j < fs.length) (hn : ∀ ad : Nat → Nat, narrow ty (jm_cv ad v) = jm_cv ad v ∧ fits ty (jm_cv ad v) = true) (k : jK Γ nL pc' lv st ac0 k0 n0 (.inr (ci, fs.set j v)) nw cells slots) : jK Γ nL pc lv (v :: .ref k0 :: st) ac0 k0 n0 o nw cells slots := by
  subst hp
  obtain ⟨p, l, e, R, s, m, args, below, meth, c, D, cl, Q, B⟩ := Γ
  obtain ⟨hx, hb, hml, hown, hts, hK, hB, hR, hN⟩ := C
  obtain ⟨CC, T, N, ty0, f1, f2, f3, f4, f5, f6, f7, f8⟩ := hf
  intro ls H locs h1 h2 hc h3
  have hkn : k0 < n0 + nw.length := by omega
  refine va_put (D := D) (ci := ci) (ty := ty) (fs := fs.map (jm_cv (fun k => B + k))) hx hb hts f2 ty0 f5 f6 hown hK (kw_P h2) kw_D h3 k0 (by rw [kw_at hkn, kst_k, ho]; rfl) f1 j f3 (hts _ f4) (fun _ h9 => h9) f7 f8 (hn _).1 (hn _).2 (by rw [List.length_map]; exact hj) hd (fun H1 locs1 g1 _ g3 => ?_)
  rw [← List.map_set] at g1
  refine k ls H1 locs1 h1 (kP_set (e := .inr (ci, fs.set j v)) hkn g1 kst_k (fun i hi q => kst_o hi q)) hc g3
theorem k_putF {idx ci j : Nat} {fs : List Value} {CC : String} {T : u_T} {N : Nat} {ty0 : Nat → FieldType} {ty : FieldType} {v : Value} (C : kC Γ nL cc own rm) (hin2 : (kgm Γ).name = "<init>") (hd : decode cc pc = .ok (.putfield idx, 3)) (hp : pc + 3 = pc') (f1 : vwCl[ci]? = some (CC, T, N)) (f2 : ∀ w ∈ u_ws CC T N, w ∈ G0) (f3 : j < N) (f4 : Cond.fieldLink own idx (T j).1 (T j).2.1 (T j).2.2.1 ∈ G0) (f5 : ∀ k, k < N → parseFieldDescriptor (T k).2.2.1 = some (ty0 k)) (f6 : ∀ a, a < N → ∀ b, b < N → a ≠ b → (T a).2.1 ≠ (T b).2.1) (f7 : (T j).2.2.2 = true) (f8 : parseFieldDescriptor (T j).2.2.1 = some ty) (f9 : (T j).1 = own) (hk : k0 < n0) (ho : o = .inr (ci, fs)) (hj : j < fs.length) (hn : ∀ ad : Nat → Nat, narrow ty (jm_cv ad v) = jm_cv ad v ∧ fits ty (jm_cv ad v) = true) (k : jK Γ nL pc' lv st ac0 k0 n0 (.inr (ci, fs.set j v)) nw cells slots) : jK Γ nL pc lv (v :: .ref k0 :: st) ac0 k0 n0 o nw cells slots := by
  subst hp
  obtain ⟨p, l, e, R, s, m, args, below, meth, c, D, cl, Q, B⟩ := Γ
  obtain ⟨hx, hb, hml, hown, hts, hK, hB, hR, hN⟩ := C
  intro ls H locs h1 h2 hc h3
  have hkn : k0 < n0 + nw.length := by omega
  refine va_putF (D := D) (ci := ci) (ty := ty) (fs := fs.map (jm_cv (fun k => B + k))) hx hb hts f2 ty0 f5 f6 hown hK (kw_P h2) kw_D h3 k0 (by rw [kw_at hkn, kst_k, ho]; rfl) f1 j f3 (hts _ f4) (fun _ h9 => h9) f7 hin2 f9 f8 (hn _).1 (hn _).2 (by rw [List.length_map]; exact hj) hd (fun H1 locs1 g1 _ g3 => ?_)
  rw [← List.map_set] at g1
  exact k ls H1 locs1 h1 (kP_set (e := .inr (ci, fs.set j v)) hkn g1 kst_k (fun i hi q => kst_o hi q)) hc g3
theorem k_get {idx ci j q : Nat} {fs : List Value} {v : Value} (C : kC Γ nL cc own rm) (hd : decode cc pc = .ok (.getfield idx, 3)) (hp : pc + 3 = pc') (hf : jm_fl own idx ci j) (hq : q < n0 + nw.length) (ho : kst ac0 k0 n0 o nw q = .inr (ci, fs)) (hj : fs[j]? = some v) (k : jK Γ nL pc' lv (v :: st) ac0 k0 n0 o nw cells slots) : jK Γ nL pc lv (.ref q :: st) ac0 k0 n0 o nw cells slots := by
  subst hp
  obtain ⟨p, l, e, R, s, m, args, below, meth, c, D, cl, Q, B⟩ := Γ
  obtain ⟨hx, hb, hml, hown, hts, hK, hB, hR, hN⟩ := C
  obtain ⟨CC, T, N, f1, f2, f3, f4⟩ := hf
  exact fun ls H locs h1 h2 hc h3 => va_get (D := D) (ci := ci) (fs := fs.map (jm_cv (fun k => B + k))) hx hb hts f2 hown hK (kw_P h2) q (by rw [kw_at hq, ho]; rfl) f1 j f3 (hts _ f4) (fun _ h9 => h9) (by rw [List.getElem?_map, hj]; rfl) hd (k ls H locs h1 h2 hc h3)
theorem kst_set {ac0 : Nat → va_E} {k0 n0 i j : Nat} {o e : va_E} {nw : List va_E} (hk : k0 < n0) (hj : j < n0 + nw.length) (h : j ≠ n0 + i) : kst ac0 k0 n0 o (nw.set i e) j = kst ac0 k0 n0 o nw j := by
  unfold kst
  by_cases h1 : j = k0
  · rw [if_pos h1, if_pos h1]
  · rw [if_neg h1, if_neg h1]
    by_cases q : n0 ≤ j
    · rw [if_pos q, if_pos q, List.getD_eq_getElem?_getD, List.getD_eq_getElem?_getD, List.getElem?_set, if_neg (by omega)]
    · rw [if_neg q, if_neg q]
/-- a row of numbers, made before, is written -/
theorem k_iast {i N : Nat} {x v : Int32} {f : Nat → Int32} (C : kC Γ nL cc own rm) (hd : decode cc pc = .ok (.iastore, 1)) (hp : pc + 1 = pc') (hk : k0 < n0) (hi : nw[i]? = some (.inl (kgcl Γ 0, N, .inl f))) (hin : inb x N = true) (k : jK Γ nL pc' lv st ac0 k0 n0 o (nw.set i (.inl (kgcl Γ 0, N, .inl (upd f x.toNatClampNeg v)))) cells slots) : jK Γ nL pc lv (.int v :: .int x :: .ref (n0 + i) :: st) ac0 k0 n0 o nw cells slots := by
  subst hp
  obtain ⟨p, l, e, R, s, m, args, below, meth, c, D, cl, Q, B⟩ := Γ
  obtain ⟨hx, hb, hml, hown, hts, hK, hB, hR, hN⟩ := C
  intro ls H locs h1 h2 hc h3
  have hl := (List.getElem?_eq_some_iff.mp hi).1
  have hq : n0 + i < n0 + nw.length := by omega
  refine va_iast hx hb hK (kw_P h2) kw_D h3 (n0 + i) 0 (cA := cl 0) (n := N) (f := f) (by rw [kw_at hq, kst_n (Or.inl hk) hi]; rfl) rfl (inb_e hin) hd (fun H1 locs1 g1 _ g3 => ?_)
  refine k ls H1 locs1 h1 ?_ (by rw [List.length_set]; exact hc) g3
  rw [List.length_set]
  exact kP_set (e := .inl (cl 0, N, .inl (upd f x.toNatClampNeg v))) hq g1 (kst_n (Or.inl hk) (by rw [List.getElem?_set, if_pos rfl, if_pos hl]; rfl)) (fun j hj q => kst_set hk hj q)
/-- a sheet is put into the row of sheets: both made before -/
theorem k_aast {i j N : Nat} {x : Int32} {f : Nat → Option Nat} {fs : List Value} (C : kC Γ nL cc own rm) (hd : decode cc pc = .ok (.aastore, 1)) (hp : pc + 1 = pc') (hk : k0 < n0) (hi : nw[i]? = some (.inl (kgcl Γ 4, N, .inr (.inr (.inr (.inr f)))))) (hj : nw[j]? = some (.inr (3, fs))) (hin : inb x N = true) (k : jK Γ nL pc' lv st ac0 k0 n0 o (nw.set i (.inl (kgcl Γ 4, N, .inr (.inr (.inr (.inr (va_up f x.toNatClampNeg (some (n0 + j))))))))) cells slots) : jK Γ nL pc lv (.ref (n0 + j) :: .int x :: .ref (n0 + i) :: st) ac0 k0 n0 o nw cells slots := by
  subst hp
  obtain ⟨p, l, e, R, s, m, args, below, meth, c, D, cl, Q, B⟩ := Γ
  obtain ⟨hx, hb, hml, hown, hts, hK, hB, hR, hN⟩ := C
  intro ls H locs h1 h2 hc h3
  have hl := (List.getElem?_eq_some_iff.mp hi).1
  have hl2 := (List.getElem?_eq_some_iff.mp hj).1
  have hq : n0 + i < n0 + nw.length := by omega
  have hq2 : n0 + j < n0 + nw.length := by omega
  refine va_astq hx hb hK (kw_P h2) kw_D h3 (n0 + i) 4 (n0 + j) 3 (cA := cl 4) (r := (RX3, TX3, 4)) (n := N) (f := fun i => (f i).map (fun k => B + k)) (vs := fs.map (jm_cv (fun k => B + k))) (by rw [kw_at hq, kst_n (Or.inl hk) hi]; rfl) rfl (by rw [kw_at hq2, kst_n (Or.inl hk) hj]; rfl) rfl (inb_e hin) hd (fun H1 locs1 g1 _ g3 => ?_)
  refine k ls H1 locs1 h1 ?_ (by rw [List.length_set]; exact hc) g3
  rw [List.length_set]
  have e : (va_up (fun i => (f i).map (fun k => B + k)) x.toNatClampNeg (some (B + (n0 + j)))) = fun i => ((va_up f x.toNatClampNeg (some (n0 + j))) i).map (fun k => B + k) := by
    funext q
    unfold va_up
    by_cases h : q = x.toNatClampNeg
    · rw [if_pos h, if_pos h]; rfl
    · rw [if_neg h, if_neg h]
  rw [e] at g1
  exact kP_set (e := .inl (cl 4, N, .inr (.inr (.inr (.inr (va_up f x.toNatClampNeg (some (n0 + j)))))))) hq g1 (kst_n (Or.inl hk) (by rw [List.getElem?_set, if_pos rfl, if_pos hl]; rfl)) (fun j hj q => kst_set hk hj q)
theorem k_vret (E : kE_V Γ cc ac0 k0 n0 o nw cells slots) (hd : decode cc pc = .ok (.return_, 1)) : jK Γ nL pc lv [] ac0 k0 n0 o nw cells slots := by
  obtain ⟨p, l, e, R, s, m, args, below, meth, c, D, cl, Q, B⟩ := Γ
  exact fun ls H locs h1 h2 hc h3 => E pc ls H locs hd h2 hc h3
/-- a constructor's contract: from the cells ac (n of them) with its own object k0 as 'new' lays it, to its object o and its new cells nw -/
def KC (l : Launch) (D : va_G) (cl : Nat → ClassId) (B : Nat) (y : MethodName) (ws : List Cond) (rm : Room) (av : List Value) (ac0 : Nat → va_E) (k0 n0 : Nat) (d o : va_E) (nw : List va_E) (ms : Nat) : Prop := Met l y ws rm (va_Pc (av.map (jm_cv (fun k => B + k))) (fun U => U.heap.size = B + n0 ∧ kP D B (kst ac0 k0 n0 d []) n0 U.heap ∧ va_K D vwCl (jm_T cl) U ∧ kN U)) (va_Qv (fun _ : Unit => True) (fun _ t => t.heap.size = B + (n0 + nw.length) ∧ kP D B (kst ac0 k0 n0 o nw) (n0 + nw.length) t.heap) (fun q => B ≤ q)) nw.length ms (fun q => B ≤ q)
theorem kC_blind {av : List Value} {D : va_G} {cl : Nat → ClassId} {B n : Nat} {ac : Nat → va_E} : FrameBlind (va_Pc av (fun U => U.heap.size = B + n ∧ kP D B ac n U.heap ∧ va_K D vwCl (jm_T cl) U ∧ kN U)) := fun a U g mk q => by
  obtain ⟨q1, q2, q3, q4, q5⟩ := q
  exact ⟨q1, q2, q3, va_K.moved (u := U) (U := U.calling g mk a) (Vm.Alike.refl U.vm) q4, q5.same rfl⟩
def kgw (own : String) (index : Nat) (y : MethodName) (ws : List Cond) (maxL n : Nat) : Prop := ∃ bytes : ByteArray, ws = Cond.code y bytes maxL none :: G0 ∧ Cond.code y bytes maxL none ∈ G0 ∧ Cond.initialized y.cls ∈ G0 ∧ Cond.instanceMethod y ∈ G0 ∧ y.name = "<init>" ∧ (y.cls ≠ "java/lang/invoke/MethodHandle" ∧ y.cls ≠ "java/lang/invoke/VarHandle" ∧ (parseMethodDescriptor y.desc).map (fun d => d.parameters.length) = some n) ∧ (Cond.methodLink own index y ∈ G0 ∨ ∃ host, (own, index, y, host) ∈ knest)
/-- the constructor of the cell made last is called -/
theorem k_call {rm' : Room} {idx n maxL ms : Nat} {y : MethodName} {ws : List Cond} {av rest : List Value} {d o' : va_E} {nv nw' : List va_E} (C : kC Γ nL cc own rm) (hd : decode cc pc = .ok (.invokespecial idx, 3)) (hp : pc + 3 = pc') (hM : ∀ ac, KC (kgl Γ) (kgD Γ) (kgcl Γ) (kgB Γ) y ws rm' (.ref (n0 + nv.length) :: av) ac (n0 + nv.length) (n0 + nv.length + 1) d o' nw' ms) (hw : kgw own idx y ws maxL n) (hr : rm'.cells = nw'.length ∧ rm'.slots = ms ∧ rm'.frames + 1 ≤ rm.frames ∧ 8 + (maxL + 11) + rm'.locals ≤ rm.locals) (hnw : nw = nv ++ [d]) (hn : av.length = n) (hst : st = av.reverse ++ .ref (n0 + nv.length) :: rest) (hW : (rest.map fun v => v.category).sum ≤ 8) (hroom : cells + nw'.length ≤ rm.cells ∧ slots + ms ≤ rm.slots) (hk : k0 < n0 ∨ n0 + (nv.length + 1 + nw'.length) ≤ k0) (k : jK Γ nL pc' lv rest ac0 k0 n0 o (nv ++ (o' :: nw')) (cells + nw'.length) (slots + ms)) : jK Γ nL pc lv st ac0 k0 n0 o nw cells slots := by
  subst hp
  subst hnw
  obtain ⟨p, l, e, R, s, m, args, below, meth, c, D, cl, Q, B⟩ := Γ
  obtain ⟨hx, hb, hml, hown, hts, hK, hB, hR, hN⟩ := C
  subst hR
  intro ls H locs h1 h2 hc h3
  refine W_sz fun hsz => ?_
  have hz := k_hz hB h2 hc h3 hsz
  obtain ⟨bytes, g1, g2, g3, g4, g5, g6, g7⟩ := hw
  have hG : GoodIn G0 ws := by
    rw [g1]
    exact gi_all (fun w hw => by rcases List.mem_cons.mp hw with rfl | hw; exact g2; exact hw)
  have hlen : n0 + (nv ++ [d]).length = n0 + nv.length + 1 := by rw [List.length_append]; simp; omega
  rw [hlen] at h2 hz
  have hP0 : kP D B (kst (kst ac0 k0 n0 o (nv ++ [d])) (n0 + nv.length) (n0 + nv.length + 1) d []) (n0 + nv.length + 1) H := by
    intro j hj
    have e : kst (kst ac0 k0 n0 o (nv ++ [d])) (n0 + nv.length) (n0 + nv.length + 1) d [] j = kst ac0 k0 n0 o (nv ++ [d]) j := by
      have h9 := kst_in (ac0 := ac0) (k0 := k0) (n0 := n0) (j := j) (o := o) (d := d) (o' := d) (nw := nv) (nw' := []) (by simp; omega) (by simp; omega)
      exact h9
    rw [e]
    exact h2 j hj
  have hMm := hM (kst ac0 k0 n0 o (nv ++ [d]))
  have hp : PreS s H (va_Pc ((Value.ref (n0 + nv.length) :: av).map (jm_cv (fun k => B + k))) (fun U => U.heap.size = B + (n0 + nv.length + 1) ∧ kP D B (kst (kst ac0 k0 n0 o (nv ++ [d])) (n0 + nv.length) (n0 + nv.length + 1) d []) (n0 + nv.length + 1) U.heap ∧ va_K D vwCl (jm_T cl) U ∧ kN U)) (.ref (B + (n0 + nv.length)) :: av.map (jm_cv (fun k => B + k))) := ⟨kC_blind, fun U hU hWm => ⟨rfl, by rw [hU]; exact hz, by rw [hU]; exact hP0, va_K.moved hWm.alike hK, hN.warm hWm⟩⟩
  have hrun : va_Run p l e R s m args below meth c H locs cells slots nw'.length ms (F0 m pc ls (st.map (jm_cv (fun k => B + k)))) (rest.map (jm_cv (fun k => B + k))) (va_Qv (fun _ : Unit => True) (fun _ t => t.heap.size = B + (n0 + nv.length + 1 + nw'.length) ∧ kP D B (kst (kst ac0 k0 n0 o (nv ++ [d])) (n0 + nv.length) (n0 + nv.length + 1) o' nw') (n0 + nv.length + 1 + nw'.length) t.heap) (fun q => B ≤ q) (Value.ref (B + (n0 + nv.length)) :: av.map (jm_cv (fun k => B + k))).toArray) (fun q => B ≤ q) := by
    rcases g7 with g7 | ⟨host, g7⟩
    · exact va_runI (As := av.map (jm_cv (fun k => B + k))) ⟨hx, hb, hml, hown, hts⟩ hMm (cwI n hts hG g1 hr.1 hr.2.1 (hts _ g3) (hts _ g7) (hts _ g4) g5 g6 hr.2.2) hp rfl (by rw [List.length_map]; exact hn) h1.1 (by rw [hst]; simp [List.map_append, List.map_reverse, jm_cv]) (lv_room (by rw [jm_catsum]; exact hW)) hd hroom
    · exact va_runIN (As := av.map (jm_cv (fun k => B + k))) ⟨hx, hb, hml, hown, hts⟩ hMm ⟨va_cnB n hts hG g1 hr.1 hr.2.1 (hN.1 _ g7) (hts _ g3) g6 hr.2.2, g5, hts _ g4⟩ hp rfl (by rw [List.length_map]; exact hn) h1.1 (by rw [hst]; simp [List.map_append, List.map_reverse, jm_cv]) (lv_room (by rw [jm_catsum]; exact hW)) hd hroom
  refine va_callv hrun h3 (fun q _ h => h) (fun q h => h) (fun u t H1 locs1 ht hvm hw hBt hz1 hk1 hS => ?_)
  obtain ⟨b1, b2⟩ := hBt
  rw [ht] at b1 b2
  have hl2 : n0 + (nv ++ (o' :: nw')).length = n0 + nv.length + 1 + nw'.length := by rw [List.length_append]; simp; omega
  refine k ls H1 locs1 h1 ?_ (by rw [hl2]; rw [hlen] at hc; omega) hS
  rw [hl2]
  intro j hj
  rw [← kst_in (d := d) hk hj]
  exact b2 j hj
theorem kc_of {l : Launch} {D : va_G} {cl : Nat → ClassId} {B : Nat} {y : MethodName} {ws : List Cond} {rm : Room} {av : List Value} {d : va_E} {ms : Nat} {cc : ByteArray} {nL : Nat} (hw : ws = Cond.code y cc nL none :: G0) (hy : plainName y.cls = true) (hyn : y.name = "<init>") (hn : (lg_sl (av.map (jm_cv (fun k => B + k)))).length ≤ nL) (body : ∀ Γ : kG, kC Γ nL cc y.cls rm → kgcl Γ = cl → (kgm Γ).name = "<init>" → kE_V Γ cc ac0 k0 n0 o nw nw.length ms → jK Γ nL 0 (lv_args 0 av) [] ac0 k0 n0 d [] 0 0) : KC l D cl B y ws rm av ac0 k0 n0 d o nw ms := by
  refine Met.ofW (cc := cc) (maxL := nL) (ret := none) hy hw ?_
  intro p e s m args below meth c s₁ Bd hml hv
  obtain ⟨rfl, hsz, hP, hK, hN⟩ := hv
  have hx := Bd.exec
  have hb := Bd.bytes
  have hr := Bd.returns
  have hts : ∀ w ∈ G0, w.before (av.map (jm_cv (fun k => B + k))).toArray s = true := fun w h => atoms_spec (ws := ws) Bd.pre w (by rw [hw]; exact List.mem_cons_of_mem _ h)
  have hown : s.vm.findClass y.cls = some m.cls := findClass_of_methodNamed Bd.named
  have hlocks := Bd.notSynchronized
  have hin : meth.name = "<init>" := (name_of_methodNamed Bd.named Bd.method).1.trans hyn
  have hl := lv_entry (av.map (jm_cv (fun k => B + k))) (n := nL) hn
  rw [lg_entry_eq]
  rw [jm_args] at hl
  have hBs : B ≤ s.heap.size := by omega
  have hbody := body (p, l, e, rm, s, m, (av.map (jm_cv (fun k => B + k))).toArray, below, meth, c, D, cl, MQ below (va_Qv (fun _ : Unit => True) (fun _ t => t.heap.size = B + (n0 + nw.length) ∧ kP D B (kst ac0 k0 n0 o nw) (n0 + nw.length) t.heap) (fun q => B ≤ q)) (av.map (jm_cv (fun k => B + k))).toArray s nw.length ms (fun q => B ≤ q), B) ⟨hx, hb, hml, hown, hts, hK, hBs, rfl, hN⟩ rfl hin (fun pc ls H locs hd g2 gc g3 => W_sz fun hsz2 => by
    have hz := k_hz hBs g2 gc g3 hsz2
    exact W.vret hx hb hr (fun t ht hW => ⟨⟨(), rfl, trivial, by show _ ∧ _; rw [ht]; exact ⟨hz, g2⟩⟩, g3.F ht⟩) (fun q hq => g3.2.2 q hq) hd)
  exact hbody _ s.heap [] hl hP (by simp; omega) va_S.rf

end KROWS
