/-! THE JUDGEMENT J over the world's numbers: a frame at pc, its locals and stack in the world's numbers, a memory -/
abbrev jG : Type := Program × Launch × Env × Room × State × MethodId × Array Value × List Frame × Method × Code × va_G × (Nat → Nat) × (Nat → ClassId) × (State → Prop) × Nat × Nat × (Nat → Prop)
def jJ : jG → Nat → Nat → List (Nat × Value) → List Value → Mem → Prop
  | (p, l, e, R, s, m, args, below, meth, c, D, ad, cl, Q, cells, slots, A), nL, pc, lv, st, μ => ∀ (ls : Array Slot) (H : Heap) (locs : List Loc), lv_has ls nL (jm_lv ad lv) → va_P D vwCl (jm_W ad cl μ) H → va_S A s.heap H locs → W p l e R s m args below meth c H locs cells slots Q (F0 m pc ls (st.map (jm_cv ad)))
def jC : jG → Nat → ByteArray → String → Room → Prop
  | (p, l, e, R, s, m, args, below, meth, c, D, ad, cl, Q, cells, slots, A), nL, cc, own, rm => p.tables.exec = Jvm.exec ∧ c.code = cc ∧ c.maxLocals = nL ∧ s.vm.findClass own = some m.cls ∧ (∀ w ∈ G0, w.before args s = true) ∧ va_K D vwCl (jm_T cl) s ∧ jm_inj ad ∧ (∀ k, k < 125 → A (ad k)) ∧ R = rm ∧ cells ≤ rm.cells ∧ slots ≤ rm.slots ∧ jm_Str ad A s s.heap
def jgl : jG → Launch | (_, l, _) => l
def jgD : jG → va_G | (_, _, _, _, _, _, _, _, _, _, D, _) => D
def jgad : jG → (Nat → Nat) | (_, _, _, _, _, _, _, _, _, _, _, ad, _) => ad
def jgcl : jG → (Nat → ClassId) | (_, _, _, _, _, _, _, _, _, _, _, _, cl, _) => cl
/-- the ends: int (and void, long, a cell) -/
def jEI : jG → ByteArray → Int32 → Mem → Prop
  | (p, l, e, R, s, m, args, below, meth, c, D, ad, cl, Q, cells, slots, A), cc, r, μ => ∀ (pc : Nat) (ls : Array Slot) (H : Heap) (locs : List Loc), decode cc pc = .ok (.ireturn, 1) → va_P D vwCl (jm_W ad cl μ) H → va_S A s.heap H locs → W p l e R s m args below meth c H locs cells slots Q (F0 m pc ls [.int r])
def jEV : jG → ByteArray → Mem → Prop
  | (p, l, e, R, s, m, args, below, meth, c, D, ad, cl, Q, cells, slots, A), cc, μ => ∀ (pc : Nat) (ls : Array Slot) (H : Heap) (locs : List Loc), decode cc pc = .ok (.return_, 1) → va_P D vwCl (jm_W ad cl μ) H → va_S A s.heap H locs → W p l e R s m args below meth c H locs cells slots Q (F0 m pc ls [])
def jEL : jG → ByteArray → Int64 → Mem → Prop
  | (p, l, e, R, s, m, args, below, meth, c, D, ad, cl, Q, cells, slots, A), cc, r, μ => ∀ (pc : Nat) (ls : Array Slot) (H : Heap) (locs : List Loc), decode cc pc = .ok (.lreturn, 1) → va_P D vwCl (jm_W ad cl μ) H → va_S A s.heap H locs → W p l e R s m args below meth c H locs cells slots Q (F0 m pc ls [.long r])
def jER : jG → ByteArray → Nat → Mem → Prop
  | (p, l, e, R, s, m, args, below, meth, c, D, ad, cl, Q, cells, slots, A), cc, r, μ => ∀ (pc : Nat) (ls : Array Slot) (H : Heap) (locs : List Loc), decode cc pc = .ok (.areturn, 1) → va_P D vwCl (jm_W ad cl μ) H → va_S A s.heap H locs → W p l e R s m args below meth c H locs cells slots Q (F0 m pc ls [.ref (ad r)])
def jm_is (k : Nat) (sh : jm_S) : Prop := k < 125 ∧ jm_lay k = sh
theorem jm_is.at {ad : Nat → Nat} {cl : Nat → ClassId} {μ : Mem} {k : Nat} {sh : jm_S} (h : jm_is k sh) : (jm_W ad cl μ)[k]? = some (ad k, jm_cs ad cl (μ.1 k) (μ.2 k) sh) := jm_atS h.1 h.2
/-- a field as a method's words have it: class number, place -/
def jm_fl (own : String) (index ci j : Nat) : Prop := ∃ (CC : String) (T : u_T) (N : Nat), vwCl[ci]? = some (CC, T, N) ∧ (∀ w ∈ u_ws CC T N, w ∈ G0) ∧ j < N ∧ Cond.fieldLink own index (T j).1 (T j).2.1 (T j).2.2.1 ∈ G0
def jm_fp (own : String) (index ci j : Nat) (ty : FieldType) : Prop := ∃ (CC : String) (T : u_T) (N : Nat) (ty0 : Nat → FieldType), vwCl[ci]? = some (CC, T, N) ∧ (∀ w ∈ u_ws CC T N, w ∈ G0) ∧ j < N ∧ Cond.fieldLink own index (T j).1 (T j).2.1 (T j).2.2.1 ∈ G0 ∧ (∀ k, k < N → parseFieldDescriptor (T k).2.2.1 = some (ty0 k)) ∧ (∀ a, a < N → ∀ b, b < N → a ≠ b → (T a).2.1 ≠ (T b).2.1) ∧ (T j).2.2.2 = false ∧ parseFieldDescriptor (T j).2.2.1 = some ty
section JROWS
variable {Γ : jG} {nL : Nat} {cc : ByteArray} {own : String} {rm : Room} {pc pc' : Nat} {lv lv' : List (Nat × Value)} {st : List Value} {μ μ' : Mem}
theorem j_lv (ks : List Nat) (h : lv_pick lv ks = lv') (k : jJ Γ nL pc lv' st μ) : jJ Γ nL pc lv st μ := by
  obtain ⟨p, l, e, R, s, m, args, below, meth, c, D, ad, cl, Q, cells, slots, A⟩ := Γ
  exact fun ls H locs h1 h2 h3 => k ls H locs (lv_sub h1 ks (by rw [jm_pick, h])) h2 h3
theorem j_pc (h : pc = pc') (k : jJ Γ nL pc' lv st μ) : jJ Γ nL pc lv st μ := by rw [h]; exact k
theorem j_topi {x : Int32} (k : ∀ y : Int32, y = x → jJ Γ nL pc lv (.int y :: st) μ) : jJ Γ nL pc lv (.int x :: st) μ := k x rfl
theorem j_topl {x : Int64} (k : ∀ y : Int64, y = x → jJ Γ nL pc lv (.long y :: st) μ) : jJ Γ nL pc lv (.long x :: st) μ := k x rfl
theorem j_mem (k : ∀ u : Mem, u = μ → jJ Γ nL pc lv st u) : jJ Γ nL pc lv st μ := k μ rfl

theorem j_iconst {n : Int} {v : Int32} (C : jC Γ nL cc own rm) (hd : decode cc pc = .ok (.iconst n, 1)) (hp : pc + 1 = pc') (hv : Int32.ofInt n = v) (k : jJ Γ nL pc' lv (.int v :: st) μ) : jJ Γ nL pc lv st μ := by
  subst hp
  obtain ⟨p, l, e, R, s, m, args, below, meth, c, D, ad, cl, Q, cells, slots, A⟩ := Γ
  obtain ⟨hx, hb, hml, hown, hts, hK, hi, hA, hR, hc1, hc2, hStr⟩ := C
  exact fun ls H locs h1 h2 h3 => lv_iconst hx hb hd hv (k ls H locs h1 h2 h3)
theorem j_bipush {n : Int} {v : Int32} (C : jC Γ nL cc own rm) (hd : decode cc pc = .ok (.bipush n, 2)) (hp : pc + 2 = pc') (hv : (Int8.ofInt n).toInt32 = v) (k : jJ Γ nL pc' lv (.int v :: st) μ) : jJ Γ nL pc lv st μ := by
  subst hp
  obtain ⟨p, l, e, R, s, m, args, below, meth, c, D, ad, cl, Q, cells, slots, A⟩ := Γ
  obtain ⟨hx, hb, hml, hown, hts, hK, hi, hA, hR, hc1, hc2, hStr⟩ := C
  exact fun ls H locs h1 h2 h3 => lv_bipush hx hb hd hv (k ls H locs h1 h2 h3)
theorem j_sipush {n : Int} {v : Int32} (C : jC Γ nL cc own rm) (hd : decode cc pc = .ok (.sipush n, 3)) (hp : pc + 3 = pc') (hv : (Int16.ofInt n).toInt32 = v) (k : jJ Γ nL pc' lv (.int v :: st) μ) : jJ Γ nL pc lv st μ := by
  subst hp
  obtain ⟨p, l, e, R, s, m, args, below, meth, c, D, ad, cl, Q, cells, slots, A⟩ := Γ
  obtain ⟨hx, hb, hml, hown, hts, hK, hi, hA, hR, hc1, hc2, hStr⟩ := C
  exact fun ls H locs h1 h2 h3 => lv_sipush hx hb hd hv (k ls H locs h1 h2 h3)
theorem j_lconst {n : Fin 2} {v : Int64} (C : jC Γ nL cc own rm) (hd : decode cc pc = .ok (.lconst n, 1)) (hp : pc + 1 = pc') (hv : Int64.ofNat (n : Nat) = v) (k : jJ Γ nL pc' lv (.long v :: st) μ) : jJ Γ nL pc lv st μ := by
  subst hp
  obtain ⟨p, l, e, R, s, m, args, below, meth, c, D, ad, cl, Q, cells, slots, A⟩ := Γ
  obtain ⟨hx, hb, hml, hown, hts, hK, hi, hA, hR, hc1, hc2, hStr⟩ := C
  exact fun ls H locs h1 h2 h3 => lv_lconst hx hb hd hv (k ls H locs h1 h2 h3)
theorem j_ldc {index : Nat} {v : Int32} (C : jC Γ nL cc own rm) (hd : decode cc pc = .ok (.ldc index, 2)) (hp : pc + 2 = pc') (hw : Cond.constant own index v ∈ G0) (k : jJ Γ nL pc' lv (.int v :: st) μ) : jJ Γ nL pc lv st μ := by
  subst hp
  obtain ⟨p, l, e, R, s, m, args, below, meth, c, D, ad, cl, Q, cells, slots, A⟩ := Γ
  obtain ⟨hx, hb, hml, hown, hts, hK, hi, hA, hR, hc1, hc2, hStr⟩ := C
  exact fun ls H locs h1 h2 h3 => lv_ldc hx hb hown (hts _ hw) hd (k ls H locs h1 h2 h3)
theorem j_ldcw {index : Nat} {v : Int32} (C : jC Γ nL cc own rm) (hd : decode cc pc = .ok (.ldc_w index, 3)) (hp : pc + 3 = pc') (hw : Cond.constant own index v ∈ G0) (k : jJ Γ nL pc' lv (.int v :: st) μ) : jJ Γ nL pc lv st μ := by
  subst hp
  obtain ⟨p, l, e, R, s, m, args, below, meth, c, D, ad, cl, Q, cells, slots, A⟩ := Γ
  obtain ⟨hx, hb, hml, hown, hts, hK, hi, hA, hR, hc1, hc2, hStr⟩ := C
  exact fun ls H locs h1 h2 h3 => lv_ldcw hx hb hown (hts _ hw) hd (k ls H locs h1 h2 h3)
theorem j_ldc2 {index : Nat} {v : Int64} (C : jC Γ nL cc own rm) (hd : decode cc pc = .ok (.ldc2_w index, 3)) (hp : pc + 3 = pc') (hw : Cond.constantLong own index v ∈ G0) (k : jJ Γ nL pc' lv (.long v :: st) μ) : jJ Γ nL pc lv st μ := by
  subst hp
  obtain ⟨p, l, e, R, s, m, args, below, meth, c, D, ad, cl, Q, cells, slots, A⟩ := Γ
  obtain ⟨hx, hb, hml, hown, hts, hK, hi, hA, hR, hc1, hc2, hStr⟩ := C
  exact fun ls H locs h1 h2 h3 => lv_ldc2 hx hb hown (hts _ hw) hd (k ls H locs h1 h2 h3)
theorem j_iload_n {i : Fin 4} {x : Int32} (C : jC Γ nL cc own rm) (hd : decode cc pc = .ok (.iload_n i, 1)) (hp : pc + 1 = pc') (q : Nat) (hq : lv[q]? = some ((i : Nat), .int x)) (k : jJ Γ nL pc' lv (.int x :: st) μ) : jJ Γ nL pc lv st μ := by
  subst hp
  obtain ⟨p, l, e, R, s, m, args, below, meth, c, D, ad, cl, Q, cells, slots, A⟩ := Γ
  obtain ⟨hx, hb, hml, hown, hts, hK, hi, hA, hR, hc1, hc2, hStr⟩ := C
  exact fun ls H locs h1 h2 h3 => lv_iload_n hx hb hd rfl (lv_at h1 q (jm_lv_at hq)) (k ls H locs h1 h2 h3)
theorem j_iload {i : Nat} {x : Int32} (C : jC Γ nL cc own rm) (hd : decode cc pc = .ok (.iload i, 2)) (hp : pc + 2 = pc') (q : Nat) (hq : lv[q]? = some (i, .int x)) (k : jJ Γ nL pc' lv (.int x :: st) μ) : jJ Γ nL pc lv st μ := by
  subst hp
  obtain ⟨p, l, e, R, s, m, args, below, meth, c, D, ad, cl, Q, cells, slots, A⟩ := Γ
  obtain ⟨hx, hb, hml, hown, hts, hK, hi, hA, hR, hc1, hc2, hStr⟩ := C
  exact fun ls H locs h1 h2 h3 => lv_iload hx hb hd (lv_at h1 q (jm_lv_at hq)) (k ls H locs h1 h2 h3)
theorem j_lload_n {i : Fin 4} {x : Int64} (C : jC Γ nL cc own rm) (hd : decode cc pc = .ok (.lload_n i, 1)) (hp : pc + 1 = pc') (q : Nat) (hq : lv[q]? = some ((i : Nat), .long x)) (k : jJ Γ nL pc' lv (.long x :: st) μ) : jJ Γ nL pc lv st μ := by
  subst hp
  obtain ⟨p, l, e, R, s, m, args, below, meth, c, D, ad, cl, Q, cells, slots, A⟩ := Γ
  obtain ⟨hx, hb, hml, hown, hts, hK, hi, hA, hR, hc1, hc2, hStr⟩ := C
  exact fun ls H locs h1 h2 h3 => lv_lload_n hx hb hd rfl (lv_at h1 q (jm_lv_at hq)) (k ls H locs h1 h2 h3)
theorem j_lload {i : Nat} {x : Int64} (C : jC Γ nL cc own rm) (hd : decode cc pc = .ok (.lload i, 2)) (hp : pc + 2 = pc') (q : Nat) (hq : lv[q]? = some (i, .long x)) (k : jJ Γ nL pc' lv (.long x :: st) μ) : jJ Γ nL pc lv st μ := by
  subst hp
  obtain ⟨p, l, e, R, s, m, args, below, meth, c, D, ad, cl, Q, cells, slots, A⟩ := Γ
  obtain ⟨hx, hb, hml, hown, hts, hK, hi, hA, hR, hc1, hc2, hStr⟩ := C
  exact fun ls H locs h1 h2 h3 => lv_lload hx hb hd (lv_at h1 q (jm_lv_at hq)) (k ls H locs h1 h2 h3)
theorem j_aload_n {i : Fin 4} {x : Nat} (C : jC Γ nL cc own rm) (hd : decode cc pc = .ok (.aload_n i, 1)) (hp : pc + 1 = pc') (q : Nat) (hq : lv[q]? = some ((i : Nat), .ref x)) (k : jJ Γ nL pc' lv (.ref x :: st) μ) : jJ Γ nL pc lv st μ := by
  subst hp
  obtain ⟨p, l, e, R, s, m, args, below, meth, c, D, ad, cl, Q, cells, slots, A⟩ := Γ
  obtain ⟨hx, hb, hml, hown, hts, hK, hi, hA, hR, hc1, hc2, hStr⟩ := C
  exact fun ls H locs h1 h2 h3 => lv_aload_n hx hb hd rfl (lv_at h1 q (jm_lv_at hq)) (k ls H locs h1 h2 h3)
theorem j_aload {i : Nat} {x : Nat} (C : jC Γ nL cc own rm) (hd : decode cc pc = .ok (.aload i, 2)) (hp : pc + 2 = pc') (q : Nat) (hq : lv[q]? = some (i, .ref x)) (k : jJ Γ nL pc' lv (.ref x :: st) μ) : jJ Γ nL pc lv st μ := by
  subst hp
  obtain ⟨p, l, e, R, s, m, args, below, meth, c, D, ad, cl, Q, cells, slots, A⟩ := Γ
  obtain ⟨hx, hb, hml, hown, hts, hK, hi, hA, hR, hc1, hc2, hStr⟩ := C
  exact fun ls H locs h1 h2 h3 => lv_aload hx hb hd (lv_at h1 q (jm_lv_at hq)) (k ls H locs h1 h2 h3)
theorem j_istore_n {i : Fin 4} {x : Int32} (C : jC Γ nL cc own rm) (hd : decode cc pc = .ok (.istore_n i, 1)) (hp : pc + 1 = pc') (hn : (i : Nat) < nL) (hl : jm_st lv (i : Nat) (.int x) = lv') (k : jJ Γ nL pc' lv' st μ) : jJ Γ nL pc lv (.int x :: st) μ := by
  subst hp
  obtain ⟨p, l, e, R, s, m, args, below, meth, c, D, ad, cl, Q, cells, slots, A⟩ := Γ
  obtain ⟨hx, hb, hml, hown, hts, hK, hi, hA, hR, hc1, hc2, hStr⟩ := C
  exact fun ls H locs h1 h2 h3 => lv_istore_n (lv' := jm_lv ad lv') hx hb hd rfl h1 hn ((jm_lv_st (ad := ad) (v := .int x)).trans (congrArg (jm_lv ad) hl)) (fun ls h1 => k ls H locs h1 h2 h3)
theorem j_istore {i : Nat} {x : Int32} (C : jC Γ nL cc own rm) (hd : decode cc pc = .ok (.istore i, 2)) (hp : pc + 2 = pc') (hn : i < nL) (hl : jm_st lv i (.int x) = lv') (k : jJ Γ nL pc' lv' st μ) : jJ Γ nL pc lv (.int x :: st) μ := by
  subst hp
  obtain ⟨p, l, e, R, s, m, args, below, meth, c, D, ad, cl, Q, cells, slots, A⟩ := Γ
  obtain ⟨hx, hb, hml, hown, hts, hK, hi, hA, hR, hc1, hc2, hStr⟩ := C
  exact fun ls H locs h1 h2 h3 => lv_istore (lv' := jm_lv ad lv') hx hb hd h1 hn ((jm_lv_st (ad := ad) (v := .int x)).trans (congrArg (jm_lv ad) hl)) (fun ls h1 => k ls H locs h1 h2 h3)
theorem j_astore_n {i : Fin 4} {x : Nat} (C : jC Γ nL cc own rm) (hd : decode cc pc = .ok (.astore_n i, 1)) (hp : pc + 1 = pc') (hn : (i : Nat) < nL) (hl : jm_st lv (i : Nat) (.ref x) = lv') (k : jJ Γ nL pc' lv' st μ) : jJ Γ nL pc lv (.ref x :: st) μ := by
  subst hp
  obtain ⟨p, l, e, R, s, m, args, below, meth, c, D, ad, cl, Q, cells, slots, A⟩ := Γ
  obtain ⟨hx, hb, hml, hown, hts, hK, hi, hA, hR, hc1, hc2, hStr⟩ := C
  exact fun ls H locs h1 h2 h3 => lv_astore_n (lv' := jm_lv ad lv') hx hb hd rfl h1 hn ((jm_lv_st (ad := ad) (v := .ref x)).trans (congrArg (jm_lv ad) hl)) (fun ls h1 => k ls H locs h1 h2 h3)
theorem j_astore {i : Nat} {x : Nat} (C : jC Γ nL cc own rm) (hd : decode cc pc = .ok (.astore i, 2)) (hp : pc + 2 = pc') (hn : i < nL) (hl : jm_st lv i (.ref x) = lv') (k : jJ Γ nL pc' lv' st μ) : jJ Γ nL pc lv (.ref x :: st) μ := by
  subst hp
  obtain ⟨p, l, e, R, s, m, args, below, meth, c, D, ad, cl, Q, cells, slots, A⟩ := Γ
  obtain ⟨hx, hb, hml, hown, hts, hK, hi, hA, hR, hc1, hc2, hStr⟩ := C
  exact fun ls H locs h1 h2 h3 => lv_astore (lv' := jm_lv ad lv') hx hb hd h1 hn ((jm_lv_st (ad := ad) (v := .ref x)).trans (congrArg (jm_lv ad) hl)) (fun ls h1 => k ls H locs h1 h2 h3)
theorem j_lstore {i : Nat} {x : Int64} (C : jC Γ nL cc own rm) (hd : decode cc pc = .ok (.lstore i, 2)) (hp : pc + 2 = pc') (hn : i + 1 < nL) (hl : jm_st2 lv i (.long x) = lv') (k : jJ Γ nL pc' lv' st μ) : jJ Γ nL pc lv (.long x :: st) μ := by
  subst hp
  obtain ⟨p, l, e, R, s, m, args, below, meth, c, D, ad, cl, Q, cells, slots, A⟩ := Γ
  obtain ⟨hx, hb, hml, hown, hts, hK, hi, hA, hR, hc1, hc2, hStr⟩ := C
  exact fun ls H locs h1 h2 h3 => lv_lstore (lv' := jm_lv ad lv') hx hb hd h1 hn ((jm_lv_st2 (ad := ad) (v := .long x)).trans (congrArg (jm_lv ad) hl)) (fun ls h1 => k ls H locs h1 h2 h3)
theorem j_iinc {i : Nat} {n : Int} {x d v : Int32} (C : jC Γ nL cc own rm) (hd : decode cc pc = .ok (.iinc i n, 3)) (hp : pc + 3 = pc') (hv : Int32.ofInt n = d) (q : Nat) (hq : lv[q]? = some (i, .int x)) (hn : i < nL) (hv2 : x + d = v) (hl : jm_st lv i (.int v) = lv') (k : jJ Γ nL pc' lv' st μ) : jJ Γ nL pc lv st μ := by
  subst hp
  obtain ⟨p, l, e, R, s, m, args, below, meth, c, D, ad, cl, Q, cells, slots, A⟩ := Γ
  obtain ⟨hx, hb, hml, hown, hts, hK, hi, hA, hR, hc1, hc2, hStr⟩ := C
  exact fun ls H locs h1 h2 h3 => lv_iinc (lv' := jm_lv ad lv') hx hb hd h1 (jm_lv_at hq) (by rw [hv]; exact hv2) hn ((jm_lv_st (ad := ad) (v := .int v)).trans (congrArg (jm_lv ad) hl)) (fun ls h1 => k ls H locs h1 h2 h3)
theorem j_iadd {x y : Int32} (C : jC Γ nL cc own rm) (hd : decode cc pc = .ok (.iadd, 1)) (hp : pc + 1 = pc')  (k : jJ Γ nL pc' lv (.int (x + y) :: st) μ) : jJ Γ nL pc lv (.int y :: .int x :: st) μ := by
  subst hp
  obtain ⟨p, l, e, R, s, m, args, below, meth, c, D, ad, cl, Q, cells, slots, A⟩ := Γ
  obtain ⟨hx, hb, hml, hown, hts, hK, hi, hA, hR, hc1, hc2, hStr⟩ := C
  exact fun ls H locs h1 h2 h3 => lv_iadd hx hb hd (k ls H locs h1 h2 h3)
theorem j_isub {x y : Int32} (C : jC Γ nL cc own rm) (hd : decode cc pc = .ok (.isub, 1)) (hp : pc + 1 = pc')  (k : jJ Γ nL pc' lv (.int (x - y) :: st) μ) : jJ Γ nL pc lv (.int y :: .int x :: st) μ := by
  subst hp
  obtain ⟨p, l, e, R, s, m, args, below, meth, c, D, ad, cl, Q, cells, slots, A⟩ := Γ
  obtain ⟨hx, hb, hml, hown, hts, hK, hi, hA, hR, hc1, hc2, hStr⟩ := C
  exact fun ls H locs h1 h2 h3 => lv_isub hx hb hd (k ls H locs h1 h2 h3)
theorem j_imul {x y : Int32} (C : jC Γ nL cc own rm) (hd : decode cc pc = .ok (.imul, 1)) (hp : pc + 1 = pc')  (k : jJ Γ nL pc' lv (.int (x * y) :: st) μ) : jJ Γ nL pc lv (.int y :: .int x :: st) μ := by
  subst hp
  obtain ⟨p, l, e, R, s, m, args, below, meth, c, D, ad, cl, Q, cells, slots, A⟩ := Γ
  obtain ⟨hx, hb, hml, hown, hts, hK, hi, hA, hR, hc1, hc2, hStr⟩ := C
  exact fun ls H locs h1 h2 h3 => lv_imul hx hb hd (k ls H locs h1 h2 h3)
theorem j_iand {x y : Int32} (C : jC Γ nL cc own rm) (hd : decode cc pc = .ok (.iand, 1)) (hp : pc + 1 = pc')  (k : jJ Γ nL pc' lv (.int (x &&& y) :: st) μ) : jJ Γ nL pc lv (.int y :: .int x :: st) μ := by
  subst hp
  obtain ⟨p, l, e, R, s, m, args, below, meth, c, D, ad, cl, Q, cells, slots, A⟩ := Γ
  obtain ⟨hx, hb, hml, hown, hts, hK, hi, hA, hR, hc1, hc2, hStr⟩ := C
  exact fun ls H locs h1 h2 h3 => lv_iand hx hb hd (k ls H locs h1 h2 h3)
theorem j_ior {x y : Int32} (C : jC Γ nL cc own rm) (hd : decode cc pc = .ok (.ior, 1)) (hp : pc + 1 = pc')  (k : jJ Γ nL pc' lv (.int (x ||| y) :: st) μ) : jJ Γ nL pc lv (.int y :: .int x :: st) μ := by
  subst hp
  obtain ⟨p, l, e, R, s, m, args, below, meth, c, D, ad, cl, Q, cells, slots, A⟩ := Γ
  obtain ⟨hx, hb, hml, hown, hts, hK, hi, hA, hR, hc1, hc2, hStr⟩ := C
  exact fun ls H locs h1 h2 h3 => lv_ior hx hb hd (k ls H locs h1 h2 h3)
theorem j_ixor {x y : Int32} (C : jC Γ nL cc own rm) (hd : decode cc pc = .ok (.ixor, 1)) (hp : pc + 1 = pc')  (k : jJ Γ nL pc' lv (.int (x ^^^ y) :: st) μ) : jJ Γ nL pc lv (.int y :: .int x :: st) μ := by
  subst hp
  obtain ⟨p, l, e, R, s, m, args, below, meth, c, D, ad, cl, Q, cells, slots, A⟩ := Γ
  obtain ⟨hx, hb, hml, hown, hts, hK, hi, hA, hR, hc1, hc2, hStr⟩ := C
  exact fun ls H locs h1 h2 h3 => lv_ixor hx hb hd (k ls H locs h1 h2 h3)
theorem j_ishl {x y : Int32} (C : jC Γ nL cc own rm) (hd : decode cc pc = .ok (.ishl, 1)) (hp : pc + 1 = pc')  (k : jJ Γ nL pc' lv (.int (x <<< (y &&& 31)) :: st) μ) : jJ Γ nL pc lv (.int y :: .int x :: st) μ := by
  subst hp
  obtain ⟨p, l, e, R, s, m, args, below, meth, c, D, ad, cl, Q, cells, slots, A⟩ := Γ
  obtain ⟨hx, hb, hml, hown, hts, hK, hi, hA, hR, hc1, hc2, hStr⟩ := C
  exact fun ls H locs h1 h2 h3 => lv_ishl hx hb hd (k ls H locs h1 h2 h3)
theorem j_ishr {x y : Int32} (C : jC Γ nL cc own rm) (hd : decode cc pc = .ok (.ishr, 1)) (hp : pc + 1 = pc')  (k : jJ Γ nL pc' lv (.int (x >>> (y &&& 31)) :: st) μ) : jJ Γ nL pc lv (.int y :: .int x :: st) μ := by
  subst hp
  obtain ⟨p, l, e, R, s, m, args, below, meth, c, D, ad, cl, Q, cells, slots, A⟩ := Γ
  obtain ⟨hx, hb, hml, hown, hts, hK, hi, hA, hR, hc1, hc2, hStr⟩ := C
  exact fun ls H locs h1 h2 h3 => lv_ishr hx hb hd (k ls H locs h1 h2 h3)
theorem j_iushr {x y : Int32} (C : jC Γ nL cc own rm) (hd : decode cc pc = .ok (.iushr, 1)) (hp : pc + 1 = pc')  (k : jJ Γ nL pc' lv (.int ((x.toUInt32 >>> (y.toUInt32 &&& Int32.toUInt32 31)).toInt32) :: st) μ) : jJ Γ nL pc lv (.int y :: .int x :: st) μ := by
  subst hp
  obtain ⟨p, l, e, R, s, m, args, below, meth, c, D, ad, cl, Q, cells, slots, A⟩ := Γ
  obtain ⟨hx, hb, hml, hown, hts, hK, hi, hA, hR, hc1, hc2, hStr⟩ := C
  exact fun ls H locs h1 h2 h3 => lv_iushr hx hb hd rfl (k ls H locs h1 h2 h3)
theorem j_idiv {x y : Int32} (C : jC Γ nL cc own rm) (hd : decode cc pc = .ok (.idiv, 1)) (hp : pc + 1 = pc') (hne : ¬ y = 0) (k : jJ Γ nL pc' lv (.int (x / y) :: st) μ) : jJ Γ nL pc lv (.int y :: .int x :: st) μ := by
  subst hp
  obtain ⟨p, l, e, R, s, m, args, below, meth, c, D, ad, cl, Q, cells, slots, A⟩ := Γ
  obtain ⟨hx, hb, hml, hown, hts, hK, hi, hA, hR, hc1, hc2, hStr⟩ := C
  exact fun ls H locs h1 h2 h3 => lv_idiv hx hb hd hne (k ls H locs h1 h2 h3)
theorem j_irem {x y : Int32} (C : jC Γ nL cc own rm) (hd : decode cc pc = .ok (.irem, 1)) (hp : pc + 1 = pc') (hne : ¬ y = 0) (k : jJ Γ nL pc' lv (.int (x - x / y * y) :: st) μ) : jJ Γ nL pc lv (.int y :: .int x :: st) μ := by
  subst hp
  obtain ⟨p, l, e, R, s, m, args, below, meth, c, D, ad, cl, Q, cells, slots, A⟩ := Γ
  obtain ⟨hx, hb, hml, hown, hts, hK, hi, hA, hR, hc1, hc2, hStr⟩ := C
  exact fun ls H locs h1 h2 h3 => lv_irem hx hb hd hne (k ls H locs h1 h2 h3)
theorem j_ladd {x y : Int64} (C : jC Γ nL cc own rm) (hd : decode cc pc = .ok (.ladd, 1)) (hp : pc + 1 = pc')  (k : jJ Γ nL pc' lv (.long (x + y) :: st) μ) : jJ Γ nL pc lv (.long y :: .long x :: st) μ := by
  subst hp
  obtain ⟨p, l, e, R, s, m, args, below, meth, c, D, ad, cl, Q, cells, slots, A⟩ := Γ
  obtain ⟨hx, hb, hml, hown, hts, hK, hi, hA, hR, hc1, hc2, hStr⟩ := C
  exact fun ls H locs h1 h2 h3 => lv_ladd hx hb hd (k ls H locs h1 h2 h3)
theorem j_land {x y : Int64} (C : jC Γ nL cc own rm) (hd : decode cc pc = .ok (.land, 1)) (hp : pc + 1 = pc')  (k : jJ Γ nL pc' lv (.long (x &&& y) :: st) μ) : jJ Γ nL pc lv (.long y :: .long x :: st) μ := by
  subst hp
  obtain ⟨p, l, e, R, s, m, args, below, meth, c, D, ad, cl, Q, cells, slots, A⟩ := Γ
  obtain ⟨hx, hb, hml, hown, hts, hK, hi, hA, hR, hc1, hc2, hStr⟩ := C
  exact fun ls H locs h1 h2 h3 => lv_land hx hb hd (k ls H locs h1 h2 h3)
theorem j_lor {x y : Int64} (C : jC Γ nL cc own rm) (hd : decode cc pc = .ok (.lor, 1)) (hp : pc + 1 = pc')  (k : jJ Γ nL pc' lv (.long (x ||| y) :: st) μ) : jJ Γ nL pc lv (.long y :: .long x :: st) μ := by
  subst hp
  obtain ⟨p, l, e, R, s, m, args, below, meth, c, D, ad, cl, Q, cells, slots, A⟩ := Γ
  obtain ⟨hx, hb, hml, hown, hts, hK, hi, hA, hR, hc1, hc2, hStr⟩ := C
  exact fun ls H locs h1 h2 h3 => lv_lor hx hb hd (k ls H locs h1 h2 h3)
theorem j_lshl {x : Int64} {y : Int32} (C : jC Γ nL cc own rm) (hd : decode cc pc = .ok (.lshl, 1)) (hp : pc + 1 = pc')  (k : jJ Γ nL pc' lv (.long (x <<< (y.toInt64 &&& 63)) :: st) μ) : jJ Γ nL pc lv (.int y :: .long x :: st) μ := by
  subst hp
  obtain ⟨p, l, e, R, s, m, args, below, meth, c, D, ad, cl, Q, cells, slots, A⟩ := Γ
  obtain ⟨hx, hb, hml, hown, hts, hK, hi, hA, hR, hc1, hc2, hStr⟩ := C
  exact fun ls H locs h1 h2 h3 => lv_lshl hx hb hd rfl (k ls H locs h1 h2 h3)
theorem j_lcmp {x y : Int64} (C : jC Γ nL cc own rm) (hd : decode cc pc = .ok (.lcmp, 1)) (hp : pc + 1 = pc')  (k : jJ Γ nL pc' lv (.int (lg_cmp x y) :: st) μ) : jJ Γ nL pc lv (.long y :: .long x :: st) μ := by
  subst hp
  obtain ⟨p, l, e, R, s, m, args, below, meth, c, D, ad, cl, Q, cells, slots, A⟩ := Γ
  obtain ⟨hx, hb, hml, hown, hts, hK, hi, hA, hR, hc1, hc2, hStr⟩ := C
  exact fun ls H locs h1 h2 h3 => W.lcmp hx hb hd (k ls H locs h1 h2 h3)
theorem j_i2l {x : Int32} (C : jC Γ nL cc own rm) (hd : decode cc pc = .ok (.i2l, 1)) (hp : pc + 1 = pc')  (k : jJ Γ nL pc' lv (.long x.toInt64 :: st) μ) : jJ Γ nL pc lv (.int x :: st) μ := by
  subst hp
  obtain ⟨p, l, e, R, s, m, args, below, meth, c, D, ad, cl, Q, cells, slots, A⟩ := Γ
  obtain ⟨hx, hb, hml, hown, hts, hK, hi, hA, hR, hc1, hc2, hStr⟩ := C
  exact fun ls H locs h1 h2 h3 => lv_i2l hx hb hd rfl (k ls H locs h1 h2 h3)
theorem j_l2i {x : Int64} (C : jC Γ nL cc own rm) (hd : decode cc pc = .ok (.l2i, 1)) (hp : pc + 1 = pc')  (k : jJ Γ nL pc' lv (.int x.toInt32 :: st) μ) : jJ Γ nL pc lv (.long x :: st) μ := by
  subst hp
  obtain ⟨p, l, e, R, s, m, args, below, meth, c, D, ad, cl, Q, cells, slots, A⟩ := Γ
  obtain ⟨hx, hb, hml, hown, hts, hK, hi, hA, hR, hc1, hc2, hStr⟩ := C
  exact fun ls H locs h1 h2 h3 => lv_l2i hx hb hd rfl (k ls H locs h1 h2 h3)
theorem j_i2b {x : Int32} (C : jC Γ nL cc own rm) (hd : decode cc pc = .ok (.i2b, 1)) (hp : pc + 1 = pc')  (k : jJ Γ nL pc' lv (.int x.toInt8.toInt32 :: st) μ) : jJ Γ nL pc lv (.int x :: st) μ := by
  subst hp
  obtain ⟨p, l, e, R, s, m, args, below, meth, c, D, ad, cl, Q, cells, slots, A⟩ := Γ
  obtain ⟨hx, hb, hml, hown, hts, hK, hi, hA, hR, hc1, hc2, hStr⟩ := C
  exact fun ls H locs h1 h2 h3 => lv_i2b hx hb hd rfl (k ls H locs h1 h2 h3)
theorem j_i2s {x : Int32} (C : jC Γ nL cc own rm) (hd : decode cc pc = .ok (.i2s, 1)) (hp : pc + 1 = pc')  (k : jJ Γ nL pc' lv (.int x.toInt16.toInt32 :: st) μ) : jJ Γ nL pc lv (.int x :: st) μ := by
  subst hp
  obtain ⟨p, l, e, R, s, m, args, below, meth, c, D, ad, cl, Q, cells, slots, A⟩ := Γ
  obtain ⟨hx, hb, hml, hown, hts, hK, hi, hA, hR, hc1, hc2, hStr⟩ := C
  exact fun ls H locs h1 h2 h3 => lv_i2s hx hb hd rfl (k ls H locs h1 h2 h3)
theorem j_i2c {x : Int32} (C : jC Γ nL cc own rm) (hd : decode cc pc = .ok (.i2c, 1)) (hp : pc + 1 = pc')  (k : jJ Γ nL pc' lv (.int (x.toUInt32 % 65536).toInt32 :: st) μ) : jJ Γ nL pc lv (.int x :: st) μ := by
  subst hp
  obtain ⟨p, l, e, R, s, m, args, below, meth, c, D, ad, cl, Q, cells, slots, A⟩ := Γ
  obtain ⟨hx, hb, hml, hown, hts, hK, hi, hA, hR, hc1, hc2, hStr⟩ := C
  exact fun ls H locs h1 h2 h3 => lv_i2c hx hb hd rfl (k ls H locs h1 h2 h3)
theorem j_dup {v : Value} (C : jC Γ nL cc own rm) (hd : decode cc pc = .ok (.dup, 1)) (hp : pc + 1 = pc') (hv : v.category = 1) (k : jJ Γ nL pc' lv (v :: v :: st) μ) : jJ Γ nL pc lv (v :: st) μ := by
  subst hp
  obtain ⟨p, l, e, R, s, m, args, below, meth, c, D, ad, cl, Q, cells, slots, A⟩ := Γ
  obtain ⟨hx, hb, hml, hown, hts, hK, hi, hA, hR, hc1, hc2, hStr⟩ := C
  exact fun ls H locs h1 h2 h3 => lv_dup hx hb hd (by rw [jm_cat]; exact hv) (k ls H locs h1 h2 h3)
theorem j_pop {v : Value} (C : jC Γ nL cc own rm) (hd : decode cc pc = .ok (.pop, 1)) (hp : pc + 1 = pc') (hv : v.category = 1) (k : jJ Γ nL pc' lv st μ) : jJ Γ nL pc lv (v :: st) μ := by
  subst hp
  obtain ⟨p, l, e, R, s, m, args, below, meth, c, D, ad, cl, Q, cells, slots, A⟩ := Γ
  obtain ⟨hx, hb, hml, hown, hts, hK, hi, hA, hR, hc1, hc2, hStr⟩ := C
  exact fun ls H locs h1 h2 h3 => lv_pop hx hb hd (by rw [jm_cat]; exact hv) (k ls H locs h1 h2 h3)
theorem j_dup2 {v w : Value} (C : jC Γ nL cc own rm) (hd : decode cc pc = .ok (.dup2, 1)) (hp : pc + 1 = pc') (hv : v.category = 1) (hw : w.category = 1) (k : jJ Γ nL pc' lv (v :: w :: v :: w :: st) μ) : jJ Γ nL pc lv (v :: w :: st) μ := by
  subst hp
  obtain ⟨p, l, e, R, s, m, args, below, meth, c, D, ad, cl, Q, cells, slots, A⟩ := Γ
  obtain ⟨hx, hb, hml, hown, hts, hK, hi, hA, hR, hc1, hc2, hStr⟩ := C
  exact fun ls H locs h1 h2 h3 => lv_dup2_11 hx hb hd (by rw [jm_cat]; exact hv) (by rw [jm_cat]; exact hw) (k ls H locs h1 h2 h3)
theorem j_if_eq {x : Int32} {off : Int} {tgt : Nat} (C : jC Γ nL cc own rm) (hd : decode cc pc = .ok (.ifCond .eq off, 3)) (hp : pc + 3 = pc') (ht : (pc : Int) + off = (tgt : Int)) (kt : x = 0 → jJ Γ nL tgt lv st μ) (kf : ¬ x = 0 → jJ Γ nL pc' lv st μ) : jJ Γ nL pc lv (.int x :: st) μ := by
  subst hp
  obtain ⟨p, l, e, R, s, m, args, below, meth, c, D, ad, cl, Q, cells, slots, A⟩ := Γ
  obtain ⟨hx, hb, hml, hown, hts, hK, hi, hA, hR, hc1, hc2, hStr⟩ := C
  exact fun ls H locs h1 h2 h3 => lv_if_eq hx hb hd ht (fun q => kt q ls H locs h1 h2 h3) (fun q => kf q ls H locs h1 h2 h3)
theorem j_icmp_eq {x y : Int32} {off : Int} {tgt : Nat} (C : jC Γ nL cc own rm) (hd : decode cc pc = .ok (.if_icmp .eq off, 3)) (hp : pc + 3 = pc') (ht : (pc : Int) + off = (tgt : Int)) (kt : x = y → jJ Γ nL tgt lv st μ) (kf : ¬ x = y → jJ Γ nL pc' lv st μ) : jJ Γ nL pc lv (.int y :: .int x :: st) μ := by
  subst hp
  obtain ⟨p, l, e, R, s, m, args, below, meth, c, D, ad, cl, Q, cells, slots, A⟩ := Γ
  obtain ⟨hx, hb, hml, hown, hts, hK, hi, hA, hR, hc1, hc2, hStr⟩ := C
  exact fun ls H locs h1 h2 h3 => lv_icmp_eq hx hb hd ht (fun q => kt q ls H locs h1 h2 h3) (fun q => kf q ls H locs h1 h2 h3)
theorem j_if_ne {x : Int32} {off : Int} {tgt : Nat} (C : jC Γ nL cc own rm) (hd : decode cc pc = .ok (.ifCond .ne off, 3)) (hp : pc + 3 = pc') (ht : (pc : Int) + off = (tgt : Int)) (kt : ¬ x = 0 → jJ Γ nL tgt lv st μ) (kf : x = 0 → jJ Γ nL pc' lv st μ) : jJ Γ nL pc lv (.int x :: st) μ := by
  subst hp
  obtain ⟨p, l, e, R, s, m, args, below, meth, c, D, ad, cl, Q, cells, slots, A⟩ := Γ
  obtain ⟨hx, hb, hml, hown, hts, hK, hi, hA, hR, hc1, hc2, hStr⟩ := C
  exact fun ls H locs h1 h2 h3 => lv_if_ne hx hb hd ht (fun q => kt q ls H locs h1 h2 h3) (fun q => kf q ls H locs h1 h2 h3)
theorem j_icmp_ne {x y : Int32} {off : Int} {tgt : Nat} (C : jC Γ nL cc own rm) (hd : decode cc pc = .ok (.if_icmp .ne off, 3)) (hp : pc + 3 = pc') (ht : (pc : Int) + off = (tgt : Int)) (kt : ¬ x = y → jJ Γ nL tgt lv st μ) (kf : x = y → jJ Γ nL pc' lv st μ) : jJ Γ nL pc lv (.int y :: .int x :: st) μ := by
  subst hp
  obtain ⟨p, l, e, R, s, m, args, below, meth, c, D, ad, cl, Q, cells, slots, A⟩ := Γ
  obtain ⟨hx, hb, hml, hown, hts, hK, hi, hA, hR, hc1, hc2, hStr⟩ := C
  exact fun ls H locs h1 h2 h3 => lv_icmp_ne hx hb hd ht (fun q => kt q ls H locs h1 h2 h3) (fun q => kf q ls H locs h1 h2 h3)
theorem j_if_lt {x : Int32} {off : Int} {tgt : Nat} (C : jC Γ nL cc own rm) (hd : decode cc pc = .ok (.ifCond .lt off, 3)) (hp : pc + 3 = pc') (ht : (pc : Int) + off = (tgt : Int)) (kt : x < 0 → jJ Γ nL tgt lv st μ) (kf : ¬ x < 0 → jJ Γ nL pc' lv st μ) : jJ Γ nL pc lv (.int x :: st) μ := by
  subst hp
  obtain ⟨p, l, e, R, s, m, args, below, meth, c, D, ad, cl, Q, cells, slots, A⟩ := Γ
  obtain ⟨hx, hb, hml, hown, hts, hK, hi, hA, hR, hc1, hc2, hStr⟩ := C
  exact fun ls H locs h1 h2 h3 => lv_if_lt hx hb hd ht (fun q => kt q ls H locs h1 h2 h3) (fun q => kf q ls H locs h1 h2 h3)
theorem j_icmp_lt {x y : Int32} {off : Int} {tgt : Nat} (C : jC Γ nL cc own rm) (hd : decode cc pc = .ok (.if_icmp .lt off, 3)) (hp : pc + 3 = pc') (ht : (pc : Int) + off = (tgt : Int)) (kt : x < y → jJ Γ nL tgt lv st μ) (kf : ¬ x < y → jJ Γ nL pc' lv st μ) : jJ Γ nL pc lv (.int y :: .int x :: st) μ := by
  subst hp
  obtain ⟨p, l, e, R, s, m, args, below, meth, c, D, ad, cl, Q, cells, slots, A⟩ := Γ
  obtain ⟨hx, hb, hml, hown, hts, hK, hi, hA, hR, hc1, hc2, hStr⟩ := C
  exact fun ls H locs h1 h2 h3 => lv_icmp_lt hx hb hd ht (fun q => kt q ls H locs h1 h2 h3) (fun q => kf q ls H locs h1 h2 h3)
theorem j_if_ge {x : Int32} {off : Int} {tgt : Nat} (C : jC Γ nL cc own rm) (hd : decode cc pc = .ok (.ifCond .ge off, 3)) (hp : pc + 3 = pc') (ht : (pc : Int) + off = (tgt : Int)) (kt : 0 ≤ x → jJ Γ nL tgt lv st μ) (kf : ¬ 0 ≤ x → jJ Γ nL pc' lv st μ) : jJ Γ nL pc lv (.int x :: st) μ := by
  subst hp
  obtain ⟨p, l, e, R, s, m, args, below, meth, c, D, ad, cl, Q, cells, slots, A⟩ := Γ
  obtain ⟨hx, hb, hml, hown, hts, hK, hi, hA, hR, hc1, hc2, hStr⟩ := C
  exact fun ls H locs h1 h2 h3 => lv_if_ge hx hb hd ht (fun q => kt q ls H locs h1 h2 h3) (fun q => kf q ls H locs h1 h2 h3)
theorem j_icmp_ge {x y : Int32} {off : Int} {tgt : Nat} (C : jC Γ nL cc own rm) (hd : decode cc pc = .ok (.if_icmp .ge off, 3)) (hp : pc + 3 = pc') (ht : (pc : Int) + off = (tgt : Int)) (kt : y ≤ x → jJ Γ nL tgt lv st μ) (kf : ¬ y ≤ x → jJ Γ nL pc' lv st μ) : jJ Γ nL pc lv (.int y :: .int x :: st) μ := by
  subst hp
  obtain ⟨p, l, e, R, s, m, args, below, meth, c, D, ad, cl, Q, cells, slots, A⟩ := Γ
  obtain ⟨hx, hb, hml, hown, hts, hK, hi, hA, hR, hc1, hc2, hStr⟩ := C
  exact fun ls H locs h1 h2 h3 => lv_icmp_ge hx hb hd ht (fun q => kt q ls H locs h1 h2 h3) (fun q => kf q ls H locs h1 h2 h3)
theorem j_if_gt {x : Int32} {off : Int} {tgt : Nat} (C : jC Γ nL cc own rm) (hd : decode cc pc = .ok (.ifCond .gt off, 3)) (hp : pc + 3 = pc') (ht : (pc : Int) + off = (tgt : Int)) (kt : 0 < x → jJ Γ nL tgt lv st μ) (kf : ¬ 0 < x → jJ Γ nL pc' lv st μ) : jJ Γ nL pc lv (.int x :: st) μ := by
  subst hp
  obtain ⟨p, l, e, R, s, m, args, below, meth, c, D, ad, cl, Q, cells, slots, A⟩ := Γ
  obtain ⟨hx, hb, hml, hown, hts, hK, hi, hA, hR, hc1, hc2, hStr⟩ := C
  exact fun ls H locs h1 h2 h3 => lv_if_gt hx hb hd ht (fun q => kt q ls H locs h1 h2 h3) (fun q => kf q ls H locs h1 h2 h3)
theorem j_icmp_gt {x y : Int32} {off : Int} {tgt : Nat} (C : jC Γ nL cc own rm) (hd : decode cc pc = .ok (.if_icmp .gt off, 3)) (hp : pc + 3 = pc') (ht : (pc : Int) + off = (tgt : Int)) (kt : y < x → jJ Γ nL tgt lv st μ) (kf : ¬ y < x → jJ Γ nL pc' lv st μ) : jJ Γ nL pc lv (.int y :: .int x :: st) μ := by
  subst hp
  obtain ⟨p, l, e, R, s, m, args, below, meth, c, D, ad, cl, Q, cells, slots, A⟩ := Γ
  obtain ⟨hx, hb, hml, hown, hts, hK, hi, hA, hR, hc1, hc2, hStr⟩ := C
  exact fun ls H locs h1 h2 h3 => lv_icmp_gt hx hb hd ht (fun q => kt q ls H locs h1 h2 h3) (fun q => kf q ls H locs h1 h2 h3)
theorem j_if_le {x : Int32} {off : Int} {tgt : Nat} (C : jC Γ nL cc own rm) (hd : decode cc pc = .ok (.ifCond .le off, 3)) (hp : pc + 3 = pc') (ht : (pc : Int) + off = (tgt : Int)) (kt : x ≤ 0 → jJ Γ nL tgt lv st μ) (kf : ¬ x ≤ 0 → jJ Γ nL pc' lv st μ) : jJ Γ nL pc lv (.int x :: st) μ := by
  subst hp
  obtain ⟨p, l, e, R, s, m, args, below, meth, c, D, ad, cl, Q, cells, slots, A⟩ := Γ
  obtain ⟨hx, hb, hml, hown, hts, hK, hi, hA, hR, hc1, hc2, hStr⟩ := C
  exact fun ls H locs h1 h2 h3 => lv_if_le hx hb hd ht (fun q => kt q ls H locs h1 h2 h3) (fun q => kf q ls H locs h1 h2 h3)
theorem j_icmp_le {x y : Int32} {off : Int} {tgt : Nat} (C : jC Γ nL cc own rm) (hd : decode cc pc = .ok (.if_icmp .le off, 3)) (hp : pc + 3 = pc') (ht : (pc : Int) + off = (tgt : Int)) (kt : x ≤ y → jJ Γ nL tgt lv st μ) (kf : ¬ x ≤ y → jJ Γ nL pc' lv st μ) : jJ Γ nL pc lv (.int y :: .int x :: st) μ := by
  subst hp
  obtain ⟨p, l, e, R, s, m, args, below, meth, c, D, ad, cl, Q, cells, slots, A⟩ := Γ
  obtain ⟨hx, hb, hml, hown, hts, hK, hi, hA, hR, hc1, hc2, hStr⟩ := C
  exact fun ls H locs h1 h2 h3 => lv_icmp_le hx hb hd ht (fun q => kt q ls H locs h1 h2 h3) (fun q => kf q ls H locs h1 h2 h3)
theorem j_goto {off : Int} (C : jC Γ nL cc own rm) (hd : decode cc pc = .ok (.goto off, 3)) (ht : (pc : Int) + off = (pc' : Int)) (k : jJ Γ nL pc' lv st μ) : jJ Γ nL pc lv st μ := by
  obtain ⟨p, l, e, R, s, m, args, below, meth, c, D, ad, cl, Q, cells, slots, A⟩ := Γ
  obtain ⟨hx, hb, hml, hown, hts, hK, hi, hA, hR, hc1, hc2, hStr⟩ := C
  exact fun ls H locs h1 h2 h3 => lv_goto hx hb hd ht (k ls H locs h1 h2 h3)
theorem j_ifnull {off : Int} {tgt : Nat} {x : Int32} (C : jC Γ nL cc own rm) (hd : decode cc pc = .ok (.ifnull off, 3)) (hp : pc + 3 = pc') (ht : (pc : Int) + off = (tgt : Int)) (kt : x = 0 → jJ Γ nL tgt lv st μ) (kf : ¬ x = 0 → jJ Γ nL pc' lv st μ) : jJ Γ nL pc lv ((if x = 0 then .null else .ref x.toNatClampNeg) :: st) μ := by
  subst hp
  obtain ⟨p, l, e, R, s, m, args, below, meth, c, D, ad, cl, Q, cells, slots, A⟩ := Γ
  obtain ⟨hx, hb, hml, hown, hts, hK, hi, hA, hR, hc1, hc2, hStr⟩ := C
  intro ls H locs h1 h2 h3
  by_cases h : x = 0
  · rw [if_pos h]
    exact lv_ifnullN hx hb hd ht (kt h ls H locs h1 h2 h3)
  · rw [if_neg h]
    exact lv_ifnull hx hb hd (kf h ls H locs h1 h2 h3)
theorem j_tabOut {dflt lo hi : Int} {offs : Array Int} {len tgt : Nat} {x : Int32} (C : jC Γ nL cc own rm) (hd : decode cc pc = .ok (.tableswitch dflt lo hi offs, len)) (h : x.toInt < lo ∨ hi < x.toInt) (ht : (pc : Int) + dflt = (tgt : Int)) (k : jJ Γ nL tgt lv st μ) : jJ Γ nL pc lv (.int x :: st) μ := by
  obtain ⟨p, l, e, R, s, m, args, below, meth, c, D, ad, cl, Q, cells, slots, A⟩ := Γ
  obtain ⟨hx, hb, hml, hown, hts, hK, hi, hA, hR, hc1, hc2, hStr⟩ := C
  exact fun ls H locs h1 h2 h3 => lv_tableOut hx hb hd h ht (k ls H locs h1 h2 h3)
theorem j_tabIn {dflt lo hi off : Int} {offs : Array Int} {len tgt : Nat} {x : Int32} (C : jC Γ nL cc own rm) (hd : decode cc pc = .ok (.tableswitch dflt lo hi offs, len)) (g1 : ¬ x.toInt < lo) (g2 : ¬ hi < x.toInt) (ho : offs[(x.toInt - lo).toNat]? = some off) (ht : (pc : Int) + off = (tgt : Int)) (k : jJ Γ nL tgt lv st μ) : jJ Γ nL pc lv (.int x :: st) μ := by
  obtain ⟨p, l, e, R, s, m, args, below, meth, c, D, ad, cl, Q, cells, slots, A⟩ := Γ
  obtain ⟨hx, hb, hml, hown, hts, hK, hi, hA, hR, hc1, hc2, hStr⟩ := C
  exact fun ls H locs h1 h2 h3 => lv_tableIn hx hb hd g1 g2 ho ht (k ls H locs h1 h2 h3)
theorem j_lookup {dflt : Int} {ps : Array (Int × Int)} {len tgt : Nat} {x : Int32} {off : Int} (C : jC Γ nL cc own rm) (hd : decode cc pc = .ok (.lookupswitch dflt ps, len)) (hq : (ps.toList.zip (ps.toList.drop 1)).all (fun (a, next) => a.1 < next.1) = true) (ho : Op.lookupswitch.offset ps.toList dflt x.toInt = off) (ht : (pc : Int) + off = (tgt : Int)) (k : jJ Γ nL tgt lv st μ) : jJ Γ nL pc lv (.int x :: st) μ := by
  obtain ⟨p, l, e, R, s, m, args, below, meth, c, D, ad, cl, Q, cells, slots, A⟩ := Γ
  obtain ⟨hx, hb, hml, hown, hts, hK, hi, hA, hR, hc1, hc2, hStr⟩ := C
  exact fun ls H locs h1 h2 h3 => lv_lookup hx hb hd hq ho ht (k ls H locs h1 h2 h3)
theorem j_get {index k ci j : Nat} {fl : List (Nat × Nat)} {cj : Nat × Nat} {v : Value} (C : jC Γ nL cc own rm) (hd : decode cc pc = .ok (.getfield index, 3)) (hp : pc + 3 = pc') (hf : jm_fl own index ci j) (hs : jm_is k (.inr (ci, fl))) (hj : fl[j]? = some cj) (hv : jm_fv (jgad Γ) (μ.1 k j) cj = jm_cv (jgad Γ) v) (kk : jJ Γ nL pc' lv (v :: st) μ) : jJ Γ nL pc lv (.ref k :: st) μ := by
  subst hp
  obtain ⟨p, l, e, R, s, m, args, below, meth, c, D, ad, cl, Q, cells, slots, A⟩ := Γ
  obtain ⟨hx, hb, hml, hown, hts, hK, hi, hA, hR, hc1, hc2, hStr⟩ := C
  obtain ⟨CC, T, N, f1, f2, f3, f4⟩ := hf
  have hv : jm_fv ad (μ.1 k j) cj = jm_cv ad v := hv
  exact fun ls H locs h1 h2 h3 => va_get (D := D) (ci := ci) hx hb hts f2 hown hK h2 k hs.at f1 j f3 (hts _ f4) (fun _ h9 => h9) ((jm_fs_at hj).trans (congrArg some hv)) hd (kk ls H locs h1 h2 h3)
theorem j_getI {index k ci j z : Nat} {fl : List (Nat × Nat)} (C : jC Γ nL cc own rm) (hd : decode cc pc = .ok (.getfield index, 3)) (hp : pc + 3 = pc') (hf : jm_fl own index ci j) (hs : jm_is k (.inr (ci, fl))) (hj : fl[j]? = some (0, z)) (kk : jJ Γ nL pc' lv (.int (μ.1 k j) :: st) μ) : jJ Γ nL pc lv (.ref k :: st) μ := j_get C hd hp hf hs hj rfl kk
theorem j_getR {index k ci j c : Nat} {fl : List (Nat × Nat)} (C : jC Γ nL cc own rm) (hd : decode cc pc = .ok (.getfield index, 3)) (hp : pc + 3 = pc') (hf : jm_fl own index ci j) (hs : jm_is k (.inr (ci, fl))) (hj : fl[j]? = some (2, c)) (kk : jJ Γ nL pc' lv (.ref c :: st) μ) : jJ Γ nL pc lv (.ref k :: st) μ := j_get C hd hp hf hs hj rfl kk
theorem j_getD {index k ci j c : Nat} {fl : List (Nat × Nat)} (C : jC Γ nL cc own rm) (hd : decode cc pc = .ok (.getfield index, 3)) (hp : pc + 3 = pc') (hf : jm_fl own index ci j) (hs : jm_is k (.inr (ci, fl))) (hj : fl[j]? = some (1, c)) (kk : jJ Γ nL pc' lv ((if μ.1 k j = 0 then .null else .ref (μ.1 k j).toNatClampNeg) :: st) μ) : jJ Γ nL pc lv (.ref k :: st) μ := by
  refine j_get C hd hp hf hs hj (v := if μ.1 k j = 0 then .null else .ref (μ.1 k j).toNatClampNeg) ?_ kk
  show (if μ.1 k j = 0 then Value.null else .ref (jgad Γ (μ.1 k j).toNatClampNeg)) = _
  by_cases h : μ.1 k j = 0
  · rw [if_pos h, if_pos h]; rfl
  · rw [if_neg h, if_neg h]; rfl
theorem j_putV {index k ci j : Nat} {fl : List (Nat × Nat)} {cj : Nat × Nat} {ty : FieldType} {v : Value} {x : Int32} (C : jC Γ nL cc own rm) (hd : decode cc pc = .ok (.putfield index, 3)) (hp : pc + 3 = pc') (hf : jm_fp own index ci j ty) (hs : jm_is k (.inr (ci, fl))) (hj : fl[j]? = some cj) (hv : jm_fv (jgad Γ) x cj = jm_cv (jgad Γ) v) (hn : narrow ty (jm_cv (jgad Γ) v) = jm_cv (jgad Γ) v) (hfit : fits ty (jm_cv (jgad Γ) v) = true) (kk : jJ Γ nL pc' lv st (sI μ k j x)) : jJ Γ nL pc lv (v :: .ref k :: st) μ := by
  subst hp
  obtain ⟨p, l, e, R, s, m, args, below, meth, c, D, ad, cl, Q, cells, slots, A⟩ := Γ
  obtain ⟨hx, hb, hml, hown, hts, hK, hi, hA, hR, hc1, hc2, hStr⟩ := C
  obtain ⟨CC, T, N, ty0, f1, f2, f3, f4, f5, f6, f7, f8⟩ := hf
  have hv : jm_fv ad x cj = jm_cv ad v := hv
  have hn : narrow ty (jm_cv ad v) = jm_cv ad v := hn
  have hfit : fits ty (jm_cv ad v) = true := hfit
  intro ls H locs h1 h2 h3
  refine va_put (D := D) (ci := ci) (ty := ty) hx hb hts f2 ty0 f5 f6 hown hK h2 (jm_D hi hA) h3 k hs.at f1 j f3 (hts _ f4) (fun _ h9 => h9) f7 f8 hn hfit ?_ hd (fun H1 locs1 g1 _ g3 => ?_)
  · rw [jm_fs_len]; exact (List.getElem?_eq_some_iff.mp hj).1
  · refine kk ls H1 locs1 h1 ?_ g3
    have e : (jm_W ad cl μ).set k (ad k, .inr (ci, (jm_fs ad (μ.1 k) fl).set j (jm_cv ad v))) = jm_W ad cl (sI μ k j x) := by
      refine jm_set jm_cell_sA ?_
      show jm_cell ad cl (sA μ k (upd (μ.1 k) j x)) k = _
      rw [jm_cell_sAk, hs.2, ← hv, jm_fs_set hj]
      rfl
    rw [← e]
    exact g1
theorem j_putI {index k ci j z : Nat} {fl : List (Nat × Nat)} {x : Int32} (C : jC Γ nL cc own rm) (hd : decode cc pc = .ok (.putfield index, 3)) (hp : pc + 3 = pc') (hf : jm_fp own index ci j .int) (hs : jm_is k (.inr (ci, fl))) (hj : fl[j]? = some (0, z)) (kk : jJ Γ nL pc' lv st (sI μ k j x)) : jJ Γ nL pc lv (.int x :: .ref k :: st) μ := j_putV C hd hp hf hs hj rfl rfl rfl kk
theorem j_putZ {index k ci j z : Nat} {fl : List (Nat × Nat)} {x : Int32} (C : jC Γ nL cc own rm) (hd : decode cc pc = .ok (.putfield index, 3)) (hp : pc + 3 = pc') (hf : jm_fp own index ci j .boolean) (hs : jm_is k (.inr (ci, fl))) (hj : fl[j]? = some (0, z)) (hB : isB x = true) (kk : jJ Γ nL pc' lv st (sI μ k j x)) : jJ Γ nL pc lv (.int x :: .ref k :: st) μ := j_putV C hd hp hf hs hj rfl (isB_n hB) (isB_f hB) kk
theorem j_putD {index k ci j z q : Nat} {fl : List (Nat × Nat)} {ty : FieldType} (C : jC Γ nL cc own rm) (hd : decode cc pc = .ok (.putfield index, 3)) (hp : pc + 3 = pc') (hf : jm_fp own index ci j (.array ty)) (hs : jm_is k (.inr (ci, fl))) (hj : fl[j]? = some (1, z)) (h0 : 0 < q) (h1 : q < 125) (kk : jJ Γ nL pc' lv st (sI μ k j (nI q))) : jJ Γ nL pc lv (.ref q :: .ref k :: st) μ := by
  refine j_putV C hd hp hf hs hj ?_ rfl rfl kk
  show (if nI q = 0 then Value.null else .ref (jgad Γ (nI q).toNatClampNeg)) = .ref (jgad Γ q)
  rw [if_neg (nI_ne0 h0 (by omega)), nI_clamp (by omega)]
theorem j_iald {k n z : Nat} {i : Int32} (C : jC Γ nL cc own rm) (hd : decode cc pc = .ok (.iaload, 1)) (hp : pc + 1 = pc') (hs : jm_is k (.inl (0, n, z))) (hin : inb i n = true) (kk : jJ Γ nL pc' lv (.int (μ.1 k i.toNatClampNeg) :: st) μ) : jJ Γ nL pc lv (.int i :: .ref k :: st) μ := by
  subst hp
  obtain ⟨p, l, e, R, s, m, args, below, meth, c, D, ad, cl, Q, cells, slots, A⟩ := Γ
  obtain ⟨hx, hb, hml, hown, hts, hK, hi, hA, hR, hc1, hc2, hStr⟩ := C
  exact fun ls H locs h1 h2 h3 => va_iald hx hb hK h2 k 0 (cA := cl 0) (n := n) (f := μ.1 k) hs.at rfl (inb_e hin) hd (kk ls H locs h1 h2 h3)
theorem j_cald {k n z : Nat} {i : Int32} (C : jC Γ nL cc own rm) (hd : decode cc pc = .ok (.caload, 1)) (hp : pc + 1 = pc') (hs : jm_is k (.inl (1, n, z))) (hin : inb i n = true) (kk : jJ Γ nL pc' lv (.int (μ.1 k i.toNatClampNeg) :: st) μ) : jJ Γ nL pc lv (.int i :: .ref k :: st) μ := by
  subst hp
  obtain ⟨p, l, e, R, s, m, args, below, meth, c, D, ad, cl, Q, cells, slots, A⟩ := Γ
  obtain ⟨hx, hb, hml, hown, hts, hK, hi, hA, hR, hc1, hc2, hStr⟩ := C
  exact fun ls H locs h1 h2 h3 => va_cald hx hb hK h2 k 1 (cA := cl 1) (n := n) (f := μ.1 k) hs.at rfl (inb_e hin) hd (kk ls H locs h1 h2 h3)
theorem j_lald {k n z : Nat} {i : Int32} (C : jC Γ nL cc own rm) (hd : decode cc pc = .ok (.laload, 1)) (hp : pc + 1 = pc') (hs : jm_is k (.inl (2, n, z))) (hin : inb i n = true) (kk : jJ Γ nL pc' lv (.long (μ.2 k i.toNatClampNeg) :: st) μ) : jJ Γ nL pc lv (.int i :: .ref k :: st) μ := by
  subst hp
  obtain ⟨p, l, e, R, s, m, args, below, meth, c, D, ad, cl, Q, cells, slots, A⟩ := Γ
  obtain ⟨hx, hb, hml, hown, hts, hK, hi, hA, hR, hc1, hc2, hStr⟩ := C
  exact fun ls H locs h1 h2 h3 => va_lald hx hb hK h2 k 2 (cA := cl 2) (n := n) (f := μ.2 k) hs.at rfl (inb_e hin) hd (kk ls H locs h1 h2 h3)
theorem j_setA {D : va_G} {ad : Nat → Nat} {cl : Nat → ClassId} {k n z t : Nat} {f : Nat → Int32} {H : Heap} (ht : t = 0 ∨ t = 1) (hs : jm_is k (.inl (t, n, z))) (h : va_P D vwCl ((jm_W ad cl μ).set k (ad k, .inl (cl t, n, .inl f))) H) : va_P D vwCl (jm_W ad cl (sA μ k f)) H := by
  have e : (jm_W ad cl μ).set k (ad k, .inl (cl t, n, .inl f)) = jm_W ad cl (sA μ k f) := by
    refine jm_set jm_cell_sA ?_
    rw [jm_cell_sAk, hs.2]
    rcases ht with rfl | rfl <;> rfl
  rw [← e]
  exact h
theorem j_setB {D : va_G} {ad : Nat → Nat} {cl : Nat → ClassId} {k n z : Nat} {f : Nat → Int64} {H : Heap} (hs : jm_is k (.inl (2, n, z))) (h : va_P D vwCl ((jm_W ad cl μ).set k (ad k, .inl (cl 2, n, .inr (.inl f)))) H) : va_P D vwCl (jm_W ad cl (sB μ k f)) H := by
  have e : (jm_W ad cl μ).set k (ad k, .inl (cl 2, n, .inr (.inl f))) = jm_W ad cl (sB μ k f) := by
    refine jm_set jm_cell_sB ?_
    rw [jm_cell_sBk, hs.2]
    rfl
  rw [← e]
  exact h
theorem j_iast {k n z : Nat} {i x : Int32} (C : jC Γ nL cc own rm) (hd : decode cc pc = .ok (.iastore, 1)) (hp : pc + 1 = pc') (hs : jm_is k (.inl (0, n, z))) (hin : inb i n = true) (kk : jJ Γ nL pc' lv st (sI μ k i.toNatClampNeg x)) : jJ Γ nL pc lv (.int x :: .int i :: .ref k :: st) μ := by
  subst hp
  obtain ⟨p, l, e, R, s, m, args, below, meth, c, D, ad, cl, Q, cells, slots, A⟩ := Γ
  obtain ⟨hx, hb, hml, hown, hts, hK, hi, hA, hR, hc1, hc2, hStr⟩ := C
  exact fun ls H locs h1 h2 h3 => va_iast hx hb hK h2 (jm_D hi hA) h3 k 0 (cA := cl 0) (n := n) (f := μ.1 k) hs.at rfl (inb_e hin) hd (fun H1 locs1 g1 _ g3 => kk ls H1 locs1 h1 (j_setA (Or.inl rfl) hs g1) g3)
theorem j_cast {k n z : Nat} {i x : Int32} (C : jC Γ nL cc own rm) (hd : decode cc pc = .ok (.castore, 1)) (hp : pc + 1 = pc') (hs : jm_is k (.inl (1, n, z))) (hin : inb i n = true) (kk : jJ Γ nL pc' lv st (sI μ k i.toNatClampNeg (vp_nar .char x))) : jJ Γ nL pc lv (.int x :: .int i :: .ref k :: st) μ := by
  subst hp
  obtain ⟨p, l, e, R, s, m, args, below, meth, c, D, ad, cl, Q, cells, slots, A⟩ := Γ
  obtain ⟨hx, hb, hml, hown, hts, hK, hi, hA, hR, hc1, hc2, hStr⟩ := C
  exact fun ls H locs h1 h2 h3 => va_cast hx hb hK h2 (jm_D hi hA) h3 k 1 (cA := cl 1) (n := n) (f := μ.1 k) hs.at rfl (inb_e hin) hd (fun H1 locs1 g1 _ g3 => kk ls H1 locs1 h1 (j_setA (Or.inr rfl) hs g1) g3)
theorem j_last {k n z : Nat} {i : Int32} {x : Int64} (C : jC Γ nL cc own rm) (hd : decode cc pc = .ok (.lastore, 1)) (hp : pc + 1 = pc') (hs : jm_is k (.inl (2, n, z))) (hin : inb i n = true) (kk : jJ Γ nL pc' lv st (sL μ k i.toNatClampNeg x)) : jJ Γ nL pc lv (.long x :: .int i :: .ref k :: st) μ := by
  subst hp
  obtain ⟨p, l, e, R, s, m, args, below, meth, c, D, ad, cl, Q, cells, slots, A⟩ := Γ
  obtain ⟨hx, hb, hml, hown, hts, hK, hi, hA, hR, hc1, hc2, hStr⟩ := C
  exact fun ls H locs h1 h2 h3 => va_last hx hb hK h2 (jm_D hi hA) h3 k 2 (cA := cl 2) (n := n) (f := μ.2 k) hs.at rfl (inb_e hin) hd (fun H1 locs1 g1 _ g3 => kk ls H1 locs1 h1 (j_setB hs g1) g3)
theorem j_alen {k n z t : Nat} {v : Int32} (C : jC Γ nL cc own rm) (hd : decode cc pc = .ok (.arraylength, 1)) (hp : pc + 1 = pc') (ht : t = 0 ∨ t = 2) (hs : jm_is k (.inl (t, n, z))) (hv : Int32.ofNat n = v) (kk : jJ Γ nL pc' lv (.int v :: st) μ) : jJ Γ nL pc lv (.ref k :: st) μ := by
  subst hp
  obtain ⟨p, l, e, R, s, m, args, below, meth, c, D, ad, cl, Q, cells, slots, A⟩ := Γ
  obtain ⟨hx, hb, hml, hown, hts, hK, hi, hA, hR, hc1, hc2, hStr⟩ := C
  rcases ht with rfl | rfl
  · exact fun ls H locs h1 h2 h3 => va_alen hx hb hK h2 k 0 (cA := cl 0) (x := (n, .inl (μ.1 k))) hs.at (ty := .int) rfl hv hd (kk ls H locs h1 h2 h3)
  · exact fun ls H locs h1 h2 h3 => va_alen hx hb hK h2 k 2 (cA := cl 2) (x := (n, .inr (.inl (μ.2 k)))) hs.at (ty := .long) rfl hv hd (kk ls H locs h1 h2 h3)
theorem j_aald {k n c0 t : Nat} {i : Int32} (C : jC Γ nL cc own rm) (hd : decode cc pc = .ok (.aaload, 1)) (hp : pc + 1 = pc') (ht : t = 3 ∨ t = 4) (hs : jm_is k (.inl (t, n, c0))) (hin : inb i n = true) (kk : jJ Γ nL pc' lv (.ref (c0 + i.toNatClampNeg) :: st) μ) : jJ Γ nL pc lv (.int i :: .ref k :: st) μ := by
  subst hp
  obtain ⟨p, l, e, R, s, m, args, below, meth, c, D, ad, cl, Q, cells, slots, A⟩ := Γ
  obtain ⟨hx, hb, hml, hown, hts, hK, hi, hA, hR, hc1, hc2, hStr⟩ := C
  have hq := inb_e hin
  have hlt : i.toNatClampNeg < n := Nat.not_le.mp fun q => hq (Or.inr q)
  intro ls H locs h1 h2 h3
  have kk := kk ls H locs h1 h2 h3
  obtain ⟨ty, hty, hr⟩ : ∃ ty : FieldType, (jm_T cl)[t]? = some (cl t, ty) ∧ ty.isReference = true := by
    rcases ht with rfl | rfl
    · exact ⟨_, rfl, rfl⟩
    · exact ⟨_, rfl, rfl⟩
  have hcell : (jm_W ad cl μ)[k]? = some (ad k, .inl (cl t, n, .inr (.inr (.inr (.inr (fun i => if i < n then some (ad (c0 + i)) else none)))))) := by
    rw [hs.at]
    rcases ht with rfl | rfl <;> rfl
  have e : va_rf (if i.toNatClampNeg < n then some (ad (c0 + i.toNatClampNeg)) else none) = .ref (ad (c0 + i.toNatClampNeg)) := by rw [if_pos hlt]; rfl
  exact W.aald (v := .ref (ad (c0 + i.toNatClampNeg))) (ty := ty) hx hb (h2 k _ hcell) ((hK.2 t _ hty).1 n (fun j => va_rf (if j < n then some (ad (c0 + j)) else none))) hr (fun q => by cases q) (by show ¬ (i < 0 ∨ (arrV _ _ _).slots.size ≤ _); rw [arrV_size]; exact hq) (by show (arrV _ _ _).slots[_]? = _; rw [arrV_read _ _ hlt, e]) rfl rfl hd kk
theorem j_ldcS {index : Nat} (i : Nat) (C : jC Γ nL cc "NineLamps$Tape" rm) (hd : decode cc pc = .ok (.ldc index, 2)) (hp : pc + 2 = pc') (hi6 : i < 6) (hx6 : sk_ix.getD i 0 = index) (kk : jJ Γ nL pc' lv (.ref (1000 + i) :: st) μ) : jJ Γ nL pc lv st μ := by
  subst hp
  obtain ⟨p, l, e, R, s, m, args, below, meth, c, D, ad, cl, Q, cells, slots, A⟩ := Γ
  obtain ⟨hx, hb, hml, hown, hts, hK, hi, hA, hR, hc1, hc2, hStr⟩ := C
  subst hx6
  exact fun ls H locs h1 h2 h3 => va_ldcS hx hb hown (hStr.2.1 i hi6) hd (kk ls H locs h1 h2 h3)
theorem j_getC {index i : Nat} (C : jC Γ nL cc own rm) (hd : decode cc pc = .ok (.getfield index, 3)) (hp : pc + 3 = pc') (hl : Cond.fieldLink own index "java/lang/String" "coder" "B" ∈ G0) (hi6 : i < 6) (kk : jJ Γ nL pc' lv (.int 0 :: st) μ) : jJ Γ nL pc lv (.ref (1000 + i) :: st) μ := by
  subst hp
  obtain ⟨p, l, e, R, s, m, args, below, meth, c, D, ad, cl, Q, cells, slots, A⟩ := Γ
  obtain ⟨hx, hb, hml, hown, hts, hK, hi, hA, hR, hc1, hc2, hStr⟩ := C
  exact fun ls H locs h1 h2 h3 => vk_getf hx hb (hStr.1.1 i hi6).2.1 h3 hown (hts _ hl) (fun _ h9 => h9) hd (kk ls H locs h1 h2 h3)
theorem j_getB {index i : Nat} (C : jC Γ nL cc own rm) (hd : decode cc pc = .ok (.getfield index, 3)) (hp : pc + 3 = pc') (hl : Cond.fieldLink own index "java/lang/String" "value" "[B" ∈ G0) (hi6 : i < 6) (kk : jJ Γ nL pc' lv (.ref (2000 + i) :: st) μ) : jJ Γ nL pc lv (.ref (1000 + i) :: st) μ := by
  subst hp
  obtain ⟨p, l, e, R, s, m, args, below, meth, c, D, ad, cl, Q, cells, slots, A⟩ := Γ
  obtain ⟨hx, hb, hml, hown, hts, hK, hi, hA, hR, hc1, hc2, hStr⟩ := C
  exact fun ls H locs h1 h2 h3 => vk_getf hx hb (hStr.1.1 i hi6).2.2.1 h3 hown (hts _ hl) (fun _ h9 => h9) hd (kk ls H locs h1 h2 h3)
theorem j_getsC {index : Nat} (C : jC Γ nL cc own rm) (hd : decode cc pc = .ok (.getstatic index, 3)) (hp : pc + 3 = pc') (hl : Cond.fieldLink own index "java/lang/String" "COMPACT_STRINGS" "Z" ∈ G0) (kk : jJ Γ nL pc' lv (.int 1 :: st) μ) : jJ Γ nL pc lv st μ := by
  subst hp
  obtain ⟨p, l, e, R, s, m, args, below, meth, c, D, ad, cl, Q, cells, slots, A⟩ := Γ
  obtain ⟨hx, hb, hml, hown, hts, hK, hi, hA, hR, hc1, hc2, hStr⟩ := C
  exact fun ls H locs h1 h2 h3 => va_gets hx hb hStr.2.2 h3 hown (hts _ hl) (fun _ h9 => h9) hd (kk ls H locs h1 h2 h3)
theorem j_bald {i : Nat} {x : Int32} (C : jC Γ nL cc own rm) (hd : decode cc pc = .ok (.baload, 1)) (hp : pc + 1 = pc') (hi6 : i < 6) (hin : inb x (sk_len.getD i 0) = true) (kk : jJ Γ nL pc' lv (.int ((sk_byt.getD i []).getD x.toNatClampNeg 0) :: st) μ) : jJ Γ nL pc lv (.int x :: .ref (2000 + i) :: st) μ := by
  subst hp
  obtain ⟨p, l, e, R, s, m, args, below, meth, c, D, ad, cl, Q, cells, slots, A⟩ := Γ
  obtain ⟨hx, hb, hml, hown, hts, hK, hi, hA, hR, hc1, hc2, hStr⟩ := C
  exact fun ls H locs h1 h2 h3 => va_tb hx hb (hStr.1.1 i hi6).2.2.2 h3 (inb_e hin) rfl hd (kk ls H locs h1 h2 h3)
theorem j_blen {i : Nat} (C : jC Γ nL cc own rm) (hd : decode cc pc = .ok (.arraylength, 1)) (hp : pc + 1 = pc') (hi6 : i < 6) (kk : jJ Γ nL pc' lv (.int (Int32.ofNat (sk_len.getD i 0)) :: st) μ) : jJ Γ nL pc lv (.ref (2000 + i) :: st) μ := by
  subst hp
  obtain ⟨p, l, e, R, s, m, args, below, meth, c, D, ad, cl, Q, cells, slots, A⟩ := Γ
  obtain ⟨hx, hb, hml, hown, hts, hK, hi, hA, hR, hc1, hc2, hStr⟩ := C
  exact fun ls H locs h1 h2 h3 => va_tlen hx hb (hStr.1.1 i hi6).2.2.2 h3 rfl hd (kk ls H locs h1 h2 h3)
theorem j_iret {r : Int32} (E : jEI Γ cc r μ) (hd : decode cc pc = .ok (.ireturn, 1)) : jJ Γ nL pc lv [.int r] μ := by
  obtain ⟨p, l, e, R, s, m, args, below, meth, c, D, ad, cl, Q, cells, slots, A⟩ := Γ
  exact fun ls H locs h1 h2 h3 => E pc ls H locs hd h2 h3
theorem j_vret (E : jEV Γ cc μ) (hd : decode cc pc = .ok (.return_, 1)) : jJ Γ nL pc lv [] μ := by
  obtain ⟨p, l, e, R, s, m, args, below, meth, c, D, ad, cl, Q, cells, slots, A⟩ := Γ
  exact fun ls H locs h1 h2 h3 => E pc ls H locs hd h2 h3
theorem j_lret {r : Int64} (E : jEL Γ cc r μ) (hd : decode cc pc = .ok (.lreturn, 1)) : jJ Γ nL pc lv [.long r] μ := by
  obtain ⟨p, l, e, R, s, m, args, below, meth, c, D, ad, cl, Q, cells, slots, A⟩ := Γ
  exact fun ls H locs h1 h2 h3 => E pc ls H locs hd h2 h3
theorem j_aret {r : Nat} (E : jER Γ cc r μ) (hd : decode cc pc = .ok (.areturn, 1)) : jJ Γ nL pc lv [.ref r] μ := by
  obtain ⟨p, l, e, R, s, m, args, below, meth, c, D, ad, cl, Q, cells, slots, A⟩ := Γ
  exact fun ls H locs h1 h2 h3 => E pc ls H locs hd h2 h3
end JROWS
