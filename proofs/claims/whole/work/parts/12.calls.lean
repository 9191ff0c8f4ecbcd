/-! CONTRACTS over the world, and calls -/
def jm_Pre (D : va_G) (ad : Nat → Nat) (cl : Nat → ClassId) (μ : Mem) : State → Prop := fun U => va_P D vwCl (jm_W ad cl μ) U.heap ∧ va_K D vwCl (jm_T cl) U ∧ jm_inj ad ∧ jm_Str ad (jm_R ad) U U.heap
def jm_Post (D : va_G) (ad : Nat → Nat) (cl : Nat → ClassId) (u : Mem) (t : State) : Prop := va_P D vwCl (jm_W ad cl u) t.heap
def CI (l : Launch) (D : va_G) (ad : Nat → Nat) (cl : Nat → ClassId) (y : MethodName) (ws : List Cond) (rm : Room) (av : List Value) (μ : Mem) (r : Int32) (μ' : Mem) : Prop := Met l y ws rm (va_Pc (av.map (jm_cv ad)) (jm_Pre D ad cl μ)) (va_Qi (fun r' (u : Mem) => r' = r ∧ u = μ') (jm_Post D ad cl) (jm_R ad)) 0 0 (jm_R ad)
def CL (l : Launch) (D : va_G) (ad : Nat → Nat) (cl : Nat → ClassId) (y : MethodName) (ws : List Cond) (rm : Room) (av : List Value) (μ : Mem) (r : Int64) (μ' : Mem) : Prop := Met l y ws rm (va_Pc (av.map (jm_cv ad)) (jm_Pre D ad cl μ)) (va_Ql (fun r' (u : Mem) => r' = r ∧ u = μ') (jm_Post D ad cl) (jm_R ad)) 0 0 (jm_R ad)
def CV (l : Launch) (D : va_G) (ad : Nat → Nat) (cl : Nat → ClassId) (y : MethodName) (ws : List Cond) (rm : Room) (av : List Value) (μ : Mem) (μ' : Mem) : Prop := Met l y ws rm (va_Pc (av.map (jm_cv ad)) (jm_Pre D ad cl μ)) (va_Qv (fun (u : Mem) => u = μ') (jm_Post D ad cl) (jm_R ad)) 0 0 (jm_R ad)
def CR (l : Launch) (D : va_G) (ad : Nat → Nat) (cl : Nat → ClassId) (y : MethodName) (ws : List Cond) (rm : Room) (av : List Value) (μ : Mem) (r : Nat) (μ' : Mem) : Prop := Met l y ws rm (va_Pc (av.map (jm_cv ad)) (jm_Pre D ad cl μ)) (va_Qr (fun (u : Mem) => u = μ') (fun u a t => a = ad r ∧ jm_Post D ad cl u t) (jm_R ad)) 0 0 (jm_R ad)
/-- what a call's words say: virtual (and private) calls, static ones -/
def jm_gv (own : String) (index : Nat) (CC : String) (y : MethodName) (ws : List Cond) (maxL n : Nat) : Prop := ∃ (bytes : ByteArray) (ret : Option FieldType), GoodIn G0 (wsV own index CC y ws) ∧ ws = Cond.code y bytes maxL ret :: G0 ∧ (y.cls = CC ∧ y.cls ≠ "java/lang/invoke/MethodHandle" ∧ y.cls ≠ "java/lang/invoke/VarHandle" ∧ (parseMethodDescriptor y.desc).map (fun d => d.parameters.length) = some n)
def jm_gs (own : String) (index : Nat) (y : MethodName) (ws : List Cond) (maxL n : Nat) : Prop := ∃ (bytes : ByteArray) (ret : Option FieldType), GoodIn G0 (va_wsS own index y ws) ∧ ws = Cond.code y bytes maxL ret :: G0 ∧ (y.cls ≠ "java/lang/invoke/MethodHandle" ∧ y.cls ≠ "java/lang/invoke/VarHandle" ∧ (parseMethodDescriptor y.desc).map (fun d => d.parameters.length) = some n)
def jm_rm (rm' rm : Room) (maxL : Nat) : Prop := (rm'.cells = 0 ∧ rm'.slots = 0) ∧ (rm'.frames + 1 ≤ rm.frames ∧ 8 + (maxL + 11) + rm'.locals ≤ rm.locals)
theorem gi_all {ws : List Cond} (h : ∀ w ∈ ws, w ∈ G0) : GoodIn G0 ws := fun w hw => ⟨h w hw, good_of_word (List.mem_filter.mp (h w hw)).2⟩
theorem gi_V {own CC : String} {index maxL : Nat} {y : MethodName} {bytes : ByteArray} {ret : Option FieldType} (h1 : Cond.methodLink own index y ∈ G0) (h2 : Cond.instanceMethod y ∈ G0) (h3 : Cond.selects CC y y ∈ G0) (h4 : Cond.initialized CC ∈ G0) (h5 : Cond.code y bytes maxL ret ∈ G0) : GoodIn G0 (wsV own index CC y (Cond.code y bytes maxL ret :: G0)) := gi_all (fun w hw => by
  unfold wsV at hw
  simp only [List.mem_append, List.mem_cons, List.not_mem_nil, or_false] at hw
  rcases hw with (rfl | rfl | rfl | rfl) | rfl | hw
  · exact h1
  · exact h2
  · exact h3
  · exact h4
  · exact h5
  · exact hw)
theorem gi_S {own : String} {index maxL : Nat} {y : MethodName} {bytes : ByteArray} {ret : Option FieldType} (h1 : Cond.methodLink own index y ∈ G0) (h2 : Cond.static y ∈ G0) (h4 : Cond.initialized y.cls ∈ G0) (h5 : Cond.code y bytes maxL ret ∈ G0) : GoodIn G0 (va_wsS own index y (Cond.code y bytes maxL ret :: G0)) := gi_all (fun w hw => by
  unfold va_wsS at hw
  simp only [List.mem_append, List.mem_cons, List.not_mem_nil, or_false] at hw
  rcases hw with (rfl | rfl | rfl) | rfl | hw
  · exact h1
  · exact h2
  · exact h4
  · exact h5
  · exact hw)
theorem jm_blind {av : List Value} {D : va_G} {ad : Nat → Nat} {cl : Nat → ClassId} {μ : Mem} : FrameBlind (va_Pc av (jm_Pre D ad cl μ)) := fun a U g mk q => by
  obtain ⟨q1, q2, q3, q4, q5⟩ := q
  exact ⟨q1, q2, va_K.moved (u := U) (U := U.calling g mk a) (Vm.Alike.refl U.vm) q3, q4, q5.same rfl⟩
theorem jm_catsum {ad : Nat → Nat} {rest : List Value} : ((rest.map (jm_cv ad)).map fun v => v.category) = rest.map fun v => v.category := by
  rw [List.map_map]
  exact List.map_congr_left (fun v _ => jm_cat)
theorem jm_Rsub {ad : Nat → Nat} {A : Nat → Prop} (hA : ∀ k, k < 125 → A (ad k)) : ∀ q, jm_R ad q → A q := fun q ⟨k, h, e⟩ => e ▸ hA k h
section JCALLS
variable {Γ : jG} {nL : Nat} {cc : ByteArray} {own : String} {rm rm' : Room} {pc pc' index n maxL : Nat} {lv : List (Nat × Value)} {st av rest : List Value} {μ μ' : Mem} {y : MethodName} {ws : List Cond} {CC : String}
theorem j_runV {Qc : Array Value → State → Outcome → State → Prop} {k ci N : Nat} {T : u_T} {fl : List (Nat × Nat)} {p : Program} {l : Launch} {e : Env} {R : Room} {s : State} {m : MethodId} {args : Array Value} {below : List Frame} {meth : Method} {c : Code} {D : va_G} {ad : Nat → Nat} {cl : Nat → ClassId} {cells slots : Nat} {ls : Array Slot} {H : Heap} {locs : List Loc} (hx : p.tables.exec = Jvm.exec) (hb : c.code = cc) (hml : c.maxLocals = nL) (hown : s.vm.findClass own = some m.cls) (hts : ∀ w ∈ G0, w.before args s = true) (hK : va_K D vwCl (jm_T cl) s) (hi : jm_inj ad) (hR : R = rm) (hc1 : cells ≤ rm.cells) (hc2 : slots ≤ rm.slots) {A : Nat → Prop} (hStr : jm_Str ad A s s.heap) (hA : ∀ k, k < 125 → A (ad k)) (h3 : va_S A s.heap H locs)
    (hd : decode cc pc = .ok (.invokevirtual index, 3)) (hM : Met l y ws rm' (va_Pc ((Value.ref k :: av).map (jm_cv ad)) (jm_Pre D ad cl μ)) Qc 0 0 (jm_R ad)) (q : jm_gv own index CC y ws maxL n) (qr : jm_rm rm' rm maxL) (hn : av.length = n) (hs : jm_is k (.inr (ci, fl))) (hcl : vwCl[ci]? = some (CC, T, N)) (hst : st = av.reverse ++ .ref k :: rest) (hW : (rest.map fun v => v.category).sum ≤ 8) (h1 : ls.size = nL) (h2 : va_P D vwCl (jm_W ad cl μ) H) :
    va_Run p l e R s m args below meth c H locs cells slots 0 0 (F0 m pc ls (st.map (jm_cv ad))) (rest.map (jm_cv ad)) (Qc (Value.ref (ad k) :: av.map (jm_cv ad)).toArray) (jm_R ad) := by
  obtain ⟨bytes, ret, g1, g2, g3⟩ := q
  obtain ⟨g4, g5⟩ := qr
  subst hR
  exact va_runV (As := av.map (jm_cv ad)) ⟨hx, hb, hml, hown, hts⟩ hM (cwV n hts g1 g2 g4.1 g4.2 g3 g5) ⟨jm_blind, va_recv hK h2 hcl hs.at, fun U hU hWm => ⟨rfl, by rw [hU]; exact h2, va_K.moved hWm.alike hK, hi, by rw [hU]; exact hStr.to hWm h3.2.1 (jm_Rsub hA)⟩⟩ rfl (by rw [List.length_map]; exact hn) h1 (by rw [hst]; simp [List.map_append, List.map_reverse, jm_cv]) (lv_room (by rw [jm_catsum]; exact hW)) hd ⟨hc1, hc2⟩
theorem j_runS {Qc : Array Value → State → Outcome → State → Prop} {p : Program} {l : Launch} {e : Env} {R : Room} {s : State} {m : MethodId} {args : Array Value} {below : List Frame} {meth : Method} {c : Code} {D : va_G} {ad : Nat → Nat} {cl : Nat → ClassId} {cells slots : Nat} {ls : Array Slot} {H : Heap} {locs : List Loc} (hx : p.tables.exec = Jvm.exec) (hb : c.code = cc) (hml : c.maxLocals = nL) (hown : s.vm.findClass own = some m.cls) (hts : ∀ w ∈ G0, w.before args s = true) (hK : va_K D vwCl (jm_T cl) s) (hi : jm_inj ad) (hR : R = rm) (hc1 : cells ≤ rm.cells) (hc2 : slots ≤ rm.slots) {A : Nat → Prop} (hStr : jm_Str ad A s s.heap) (hA : ∀ k, k < 125 → A (ad k)) (h3 : va_S A s.heap H locs)
    (hd : decode cc pc = .ok (.invokestatic index, 3)) (hM : Met l y ws rm' (va_Pc (av.map (jm_cv ad)) (jm_Pre D ad cl μ)) Qc 0 0 (jm_R ad)) (q : jm_gs own index y ws maxL n) (qr : jm_rm rm' rm maxL) (hn : av.length = n) (hst : st = av.reverse ++ rest) (hW : (rest.map fun v => v.category).sum ≤ 8) (h1 : ls.size = nL) (h2 : va_P D vwCl (jm_W ad cl μ) H) :
    va_Run p l e R s m args below meth c H locs cells slots 0 0 (F0 m pc ls (st.map (jm_cv ad))) (rest.map (jm_cv ad)) (Qc (av.map (jm_cv ad)).toArray) (jm_R ad) := by
  obtain ⟨bytes, ret, g1, g2, g3⟩ := q
  obtain ⟨g4, g5⟩ := qr
  subst hR
  exact va_runS (As := av.map (jm_cv ad)) ⟨hx, hb, hml, hown, hts⟩ hM (va_cwS n hts g1 g2 g4.1 g4.2 g3 g5) ⟨jm_blind, fun U hU hWm => ⟨rfl, by rw [hU]; exact h2, va_K.moved hWm.alike hK, hi, by rw [hU]; exact hStr.to hWm h3.2.1 (jm_Rsub hA)⟩⟩ rfl (by rw [List.length_map]; exact hn) h1 (by rw [hst]; simp [List.map_append, List.map_reverse]) (lv_room (by rw [jm_catsum]; exact hW)) hd ⟨hc1, hc2⟩
theorem j_cKI {i : Nat} {r : Int32} (C : jC Γ nL cc own rm) (hd : decode cc pc = .ok (.invokevirtual index, 3)) (hp : pc + 3 = pc') (hM : CI (jgl Γ) (jgD Γ) (jgad Γ) (jgcl Γ) y ws rm' (.ref (1000 + i) :: av) μ r μ') (q : jm_gv own index "java/lang/String" y ws maxL n) (qr : jm_rm rm' rm maxL) (hn : av.length = n) (hi6 : i < 6) (hst : st = av.reverse ++ .ref (1000 + i) :: rest) (hW : (rest.map fun v => v.category).sum ≤ 8) (kk : jJ Γ nL pc' lv (.int r :: rest) μ') : jJ Γ nL pc lv st μ := by
  subst hp
  obtain ⟨p, l, e, R, s, m, args, below, meth, c, D, ad, cl, Q, cells, slots, A⟩ := Γ
  obtain ⟨hx, hb, hml, hown, hts, hK, hi, hA, hR, hc1, hc2, hStr⟩ := C
  intro ls H locs h1 h2 h3
  obtain ⟨bytes, ret, g1, g2, g3⟩ := q
  obtain ⟨g4, g5⟩ := qr
  subst hR
  have hM : CI l D ad cl y ws rm' (.ref (1000 + i) :: av) μ r μ' := hM
  refine va_calli (va_runV (As := av.map (jm_cv ad)) (rest := rest.map (jm_cv ad)) (b := ad (1000 + i)) ⟨hx, hb, hml, hown, hts⟩ hM (cwV n hts g1 g2 g4.1 g4.2 g3 g5) ⟨jm_blind, vk_recv (i := i) hStr.1 hi6 h3, fun U hU hWm => ⟨rfl, by rw [hU]; exact h2, va_K.moved hWm.alike hK, hi, by rw [hU]; exact hStr.to hWm h3.2.1 (jm_Rsub hA)⟩⟩ rfl (by rw [List.length_map]; exact hn) h1.1 (by rw [hst]; simp [List.map_append, List.map_reverse, jm_cv]) (lv_room (by rw [jm_catsum]; exact hW)) hd ⟨hc1, hc2⟩) h3 (fun q _ h => jm_Rsub hA q h) (jm_Rsub hA) (fun r2 u t H1 locs1 ht hvm hw hB hz1 hk1 hS => ?_)
  obtain ⟨rfl, rfl⟩ := hw
  exact kk ls H1 locs1 h1 (by rw [← ht]; exact hB) hS
theorem j_cVI {k ci N : Nat} {T : u_T} {fl : List (Nat × Nat)} {r : Int32} (C : jC Γ nL cc own rm) (hd : decode cc pc = .ok (.invokevirtual index, 3)) (hp : pc + 3 = pc') (hM : CI (jgl Γ) (jgD Γ) (jgad Γ) (jgcl Γ) y ws rm' (.ref k :: av) μ r μ') (q : jm_gv own index CC y ws maxL n) (qr : jm_rm rm' rm maxL) (hn : av.length = n) (hs : jm_is k (.inr (ci, fl))) (hcl : vwCl[ci]? = some (CC, T, N)) (hst : st = av.reverse ++ .ref k :: rest) (hW : (rest.map fun v => v.category).sum ≤ 8) (kk : jJ Γ nL pc' lv (.int r :: rest) μ') : jJ Γ nL pc lv st μ := by
  subst hp
  obtain ⟨p, l, e, R, s, m, args, below, meth, c, D, ad, cl, Q, cells, slots, A⟩ := Γ
  obtain ⟨hx, hb, hml, hown, hts, hK, hi, hA, hR, hc1, hc2, hStr⟩ := C
  intro ls H locs h1 h2 h3
  refine va_calli (j_runV hx hb hml hown hts hK hi hR hc1 hc2 hStr hA h3 hd hM q qr hn hs hcl hst hW h1.1 h2) h3 (fun q _ h => jm_Rsub hA q h) (jm_Rsub hA) (fun r2 u t H1 locs1 ht hvm hw hB hz1 hk1 hS => ?_)
  obtain ⟨rfl, rfl⟩ := hw
  exact kk ls H1 locs1 h1 (by rw [← ht]; exact hB) hS
theorem j_cSI {r : Int32} (C : jC Γ nL cc own rm) (hd : decode cc pc = .ok (.invokestatic index, 3)) (hp : pc + 3 = pc') (hM : CI (jgl Γ) (jgD Γ) (jgad Γ) (jgcl Γ) y ws rm' av μ r μ') (q : jm_gs own index y ws maxL n) (qr : jm_rm rm' rm maxL) (hn : av.length = n) (hst : st = av.reverse ++ rest) (hW : (rest.map fun v => v.category).sum ≤ 8) (kk : jJ Γ nL pc' lv (.int r :: rest) μ') : jJ Γ nL pc lv st μ := by
  subst hp
  obtain ⟨p, l, e, R, s, m, args, below, meth, c, D, ad, cl, Q, cells, slots, A⟩ := Γ
  obtain ⟨hx, hb, hml, hown, hts, hK, hi, hA, hR, hc1, hc2, hStr⟩ := C
  intro ls H locs h1 h2 h3
  refine va_calli (j_runS hx hb hml hown hts hK hi hR hc1 hc2 hStr hA h3 hd hM q qr hn hst hW h1.1 h2) h3 (fun q _ h => jm_Rsub hA q h) (jm_Rsub hA) (fun r2 u t H1 locs1 ht hvm hw hB hz1 hk1 hS => ?_)
  obtain ⟨rfl, rfl⟩ := hw
  exact kk ls H1 locs1 h1 (by rw [← ht]; exact hB) hS
theorem j_cVL {k ci N : Nat} {T : u_T} {fl : List (Nat × Nat)} {r : Int64} (C : jC Γ nL cc own rm) (hd : decode cc pc = .ok (.invokevirtual index, 3)) (hp : pc + 3 = pc') (hM : CL (jgl Γ) (jgD Γ) (jgad Γ) (jgcl Γ) y ws rm' (.ref k :: av) μ r μ') (q : jm_gv own index CC y ws maxL n) (qr : jm_rm rm' rm maxL) (hn : av.length = n) (hs : jm_is k (.inr (ci, fl))) (hcl : vwCl[ci]? = some (CC, T, N)) (hst : st = av.reverse ++ .ref k :: rest) (hW : (rest.map fun v => v.category).sum ≤ 8) (kk : jJ Γ nL pc' lv (.long r :: rest) μ') : jJ Γ nL pc lv st μ := by
  subst hp
  obtain ⟨p, l, e, R, s, m, args, below, meth, c, D, ad, cl, Q, cells, slots, A⟩ := Γ
  obtain ⟨hx, hb, hml, hown, hts, hK, hi, hA, hR, hc1, hc2, hStr⟩ := C
  intro ls H locs h1 h2 h3
  refine va_calll (j_runV hx hb hml hown hts hK hi hR hc1 hc2 hStr hA h3 hd hM q qr hn hs hcl hst hW h1.1 h2) h3 (fun q _ h => jm_Rsub hA q h) (jm_Rsub hA) (fun r2 u t H1 locs1 ht hvm hw hB hz1 hk1 hS => ?_)
  obtain ⟨rfl, rfl⟩ := hw
  exact kk ls H1 locs1 h1 (by rw [← ht]; exact hB) hS
theorem j_cSL {r : Int64} (C : jC Γ nL cc own rm) (hd : decode cc pc = .ok (.invokestatic index, 3)) (hp : pc + 3 = pc') (hM : CL (jgl Γ) (jgD Γ) (jgad Γ) (jgcl Γ) y ws rm' av μ r μ') (q : jm_gs own index y ws maxL n) (qr : jm_rm rm' rm maxL) (hn : av.length = n) (hst : st = av.reverse ++ rest) (hW : (rest.map fun v => v.category).sum ≤ 8) (kk : jJ Γ nL pc' lv (.long r :: rest) μ') : jJ Γ nL pc lv st μ := by
  subst hp
  obtain ⟨p, l, e, R, s, m, args, below, meth, c, D, ad, cl, Q, cells, slots, A⟩ := Γ
  obtain ⟨hx, hb, hml, hown, hts, hK, hi, hA, hR, hc1, hc2, hStr⟩ := C
  intro ls H locs h1 h2 h3
  refine va_calll (j_runS hx hb hml hown hts hK hi hR hc1 hc2 hStr hA h3 hd hM q qr hn hst hW h1.1 h2) h3 (fun q _ h => jm_Rsub hA q h) (jm_Rsub hA) (fun r2 u t H1 locs1 ht hvm hw hB hz1 hk1 hS => ?_)
  obtain ⟨rfl, rfl⟩ := hw
  exact kk ls H1 locs1 h1 (by rw [← ht]; exact hB) hS
theorem j_cVV {k ci N : Nat} {T : u_T} {fl : List (Nat × Nat)}  (C : jC Γ nL cc own rm) (hd : decode cc pc = .ok (.invokevirtual index, 3)) (hp : pc + 3 = pc') (hM : CV (jgl Γ) (jgD Γ) (jgad Γ) (jgcl Γ) y ws rm' (.ref k :: av) μ μ') (q : jm_gv own index CC y ws maxL n) (qr : jm_rm rm' rm maxL) (hn : av.length = n) (hs : jm_is k (.inr (ci, fl))) (hcl : vwCl[ci]? = some (CC, T, N)) (hst : st = av.reverse ++ .ref k :: rest) (hW : (rest.map fun v => v.category).sum ≤ 8) (kk : jJ Γ nL pc' lv (rest) μ') : jJ Γ nL pc lv st μ := by
  subst hp
  obtain ⟨p, l, e, R, s, m, args, below, meth, c, D, ad, cl, Q, cells, slots, A⟩ := Γ
  obtain ⟨hx, hb, hml, hown, hts, hK, hi, hA, hR, hc1, hc2, hStr⟩ := C
  intro ls H locs h1 h2 h3
  refine va_callv (j_runV hx hb hml hown hts hK hi hR hc1 hc2 hStr hA h3 hd hM q qr hn hs hcl hst hW h1.1 h2) h3 (fun q _ h => jm_Rsub hA q h) (jm_Rsub hA) (fun u t H1 locs1 ht hvm hw hB hz1 hk1 hS => ?_)
  subst hw
  exact kk ls H1 locs1 h1 (by rw [← ht]; exact hB) hS
theorem j_cSV  (C : jC Γ nL cc own rm) (hd : decode cc pc = .ok (.invokestatic index, 3)) (hp : pc + 3 = pc') (hM : CV (jgl Γ) (jgD Γ) (jgad Γ) (jgcl Γ) y ws rm' av μ μ') (q : jm_gs own index y ws maxL n) (qr : jm_rm rm' rm maxL) (hn : av.length = n) (hst : st = av.reverse ++ rest) (hW : (rest.map fun v => v.category).sum ≤ 8) (kk : jJ Γ nL pc' lv (rest) μ') : jJ Γ nL pc lv st μ := by
  subst hp
  obtain ⟨p, l, e, R, s, m, args, below, meth, c, D, ad, cl, Q, cells, slots, A⟩ := Γ
  obtain ⟨hx, hb, hml, hown, hts, hK, hi, hA, hR, hc1, hc2, hStr⟩ := C
  intro ls H locs h1 h2 h3
  refine va_callv (j_runS hx hb hml hown hts hK hi hR hc1 hc2 hStr hA h3 hd hM q qr hn hst hW h1.1 h2) h3 (fun q _ h => jm_Rsub hA q h) (jm_Rsub hA) (fun u t H1 locs1 ht hvm hw hB hz1 hk1 hS => ?_)
  subst hw
  exact kk ls H1 locs1 h1 (by rw [← ht]; exact hB) hS
theorem j_cVR {k ci N : Nat} {T : u_T} {fl : List (Nat × Nat)} {r : Nat} (C : jC Γ nL cc own rm) (hd : decode cc pc = .ok (.invokevirtual index, 3)) (hp : pc + 3 = pc') (hM : CR (jgl Γ) (jgD Γ) (jgad Γ) (jgcl Γ) y ws rm' (.ref k :: av) μ r μ') (q : jm_gv own index CC y ws maxL n) (qr : jm_rm rm' rm maxL) (hn : av.length = n) (hs : jm_is k (.inr (ci, fl))) (hcl : vwCl[ci]? = some (CC, T, N)) (hst : st = av.reverse ++ .ref k :: rest) (hW : (rest.map fun v => v.category).sum ≤ 8) (kk : jJ Γ nL pc' lv (.ref r :: rest) μ') : jJ Γ nL pc lv st μ := by
  subst hp
  obtain ⟨p, l, e, R, s, m, args, below, meth, c, D, ad, cl, Q, cells, slots, A⟩ := Γ
  obtain ⟨hx, hb, hml, hown, hts, hK, hi, hA, hR, hc1, hc2, hStr⟩ := C
  intro ls H locs h1 h2 h3
  refine va_callr (j_runV hx hb hml hown hts hK hi hR hc1 hc2 hStr hA h3 hd hM q qr hn hs hcl hst hW h1.1 h2) h3 (fun q _ h => jm_Rsub hA q h) (jm_Rsub hA) (fun u a t H1 locs1 ht hvm hw hB hz1 hk1 hS => ?_)
  subst hw
  obtain ⟨rfl, hB⟩ := hB
  exact kk ls H1 locs1 h1 (by rw [← ht]; exact hB) hS
theorem j_cSR {r : Nat} (C : jC Γ nL cc own rm) (hd : decode cc pc = .ok (.invokestatic index, 3)) (hp : pc + 3 = pc') (hM : CR (jgl Γ) (jgD Γ) (jgad Γ) (jgcl Γ) y ws rm' av μ r μ') (q : jm_gs own index y ws maxL n) (qr : jm_rm rm' rm maxL) (hn : av.length = n) (hst : st = av.reverse ++ rest) (hW : (rest.map fun v => v.category).sum ≤ 8) (kk : jJ Γ nL pc' lv (.ref r :: rest) μ') : jJ Γ nL pc lv st μ := by
  subst hp
  obtain ⟨p, l, e, R, s, m, args, below, meth, c, D, ad, cl, Q, cells, slots, A⟩ := Γ
  obtain ⟨hx, hb, hml, hown, hts, hK, hi, hA, hR, hc1, hc2, hStr⟩ := C
  intro ls H locs h1 h2 h3
  refine va_callr (j_runS hx hb hml hown hts hK hi hR hc1 hc2 hStr hA h3 hd hM q qr hn hst hW h1.1 h2) h3 (fun q _ h => jm_Rsub hA q h) (jm_Rsub hA) (fun u a t H1 locs1 ht hvm hw hB hz1 hk1 hS => ?_)
  subst hw
  obtain ⟨rfl, hB⟩ := hB
  exact kk ls H1 locs1 h1 (by rw [← ht]; exact hB) hS
def jm_cp (own : String) (index : Nat) : Prop := Cond.methodLink own index arraycopyName ∈ G0 ∧ Cond.native arraycopyName ∈ G0 ∧ Cond.static arraycopyName ∈ G0 ∧ Cond.initialized "java/lang/System" ∈ G0
def cpB (sp dp n : Int32) (n0 n1 : Nat) : Bool := decide (¬ sp < 0) && decide (¬ dp < 0) && decide (¬ n < 0) && decide (sp.toNatClampNeg + n.toNatClampNeg ≤ n0) && decide (dp.toNatClampNeg + n.toNatClampNeg ≤ n1)
theorem cpB_e {sp dp n : Int32} {n0 n1 : Nat} (h : cpB sp dp n n0 n1 = true) : ¬ sp < 0 ∧ ¬ dp < 0 ∧ ¬ n < 0 ∧ sp.toNatClampNeg + n.toNatClampNeg ≤ n0 ∧ dp.toNatClampNeg + n.toNatClampNeg ≤ n1 := by
  unfold cpB at h
  simp only [Bool.and_eq_true, decide_eq_true_eq] at h
  exact ⟨h.1.1.1.1, h.1.1.1.2, h.1.1.2, h.1.2, h.2⟩
theorem j_copyi {k0 k1 n0 n1 z0 z1 : Nat} {sp dp n : Int32} (C : jC Γ nL cc own rm) (hd : decode cc pc = .ok (.invokestatic index, 3)) (hp : pc + 3 = pc') (q : jm_cp own index) (hs0 : jm_is k0 (.inl (0, n0, z0))) (hs1 : jm_is k1 (.inl (0, n1, z1))) (hB : cpB sp dp n n0 n1 = true) (hr : 1 ≤ rm.frames ∧ (rest.map fun v => v.category).sum + (nativeFrameWords "java/lang/System" "arraycopy" 5 + 11) ≤ rm.locals) (kk : jJ Γ nL pc' lv rest (sA μ k1 (va_cpy (μ.1 k0) (μ.1 k1) sp.toNatClampNeg dp.toNatClampNeg n.toNatClampNeg))) : jJ Γ nL pc lv (.int n :: .int dp :: .ref k1 :: .int sp :: .ref k0 :: rest) μ := by
  subst hp
  obtain ⟨p, l, e, R, s, m, args, below, meth, c, D, ad, cl, Q, cells, slots, A⟩ := Γ
  obtain ⟨hx, hb, hml, hown, hts, hK, hi, hA, hR, hc1, hc2, hStr⟩ := C
  obtain ⟨q1, q2, q3, q4⟩ := q
  obtain ⟨b1, b2, b3, b4, b5⟩ := cpB_e hB
  subst hR
  exact fun ls H locs h1 h2 h3 => va_copyi hx hb (by rw [hml]; exact h1.1.symm) hown (hts _ q1) (hts _ q2) (hts _ q3) (hts _ q4) hK h2 (jm_D hi hA) h3 k0 k1 0 0 (c0 := cl 0) (c1 := cl 0) (f := μ.1 k0) (g := μ.1 k1) (ty := .int) hs0.at hs1.at rfl rfl rfl b1 b2 b3 b4 b5 (fun _ _ => rfl) hr.1 (by rw [jm_catsum]; exact hr.2) hd (fun H1 locs1 g1 _ g3 => kk ls H1 locs1 h1 (j_setA (Or.inl rfl) hs1 g1) g3)
theorem j_copyl {k0 k1 n0 n1 z0 z1 : Nat} {sp dp n : Int32} (C : jC Γ nL cc own rm) (hd : decode cc pc = .ok (.invokestatic index, 3)) (hp : pc + 3 = pc') (q : jm_cp own index) (hs0 : jm_is k0 (.inl (2, n0, z0))) (hs1 : jm_is k1 (.inl (2, n1, z1))) (hB : cpB sp dp n n0 n1 = true) (hr : 1 ≤ rm.frames ∧ (rest.map fun v => v.category).sum + (nativeFrameWords "java/lang/System" "arraycopy" 5 + 11) ≤ rm.locals) (kk : jJ Γ nL pc' lv rest (sB μ k1 (va_cpy (μ.2 k0) (μ.2 k1) sp.toNatClampNeg dp.toNatClampNeg n.toNatClampNeg))) : jJ Γ nL pc lv (.int n :: .int dp :: .ref k1 :: .int sp :: .ref k0 :: rest) μ := by
  subst hp
  obtain ⟨p, l, e, R, s, m, args, below, meth, c, D, ad, cl, Q, cells, slots, A⟩ := Γ
  obtain ⟨hx, hb, hml, hown, hts, hK, hi, hA, hR, hc1, hc2, hStr⟩ := C
  obtain ⟨q1, q2, q3, q4⟩ := q
  obtain ⟨b1, b2, b3, b4, b5⟩ := cpB_e hB
  subst hR
  exact fun ls H locs h1 h2 h3 => va_copyl hx hb (by rw [hml]; exact h1.1.symm) hown (hts _ q1) (hts _ q2) (hts _ q3) (hts _ q4) hK h2 (jm_D hi hA) h3 k0 k1 2 2 (c0 := cl 2) (c1 := cl 2) (f := μ.2 k0) (g := μ.2 k1) (ty := .long) hs0.at hs1.at rfl rfl rfl b1 b2 b3 b4 b5 (fun _ _ => rfl) hr.1 (by rw [jm_catsum]; exact hr.2) hd (fun H1 locs1 g1 _ g3 => kk ls H1 locs1 h1 (j_setB hs1 g1) g3)
def jm_mmin (own : String) (index : Nat) : Prop := Cond.methodLink own index Lib.Math.min.name ∈ G0 ∧ Cond.static Lib.Math.min.name ∈ G0 ∧ Cond.initialized "java/lang/Math" ∈ G0 ∧ Cond.code Lib.Math.min.name Lib.Math.min.code 2 (some .int) ∈ G0
theorem j_mmin {x y : Int32} (C : jC Γ nL cc own rm) (hd : decode cc pc = .ok (.invokestatic index, 3)) (hp : pc + 3 = pc') (q : jm_mmin own index) (hr : 1 ≤ rm.frames ∧ (rest.map fun v => v.category).sum + 13 ≤ rm.locals) (kk : jJ Γ nL pc' lv (.int (if y < x then y else x) :: rest) μ) : jJ Γ nL pc lv (.int y :: .int x :: rest) μ := by
  subst hp
  obtain ⟨p, l, e, R, s, m, args, below, meth, c, D, ad, cl, Q, cells, slots, A⟩ := Γ
  obtain ⟨hx, hb, hml, hown, hts, hK, hi, hA, hR, hc1, hc2, hStr⟩ := C
  obtain ⟨q1, q2, q3, q4⟩ := q
  subst hR
  exact fun ls H locs h1 h2 h3 => va_mmin hx hb (by rw [hml]; exact h1.1.symm) hown (hts _ q1) (hts _ q2) (hts _ q3) (hts _ q4) hr.1 (by rw [jm_catsum]; exact hr.2) hc1 hc2 hd (kk ls H locs h1 h2 h3)
def jm_mmax (own : String) (index : Nat) : Prop := Cond.methodLink own index Lib.Math.max.name ∈ G0 ∧ Cond.static Lib.Math.max.name ∈ G0 ∧ Cond.initialized "java/lang/Math" ∈ G0 ∧ Cond.code Lib.Math.max.name Lib.Math.max.code 2 (some .int) ∈ G0
theorem j_mmax {x y : Int32} (C : jC Γ nL cc own rm) (hd : decode cc pc = .ok (.invokestatic index, 3)) (hp : pc + 3 = pc') (q : jm_mmax own index) (hr : 1 ≤ rm.frames ∧ (rest.map fun v => v.category).sum + 13 ≤ rm.locals) (kk : jJ Γ nL pc' lv (.int (if x < y then y else x) :: rest) μ) : jJ Γ nL pc lv (.int y :: .int x :: rest) μ := by
  subst hp
  obtain ⟨p, l, e, R, s, m, args, below, meth, c, D, ad, cl, Q, cells, slots, A⟩ := Γ
  obtain ⟨hx, hb, hml, hown, hts, hK, hi, hA, hR, hc1, hc2, hStr⟩ := C
  obtain ⟨q1, q2, q3, q4⟩ := q
  subst hR
  exact fun ls H locs h1 h2 h3 => va_mmax hx hb (by rw [hml]; exact h1.1.symm) hown (hts _ q1) (hts _ q2) (hts _ q3) (hts _ q4) hr.1 (by rw [jm_catsum]; exact hr.2) hc1 hc2 hd (kk ls H locs h1 h2 h3)

end JCALLS
theorem c_ofI {l : Launch} {D : va_G} {ad : Nat → Nat} {cl : Nat → ClassId} {y : MethodName} {ws : List Cond} {rm : Room} {av : List Value} {μ μ' : Mem} {r : Int32} {cc : ByteArray} {nL : Nat} (hw : ws = Cond.code y cc nL (some .int) :: G0) (hy : plainName y.cls = true) (hn : (lg_sl (av.map (jm_cv ad))).length ≤ nL) (body : ∀ Γ : jG, jC Γ nL cc y.cls rm → jEI Γ cc r μ' → jJ Γ nL 0 (lv_args 0 av) [] μ) : CI l D ad cl y ws rm av μ r μ' := by
  refine Met.ofW (cc := cc) (maxL := nL) (ret := some .int) hy hw ?_
  intro p e s m args below meth c s₁ B hml hv
  obtain ⟨rfl, hP, hK, hi, hStr⟩ := hv
  have hx := B.exec
  have hb := B.bytes
  have hr := B.returns
  have hts : ∀ w ∈ G0, w.before (av.map (jm_cv ad)).toArray s = true := fun w h => atoms_spec (ws := ws) B.pre w (by rw [hw]; exact List.mem_cons_of_mem _ h)
  have hown : s.vm.findClass y.cls = some m.cls := findClass_of_methodNamed B.named
  have hlocks := B.notSynchronized
  have hl := lv_entry (av.map (jm_cv ad)) (n := nL) hn
  rw [lg_entry_eq]
  rw [jm_args] at hl
  have hbody := body (p, l, e, rm, s, m, (av.map (jm_cv ad)).toArray, below, meth, c, D, ad, cl, MQ below (va_Qi (fun r' (u : Mem) => r' = r ∧ u = μ') (jm_Post D ad cl) (jm_R ad)) (av.map (jm_cv ad)).toArray s 0 0 (jm_R ad), 0, 0, jm_R ad) ⟨hx, hb, hml, hown, hts, hK, hi, (fun k h => ⟨k, h, rfl⟩), rfl, Nat.zero_le _, Nat.zero_le _, hStr⟩ (fun pc ls H locs hd g2 g3 => W.iret hx hb hr (fun t ht hW => ⟨⟨r, μ', rfl, ⟨rfl, rfl⟩, by show va_P _ _ _ _; rw [ht]; exact g2⟩, g3.F ht⟩) (fun q hq => g3.2.2 q hq) hd)
  exact hbody _ s.heap [] hl hP va_S.rf
theorem c_ofZ {l : Launch} {D : va_G} {ad : Nat → Nat} {cl : Nat → ClassId} {y : MethodName} {ws : List Cond} {rm : Room} {av : List Value} {μ μ' : Mem} {r : Int32} {cc : ByteArray} {nL : Nat} (hw : ws = Cond.code y cc nL (some .boolean) :: G0) (hy : plainName y.cls = true) (hn : (lg_sl (av.map (jm_cv ad))).length ≤ nL) (body : ∀ Γ : jG, jC Γ nL cc y.cls rm → (isB r = true → jEI Γ cc r μ') → jJ Γ nL 0 (lv_args 0 av) [] μ) : CI l D ad cl y ws rm av μ r μ' := by
  refine Met.ofW (cc := cc) (maxL := nL) (ret := some .boolean) hy hw ?_
  intro p e s m args below meth c s₁ B hml hv
  obtain ⟨rfl, hP, hK, hi, hStr⟩ := hv
  have hx := B.exec
  have hb := B.bytes
  have hr := B.returns
  have hts : ∀ w ∈ G0, w.before (av.map (jm_cv ad)).toArray s = true := fun w h => atoms_spec (ws := ws) B.pre w (by rw [hw]; exact List.mem_cons_of_mem _ h)
  have hown : s.vm.findClass y.cls = some m.cls := findClass_of_methodNamed B.named
  have hlocks := B.notSynchronized
  have hl := lv_entry (av.map (jm_cv ad)) (n := nL) hn
  rw [lg_entry_eq]
  rw [jm_args] at hl
  have hbody := body (p, l, e, rm, s, m, (av.map (jm_cv ad)).toArray, below, meth, c, D, ad, cl, MQ below (va_Qi (fun r' (u : Mem) => r' = r ∧ u = μ') (jm_Post D ad cl) (jm_R ad)) (av.map (jm_cv ad)).toArray s 0 0 (jm_R ad), 0, 0, jm_R ad) ⟨hx, hb, hml, hown, hts, hK, hi, (fun k h => ⟨k, h, rfl⟩), rfl, Nat.zero_le _, Nat.zero_le _, hStr⟩ (fun hB pc ls H locs hd g2 g3 => W.zret hx hb hr (isB_n hB) (fun t ht hW => ⟨⟨r, μ', rfl, ⟨rfl, rfl⟩, by show va_P _ _ _ _; rw [ht]; exact g2⟩, g3.F ht⟩) (fun q hq => g3.2.2 q hq) hd)
  exact hbody _ s.heap [] hl hP va_S.rf
theorem c_ofB {l : Launch} {D : va_G} {ad : Nat → Nat} {cl : Nat → ClassId} {y : MethodName} {ws : List Cond} {rm : Room} {av : List Value} {μ μ' : Mem} {r : Int32} {cc : ByteArray} {nL : Nat} (hw : ws = Cond.code y cc nL (some .byte) :: G0) (hy : plainName y.cls = true) (hn : (lg_sl (av.map (jm_cv ad))).length ≤ nL) (body : ∀ Γ : jG, jC Γ nL cc y.cls rm → (narrow .byte (.int r) = .int r → jEI Γ cc r μ') → jJ Γ nL 0 (lv_args 0 av) [] μ) : CI l D ad cl y ws rm av μ r μ' := by
  refine Met.ofW (cc := cc) (maxL := nL) (ret := some .byte) hy hw ?_
  intro p e s m args below meth c s₁ B hml hv
  obtain ⟨rfl, hP, hK, hi, hStr⟩ := hv
  have hx := B.exec
  have hb := B.bytes
  have hr := B.returns
  have hts : ∀ w ∈ G0, w.before (av.map (jm_cv ad)).toArray s = true := fun w h => atoms_spec (ws := ws) B.pre w (by rw [hw]; exact List.mem_cons_of_mem _ h)
  have hown : s.vm.findClass y.cls = some m.cls := findClass_of_methodNamed B.named
  have hlocks := B.notSynchronized
  have hl := lv_entry (av.map (jm_cv ad)) (n := nL) hn
  rw [lg_entry_eq]
  rw [jm_args] at hl
  have hbody := body (p, l, e, rm, s, m, (av.map (jm_cv ad)).toArray, below, meth, c, D, ad, cl, MQ below (va_Qi (fun r' (u : Mem) => r' = r ∧ u = μ') (jm_Post D ad cl) (jm_R ad)) (av.map (jm_cv ad)).toArray s 0 0 (jm_R ad), 0, 0, jm_R ad) ⟨hx, hb, hml, hown, hts, hK, hi, (fun k h => ⟨k, h, rfl⟩), rfl, Nat.zero_le _, Nat.zero_le _, hStr⟩ (fun hB pc ls H locs hd g2 g3 => W.zret hx hb hr hB (fun t ht hW => ⟨⟨r, μ', rfl, ⟨rfl, rfl⟩, by show va_P _ _ _ _; rw [ht]; exact g2⟩, g3.F ht⟩) (fun q hq => g3.2.2 q hq) hd)
  exact hbody _ s.heap [] hl hP va_S.rf
theorem c_ofV {l : Launch} {D : va_G} {ad : Nat → Nat} {cl : Nat → ClassId} {y : MethodName} {ws : List Cond} {rm : Room} {av : List Value} {μ μ' : Mem} {cc : ByteArray} {nL : Nat} (hw : ws = Cond.code y cc nL (none) :: G0) (hy : plainName y.cls = true) (hn : (lg_sl (av.map (jm_cv ad))).length ≤ nL) (body : ∀ Γ : jG, jC Γ nL cc y.cls rm → jEV Γ cc μ' → jJ Γ nL 0 (lv_args 0 av) [] μ) : CV l D ad cl y ws rm av μ  μ' := by
  refine Met.ofW (cc := cc) (maxL := nL) (ret := none) hy hw ?_
  intro p e s m args below meth c s₁ B hml hv
  obtain ⟨rfl, hP, hK, hi, hStr⟩ := hv
  have hx := B.exec
  have hb := B.bytes
  have hr := B.returns
  have hts : ∀ w ∈ G0, w.before (av.map (jm_cv ad)).toArray s = true := fun w h => atoms_spec (ws := ws) B.pre w (by rw [hw]; exact List.mem_cons_of_mem _ h)
  have hown : s.vm.findClass y.cls = some m.cls := findClass_of_methodNamed B.named
  have hlocks := B.notSynchronized
  have hl := lv_entry (av.map (jm_cv ad)) (n := nL) hn
  rw [lg_entry_eq]
  rw [jm_args] at hl
  have hbody := body (p, l, e, rm, s, m, (av.map (jm_cv ad)).toArray, below, meth, c, D, ad, cl, MQ below (va_Qv (fun (u : Mem) => u = μ') (jm_Post D ad cl) (jm_R ad)) (av.map (jm_cv ad)).toArray s 0 0 (jm_R ad), 0, 0, jm_R ad) ⟨hx, hb, hml, hown, hts, hK, hi, (fun k h => ⟨k, h, rfl⟩), rfl, Nat.zero_le _, Nat.zero_le _, hStr⟩ (fun pc ls H locs hd g2 g3 => W.vret hx hb hr (fun t ht hW => ⟨⟨μ', rfl, rfl, by show va_P _ _ _ _; rw [ht]; exact g2⟩, g3.F ht⟩) (fun q hq => g3.2.2 q hq) hd)
  exact hbody _ s.heap [] hl hP va_S.rf
theorem c_ofL {l : Launch} {D : va_G} {ad : Nat → Nat} {cl : Nat → ClassId} {y : MethodName} {ws : List Cond} {rm : Room} {av : List Value} {μ μ' : Mem} {r : Int64} {cc : ByteArray} {nL : Nat} (hw : ws = Cond.code y cc nL (some .long) :: G0) (hy : plainName y.cls = true) (hn : (lg_sl (av.map (jm_cv ad))).length ≤ nL) (body : ∀ Γ : jG, jC Γ nL cc y.cls rm → jEL Γ cc r μ' → jJ Γ nL 0 (lv_args 0 av) [] μ) : CL l D ad cl y ws rm av μ r μ' := by
  refine Met.ofW (cc := cc) (maxL := nL) (ret := some .long) hy hw ?_
  intro p e s m args below meth c s₁ B hml hv
  obtain ⟨rfl, hP, hK, hi, hStr⟩ := hv
  have hx := B.exec
  have hb := B.bytes
  have hr := B.returns
  have hts : ∀ w ∈ G0, w.before (av.map (jm_cv ad)).toArray s = true := fun w h => atoms_spec (ws := ws) B.pre w (by rw [hw]; exact List.mem_cons_of_mem _ h)
  have hown : s.vm.findClass y.cls = some m.cls := findClass_of_methodNamed B.named
  have hlocks := B.notSynchronized
  have hl := lv_entry (av.map (jm_cv ad)) (n := nL) hn
  rw [lg_entry_eq]
  rw [jm_args] at hl
  have hbody := body (p, l, e, rm, s, m, (av.map (jm_cv ad)).toArray, below, meth, c, D, ad, cl, MQ below (va_Ql (fun r' (u : Mem) => r' = r ∧ u = μ') (jm_Post D ad cl) (jm_R ad)) (av.map (jm_cv ad)).toArray s 0 0 (jm_R ad), 0, 0, jm_R ad) ⟨hx, hb, hml, hown, hts, hK, hi, (fun k h => ⟨k, h, rfl⟩), rfl, Nat.zero_le _, Nat.zero_le _, hStr⟩ (fun pc ls H locs hd g2 g3 => W.lret hx hb hr (fun t ht hW => ⟨⟨r, μ', rfl, ⟨rfl, rfl⟩, by show va_P _ _ _ _; rw [ht]; exact g2⟩, g3.F ht⟩) (fun q hq => g3.2.2 q hq) hd)
  exact hbody _ s.heap [] hl hP va_S.rf
theorem c_ofR {l : Launch} {D : va_G} {ad : Nat → Nat} {cl : Nat → ClassId} {y : MethodName} {ws : List Cond} {rm : Room} {av : List Value} {μ μ' : Mem} {r : Nat} {C0 : String} {cc : ByteArray} {nL : Nat} (hw : ws = Cond.code y cc nL (some (.object C0)) :: G0) (hy : plainName y.cls = true) (hn : (lg_sl (av.map (jm_cv ad))).length ≤ nL) (body : ∀ Γ : jG, jC Γ nL cc y.cls rm → jER Γ cc r μ' → jJ Γ nL 0 (lv_args 0 av) [] μ) : CR l D ad cl y ws rm av μ r μ' := by
  refine Met.ofW (cc := cc) (maxL := nL) (ret := some (.object C0)) hy hw ?_
  intro p e s m args below meth c s₁ B hml hv
  obtain ⟨rfl, hP, hK, hi, hStr⟩ := hv
  have hx := B.exec
  have hb := B.bytes
  have hr := B.returns
  have hts : ∀ w ∈ G0, w.before (av.map (jm_cv ad)).toArray s = true := fun w h => atoms_spec (ws := ws) B.pre w (by rw [hw]; exact List.mem_cons_of_mem _ h)
  have hown : s.vm.findClass y.cls = some m.cls := findClass_of_methodNamed B.named
  have hlocks := B.notSynchronized
  have hl := lv_entry (av.map (jm_cv ad)) (n := nL) hn
  rw [lg_entry_eq]
  rw [jm_args] at hl
  have hbody := body (p, l, e, rm, s, m, (av.map (jm_cv ad)).toArray, below, meth, c, D, ad, cl, MQ below (va_Qr (fun (u : Mem) => u = μ') (fun u a t => a = ad r ∧ jm_Post D ad cl u t) (jm_R ad)) (av.map (jm_cv ad)).toArray s 0 0 (jm_R ad), 0, 0, jm_R ad) ⟨hx, hb, hml, hown, hts, hK, hi, (fun k h => ⟨k, h, rfl⟩), rfl, Nat.zero_le _, Nat.zero_le _, hStr⟩ (fun pc ls H locs hd g2 g3 => W.aret hx hb hr (Or.inl ⟨_, rfl⟩) (Or.inr ⟨_, rfl⟩) (fun t ht hW => ⟨⟨μ', ad r, rfl, rfl, rfl, by show va_P _ _ _ _; rw [ht]; exact g2⟩, g3.F ht⟩) (fun q hq => g3.2.2 q hq) hd)
  exact hbody _ s.heap [] hl hP va_S.rf
