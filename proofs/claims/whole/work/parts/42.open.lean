theorem gwt1_19 : Cond.classLink RL 7 RX7 ∈ G0 := gm_t1 (List.mem_of_getElem? (i := 19) rfl) rfl
theorem gwt1_20 : Cond.instantiable RX7 6 ∈ G0 := gm_t1 (List.mem_of_getElem? (i := 20) rfl) rfl
theorem gwt1_21 : Cond.methodLink RL 9 yX7_init ∈ G0 := gm_t1 (List.mem_of_getElem? (i := 21) rfl) rfl
theorem gwt1_22 : Cond.instanceMethod yX7_init ∈ G0 := gm_t1 (List.mem_of_getElem? (i := 22) rfl) rfl
theorem gwt1_23 : Cond.code yX7_init cX7_init 2 none ∈ G0 := gm_t1 (List.mem_of_getElem? (i := 23) rfl) rfl
theorem gwt4_193 : Cond.classLink RL 10 RX8 ∈ G0 := gm_t4 (List.mem_of_getElem? (i := 193) rfl) rfl
theorem gwt4_194 : Cond.instantiable RX8 21 ∈ G0 := gm_t4 (List.mem_of_getElem? (i := 194) rfl) rfl
theorem gwt4_195 : Cond.methodLink RL 12 yX8_init ∈ G0 := gm_t4 (List.mem_of_getElem? (i := 195) rfl) rfl
theorem gwt4_196 : Cond.instanceMethod yX8_init ∈ G0 := gm_t4 (List.mem_of_getElem? (i := 196) rfl) rfl
theorem gwt4_197 : Cond.code yX8_init cX8_init 2 none ∈ G0 := gm_t4 (List.mem_of_getElem? (i := 197) rfl) rfl
/-! THE CLAIM OUT OF ONE WALK OF THE LAW'S BODY. Your part is whole_start (and what it stands on); all else here is the same for every law, but numbers. -/
def R_law : String := "NineLampsLaw"
def lw_P (b : Addr) (xs : List Int32) (args : Array Value) (s : State) : Prop := args = #[.ref b] ∧ s.IntsAt b xs ∧ xs.length ≤ 384 ∧ (Jvm.Cond.and given_1 narrow_1).before args s = true
def lw_Q (_ : Array Value) (s : State) (o : Outcome) (t : State) : Prop := o = .returned (some (.int 1)) ∧ Framed s o t [] 600000 7302249
def lw_Z (below : List Frame) (a : Array Value) (s : State) : State → Prop := fun t => ∃ o, t.status = .running ∧ Ended t below o ∧ lw_Q a s o t
/-- the law's own end, with 1 on the stack, nothing written that was there before, its room as the claim has it -/
theorem lw_ret {p : Program} {l : Launch} {e : Env} {s : State} {m : MethodId} {below : List Frame} {meth : Method} {c : Code} {b : Nat} (hx : p.tables.exec = Jvm.exec) (hb : c.code = code) (hr : meth.sig.returnType = ret) (hlocks : meth.locks = false) {pc : Nat} {H : Heap} {ls : Array Slot} (hdg : decode code pc = .ok (.ireturn, 1)) : W p l e room_1 s m #[Value.ref b] below meth c H [] 600000 7302249 (lw_Z below #[Value.ref b] s) (F0 m pc ls [.int 1]) := by
  intro T hT X
  obtain ⟨fs, hret, hrun, hended, hW, hframe⟩ := X.leave (v := some (.int 1)) (hlocks := hlocks) (fun h => by rw [hr] at h; cases h)
  have hmeth' : T.vm.method? m = some meth := X.method'
  refine ⟨T.setFrames fs, ?_, .returned (some (.int 1)), hrun, hended, rfl, ⟨_, rfl⟩, hW, hframe⟩
  jvm_step X.here [X.here.top, hx, hb, hdg, hmeth', hr, ret, narrow_b1]
  (try refine ⟨rfl, ?_⟩); (try refine ⟨rfl, ?_⟩)
  first | (intro acts; rw [hret _ acts rfl rfl rfl]) | rw [hret _ _ rfl rfl rfl]
  exact Steps.refl _
/-- what holds at the law's entry: the machine, the code, the tables' words (any of lw_tbl by 'hts w (by decide +kernel)'), the script of L ints xs at the cell b, what the Statement gives of the start (any of its parts by flat_of_before) -/
def lw_At (p : Program) (s : State) (m : MethodId) (meth : Method) (c : Code) (b L : Nat) (xs : Nat → Int32) : Prop :=
  p.tables.exec = Jvm.exec ∧ c.code = code ∧ meth.sig.returnType = ret ∧ c.maxLocals = 4 ∧ s.vm.findClass R_law = some m.cls ∧ (∀ w ∈ lw_tbl, w.before #[Value.ref b] s = true) ∧ va_X b L xs s s.heap ∧ b < s.heap.size ∧ meth.locks = false ∧ (Jvm.Cond.and given_1 narrow_1).before #[Value.ref b] s = true
abbrev nfl : List Cond := flatC (Jvm.Cond.and given_1 narrow_1)
theorem nf_4 : (Jvm.Cond.eq (Jvm.Term.static "java/lang/String" "COMPACT_STRINGS" "Z") (Jvm.Term.int (1 : Int32))) ∈ nfl := List.mem_of_getElem? (i := 4) rfl
theorem nf_9 : (Jvm.Cond.exactly (Jvm.Term.string "NineLamps$Tape" (67 : Nat)) "java/lang/String") ∈ nfl := List.mem_of_getElem? (i := 9) rfl
theorem nf_10 : (Jvm.Cond.eq (Jvm.Term.field (Jvm.Term.string "NineLamps$Tape" (67 : Nat)) "java/lang/String" "coder" "B") (Jvm.Term.int (0 : Int32))) ∈ nfl := List.mem_of_getElem? (i := 10) rfl
theorem nf_11 : (Jvm.Cond.arrayOf (Jvm.Term.field (Jvm.Term.string "NineLamps$Tape" (67 : Nat)) "java/lang/String" "value" "[B") Jvm.ClassFile.FieldType.byte) ∈ nfl := List.mem_of_getElem? (i := 11) rfl
theorem nf_12 : (Jvm.Cond.eq (Jvm.Term.length (Jvm.Term.field (Jvm.Term.string "NineLamps$Tape" (67 : Nat)) "java/lang/String" "value" "[B")) (Jvm.Term.int (3 : Int32))) ∈ nfl := List.mem_of_getElem? (i := 12) rfl
theorem nf_13 : (Jvm.Cond.eq (Jvm.Term.elem (Jvm.Term.field (Jvm.Term.string "NineLamps$Tape" (67 : Nat)) "java/lang/String" "value" "[B") (Jvm.Term.int (0 : Int32))) (Jvm.Term.int (114 : Int32))) ∈ nfl := List.mem_of_getElem? (i := 13) rfl
theorem nf_14 : (Jvm.Cond.eq (Jvm.Term.elem (Jvm.Term.field (Jvm.Term.string "NineLamps$Tape" (67 : Nat)) "java/lang/String" "value" "[B") (Jvm.Term.int (1 : Int32))) (Jvm.Term.int (103 : Int32))) ∈ nfl := List.mem_of_getElem? (i := 14) rfl
theorem nf_15 : (Jvm.Cond.eq (Jvm.Term.elem (Jvm.Term.field (Jvm.Term.string "NineLamps$Tape" (67 : Nat)) "java/lang/String" "value" "[B") (Jvm.Term.int (2 : Int32))) (Jvm.Term.int (97 : Int32))) ∈ nfl := List.mem_of_getElem? (i := 15) rfl
theorem nf_16 : (Jvm.Cond.exactly (Jvm.Term.string "NineLamps$Tape" (73 : Nat)) "java/lang/String") ∈ nfl := List.mem_of_getElem? (i := 16) rfl
theorem nf_17 : (Jvm.Cond.eq (Jvm.Term.field (Jvm.Term.string "NineLamps$Tape" (73 : Nat)) "java/lang/String" "coder" "B") (Jvm.Term.int (0 : Int32))) ∈ nfl := List.mem_of_getElem? (i := 17) rfl
theorem nf_18 : (Jvm.Cond.arrayOf (Jvm.Term.field (Jvm.Term.string "NineLamps$Tape" (73 : Nat)) "java/lang/String" "value" "[B") Jvm.ClassFile.FieldType.byte) ∈ nfl := List.mem_of_getElem? (i := 18) rfl
theorem nf_19 : (Jvm.Cond.eq (Jvm.Term.length (Jvm.Term.field (Jvm.Term.string "NineLamps$Tape" (73 : Nat)) "java/lang/String" "value" "[B")) (Jvm.Term.int (10 : Int32))) ∈ nfl := List.mem_of_getElem? (i := 19) rfl
theorem nf_20 : (Jvm.Cond.eq (Jvm.Term.elem (Jvm.Term.field (Jvm.Term.string "NineLamps$Tape" (73 : Nat)) "java/lang/String" "value" "[B") (Jvm.Term.int (0 : Int32))) (Jvm.Term.int (48 : Int32))) ∈ nfl := List.mem_of_getElem? (i := 20) rfl
theorem nf_21 : (Jvm.Cond.eq (Jvm.Term.elem (Jvm.Term.field (Jvm.Term.string "NineLamps$Tape" (73 : Nat)) "java/lang/String" "value" "[B") (Jvm.Term.int (1 : Int32))) (Jvm.Term.int (49 : Int32))) ∈ nfl := List.mem_of_getElem? (i := 21) rfl
theorem nf_22 : (Jvm.Cond.eq (Jvm.Term.elem (Jvm.Term.field (Jvm.Term.string "NineLamps$Tape" (73 : Nat)) "java/lang/String" "value" "[B") (Jvm.Term.int (2 : Int32))) (Jvm.Term.int (50 : Int32))) ∈ nfl := List.mem_of_getElem? (i := 22) rfl
theorem nf_23 : (Jvm.Cond.eq (Jvm.Term.elem (Jvm.Term.field (Jvm.Term.string "NineLamps$Tape" (73 : Nat)) "java/lang/String" "value" "[B") (Jvm.Term.int (3 : Int32))) (Jvm.Term.int (51 : Int32))) ∈ nfl := List.mem_of_getElem? (i := 23) rfl
theorem nf_24 : (Jvm.Cond.eq (Jvm.Term.elem (Jvm.Term.field (Jvm.Term.string "NineLamps$Tape" (73 : Nat)) "java/lang/String" "value" "[B") (Jvm.Term.int (4 : Int32))) (Jvm.Term.int (52 : Int32))) ∈ nfl := List.mem_of_getElem? (i := 24) rfl
theorem nf_25 : (Jvm.Cond.eq (Jvm.Term.elem (Jvm.Term.field (Jvm.Term.string "NineLamps$Tape" (73 : Nat)) "java/lang/String" "value" "[B") (Jvm.Term.int (5 : Int32))) (Jvm.Term.int (53 : Int32))) ∈ nfl := List.mem_of_getElem? (i := 25) rfl
theorem nf_26 : (Jvm.Cond.eq (Jvm.Term.elem (Jvm.Term.field (Jvm.Term.string "NineLamps$Tape" (73 : Nat)) "java/lang/String" "value" "[B") (Jvm.Term.int (6 : Int32))) (Jvm.Term.int (54 : Int32))) ∈ nfl := List.mem_of_getElem? (i := 26) rfl
theorem nf_27 : (Jvm.Cond.eq (Jvm.Term.elem (Jvm.Term.field (Jvm.Term.string "NineLamps$Tape" (73 : Nat)) "java/lang/String" "value" "[B") (Jvm.Term.int (7 : Int32))) (Jvm.Term.int (55 : Int32))) ∈ nfl := List.mem_of_getElem? (i := 27) rfl
theorem nf_28 : (Jvm.Cond.eq (Jvm.Term.elem (Jvm.Term.field (Jvm.Term.string "NineLamps$Tape" (73 : Nat)) "java/lang/String" "value" "[B") (Jvm.Term.int (8 : Int32))) (Jvm.Term.int (56 : Int32))) ∈ nfl := List.mem_of_getElem? (i := 28) rfl
theorem nf_29 : (Jvm.Cond.eq (Jvm.Term.elem (Jvm.Term.field (Jvm.Term.string "NineLamps$Tape" (73 : Nat)) "java/lang/String" "value" "[B") (Jvm.Term.int (9 : Int32))) (Jvm.Term.int (57 : Int32))) ∈ nfl := List.mem_of_getElem? (i := 29) rfl
theorem nf_30 : (Jvm.Cond.not (Jvm.Cond.eq (Jvm.Term.string "NineLamps$Tape" (67 : Nat)) (Jvm.Term.string "NineLamps$Tape" (73 : Nat)))) ∈ nfl := List.mem_of_getElem? (i := 30) rfl
theorem nf_31 : (Jvm.Cond.exactly (Jvm.Term.string "NineLamps$Tape" (75 : Nat)) "java/lang/String") ∈ nfl := List.mem_of_getElem? (i := 31) rfl
theorem nf_32 : (Jvm.Cond.eq (Jvm.Term.field (Jvm.Term.string "NineLamps$Tape" (75 : Nat)) "java/lang/String" "coder" "B") (Jvm.Term.int (0 : Int32))) ∈ nfl := List.mem_of_getElem? (i := 32) rfl
theorem nf_33 : (Jvm.Cond.arrayOf (Jvm.Term.field (Jvm.Term.string "NineLamps$Tape" (75 : Nat)) "java/lang/String" "value" "[B") Jvm.ClassFile.FieldType.byte) ∈ nfl := List.mem_of_getElem? (i := 33) rfl
theorem nf_34 : (Jvm.Cond.eq (Jvm.Term.length (Jvm.Term.field (Jvm.Term.string "NineLamps$Tape" (75 : Nat)) "java/lang/String" "value" "[B")) (Jvm.Term.int (3 : Int32))) ∈ nfl := List.mem_of_getElem? (i := 34) rfl
theorem nf_35 : (Jvm.Cond.eq (Jvm.Term.elem (Jvm.Term.field (Jvm.Term.string "NineLamps$Tape" (75 : Nat)) "java/lang/String" "value" "[B") (Jvm.Term.int (0 : Int32))) (Jvm.Term.int (115 : Int32))) ∈ nfl := List.mem_of_getElem? (i := 35) rfl
theorem nf_36 : (Jvm.Cond.eq (Jvm.Term.elem (Jvm.Term.field (Jvm.Term.string "NineLamps$Tape" (75 : Nat)) "java/lang/String" "value" "[B") (Jvm.Term.int (1 : Int32))) (Jvm.Term.int (98 : Int32))) ∈ nfl := List.mem_of_getElem? (i := 36) rfl
theorem nf_37 : (Jvm.Cond.eq (Jvm.Term.elem (Jvm.Term.field (Jvm.Term.string "NineLamps$Tape" (75 : Nat)) "java/lang/String" "value" "[B") (Jvm.Term.int (2 : Int32))) (Jvm.Term.int (108 : Int32))) ∈ nfl := List.mem_of_getElem? (i := 37) rfl
theorem nf_38 : (Jvm.Cond.not (Jvm.Cond.eq (Jvm.Term.string "NineLamps$Tape" (67 : Nat)) (Jvm.Term.string "NineLamps$Tape" (75 : Nat)))) ∈ nfl := List.mem_of_getElem? (i := 38) rfl
theorem nf_39 : (Jvm.Cond.not (Jvm.Cond.eq (Jvm.Term.string "NineLamps$Tape" (73 : Nat)) (Jvm.Term.string "NineLamps$Tape" (75 : Nat)))) ∈ nfl := List.mem_of_getElem? (i := 39) rfl
theorem nf_40 : (Jvm.Cond.exactly (Jvm.Term.string "NineLamps$Tape" (77 : Nat)) "java/lang/String") ∈ nfl := List.mem_of_getElem? (i := 40) rfl
theorem nf_41 : (Jvm.Cond.eq (Jvm.Term.field (Jvm.Term.string "NineLamps$Tape" (77 : Nat)) "java/lang/String" "coder" "B") (Jvm.Term.int (0 : Int32))) ∈ nfl := List.mem_of_getElem? (i := 41) rfl
theorem nf_42 : (Jvm.Cond.arrayOf (Jvm.Term.field (Jvm.Term.string "NineLamps$Tape" (77 : Nat)) "java/lang/String" "value" "[B") Jvm.ClassFile.FieldType.byte) ∈ nfl := List.mem_of_getElem? (i := 42) rfl
theorem nf_43 : (Jvm.Cond.eq (Jvm.Term.length (Jvm.Term.field (Jvm.Term.string "NineLamps$Tape" (77 : Nat)) "java/lang/String" "value" "[B")) (Jvm.Term.int (3 : Int32))) ∈ nfl := List.mem_of_getElem? (i := 43) rfl
theorem nf_44 : (Jvm.Cond.eq (Jvm.Term.elem (Jvm.Term.field (Jvm.Term.string "NineLamps$Tape" (77 : Nat)) "java/lang/String" "value" "[B") (Jvm.Term.int (0 : Int32))) (Jvm.Term.int (114 : Int32))) ∈ nfl := List.mem_of_getElem? (i := 44) rfl
theorem nf_45 : (Jvm.Cond.eq (Jvm.Term.elem (Jvm.Term.field (Jvm.Term.string "NineLamps$Tape" (77 : Nat)) "java/lang/String" "value" "[B") (Jvm.Term.int (1 : Int32))) (Jvm.Term.int (103 : Int32))) ∈ nfl := List.mem_of_getElem? (i := 45) rfl
theorem nf_46 : (Jvm.Cond.eq (Jvm.Term.elem (Jvm.Term.field (Jvm.Term.string "NineLamps$Tape" (77 : Nat)) "java/lang/String" "value" "[B") (Jvm.Term.int (2 : Int32))) (Jvm.Term.int (111 : Int32))) ∈ nfl := List.mem_of_getElem? (i := 46) rfl
theorem nf_47 : (Jvm.Cond.not (Jvm.Cond.eq (Jvm.Term.string "NineLamps$Tape" (67 : Nat)) (Jvm.Term.string "NineLamps$Tape" (77 : Nat)))) ∈ nfl := List.mem_of_getElem? (i := 47) rfl
theorem nf_48 : (Jvm.Cond.not (Jvm.Cond.eq (Jvm.Term.string "NineLamps$Tape" (73 : Nat)) (Jvm.Term.string "NineLamps$Tape" (77 : Nat)))) ∈ nfl := List.mem_of_getElem? (i := 48) rfl
theorem nf_49 : (Jvm.Cond.not (Jvm.Cond.eq (Jvm.Term.string "NineLamps$Tape" (75 : Nat)) (Jvm.Term.string "NineLamps$Tape" (77 : Nat)))) ∈ nfl := List.mem_of_getElem? (i := 49) rfl
theorem nf_50 : (Jvm.Cond.exactly (Jvm.Term.string "NineLamps$Tape" (87 : Nat)) "java/lang/String") ∈ nfl := List.mem_of_getElem? (i := 50) rfl
theorem nf_51 : (Jvm.Cond.eq (Jvm.Term.field (Jvm.Term.string "NineLamps$Tape" (87 : Nat)) "java/lang/String" "coder" "B") (Jvm.Term.int (0 : Int32))) ∈ nfl := List.mem_of_getElem? (i := 51) rfl
theorem nf_52 : (Jvm.Cond.arrayOf (Jvm.Term.field (Jvm.Term.string "NineLamps$Tape" (87 : Nat)) "java/lang/String" "value" "[B") Jvm.ClassFile.FieldType.byte) ∈ nfl := List.mem_of_getElem? (i := 52) rfl
theorem nf_53 : (Jvm.Cond.eq (Jvm.Term.length (Jvm.Term.field (Jvm.Term.string "NineLamps$Tape" (87 : Nat)) "java/lang/String" "value" "[B")) (Jvm.Term.int (6 : Int32))) ∈ nfl := List.mem_of_getElem? (i := 53) rfl
theorem nf_54 : (Jvm.Cond.eq (Jvm.Term.elem (Jvm.Term.field (Jvm.Term.string "NineLamps$Tape" (87 : Nat)) "java/lang/String" "value" "[B") (Jvm.Term.int (0 : Int32))) (Jvm.Term.int (112 : Int32))) ∈ nfl := List.mem_of_getElem? (i := 54) rfl
theorem nf_55 : (Jvm.Cond.eq (Jvm.Term.elem (Jvm.Term.field (Jvm.Term.string "NineLamps$Tape" (87 : Nat)) "java/lang/String" "value" "[B") (Jvm.Term.int (1 : Int32))) (Jvm.Term.int (108 : Int32))) ∈ nfl := List.mem_of_getElem? (i := 55) rfl
theorem nf_56 : (Jvm.Cond.eq (Jvm.Term.elem (Jvm.Term.field (Jvm.Term.string "NineLamps$Tape" (87 : Nat)) "java/lang/String" "value" "[B") (Jvm.Term.int (2 : Int32))) (Jvm.Term.int (101 : Int32))) ∈ nfl := List.mem_of_getElem? (i := 56) rfl
theorem nf_57 : (Jvm.Cond.eq (Jvm.Term.elem (Jvm.Term.field (Jvm.Term.string "NineLamps$Tape" (87 : Nat)) "java/lang/String" "value" "[B") (Jvm.Term.int (3 : Int32))) (Jvm.Term.int (115 : Int32))) ∈ nfl := List.mem_of_getElem? (i := 57) rfl
theorem nf_58 : (Jvm.Cond.eq (Jvm.Term.elem (Jvm.Term.field (Jvm.Term.string "NineLamps$Tape" (87 : Nat)) "java/lang/String" "value" "[B") (Jvm.Term.int (4 : Int32))) (Jvm.Term.int (116 : Int32))) ∈ nfl := List.mem_of_getElem? (i := 58) rfl
theorem nf_59 : (Jvm.Cond.eq (Jvm.Term.elem (Jvm.Term.field (Jvm.Term.string "NineLamps$Tape" (87 : Nat)) "java/lang/String" "value" "[B") (Jvm.Term.int (5 : Int32))) (Jvm.Term.int (109 : Int32))) ∈ nfl := List.mem_of_getElem? (i := 59) rfl
theorem nf_60 : (Jvm.Cond.not (Jvm.Cond.eq (Jvm.Term.string "NineLamps$Tape" (67 : Nat)) (Jvm.Term.string "NineLamps$Tape" (87 : Nat)))) ∈ nfl := List.mem_of_getElem? (i := 60) rfl
theorem nf_61 : (Jvm.Cond.not (Jvm.Cond.eq (Jvm.Term.string "NineLamps$Tape" (73 : Nat)) (Jvm.Term.string "NineLamps$Tape" (87 : Nat)))) ∈ nfl := List.mem_of_getElem? (i := 61) rfl
theorem nf_62 : (Jvm.Cond.not (Jvm.Cond.eq (Jvm.Term.string "NineLamps$Tape" (75 : Nat)) (Jvm.Term.string "NineLamps$Tape" (87 : Nat)))) ∈ nfl := List.mem_of_getElem? (i := 62) rfl
theorem nf_63 : (Jvm.Cond.not (Jvm.Cond.eq (Jvm.Term.string "NineLamps$Tape" (77 : Nat)) (Jvm.Term.string "NineLamps$Tape" (87 : Nat)))) ∈ nfl := List.mem_of_getElem? (i := 63) rfl
theorem nf_64 : (Jvm.Cond.exactly (Jvm.Term.string "NineLamps$Tape" (89 : Nat)) "java/lang/String") ∈ nfl := List.mem_of_getElem? (i := 64) rfl
theorem nf_65 : (Jvm.Cond.eq (Jvm.Term.field (Jvm.Term.string "NineLamps$Tape" (89 : Nat)) "java/lang/String" "coder" "B") (Jvm.Term.int (0 : Int32))) ∈ nfl := List.mem_of_getElem? (i := 65) rfl
theorem nf_66 : (Jvm.Cond.arrayOf (Jvm.Term.field (Jvm.Term.string "NineLamps$Tape" (89 : Nat)) "java/lang/String" "value" "[B") Jvm.ClassFile.FieldType.byte) ∈ nfl := List.mem_of_getElem? (i := 66) rfl
theorem nf_67 : (Jvm.Cond.eq (Jvm.Term.length (Jvm.Term.field (Jvm.Term.string "NineLamps$Tape" (89 : Nat)) "java/lang/String" "value" "[B")) (Jvm.Term.int (2 : Int32))) ∈ nfl := List.mem_of_getElem? (i := 67) rfl
theorem nf_68 : (Jvm.Cond.eq (Jvm.Term.elem (Jvm.Term.field (Jvm.Term.string "NineLamps$Tape" (89 : Nat)) "java/lang/String" "value" "[B") (Jvm.Term.int (0 : Int32))) (Jvm.Term.int (114 : Int32))) ∈ nfl := List.mem_of_getElem? (i := 68) rfl
theorem nf_69 : (Jvm.Cond.eq (Jvm.Term.elem (Jvm.Term.field (Jvm.Term.string "NineLamps$Tape" (89 : Nat)) "java/lang/String" "value" "[B") (Jvm.Term.int (1 : Int32))) (Jvm.Term.int (103 : Int32))) ∈ nfl := List.mem_of_getElem? (i := 69) rfl
theorem nf_70 : (Jvm.Cond.not (Jvm.Cond.eq (Jvm.Term.string "NineLamps$Tape" (67 : Nat)) (Jvm.Term.string "NineLamps$Tape" (89 : Nat)))) ∈ nfl := List.mem_of_getElem? (i := 70) rfl
theorem nf_71 : (Jvm.Cond.not (Jvm.Cond.eq (Jvm.Term.string "NineLamps$Tape" (73 : Nat)) (Jvm.Term.string "NineLamps$Tape" (89 : Nat)))) ∈ nfl := List.mem_of_getElem? (i := 71) rfl
theorem nf_72 : (Jvm.Cond.not (Jvm.Cond.eq (Jvm.Term.string "NineLamps$Tape" (75 : Nat)) (Jvm.Term.string "NineLamps$Tape" (89 : Nat)))) ∈ nfl := List.mem_of_getElem? (i := 72) rfl
theorem nf_73 : (Jvm.Cond.not (Jvm.Cond.eq (Jvm.Term.string "NineLamps$Tape" (77 : Nat)) (Jvm.Term.string "NineLamps$Tape" (89 : Nat)))) ∈ nfl := List.mem_of_getElem? (i := 73) rfl
theorem nf_74 : (Jvm.Cond.not (Jvm.Cond.eq (Jvm.Term.string "NineLamps$Tape" (87 : Nat)) (Jvm.Term.string "NineLamps$Tape" (89 : Nat)))) ∈ nfl := List.mem_of_getElem? (i := 74) rfl
theorem st_str {args : Array Value} {s : State} {A : Nat → Prop} (hgv : (Jvm.Cond.and given_1 narrow_1).before args s = true) (hA : ∀ a : Nat, a < s.heap.size → ¬ A a) : ∃ aK aV : Nat → Nat, vk_S 6 sk_len sk_byt aK aV A s s.heap ∧ ∀ i, i < 6 → (Term.string "NineLamps$Tape" (sk_ix.getD i 0)).eval args s none [] s = some (.ref (aK i)) := by
  have hs := flat_of_before _ hgv
  refine vk_Sof (tm := fun i => Term.string "NineLamps$Tape" (sk_ix.getD i 0)) ?_ ?_ ?_ ?_ ?_ ?_ ?_ hA
  · intro i hi
    match i, hi with
    | 0, _ => decide
    | 1, _ => decide
    | 2, _ => decide
    | 3, _ => decide
    | 4, _ => decide
    | 5, _ => decide
    | i + 6, h => exact absurd h (by omega)
  · intro i hi
    match i, hi with
    | 0, _ => exact (hs _ nf_9)
    | 1, _ => exact (hs _ nf_16)
    | 2, _ => exact (hs _ nf_31)
    | 3, _ => exact (hs _ nf_40)
    | 4, _ => exact (hs _ nf_50)
    | 5, _ => exact (hs _ nf_64)
    | i + 6, h => exact absurd h (by omega)
  · intro i hi
    match i, hi with
    | 0, _ => exact (hs _ nf_10)
    | 1, _ => exact (hs _ nf_17)
    | 2, _ => exact (hs _ nf_32)
    | 3, _ => exact (hs _ nf_41)
    | 4, _ => exact (hs _ nf_51)
    | 5, _ => exact (hs _ nf_65)
    | i + 6, h => exact absurd h (by omega)
  · intro i hi
    match i, hi with
    | 0, _ => exact (hs _ nf_11)
    | 1, _ => exact (hs _ nf_18)
    | 2, _ => exact (hs _ nf_33)
    | 3, _ => exact (hs _ nf_42)
    | 4, _ => exact (hs _ nf_52)
    | 5, _ => exact (hs _ nf_66)
    | i + 6, h => exact absurd h (by omega)
  · intro i hi
    match i, hi with
    | 0, _ => exact (hs _ nf_12)
    | 1, _ => exact (hs _ nf_19)
    | 2, _ => exact (hs _ nf_34)
    | 3, _ => exact (hs _ nf_43)
    | 4, _ => exact (hs _ nf_53)
    | 5, _ => exact (hs _ nf_67)
    | i + 6, h => exact absurd h (by omega)
  · intro i hi j hj
    match i, hi with
    | 0, _ =>
      match j, hj with
      | 0, _ => exact (hs _ nf_13)
      | 1, _ => exact (hs _ nf_14)
      | 2, _ => exact (hs _ nf_15)
      | j + 3, h => exact absurd h (show ¬ (j + 3 < 3) by omega)
    | 1, _ =>
      match j, hj with
      | 0, _ => exact (hs _ nf_20)
      | 1, _ => exact (hs _ nf_21)
      | 2, _ => exact (hs _ nf_22)
      | 3, _ => exact (hs _ nf_23)
      | 4, _ => exact (hs _ nf_24)
      | 5, _ => exact (hs _ nf_25)
      | 6, _ => exact (hs _ nf_26)
      | 7, _ => exact (hs _ nf_27)
      | 8, _ => exact (hs _ nf_28)
      | 9, _ => exact (hs _ nf_29)
      | j + 10, h => exact absurd h (show ¬ (j + 10 < 10) by omega)
    | 2, _ =>
      match j, hj with
      | 0, _ => exact (hs _ nf_35)
      | 1, _ => exact (hs _ nf_36)
      | 2, _ => exact (hs _ nf_37)
      | j + 3, h => exact absurd h (show ¬ (j + 3 < 3) by omega)
    | 3, _ =>
      match j, hj with
      | 0, _ => exact (hs _ nf_44)
      | 1, _ => exact (hs _ nf_45)
      | 2, _ => exact (hs _ nf_46)
      | j + 3, h => exact absurd h (show ¬ (j + 3 < 3) by omega)
    | 4, _ =>
      match j, hj with
      | 0, _ => exact (hs _ nf_54)
      | 1, _ => exact (hs _ nf_55)
      | 2, _ => exact (hs _ nf_56)
      | 3, _ => exact (hs _ nf_57)
      | 4, _ => exact (hs _ nf_58)
      | 5, _ => exact (hs _ nf_59)
      | j + 6, h => exact absurd h (show ¬ (j + 6 < 6) by omega)
    | 5, _ =>
      match j, hj with
      | 0, _ => exact (hs _ nf_68)
      | 1, _ => exact (hs _ nf_69)
      | j + 2, h => exact absurd h (show ¬ (j + 2 < 2) by omega)
    | i + 6, h => exact absurd h (by omega)
  · intro i j hi hj hne
    match i, hi, j, hj, hne with
    | 0, _, 0, _, h => exact absurd rfl h
    | 0, _, 1, _, _ => exact Or.inl (hs _ nf_30)
    | 0, _, 2, _, _ => exact Or.inl (hs _ nf_38)
    | 0, _, 3, _, _ => exact Or.inl (hs _ nf_47)
    | 0, _, 4, _, _ => exact Or.inl (hs _ nf_60)
    | 0, _, 5, _, _ => exact Or.inl (hs _ nf_70)
    | 1, _, 0, _, _ => exact Or.inr (hs _ nf_30)
    | 1, _, 1, _, h => exact absurd rfl h
    | 1, _, 2, _, _ => exact Or.inl (hs _ nf_39)
    | 1, _, 3, _, _ => exact Or.inl (hs _ nf_48)
    | 1, _, 4, _, _ => exact Or.inl (hs _ nf_61)
    | 1, _, 5, _, _ => exact Or.inl (hs _ nf_71)
    | 2, _, 0, _, _ => exact Or.inr (hs _ nf_38)
    | 2, _, 1, _, _ => exact Or.inr (hs _ nf_39)
    | 2, _, 2, _, h => exact absurd rfl h
    | 2, _, 3, _, _ => exact Or.inl (hs _ nf_49)
    | 2, _, 4, _, _ => exact Or.inl (hs _ nf_62)
    | 2, _, 5, _, _ => exact Or.inl (hs _ nf_72)
    | 3, _, 0, _, _ => exact Or.inr (hs _ nf_47)
    | 3, _, 1, _, _ => exact Or.inr (hs _ nf_48)
    | 3, _, 2, _, _ => exact Or.inr (hs _ nf_49)
    | 3, _, 3, _, h => exact absurd rfl h
    | 3, _, 4, _, _ => exact Or.inl (hs _ nf_63)
    | 3, _, 5, _, _ => exact Or.inl (hs _ nf_73)
    | 4, _, 0, _, _ => exact Or.inr (hs _ nf_60)
    | 4, _, 1, _, _ => exact Or.inr (hs _ nf_61)
    | 4, _, 2, _, _ => exact Or.inr (hs _ nf_62)
    | 4, _, 3, _, _ => exact Or.inr (hs _ nf_63)
    | 4, _, 4, _, h => exact absurd rfl h
    | 4, _, 5, _, _ => exact Or.inl (hs _ nf_74)
    | 5, _, 0, _, _ => exact Or.inr (hs _ nf_70)
    | 5, _, 1, _, _ => exact Or.inr (hs _ nf_71)
    | 5, _, 2, _, _ => exact Or.inr (hs _ nf_72)
    | 5, _, 3, _, _ => exact Or.inr (hs _ nf_73)
    | 5, _, 4, _, _ => exact Or.inr (hs _ nf_74)
    | 5, _, 5, _, h => exact absurd rfl h
    | i + 6, h, _, _, _ => exact absurd h (by omega)
    | _, _, j + 6, h, _ => exact absurd h (by omega)
theorem st_cs {args : Array Value} {s : State} (hgv : (Jvm.Cond.and given_1 narrow_1).before args s = true) : (Term.static "java/lang/String" "COMPACT_STRINGS" "Z").eval args s none [] s = some (.int 1) := by
  have hs := flat_of_before _ hgv
  exact va_eqi (hs _ nf_4)
theorem nst_0 : Cond.methodLinkNest "NineLamps" 9 yX4_init "NineLamps" ∈ lw_tbl := by
  have h : Cond.methodLinkNest "NineLamps" 9 yX4_init "NineLamps" ∈ tables_1_1 := List.mem_of_getElem? (i := 29) rfl
  exact List.mem_append_right _ (List.mem_append_left _ h)
theorem nst_1 : Cond.methodLinkNest "NineLamps$State" 9 yX2_init "NineLamps" ∈ lw_tbl := by
  have h : Cond.methodLinkNest "NineLamps$State" 9 yX2_init "NineLamps" ∈ tables_1_1 := List.mem_of_getElem? (i := 35) rfl
  exact List.mem_append_right _ (List.mem_append_left _ h)
theorem nst_2 : Cond.methodLinkNest "NineLamps$State" 18 yX0_init "NineLamps" ∈ lw_tbl := by
  have h : Cond.methodLinkNest "NineLamps$State" 18 yX0_init "NineLamps" ∈ tables_1_1 := List.mem_of_getElem? (i := 104) rfl
  exact List.mem_append_right _ (List.mem_append_left _ h)
theorem nst_3 : Cond.methodLinkNest "NineLamps$State" 25 yX1_init "NineLamps" ∈ lw_tbl := by
  have h : Cond.methodLinkNest "NineLamps$State" 25 yX1_init "NineLamps" ∈ tables_1_1 := List.mem_of_getElem? (i := 138) rfl
  exact List.mem_append_right _ (List.mem_append_left _ h)
theorem nst_4 : Cond.methodLinkNest "NineLamps" 25 yX5_init "NineLamps" ∈ lw_tbl := by
  have h : Cond.methodLinkNest "NineLamps" 25 yX5_init "NineLamps" ∈ tables_1_1 := List.mem_of_getElem? (i := 171) rfl
  exact List.mem_append_right _ (List.mem_append_left _ h)
theorem nst_5 : Cond.methodLinkNest "NineLamps$Tape" 17 yX0_init "NineLamps" ∈ lw_tbl := by
  have h : Cond.methodLinkNest "NineLamps$Tape" 17 yX0_init "NineLamps" ∈ tables_1_1 := List.mem_of_getElem? (i := 176) rfl
  exact List.mem_append_right _ (List.mem_append_left _ h)
theorem nst_6 : Cond.methodLinkNest "NineLamps$Trials" 11 yX2_init "NineLamps" ∈ lw_tbl := by
  have h : Cond.methodLinkNest "NineLamps$Trials" 11 yX2_init "NineLamps" ∈ tables_1_1 := List.mem_of_getElem? (i := 221) rfl
  exact List.mem_append_right _ (List.mem_append_left _ h)
theorem nst_7 : Cond.methodLinkNest "NineLamps$Trials" 20 yX0_init "NineLamps" ∈ lw_tbl := by
  have h : Cond.methodLinkNest "NineLamps$Trials" 20 yX0_init "NineLamps" ∈ tables_1_1 := List.mem_of_getElem? (i := 223) rfl
  exact List.mem_append_right _ (List.mem_append_left _ h)
theorem nst_8 : Cond.methodLinkNest "NineLamps" 53 yX3_init "NineLamps" ∈ lw_tbl := by
  have h : Cond.methodLinkNest "NineLamps" 53 yX3_init "NineLamps" ∈ tables_1_2 := List.mem_of_getElem? (i := 12) rfl
  exact List.mem_append_right _ (List.mem_append_right _ (List.mem_append_left _ h))
theorem ao_a : Cond.arrayOver (.array .int) ∈ lw_tbl := by
  have h : Cond.arrayOver (.array .int) ∈ tables_1_1 := List.mem_of_getElem? (i := 40) rfl
  exact List.mem_append_right _ (List.mem_append_left _ h)
theorem ao_s : Cond.arrayOver (.object "NineLamps$Sheet") ∈ lw_tbl := by
  have h : Cond.arrayOver (.object "NineLamps$Sheet") ∈ tables_1_1 := List.mem_of_getElem? (i := 213) rfl
  exact List.mem_append_right _ (List.mem_append_left _ h)
theorem sr_0 : Cond.stringRef "NineLamps$Tape" 67 "\x72ga" ∈ lw_tbl := by
  have h : Cond.stringRef "NineLamps$Tape" 67 "\x72ga" ∈ tables_1_2 := List.mem_of_getElem? (i := 187) rfl
  exact List.mem_append_right _ (List.mem_append_right _ (List.mem_append_left _ h))
theorem sr_1 : Cond.stringRef "NineLamps$Tape" 73 "0123456789" ∈ lw_tbl := by
  have h : Cond.stringRef "NineLamps$Tape" 73 "0123456789" ∈ tables_1_3 := List.mem_of_getElem? (i := 42) rfl
  exact List.mem_append_right _ (List.mem_append_right _ (List.mem_append_right _ (List.mem_append_left _ h)))
theorem sr_2 : Cond.stringRef "NineLamps$Tape" 75 "sbl" ∈ lw_tbl := by
  have h : Cond.stringRef "NineLamps$Tape" 75 "sbl" ∈ tables_1_3 := List.mem_of_getElem? (i := 43) rfl
  exact List.mem_append_right _ (List.mem_append_right _ (List.mem_append_right _ (List.mem_append_left _ h)))
theorem sr_3 : Cond.stringRef "NineLamps$Tape" 77 "\x72go" ∈ lw_tbl := by
  have h : Cond.stringRef "NineLamps$Tape" 77 "\x72go" ∈ tables_1_3 := List.mem_of_getElem? (i := 44) rfl
  exact List.mem_append_right _ (List.mem_append_right _ (List.mem_append_right _ (List.mem_append_left _ h)))
theorem sr_4 : Cond.stringRef "NineLamps$Tape" 87 "plestm" ∈ lw_tbl := by
  have h : Cond.stringRef "NineLamps$Tape" 87 "plestm" ∈ tables_1_3 := List.mem_of_getElem? (i := 84) rfl
  exact List.mem_append_right _ (List.mem_append_right _ (List.mem_append_right _ (List.mem_append_left _ h)))
theorem sr_5 : Cond.stringRef "NineLamps$Tape" 89 "\x72g" ∈ lw_tbl := by
  have h : Cond.stringRef "NineLamps$Tape" 89 "\x72g" ∈ tables_1_3 := List.mem_of_getElem? (i := 85) rfl
  exact List.mem_append_right _ (List.mem_append_right _ (List.mem_append_right _ (List.mem_append_left _ h)))
theorem ls_c : Cond.laysStatic "java/lang/String" "COMPACT_STRINGS" "Z" ∈ lw_tbl := by
  have h : Cond.laysStatic "java/lang/String" "COMPACT_STRINGS" "Z" ∈ tables_1_2 := List.mem_of_getElem? (i := 205) rfl
  exact List.mem_append_right _ (List.mem_append_right _ (List.mem_append_left _ h))
theorem in_str : Cond.initialized "java/lang/String" ∈ lw_tbl := by
  have h : Cond.initialized "java/lang/String" ∈ tables_1_1 := List.mem_of_getElem? (i := 11) rfl
  exact List.mem_append_right _ (List.mem_append_left _ h)
theorem st_kN {args : Array Value} {s : State} (hts : ∀ w ∈ lw_tbl, w.before args s = true) : kN s := by
  refine ⟨fun q hq => ?_, va_AO.of (hts _ ao_s), hts _ ao_a⟩
  unfold knest at hq
  simp only [List.mem_cons, List.not_mem_nil, or_false] at hq
  rcases hq with rfl | rfl | rfl | rfl | rfl | rfl | rfl | rfl | rfl
  · exact va_Nw.of rfl (hts _ nst_0)
  · exact va_Nw.of rfl (hts _ nst_1)
  · exact va_Nw.of rfl (hts _ nst_2)
  · exact va_Nw.of rfl (hts _ nst_3)
  · exact va_Nw.of rfl (hts _ nst_4)
  · exact va_Nw.of rfl (hts _ nst_5)
  · exact va_Nw.of rfl (hts _ nst_6)
  · exact va_Nw.of rfl (hts _ nst_7)
  · exact va_Nw.of rfl (hts _ nst_8)
theorem st_ac {ty : FieldType} {args : Array Value} {s : State} (h : (Cond.arrayClass ty).before args s = true) : ∃ cA, s.vm.findClass ("[" ++ ty.toString) = some cA ∧ ArrOfT s cA ty := by
  simp only [Cond.before, Cond.holds, Cond.value, beq_iff_eq] at h
  cases hc : s.vm.findClass ("[" ++ ty.toString) with
  | none => simp [hc] at h
  | some cA =>
    refine ⟨cA, rfl, ?_⟩
    simp only [hc, Option.bind_some, Option.map_eq_some_iff] at h
    obtain ⟨k, hk, hb⟩ := h
    cases hkind : k.kind with
    | array component ty' =>
      rw [hkind] at hb
      simp at hb
      subst hb
      exact fun n z => ⟨fun q hq => (by cases hq), k, hk, component, hkind⟩
    | _ => rw [hkind] at hb; simp at hb
theorem st_K {args : Array Value} {s : State} {D : va_G} (hts : ∀ w ∈ lw_tbl, w.before args s = true) (hKc : ∀ (k : Nat) (q : vw_C), vwCl[k]? = some q → u_Kn s q.1 q.2.1 q.2.2 (D.1 k) (D.2 k)) : ∃ cl : Nat → ClassId, va_K D vwCl (jm_T cl) s := by
  have htg : ∀ w ∈ G0, w.before args s = true := fun w h => hts w (List.mem_filter.mp h).1
  obtain ⟨c0, f0, a0⟩ := st_ac (htg _ gwt1_101)
  obtain ⟨c1, f1, a1⟩ := st_ac (htg _ gwt1_211)
  obtain ⟨c2, f2, a2⟩ := st_ac (htg _ gwt2_33)
  obtain ⟨p3, c3, k3, g1, g2, g3, g4, g5⟩ := arrayOverA_spec (hts _ ao_a)
  obtain ⟨p4, c4, k4, h1, h2, h3, h4, h5⟩ := Cond.arrayOver_spec (hts _ ao_s)
  refine ⟨fun k => if k = 0 then c0 else if k = 1 then c1 else if k = 2 then c2 else if k = 3 then c3 else c4, hKc, fun k q hk => ?_⟩
  match k, hk with
  | 0, hk => cases hk; exact ⟨a0, f0⟩
  | 1, hk => cases hk; exact ⟨a1, f1⟩
  | 2, hk => cases hk; exact ⟨a2, f2⟩
  | 3, hk => cases hk; exact ⟨fun n z => ⟨fun q hq => (by cases hq), k3, g3, p3, g4⟩, g5⟩
  | 4, hk => cases hk; exact ⟨fun n z => ⟨fun q hq => (by cases hq), k4, h3, p4, h4⟩, k4, p4, h3, h4, h1, h5⟩
  | k + 5, hk => simp [jm_T] at hk
theorem st_Kc {args : Array Value} {s : State} (hts : ∀ w ∈ G0, w.before args s = true) : ∃ D : va_G, ∀ (k : Nat) (q : vw_C), vwCl[k]? = some q → u_Kn s q.1 q.2.1 q.2.2 (D.1 k) (D.2 k) := by
  obtain ⟨c0, i0, h0⟩ := u_known (C := RX0) (T := TX0) (N := 5) (n := 5) hts inGX0 (hts _ gwt1_103)
  obtain ⟨c1, i1, h1⟩ := u_known (C := RX1) (T := TX1) (N := 4) (n := 4) hts inGX1 (hts _ gwt1_137)
  obtain ⟨c2, i2, h2⟩ := u_known (C := RX2) (T := TX2) (N := 15) (n := 15) hts inGX2 (hts _ gwt1_34)
  obtain ⟨c3, i3, h3⟩ := u_known (C := RX3) (T := TX3) (N := 4) (n := 4) hts inGX3 (hts _ gwt2_11)
  obtain ⟨c4, i4, h4⟩ := u_known (C := RX4) (T := TX4) (N := 3) (n := 3) hts inGX4 (hts _ gwt1_28)
  obtain ⟨c5, i5, h5⟩ := u_known (C := RX5) (T := TX5) (N := 9) (n := 9) hts inGX5 (hts _ gwt1_170)
  obtain ⟨c6, i6, h6⟩ := u_known (C := RX6) (T := TX6) (N := 8) (n := 8) hts inGX6 (hts _ gwt1_215)
  obtain ⟨c7, i7, h7⟩ := u_known (C := RX7) (T := TX7) (N := 6) (n := 6) hts inGX7 (hts _ gwt1_20)
  obtain ⟨c8, i8, h8⟩ := u_known (C := RX8) (T := TX8) (N := 21) (n := 21) hts inGX8 (hts _ gwt4_194)
  refine ⟨(fun k => if k = 0 then c0 else if k = 1 then c1 else if k = 2 then c2 else if k = 3 then c3 else if k = 4 then c4 else if k = 5 then c5 else if k = 6 then c6 else if k = 7 then c7 else c8, fun k => if k = 0 then i0 else if k = 1 then i1 else if k = 2 then i2 else if k = 3 then i3 else if k = 4 then i4 else if k = 5 then i5 else if k = 6 then i6 else if k = 7 then i7 else i8), fun k q hq => ?_⟩
  match k, hq with
  | 0, hq => cases hq; exact h0
  | 1, hq => cases hq; exact h1
  | 2, hq => cases hq; exact h2
  | 3, hq => cases hq; exact h3
  | 4, hq => cases hq; exact h4
  | 5, hq => cases hq; exact h5
  | 6, hq => cases hq; exact h6
  | 7, hq => cases hq; exact h7
  | 8, hq => cases hq; exact h8
  | k + 9, hq => simp [vwCl] at hq
theorem st_Str {args : Array Value} {s : State} {A : Nat → Prop} {B b : Nat} (hts : ∀ w ∈ lw_tbl, w.before args s = true) (hgv : (Jvm.Cond.and given_1 narrow_1).before args s = true) (hA : ∀ a : Nat, a < s.heap.size → ¬ A a) : ∃ aK aV : Nat → Nat, jm_Str (ad_ B b aK aV) A s s.heap := by
  obtain ⟨aK, aV, h1, h2⟩ := st_str hgv hA
  have eK : ∀ i, i < 6 → ad_ B b aK aV (1000 + i) = aK i := fun i hi => by
    unfold ad_
    rw [if_neg (by omega), if_pos (by omega), show 1000 + i - 1000 = i by omega]
  have eV : ∀ i, i < 6 → ad_ B b aK aV (2000 + i) = aV i := fun i hi => by
    unfold ad_
    rw [if_neg (by omega), if_neg (by omega), if_pos (by omega), show 2000 + i - 2000 = i by omega]
  refine ⟨aK, aV, ⟨fun i hi => ?_, fun i j hi hj e => ?_⟩, fun i hi => ?_, va_Zof (hts _ ls_c) (hts _ in_str) (st_cs hgv) hA⟩
  · show va_O _ (ad_ B b aK aV (1000 + i)) _ _ _ ∧ va_OF _ _ _ _ (ad_ B b aK aV (1000 + i)) _ _ _ ∧ va_OF _ _ _ (.ref (ad_ B b aK aV (2000 + i))) (ad_ B b aK aV (1000 + i)) _ _ _ ∧ va_T _ (ad_ B b aK aV (2000 + i)) _ _ _ _ _
    rw [eK i hi, eV i hi]
    exact h1.1 i hi
  · have e : ad_ B b aK aV (1000 + i) = ad_ B b aK aV (1000 + j) := e
    rw [eK i hi, eK j hj] at e
    exact h1.2 i j hi hj e
  · rw [eK i hi]
    refine vk_R.of ?_ (h2 i hi)
    match i, hi with
    | 0, _ => exact hts _ sr_0
    | 1, _ => exact hts _ sr_1
    | 2, _ => exact hts _ sr_2
    | 3, _ => exact hts _ sr_3
    | 4, _ => exact hts _ sr_4
    | 5, _ => exact hts _ sr_5
    | i + 6, h => exact absurd h (by omega)
section WK
variable {p : Program} {l : Launch} {e : Env} {R : Room} {s : State} {m : MethodId} {args : Array Value} {below : List Frame} {meth : Method} {c : Code} {H : Heap} {locs : List Loc} {cells slots : Nat} {Q : State → Prop} {D : va_G} {cl : Nat → ClassId} {cc : ByteArray} {pc : Nat} {ls : Array Slot} {rest : List Value} {own : String} {B : Nat} {ac0 : Nat → va_E} {k0 n0 : Nat} {o : va_E} {nw : List va_E}
theorem wk_new {idx ci N : Nat} {CC : String} {T : u_T} {ty : Nat → FieldType} {fs : List Value} (hx : p.tables.exec = Jvm.exec) (hb : c.code = cc) (hown : s.vm.findClass own = some m.cls) (hts : ∀ w ∈ G0, w.before args s = true) (hK : va_K D vwCl (jm_T cl) s) (hB : B ≤ s.heap.size) (hd : decode cc pc = .ok (.new idx, 3)) (hcl : vwCl[ci]? = some (CC, T, N)) (hin : ∀ w ∈ u_ws CC T N, w ∈ G0) (hty : ∀ k, k < N → parseFieldDescriptor (T k).2.2.1 = some (ty k)) (hw1 : Cond.classLink own idx CC ∈ G0) (hw2 : Cond.instantiable CC N ∈ G0) (hw3 : Cond.initialized CC ∈ G0) (hfs : ∀ j, j < N → defaultValue (ty j) = vp_V fs j) (hfm : ∀ ad : Nat → Nat, fs.map (jm_cv ad) = fs) (hroom : cells + 1 ≤ R.cells ∧ slots + N ≤ R.slots) (hk : k0 < n0 ∨ n0 + nw.length < k0) (h2 : kP D B (kst ac0 k0 n0 o nw) (n0 + nw.length) H) (hc : s.heap.size + cells = B + (n0 + nw.length)) (h3 : va_S (fun q => B ≤ q) s.heap H locs)
    (k : ∀ H1, kP D B (kst ac0 k0 n0 o (nw ++ [.inr (ci, fs)])) (n0 + (nw ++ [(.inr (ci, fs) : va_E)]).length) H1 → s.heap.size + (cells + 1) = B + (n0 + (nw ++ [(.inr (ci, fs) : va_E)]).length) → va_S (fun q => B ≤ q) s.heap H1 locs → W p l e R s m args below meth c H1 locs (cells + 1) (slots + N) Q (F0 m (pc + 3) ls (.ref (B + (n0 + nw.length)) :: rest))) : W p l e R s m args below meth c H locs cells slots Q (F0 m pc ls rest) := by
  refine W_sz fun hsz => ?_
  have hz := k_hz hB h2 hc h3 hsz
  have hKn := hK.1 ci _ hcl
  refine W.newcK hx hb hown (hts _ hw1) (hts _ hw2) (hts _ hw3) rfl hd hroom.1 hroom.2 hKn.2.1 hz fun H1 kC hkC e1 z1 o1 => ?_
  refine k H1 ?_ (by rw [List.length_append]; simp; omega) ⟨Nat.le_trans h3.1 (by omega), fun x g1 g2 => (o1 x (Nat.lt_of_lt_of_le g1 (by have := h3.1; omega))).trans (h3.2.1 x g1 g2), h3.2.2⟩
  refine kP_snoc h2 hk o1 ?_
  show va_at D vwCl (B + (n0 + nw.length), .inr (ci, fs.map (jm_cv (fun k => B + k)))) H1
  rw [hfm]
  exact ⟨_, hcl, (u_born ty hts hin hKn hkC e1 hty).to hfs⟩
theorem wk_call {rm' : Room} {idx maxL ms nL : Nat} {y : MethodName} {ws : List Cond} {d o' : va_E} {nv nw' : List va_E} (hx : p.tables.exec = Jvm.exec) (hb : c.code = cc) (hml : c.maxLocals = nL) (hown : s.vm.findClass own = some m.cls) (hts : ∀ w ∈ G0, w.before args s = true) (hK : va_K D vwCl (jm_T cl) s) (hN : kN s) (hB : B ≤ s.heap.size) (hd : decode cc pc = .ok (.invokespecial idx, 3)) (hM : ∀ ac, KC l D cl B y ws rm' [.ref (n0 + nv.length)] ac (n0 + nv.length) (n0 + nv.length + 1) d o' nw' ms) (hw : kgw own idx y ws maxL 0) (hr : rm'.cells = nw'.length ∧ rm'.slots = ms ∧ rm'.frames + 1 ≤ R.frames ∧ 8 + (maxL + 11) + rm'.locals ≤ R.locals) (hW : (rest.map fun v => v.category).sum ≤ 8) (hls : ls.size = nL) (hroom : cells + nw'.length ≤ R.cells ∧ slots + ms ≤ R.slots) (hk : k0 < n0 ∨ n0 + (nv.length + 1 + nw'.length) ≤ k0) (h2 : kP D B (kst ac0 k0 n0 o (nv ++ [d])) (n0 + (nv ++ [d]).length) H) (hc : s.heap.size + cells = B + (n0 + (nv ++ [d]).length)) (h3 : va_S (fun q => B ≤ q) s.heap H locs)
    (k : ∀ H1 locs1, kP D B (kst ac0 k0 n0 o (nv ++ (o' :: nw'))) (n0 + (nv ++ (o' :: nw')).length) H1 → s.heap.size + (cells + nw'.length) = B + (n0 + (nv ++ (o' :: nw')).length) → va_S (fun q => B ≤ q) s.heap H1 locs1 → W p l e R s m args below meth c H1 locs1 (cells + nw'.length) (slots + ms) Q (F0 m (pc + 3) ls rest)) : W p l e R s m args below meth c H locs cells slots Q (F0 m pc ls (.ref (B + (n0 + nv.length)) :: rest)) := by
  refine W_sz fun hsz => ?_
  have hz := k_hz hB h2 hc h3 hsz
  obtain ⟨bytes, g1, g2, g3, g4, g5, g6, g7⟩ := hw
  have hG : GoodIn G0 ws := by
    rw [g1]
    exact gi_all (fun w hw => by rcases List.mem_cons.mp hw with rfl | hw; exact g2; exact hw)
  have hlen : n0 + (nv ++ [d]).length = n0 + nv.length + 1 := by rw [List.length_append]; simp; omega
  rw [hlen] at h2 hz hc
  have hP0 : kP D B (kst (kst ac0 k0 n0 o (nv ++ [d])) (n0 + nv.length) (n0 + nv.length + 1) d []) (n0 + nv.length + 1) H := by
    intro j hj
    have e : kst (kst ac0 k0 n0 o (nv ++ [d])) (n0 + nv.length) (n0 + nv.length + 1) d [] j = kst ac0 k0 n0 o (nv ++ [d]) j := kst_in (ac0 := ac0) (k0 := k0) (n0 := n0) (j := j) (o := o) (d := d) (o' := d) (nw := nv) (nw' := []) (by simp; omega) (by simp; omega)
    rw [e]
    exact h2 j hj
  have hMm := hM (kst ac0 k0 n0 o (nv ++ [d]))
  have hp : PreS s H (va_Pc ([Value.ref (n0 + nv.length)].map (jm_cv (fun k => B + k))) (fun U => U.heap.size = B + (n0 + nv.length + 1) ∧ kP D B (kst (kst ac0 k0 n0 o (nv ++ [d])) (n0 + nv.length) (n0 + nv.length + 1) d []) (n0 + nv.length + 1) U.heap ∧ va_K D vwCl (jm_T cl) U ∧ kN U)) [.ref (B + (n0 + nv.length))] := ⟨kC_blind, fun U hU hWm => ⟨rfl, by rw [hU]; exact hz, by rw [hU]; exact hP0, va_K.moved hWm.alike hK, hN.warm hWm⟩⟩
  have hrun : va_Run p l e R s m args below meth c H locs cells slots nw'.length ms (F0 m pc ls (.ref (B + (n0 + nv.length)) :: rest)) rest (va_Qv (fun _ : Unit => True) (fun _ t => t.heap.size = B + (n0 + nv.length + 1 + nw'.length) ∧ kP D B (kst (kst ac0 k0 n0 o (nv ++ [d])) (n0 + nv.length) (n0 + nv.length + 1) o' nw') (n0 + nv.length + 1 + nw'.length) t.heap) (fun q => B ≤ q) [Value.ref (B + (n0 + nv.length))].toArray) (fun q => B ≤ q) := by
    rcases g7 with g7 | ⟨host, g7⟩
    · exact va_runI (As := []) ⟨hx, hb, hml, hown, hts⟩ hMm (cwI 0 hts hG g1 hr.1 hr.2.1 (hts _ g3) (hts _ g7) (hts _ g4) g5 g6 hr.2.2) hp rfl rfl hls rfl (lv_room hW) hd hroom
    · exact va_runIN (As := []) ⟨hx, hb, hml, hown, hts⟩ hMm ⟨va_cnB 0 hts hG g1 hr.1 hr.2.1 (hN.1 _ g7) (hts _ g3) g6 hr.2.2, g5, hts _ g4⟩ hp rfl rfl hls rfl (lv_room hW) hd hroom
  refine va_callv hrun h3 (fun q _ h => h) (fun q h => h) (fun u t H1 locs1 ht hvm hw hBt hz1 hk1 hS => ?_)
  obtain ⟨b1, b2⟩ := hBt
  rw [ht] at b1 b2
  have hl2 : n0 + (nv ++ (o' :: nw')).length = n0 + nv.length + 1 + nw'.length := by rw [List.length_append]; simp; omega
  refine k H1 locs1 ?_ (by rw [hl2]; omega) hS
  rw [hl2]
  intro j hj
  rw [← kst_in (d := d) hk hj]
  exact b2 j hj
end WK
theorem kgL_9 : kgw RL 9 yX7_init wsX7_init 2 0 := ⟨cX7_init, rfl, gwt1_23, gwt1_1, gwt1_22, rfl, by decide +kernel, Or.inl gwt1_21⟩
theorem kgL_12 : kgw RL 12 yX8_init wsX8_init 2 0 := ⟨cX8_init, rfl, gwt4_197, gwt1_9, gwt4_196, rfl, by decide +kernel, Or.inl gwt4_195⟩
set_option maxHeartbeats 4000000 in
set_option maxRecDepth 100000 in
theorem whole_open (hpure : ∃ I : Mem → Prop, I mu0 ∧ opsOK I) {p : Program} {e : Env} {s : State} {m : MethodId} {below : List Frame} {meth : Method} {c : Code} (l : Launch) {b L : Nat} {xs : Nat → Int32} (hL : L ≤ 384) (C0 : lw_At p s m meth c b L xs) : W p l e room_1 s m #[Value.ref b] below meth c s.heap [] 0 0 (lw_Z below #[Value.ref b] s) (entryFrame m ([Value.ref b] : List Value).toArray 4) := by
  obtain ⟨hx, hb, hr, hml, hown, hts, hX, hbl, hlocks, hgv⟩ := id C0
  have htg : ∀ w ∈ G0, w.before #[Value.ref b] s = true := fun w h => hts w (List.mem_filter.mp h).1
  obtain ⟨D, hKc⟩ := st_Kc htg
  obtain ⟨cl, hK⟩ := st_K hts hKc
  have hN := st_kN hts
  have hAn : ∀ a : Nat, a < s.heap.size → ¬ (fun q : Nat => s.heap.size ≤ q) a := fun a h => Nat.not_le.mpr h
  obtain ⟨aK, aV, hStr⟩ := st_Str (A := fun q => s.heap.size ≤ q) (B := s.heap.size) (b := b) hts hgv hAn
  obtain ⟨I, hI0, ok⟩ := hpure
  have hS : va_S (fun q : Nat => s.heap.size ≤ q) s.heap s.heap [] := va_S.rf
  have hP0 : kP D s.heap.size (kst (fun _ => dX7) 100000 0 dX7 []) (0 + ([] : List va_E).length) s.heap := fun k hk => absurd hk (by simp)
  have hl := lv_entry ([.ref b]) (n := 4) (Nat.le_of_ble_eq_true rfl)
  rw [lg_entry_eq]
  generalize (lg_sl ([.ref b]) ++ List.replicate (4 - (lg_sl ([.ref b])).length) Slot.unset).toArray = ls at hl ⊢
  have hl : lv_has ls 4 [(0, .ref b)] := hl
  refine wk_new (ci := 7) (CC := RX7) (T := TX7) (N := 6) (ty := tyX7) (fs := [.null, .null, .int 0, .null, .null, .null]) hx hb hown htg hK (Nat.le_refl _) dL_law_0 rfl inGX7 tyX7_ok gwt1_19 gwt1_20 gwt1_1 k_dfX7 (fun _ => rfl) ⟨Nat.le_of_ble_eq_true rfl, Nat.le_of_ble_eq_true rfl⟩ (Or.inr (by simp)) hP0 (by simp) hS (fun H h2 hc hS => ?_)
  refine lv_dup hx hb dL_law_3 rfl ?_
  refine wk_call (nv := []) (d := dX7) (o' := oX7 1) (nw' := nwX7 cl 1) (ms := 2105) hx hb hml hown htg hK hN (Nat.le_refl _) dL_law_4 (fun ac => kc_X7 _ _ _ _ ac 0 1 (by omega)) kgL_9 ⟨(by rw [lnX7]; rfl), rfl, Nat.le_of_ble_eq_true rfl, Nat.le_of_ble_eq_true rfl⟩ (Nat.le_of_ble_eq_true rfl) hl.1 (by rw [lnX7]; exact ⟨Nat.le_of_ble_eq_true rfl, Nat.le_of_ble_eq_true rfl⟩) (Or.inr (by rw [lnX7]; decide)) h2 hc hS (fun H locs h2 hc hS => ?_)
  obtain ⟨nv, hnv⟩ : ∃ nv : List va_E, nv = [] ++ (oX7 1 :: nwX7 cl 1) := ⟨_, rfl⟩
  have hn3 : nv.length = 113 := by rw [hnv, List.nil_append, List.length_cons, lnX7]
  rw [← hnv, lnX7] at hc
  rw [← hnv] at h2
  rw [lnX7]
  refine lv_astore_n (lv' := [(1, .ref (s.heap.size + 0)), (0, .ref b)]) hx hb dL_law_7 rfl hl (by decide) rfl (fun ls hl => ?_)
  refine wk_new (ci := 8) (CC := RX8) (T := TX8) (N := 21) (ty := tyX8) (fs := [.int 0, .null, .null, .null, .null, .int 0, .null, .int 0, .int 0, .int 0, .int 0, .null, .int 0, .null, .null, .null, .int 0, .int 0, .int 0, .null, .null]) hx hb hown htg hK (Nat.le_refl _) dL_law_8 rfl inGX8 tyX8_ok gwt4_193 gwt4_194 gwt1_9 k_dfX8 (fun _ => rfl) ⟨Nat.le_of_ble_eq_true rfl, Nat.le_of_ble_eq_true rfl⟩ (Or.inr (by rw [hn3]; decide)) h2 hc hS (fun H h2 hc hS => ?_)
  refine lv_dup hx hb dL_law_11 rfl ?_
  refine wk_call (nv := nv) (d := dX8) (o' := oX8 114) (nw' := nwX8 cl 114) (ms := 7649) (rm' := rmX8_init) hx hb hml hown htg hK hN (Nat.le_refl _) dL_law_12 (fun ac => by rw [hn3]; exact kc_X8 _ _ _ _ ac 113 114 (by omega)) kgL_12 ⟨(by rw [lnX8]; rfl), rfl, Nat.le_of_ble_eq_true rfl, Nat.le_of_ble_eq_true rfl⟩ (Nat.le_of_ble_eq_true rfl) hl.1 (by rw [lnX8]; exact ⟨Nat.le_of_ble_eq_true rfl, Nat.le_of_ble_eq_true rfl⟩) (Or.inr (by rw [hn3, lnX8]; decide)) h2 hc hS (fun H locs h2 hc hS => ?_)
  rw [hn3]
  rw [lnX8]
  obtain ⟨na, hna⟩ : ∃ na : List va_E, na = nv ++ (oX8 114 :: nwX8 cl 114) := ⟨_, rfl⟩
  have hla : na.length = 125 := by rw [hna, List.length_append, hn3, List.length_cons, lnX8]
  have hnE : na = nwE cl := by rw [hna, hnv]; rfl
  rw [← hna, hla] at h2
  refine lv_astore_n (lv' := [(2, .ref (s.heap.size + (0 + 113))), (1, .ref (s.heap.size + 0)), (0, .ref b)]) hx hb dL_law_15 rfl hl (by decide) rfl (fun ls hl => ?_)
  refine lv_iconst (v := 0) hx hb dL_law_16 (by decide) ?_
  refine lv_istore_n (lv' := [(3, .int 0), (2, .ref (s.heap.size + (0 + 113))), (1, .ref (s.heap.size + 0)), (0, .ref b)]) hx hb dL_law_17 rfl hl (by decide) rfl (fun ls hl => ?_)
  have hPJ : va_P D vwCl (jm_W (ad_ s.heap.size b aK aV) cl mu0) H := by
    intro k q hq
    have l1 : k < 125 := by have := (List.getElem?_eq_some_iff.mp hq).1; rw [jm_len] at this; exact this
    rw [jm_at l1] at hq
    cases hq
    obtain ⟨e9, g1, g2⟩ := ce_all (cl := cl) (B := s.heap.size) (b := b) (aK := aK) (aV := aV) l1
    have h9 := h2 (pi_ k) (by have := pi_lt l1; omega)
    have hq9 : kst (fun _ => dX7) 100000 0 dX7 na (pi_ k) = e9 := by
      have := kst_n (ac0 := fun _ => dX7) (k0 := 100000) (n0 := 0) (i := pi_ k) (o := dX7) (nw := na) (e := e9) (Or.inr (by rw [hla]; decide)) (by rw [hnE]; exact g1)
      rw [Nat.zero_add] at this
      exact this
    rw [hq9, g2] at h9
    have ea : ad_ s.heap.size b aK aV k = s.heap.size + pi_ k := by unfold ad_; rw [if_pos l1]
    rw [ea]
    exact h9
  have hinj : jm_inj (ad_ s.heap.size b aK aV) := fun i j hi hj h => by
    unfold ad_ at h
    rw [if_pos hi, if_pos hj] at h
    exact pi_inj hi hj (by omega)
  have hAk : ∀ k, k < 125 → (fun q : Nat => s.heap.size ≤ q) (ad_ s.heap.size b aK aV k) := fun k hk => by
    show s.heap.size ≤ ad_ s.heap.size b aK aV k
    unfold ad_
    rw [if_pos hk]
    exact Nat.le_add_right _ _
  have e3 : ad_ s.heap.size b aK aV 3000 = b := by unfold ad_; rw [if_neg (by decide), if_neg (by decide), if_neg (by decide)]
  have C : jC (p, l, e, room_1, s, m, #[Value.ref b], below, meth, c, D, ad_ s.heap.size b aK aV, cl, lw_Z below #[Value.ref b] s, 125, 9781, fun q : Nat => s.heap.size ≤ q) 4 cL_law RL room_1 := ⟨hx, hb, hml, hown, htg, hK, hinj, hAk, rfl, Nat.le_of_ble_eq_true rfl, Nat.le_of_ble_eq_true rfl, hStr⟩
  have S : jX (p, l, e, room_1, s, m, #[Value.ref b], below, meth, c, D, ad_ s.heap.size b aK aV, cl, lw_Z below #[Value.ref b] s, 125, 9781, fun q : Nat => s.heap.size ≤ q) L xs := by
    refine ⟨?_, ?_, ?_⟩
    · rw [e3]; exact hX
    · rw [e3]; exact hbl
    · rw [e3]; exact Nat.not_le.mpr hbl
  have hend : ∀ lv μ, jJ (p, l, e, room_1, s, m, #[Value.ref b], below, meth, c, D, ad_ s.heap.size b aK aV, cl, lw_Z below #[Value.ref b] s, 125, 9781, fun q : Nat => s.heap.size ≤ q) 4 1478 lv [] μ := fun lv μ ls H locs h1 h2 h3 => by
    refine lv_iconst (v := 1) hx hb dL_law_1478 (by decide) ?_
    refine va_forget (fun q hq => h3.2.2 q hq) ?_
    refine W.widen (k := 600000) (n := 7302249) (Nat.le_of_ble_eq_true rfl) (Nat.le_of_ble_eq_true rfl) ?_
    exact lw_ret hx hb hr hlocks dL_law_1479
  have hlaw := law_loop C S hL ok hend (L + 1) 0 mu0 (by omega) (by omega) hI0
  refine hlaw ls H locs ?_ hPJ hS
  have hl2 : jm_lv (ad_ s.heap.size b aK aV) [(3, .int (nI 0)), (2, .ref 113), (1, .ref 0), (0, .ref 3000)] = [(3, .int 0), (2, .ref (s.heap.size + (0 + 113))), (1, .ref (s.heap.size + 0)), (0, .ref b)] := by
    show [(3, Value.int (nI 0)), (2, Value.ref (ad_ s.heap.size b aK aV 113)), (1, Value.ref (ad_ s.heap.size b aK aV 0)), (0, Value.ref (ad_ s.heap.size b aK aV 3000))] = _
    rw [e3]
    rfl
  rw [hl2]
  exact hl
