section
-- ===== PART A: goes FIRST, ahead of the names: the tables' words, and 'selects' of the private methods out of them =====
/-- a private method of a class that the tables say can be made, by its rows of tables_1 -/
def lw_okq (q : MethodName × Nat) : Prop := (q.1.cls ≠ "java/lang/invoke/MethodHandle" ∧ q.1.cls ≠ "java/lang/invoke/VarHandle") ∧ Cond.instantiable q.1.cls q.2 ∈ tables_1 ∧ Cond.privateMethod q.1 ∈ tables_1 ∧ Cond.instanceMethod q.1 ∈ tables_1
theorem lw_p0 : lw_okq (⟨"NineLamps", "isRock", "(I)Z"⟩, 6) := ⟨⟨by decide +kernel, by decide +kernel⟩, List.mem_of_getElem? (i := 20) (by decide +kernel), List.mem_of_getElem? (i := 320) (by decide +kernel), List.mem_of_getElem? (i := 321) (by decide +kernel)⟩
theorem lw_p1 : lw_okq (⟨"NineLamps", "isPair", "(II)Z"⟩, 6) := ⟨⟨by decide +kernel, by decide +kernel⟩, List.mem_of_getElem? (i := 20) (by decide +kernel), List.mem_of_getElem? (i := 339) (by decide +kernel), List.mem_of_getElem? (i := 340) (by decide +kernel)⟩
theorem lw_p2 : lw_okq (⟨"NineLamps$Tape", "begin", "()V"⟩, 9) := ⟨⟨by decide +kernel, by decide +kernel⟩, List.mem_of_getElem? (i := 170) (by decide +kernel), List.mem_of_getElem? (i := 416) (by decide +kernel), List.mem_of_getElem? (i := 417) (by decide +kernel)⟩
theorem lw_p3 : lw_okq (⟨"NineLamps$Tape", "isAtEnd", "()Z"⟩, 9) := ⟨⟨by decide +kernel, by decide +kernel⟩, List.mem_of_getElem? (i := 170) (by decide +kernel), List.mem_of_getElem? (i := 420) (by decide +kernel), List.mem_of_getElem? (i := 421) (by decide +kernel)⟩
theorem lw_p4 : lw_okq (⟨"NineLamps$Tape", "readRule", "()V"⟩, 9) := ⟨⟨by decide +kernel, by decide +kernel⟩, List.mem_of_getElem? (i := 170) (by decide +kernel), List.mem_of_getElem? (i := 424) (by decide +kernel), List.mem_of_getElem? (i := 425) (by decide +kernel)⟩
theorem lw_p5 : lw_okq (⟨"NineLamps$Tape", "oneOf", "(Ljava/lang/String;)I"⟩, 9) := ⟨⟨by decide +kernel, by decide +kernel⟩, List.mem_of_getElem? (i := 170) (by decide +kernel), List.mem_of_getElem? (i := 429) (by decide +kernel), List.mem_of_getElem? (i := 430) (by decide +kernel)⟩
theorem lw_p6 : lw_okq (⟨"NineLamps$Tape", "refuse", "(I)V"⟩, 9) := ⟨⟨by decide +kernel, by decide +kernel⟩, List.mem_of_getElem? (i := 170) (by decide +kernel), List.mem_of_getElem? (i := 519) (by decide +kernel), List.mem_of_getElem? (i := 520) (by decide +kernel)⟩
theorem lw_p7 : lw_okq (⟨"NineLamps$Tape", "pass", "(C)V"⟩, 9) := ⟨⟨by decide +kernel, by decide +kernel⟩, List.mem_of_getElem? (i := 170) (by decide +kernel), List.mem_of_getElem? (i := 527) (by decide +kernel), List.mem_of_getElem? (i := 528) (by decide +kernel)⟩
theorem lw_p8 : lw_okq (⟨"NineLamps$Tape", "isNext", "(C)Z"⟩, 9) := ⟨⟨by decide +kernel, by decide +kernel⟩, List.mem_of_getElem? (i := 170) (by decide +kernel), List.mem_of_getElem? (i := 531) (by decide +kernel), List.mem_of_getElem? (i := 532) (by decide +kernel)⟩
theorem lw_p9 : lw_okq (⟨"NineLamps$Tape", "refuseEnd", "()V"⟩, 9) := ⟨⟨by decide +kernel, by decide +kernel⟩, List.mem_of_getElem? (i := 170) (by decide +kernel), List.mem_of_getElem? (i := 535) (by decide +kernel), List.mem_of_getElem? (i := 536) (by decide +kernel)⟩
theorem lw_p10 : lw_okq (⟨"NineLamps$Tape", "answer", "(I)I"⟩, 9) := ⟨⟨by decide +kernel, by decide +kernel⟩, List.mem_of_getElem? (i := 170) (by decide +kernel), List.mem_of_getElem? (i := 539) (by decide +kernel), List.mem_of_getElem? (i := 540) (by decide +kernel)⟩
theorem lw_p11 : lw_okq (⟨"NineLamps$Tape", "readRock", "(I)V"⟩, 9) := ⟨⟨by decide +kernel, by decide +kernel⟩, List.mem_of_getElem? (i := 170) (by decide +kernel), List.mem_of_getElem? (i := 561) (by decide +kernel), List.mem_of_getElem? (i := 562) (by decide +kernel)⟩
theorem lw_p12 : lw_okq (⟨"NineLamps$Tape", "readNumber", "(I)I"⟩, 9) := ⟨⟨by decide +kernel, by decide +kernel⟩, List.mem_of_getElem? (i := 170) (by decide +kernel), List.mem_of_getElem? (i := 567) (by decide +kernel), List.mem_of_getElem? (i := 568) (by decide +kernel)⟩
theorem lw_p13 : lw_okq (⟨"NineLamps$Night", "trueOnes", "()I"⟩, 15) := ⟨⟨by decide +kernel, by decide +kernel⟩, List.mem_of_getElem? (i := 34) (by decide +kernel), List.mem_of_getElem? (i := 590) (by decide +kernel), List.mem_of_getElem? (i := 591) (by decide +kernel)⟩
theorem lw_p14 : lw_okq (⟨"NineLamps$Night", "hear", "(I)V"⟩, 15) := ⟨⟨by decide +kernel, by decide +kernel⟩, List.mem_of_getElem? (i := 34) (by decide +kernel), List.mem_of_getElem? (i := 615) (by decide +kernel), List.mem_of_getElem? (i := 616) (by decide +kernel)⟩
theorem lw_p15 : lw_okq (⟨"NineLamps$Night", "act", "(ILNineLamps$Law;Z)I"⟩, 15) := ⟨⟨by decide +kernel, by decide +kernel⟩, List.mem_of_getElem? (i := 34) (by decide +kernel), List.mem_of_getElem? (i := 620) (by decide +kernel), List.mem_of_getElem? (i := 621) (by decide +kernel)⟩
def lw_privs_1 : List (MethodName × Nat) := [(⟨"NineLamps", "isRock", "(I)Z"⟩, 6), (⟨"NineLamps", "isPair", "(II)Z"⟩, 6), (⟨"NineLamps$Tape", "begin", "()V"⟩, 9), (⟨"NineLamps$Tape", "isAtEnd", "()Z"⟩, 9), (⟨"NineLamps$Tape", "readRule", "()V"⟩, 9), (⟨"NineLamps$Tape", "oneOf", "(Ljava/lang/String;)I"⟩, 9), (⟨"NineLamps$Tape", "refuse", "(I)V"⟩, 9), (⟨"NineLamps$Tape", "pass", "(C)V"⟩, 9), (⟨"NineLamps$Tape", "isNext", "(C)Z"⟩, 9), (⟨"NineLamps$Tape", "refuseEnd", "()V"⟩, 9), (⟨"NineLamps$Tape", "answer", "(I)I"⟩, 9), (⟨"NineLamps$Tape", "readRock", "(I)V"⟩, 9), (⟨"NineLamps$Tape", "readNumber", "(I)I"⟩, 9), (⟨"NineLamps$Night", "trueOnes", "()I"⟩, 15), (⟨"NineLamps$Night", "hear", "(I)V"⟩, 15), (⟨"NineLamps$Night", "act", "(ILNineLamps$Law;Z)I"⟩, 15)]
theorem lw_r1 : ∀ q ∈ lw_privs_1, lw_okq q := List.forall_mem_cons.mpr ⟨lw_p0, List.forall_mem_cons.mpr ⟨lw_p1, List.forall_mem_cons.mpr ⟨lw_p2, List.forall_mem_cons.mpr ⟨lw_p3, List.forall_mem_cons.mpr ⟨lw_p4, List.forall_mem_cons.mpr ⟨lw_p5, List.forall_mem_cons.mpr ⟨lw_p6, List.forall_mem_cons.mpr ⟨lw_p7, List.forall_mem_cons.mpr ⟨lw_p8, List.forall_mem_cons.mpr ⟨lw_p9, List.forall_mem_cons.mpr ⟨lw_p10, List.forall_mem_cons.mpr ⟨lw_p11, List.forall_mem_cons.mpr ⟨lw_p12, List.forall_mem_cons.mpr ⟨lw_p13, List.forall_mem_cons.mpr ⟨lw_p14, List.forall_mem_cons.mpr ⟨lw_p15, fun _ h => absurd h List.not_mem_nil⟩⟩⟩⟩⟩⟩⟩⟩⟩⟩⟩⟩⟩⟩⟩⟩
theorem lw_p16 : lw_okq (⟨"NineLamps$Night", "say", "(IIZ)I"⟩, 15) := ⟨⟨by decide +kernel, by decide +kernel⟩, List.mem_of_getElem? (i := 34) (by decide +kernel), List.mem_of_getElem? (i := 626) (by decide +kernel), List.mem_of_getElem? (i := 627) (by decide +kernel)⟩
theorem lw_p17 : lw_okq (⟨"NineLamps$Night", "send", "(IIIZ)V"⟩, 15) := ⟨⟨by decide +kernel, by decide +kernel⟩, List.mem_of_getElem? (i := 34) (by decide +kernel), List.mem_of_getElem? (i := 633) (by decide +kernel), List.mem_of_getElem? (i := 634) (by decide +kernel)⟩
theorem lw_p18 : lw_okq (⟨"NineLamps$Night", "believe", "(II)V"⟩, 15) := ⟨⟨by decide +kernel, by decide +kernel⟩, List.mem_of_getElem? (i := 34) (by decide +kernel), List.mem_of_getElem? (i := 639) (by decide +kernel), List.mem_of_getElem? (i := 640) (by decide +kernel)⟩
theorem lw_p19 : lw_okq (⟨"NineLamps$Night", "show", "(II)V"⟩, 15) := ⟨⟨by decide +kernel, by decide +kernel⟩, List.mem_of_getElem? (i := 34) (by decide +kernel), List.mem_of_getElem? (i := 643) (by decide +kernel), List.mem_of_getElem? (i := 644) (by decide +kernel)⟩
theorem lw_p20 : lw_okq (⟨"NineLamps", "passMinutes", "(IZ)I"⟩, 6) := ⟨⟨by decide +kernel, by decide +kernel⟩, List.mem_of_getElem? (i := 20) (by decide +kernel), List.mem_of_getElem? (i := 653) (by decide +kernel), List.mem_of_getElem? (i := 654) (by decide +kernel)⟩
theorem lw_p21 : lw_okq (⟨"NineLamps$Trials", "run", "(LNineLamps$Law;I)V"⟩, 8) := ⟨⟨by decide +kernel, by decide +kernel⟩, List.mem_of_getElem? (i := 215) (by decide +kernel), List.mem_of_getElem? (i := 673) (by decide +kernel), List.mem_of_getElem? (i := 674) (by decide +kernel)⟩
theorem lw_p22 : lw_okq (⟨"NineLamps$Trials", "begin", "(I)V"⟩, 8) := ⟨⟨by decide +kernel, by decide +kernel⟩, List.mem_of_getElem? (i := 215) (by decide +kernel), List.mem_of_getElem? (i := 677) (by decide +kernel), List.mem_of_getElem? (i := 678) (by decide +kernel)⟩
theorem lw_p23 : lw_okq (⟨"NineLamps$Trials", "until", "(LNineLamps$Law;II)I"⟩, 8) := ⟨⟨by decide +kernel, by decide +kernel⟩, List.mem_of_getElem? (i := 215) (by decide +kernel), List.mem_of_getElem? (i := 702) (by decide +kernel), List.mem_of_getElem? (i := 703) (by decide +kernel)⟩
theorem lw_p24 : lw_okq (⟨"NineLamps$Trials", "isAt", "(II)Z"⟩, 8) := ⟨⟨by decide +kernel, by decide +kernel⟩, List.mem_of_getElem? (i := 215) (by decide +kernel), List.mem_of_getElem? (i := 706) (by decide +kernel), List.mem_of_getElem? (i := 707) (by decide +kernel)⟩
theorem lw_p25 : lw_okq (⟨"NineLamps$Trials", "keepIfLater", "(II)V"⟩, 8) := ⟨⟨by decide +kernel, by decide +kernel⟩, List.mem_of_getElem? (i := 215) (by decide +kernel), List.mem_of_getElem? (i := 728) (by decide +kernel), List.mem_of_getElem? (i := 729) (by decide +kernel)⟩
theorem lw_p26 : lw_okq (⟨"NineLamps", "isSet", "(I)Z"⟩, 6) := ⟨⟨by decide +kernel, by decide +kernel⟩, List.mem_of_getElem? (i := 20) (by decide +kernel), List.mem_of_getElem? (i := 736) (by decide +kernel), List.mem_of_getElem? (i := 737) (by decide +kernel)⟩
theorem lw_p27 : lw_okq (⟨"NineLamps$Trials", "borne", "(LNineLamps$Law;I)I"⟩, 8) := ⟨⟨by decide +kernel, by decide +kernel⟩, List.mem_of_getElem? (i := 215) (by decide +kernel), List.mem_of_getElem? (i := 748) (by decide +kernel), List.mem_of_getElem? (i := 749) (by decide +kernel)⟩
theorem lw_p28 : lw_okq (⟨"NineLamps$Logs", "logsOf", "(I)I"⟩, 4) := ⟨⟨by decide +kernel, by decide +kernel⟩, List.mem_of_getElem? (i := 137) (by decide +kernel), List.mem_of_getElem? (i := 825) (by decide +kernel), List.mem_of_getElem? (i := 826) (by decide +kernel)⟩
theorem lw_p29 : lw_okq (⟨"NineLamps$Logs", "firstWithoutLog", "(II)I"⟩, 4) := ⟨⟨by decide +kernel, by decide +kernel⟩, List.mem_of_getElem? (i := 137) (by decide +kernel), List.mem_of_getElem? (i := 829) (by decide +kernel), List.mem_of_getElem? (i := 830) (by decide +kernel)⟩
theorem lw_p30 : lw_okq (⟨"NineLamps$Logs", "hasPair", "(II)Z"⟩, 4) := ⟨⟨by decide +kernel, by decide +kernel⟩, List.mem_of_getElem? (i := 137) (by decide +kernel), List.mem_of_getElem? (i := 833) (by decide +kernel), List.mem_of_getElem? (i := 834) (by decide +kernel)⟩
theorem lw_p31 : lw_okq (⟨"NineLamps", "refusalOfRow", "(IIII)I"⟩, 6) := ⟨⟨by decide +kernel, by decide +kernel⟩, List.mem_of_getElem? (i := 20) (by decide +kernel), List.mem_of_getElem? (i := 865) (by decide +kernel), List.mem_of_getElem? (i := 866) (by decide +kernel)⟩
def lw_privs_2 : List (MethodName × Nat) := [(⟨"NineLamps$Night", "say", "(IIZ)I"⟩, 15), (⟨"NineLamps$Night", "send", "(IIIZ)V"⟩, 15), (⟨"NineLamps$Night", "believe", "(II)V"⟩, 15), (⟨"NineLamps$Night", "show", "(II)V"⟩, 15), (⟨"NineLamps", "passMinutes", "(IZ)I"⟩, 6), (⟨"NineLamps$Trials", "run", "(LNineLamps$Law;I)V"⟩, 8), (⟨"NineLamps$Trials", "begin", "(I)V"⟩, 8), (⟨"NineLamps$Trials", "until", "(LNineLamps$Law;II)I"⟩, 8), (⟨"NineLamps$Trials", "isAt", "(II)Z"⟩, 8), (⟨"NineLamps$Trials", "keepIfLater", "(II)V"⟩, 8), (⟨"NineLamps", "isSet", "(I)Z"⟩, 6), (⟨"NineLamps$Trials", "borne", "(LNineLamps$Law;I)I"⟩, 8), (⟨"NineLamps$Logs", "logsOf", "(I)I"⟩, 4), (⟨"NineLamps$Logs", "firstWithoutLog", "(II)I"⟩, 4), (⟨"NineLamps$Logs", "hasPair", "(II)Z"⟩, 4), (⟨"NineLamps", "refusalOfRow", "(IIII)I"⟩, 6)]
theorem lw_r2 : ∀ q ∈ lw_privs_2, lw_okq q := List.forall_mem_cons.mpr ⟨lw_p16, List.forall_mem_cons.mpr ⟨lw_p17, List.forall_mem_cons.mpr ⟨lw_p18, List.forall_mem_cons.mpr ⟨lw_p19, List.forall_mem_cons.mpr ⟨lw_p20, List.forall_mem_cons.mpr ⟨lw_p21, List.forall_mem_cons.mpr ⟨lw_p22, List.forall_mem_cons.mpr ⟨lw_p23, List.forall_mem_cons.mpr ⟨lw_p24, List.forall_mem_cons.mpr ⟨lw_p25, List.forall_mem_cons.mpr ⟨lw_p26, List.forall_mem_cons.mpr ⟨lw_p27, List.forall_mem_cons.mpr ⟨lw_p28, List.forall_mem_cons.mpr ⟨lw_p29, List.forall_mem_cons.mpr ⟨lw_p30, List.forall_mem_cons.mpr ⟨lw_p31, fun _ h => absurd h List.not_mem_nil⟩⟩⟩⟩⟩⟩⟩⟩⟩⟩⟩⟩⟩⟩⟩⟩
theorem lw_p32 : lw_okq (⟨"NineLampsModel", "isRock", "(I)Z"⟩, 21) := ⟨⟨by decide +kernel, by decide +kernel⟩, List.mem_of_getElem? (i := 914) (by decide +kernel), List.mem_of_getElem? (i := 1006) (by decide +kernel), List.mem_of_getElem? (i := 1007) (by decide +kernel)⟩
theorem lw_p33 : lw_okq (⟨"NineLampsModel", "reads", "(Z)V"⟩, 21) := ⟨⟨by decide +kernel, by decide +kernel⟩, List.mem_of_getElem? (i := 914) (by decide +kernel), List.mem_of_getElem? (i := 1071) (by decide +kernel), List.mem_of_getElem? (i := 1072) (by decide +kernel)⟩
theorem lw_p34 : lw_okq (⟨"NineLampsModel", "letter", "()I"⟩, 21) := ⟨⟨by decide +kernel, by decide +kernel⟩, List.mem_of_getElem? (i := 914) (by decide +kernel), List.mem_of_getElem? (i := 1075) (by decide +kernel), List.mem_of_getElem? (i := 1076) (by decide +kernel)⟩
theorem lw_p35 : lw_okq (⟨"NineLampsModel", "readsRule", "()V"⟩, 21) := ⟨⟨by decide +kernel, by decide +kernel⟩, List.mem_of_getElem? (i := 914) (by decide +kernel), List.mem_of_getElem? (i := 1079) (by decide +kernel), List.mem_of_getElem? (i := 1080) (by decide +kernel)⟩
theorem lw_p36 : lw_okq (⟨"NineLampsModel", "takes", "(III)I"⟩, 21) := ⟨⟨by decide +kernel, by decide +kernel⟩, List.mem_of_getElem? (i := 914) (by decide +kernel), List.mem_of_getElem? (i := 1083) (by decide +kernel), List.mem_of_getElem? (i := 1084) (by decide +kernel)⟩
theorem lw_p37 : lw_okq (⟨"NineLampsModel", "passes", "(I)I"⟩, 21) := ⟨⟨by decide +kernel, by decide +kernel⟩, List.mem_of_getElem? (i := 914) (by decide +kernel), List.mem_of_getElem? (i := 1087) (by decide +kernel), List.mem_of_getElem? (i := 1088) (by decide +kernel)⟩
theorem lw_p38 : lw_okq (⟨"NineLampsModel", "readsRock", "()V"⟩, 21) := ⟨⟨by decide +kernel, by decide +kernel⟩, List.mem_of_getElem? (i := 914) (by decide +kernel), List.mem_of_getElem? (i := 1093) (by decide +kernel), List.mem_of_getElem? (i := 1094) (by decide +kernel)⟩
theorem lw_p39 : lw_okq (⟨"NineLampsModel", "kindOf", "(I)I"⟩, 21) := ⟨⟨by decide +kernel, by decide +kernel⟩, List.mem_of_getElem? (i := 914) (by decide +kernel), List.mem_of_getElem? (i := 1097) (by decide +kernel), List.mem_of_getElem? (i := 1098) (by decide +kernel)⟩
theorem lw_p40 : lw_okq (⟨"NineLampsModel", "number", "(I)I"⟩, 21) := ⟨⟨by decide +kernel, by decide +kernel⟩, List.mem_of_getElem? (i := 914) (by decide +kernel), List.mem_of_getElem? (i := 1101) (by decide +kernel), List.mem_of_getElem? (i := 1102) (by decide +kernel)⟩
theorem lw_p41 : lw_okq (⟨"NineLampsModel", "dueMany", "()I"⟩, 21) := ⟨⟨by decide +kernel, by decide +kernel⟩, List.mem_of_getElem? (i := 914) (by decide +kernel), List.mem_of_getElem? (i := 1119) (by decide +kernel), List.mem_of_getElem? (i := 1120) (by decide +kernel)⟩
theorem lw_p42 : lw_okq (⟨"NineLampsModel", "goes", "([I)V"⟩, 21) := ⟨⟨by decide +kernel, by decide +kernel⟩, List.mem_of_getElem? (i := 914) (by decide +kernel), List.mem_of_getElem? (i := 1127) (by decide +kernel), List.mem_of_getElem? (i := 1128) (by decide +kernel)⟩
theorem lw_p43 : lw_okq (⟨"NineLampsModel", "isOut", "([II)Z"⟩, 21) := ⟨⟨by decide +kernel, by decide +kernel⟩, List.mem_of_getElem? (i := 914) (by decide +kernel), List.mem_of_getElem? (i := 1131) (by decide +kernel), List.mem_of_getElem? (i := 1132) (by decide +kernel)⟩
theorem lw_p44 : lw_okq (⟨"NineLampsModel", "acts", "([II)V"⟩, 21) := ⟨⟨by decide +kernel, by decide +kernel⟩, List.mem_of_getElem? (i := 914) (by decide +kernel), List.mem_of_getElem? (i := 1135) (by decide +kernel), List.mem_of_getElem? (i := 1136) (by decide +kernel)⟩
theorem lw_p45 : lw_okq (⟨"NineLampsModel", "says", "([III)V"⟩, 21) := ⟨⟨by decide +kernel, by decide +kernel⟩, List.mem_of_getElem? (i := 914) (by decide +kernel), List.mem_of_getElem? (i := 1139) (by decide +kernel), List.mem_of_getElem? (i := 1140) (by decide +kernel)⟩
theorem lw_p46 : lw_okq (⟨"NineLampsModel", "drawn", "([I)I"⟩, 21) := ⟨⟨by decide +kernel, by decide +kernel⟩, List.mem_of_getElem? (i := 914) (by decide +kernel), List.mem_of_getElem? (i := 1146) (by decide +kernel), List.mem_of_getElem? (i := 1147) (by decide +kernel)⟩
theorem lw_p47 : lw_okq (⟨"NineLampsModel", "gone", "(I)I"⟩, 21) := ⟨⟨by decide +kernel, by decide +kernel⟩, List.mem_of_getElem? (i := 914) (by decide +kernel), List.mem_of_getElem? (i := 1159) (by decide +kernel), List.mem_of_getElem? (i := 1160) (by decide +kernel)⟩
def lw_privs_3 : List (MethodName × Nat) := [(⟨"NineLampsModel", "isRock", "(I)Z"⟩, 21), (⟨"NineLampsModel", "reads", "(Z)V"⟩, 21), (⟨"NineLampsModel", "letter", "()I"⟩, 21), (⟨"NineLampsModel", "readsRule", "()V"⟩, 21), (⟨"NineLampsModel", "takes", "(III)I"⟩, 21), (⟨"NineLampsModel", "passes", "(I)I"⟩, 21), (⟨"NineLampsModel", "readsRock", "()V"⟩, 21), (⟨"NineLampsModel", "kindOf", "(I)I"⟩, 21), (⟨"NineLampsModel", "number", "(I)I"⟩, 21), (⟨"NineLampsModel", "dueMany", "()I"⟩, 21), (⟨"NineLampsModel", "goes", "([I)V"⟩, 21), (⟨"NineLampsModel", "isOut", "([II)Z"⟩, 21), (⟨"NineLampsModel", "acts", "([II)V"⟩, 21), (⟨"NineLampsModel", "says", "([III)V"⟩, 21), (⟨"NineLampsModel", "drawn", "([I)I"⟩, 21), (⟨"NineLampsModel", "gone", "(I)I"⟩, 21)]
theorem lw_r3 : ∀ q ∈ lw_privs_3, lw_okq q := List.forall_mem_cons.mpr ⟨lw_p32, List.forall_mem_cons.mpr ⟨lw_p33, List.forall_mem_cons.mpr ⟨lw_p34, List.forall_mem_cons.mpr ⟨lw_p35, List.forall_mem_cons.mpr ⟨lw_p36, List.forall_mem_cons.mpr ⟨lw_p37, List.forall_mem_cons.mpr ⟨lw_p38, List.forall_mem_cons.mpr ⟨lw_p39, List.forall_mem_cons.mpr ⟨lw_p40, List.forall_mem_cons.mpr ⟨lw_p41, List.forall_mem_cons.mpr ⟨lw_p42, List.forall_mem_cons.mpr ⟨lw_p43, List.forall_mem_cons.mpr ⟨lw_p44, List.forall_mem_cons.mpr ⟨lw_p45, List.forall_mem_cons.mpr ⟨lw_p46, List.forall_mem_cons.mpr ⟨lw_p47, fun _ h => absurd h List.not_mem_nil⟩⟩⟩⟩⟩⟩⟩⟩⟩⟩⟩⟩⟩⟩⟩⟩
theorem lw_p48 : lw_okq (⟨"NineLampsModel", "tries", "([II)V"⟩, 21) := ⟨⟨by decide +kernel, by decide +kernel⟩, List.mem_of_getElem? (i := 914) (by decide +kernel), List.mem_of_getElem? (i := 1175) (by decide +kernel), List.mem_of_getElem? (i := 1176) (by decide +kernel)⟩
theorem lw_p49 : lw_okq (⟨"NineLampsModel", "doneBy", "([II)I"⟩, 21) := ⟨⟨by decide +kernel, by decide +kernel⟩, List.mem_of_getElem? (i := 914) (by decide +kernel), List.mem_of_getElem? (i := 1186) (by decide +kernel), List.mem_of_getElem? (i := 1187) (by decide +kernel)⟩
theorem lw_p50 : lw_okq (⟨"NineLampsModel", "holdsBy", "([II)Z"⟩, 21) := ⟨⟨by decide +kernel, by decide +kernel⟩, List.mem_of_getElem? (i := 914) (by decide +kernel), List.mem_of_getElem? (i := 1198) (by decide +kernel), List.mem_of_getElem? (i := 1199) (by decide +kernel)⟩
theorem lw_p51 : lw_okq (⟨"NineLampsModel", "holdsAll", "([II)Z"⟩, 21) := ⟨⟨by decide +kernel, by decide +kernel⟩, List.mem_of_getElem? (i := 914) (by decide +kernel), List.mem_of_getElem? (i := 1206) (by decide +kernel), List.mem_of_getElem? (i := 1207) (by decide +kernel)⟩
theorem lw_p52 : lw_okq (⟨"NineLampsModel", "sureOnes", "()I"⟩, 21) := ⟨⟨by decide +kernel, by decide +kernel⟩, List.mem_of_getElem? (i := 914) (by decide +kernel), List.mem_of_getElem? (i := 1238) (by decide +kernel), List.mem_of_getElem? (i := 1239) (by decide +kernel)⟩
theorem lw_p53 : lw_okq (⟨"NineLampsModel", "logsOf", "(I)I"⟩, 21) := ⟨⟨by decide +kernel, by decide +kernel⟩, List.mem_of_getElem? (i := 914) (by decide +kernel), List.mem_of_getElem? (i := 1250) (by decide +kernel), List.mem_of_getElem? (i := 1251) (by decide +kernel)⟩
theorem lw_p54 : lw_okq (⟨"NineLampsModel", "isLogged", "(II)Z"⟩, 21) := ⟨⟨by decide +kernel, by decide +kernel⟩, List.mem_of_getElem? (i := 914) (by decide +kernel), List.mem_of_getElem? (i := 1254) (by decide +kernel), List.mem_of_getElem? (i := 1255) (by decide +kernel)⟩
theorem lw_p55 : lw_okq (⟨"NineLampsModel", "wrongOf", "(IIII)I"⟩, 21) := ⟨⟨by decide +kernel, by decide +kernel⟩, List.mem_of_getElem? (i := 914) (by decide +kernel), List.mem_of_getElem? (i := 1278) (by decide +kernel), List.mem_of_getElem? (i := 1279) (by decide +kernel)⟩
def lw_privs_4 : List (MethodName × Nat) := [(⟨"NineLampsModel", "tries", "([II)V"⟩, 21), (⟨"NineLampsModel", "doneBy", "([II)I"⟩, 21), (⟨"NineLampsModel", "holdsBy", "([II)Z"⟩, 21), (⟨"NineLampsModel", "holdsAll", "([II)Z"⟩, 21), (⟨"NineLampsModel", "sureOnes", "()I"⟩, 21), (⟨"NineLampsModel", "logsOf", "(I)I"⟩, 21), (⟨"NineLampsModel", "isLogged", "(II)Z"⟩, 21), (⟨"NineLampsModel", "wrongOf", "(IIII)I"⟩, 21)]
theorem lw_r4 : ∀ q ∈ lw_privs_4, lw_okq q := List.forall_mem_cons.mpr ⟨lw_p48, List.forall_mem_cons.mpr ⟨lw_p49, List.forall_mem_cons.mpr ⟨lw_p50, List.forall_mem_cons.mpr ⟨lw_p51, List.forall_mem_cons.mpr ⟨lw_p52, List.forall_mem_cons.mpr ⟨lw_p53, List.forall_mem_cons.mpr ⟨lw_p54, List.forall_mem_cons.mpr ⟨lw_p55, fun _ h => absurd h List.not_mem_nil⟩⟩⟩⟩⟩⟩⟩⟩
def lw_privs : List (MethodName × Nat) := lw_privs_1 ++ (lw_privs_2 ++ (lw_privs_3 ++ (lw_privs_4)))
def lw_tbl : List Cond := k2_sels lw_privs ++ tables_1
theorem lw_privs_ok : ∀ q ∈ lw_privs, lw_okq q := by
  show ∀ q ∈ lw_privs_1 ++ (lw_privs_2 ++ (lw_privs_3 ++ (lw_privs_4))), lw_okq q
  exact List.forall_mem_append.mpr ⟨lw_r1, List.forall_mem_append.mpr ⟨lw_r2, List.forall_mem_append.mpr ⟨lw_r3, lw_r4⟩⟩⟩
end
section
def RX0 : String := "NineLamps$Law"
def TX0 : u_T := fun k => match k with
  | 0 => ("NineLamps$Law", "size", "I", false)
  | 1 => ("NineLamps$Law", "counted", "[I", true)
  | 2 => ("NineLamps$Law", "number", "[I", true)
  | 3 => ("NineLamps$Law", "act", "[I", true)
  | _ => ("NineLamps$Law", "colour", "[I", true)
def tyX0 : Nat → FieldType := fun k => match k with
  | 0 => .int
  | 1 => .array .int
  | 2 => .array .int
  | 3 => .array .int
  | _ => .array .int
abbrev wsX00 : List Cond := u_ws RX0 TX0 5
theorem nmX0 : ∀ a, a < 5 → ∀ b, b < 5 → a ≠ b → (TX0 a).2.1 ≠ (TX0 b).2.1 := by decide +kernel
theorem tyX0_ok : ∀ k, k < 5 → parseFieldDescriptor (TX0 k).2.2.1 = some (tyX0 k) := by decide +kernel
abbrev cX0_init : ByteArray := prog_2_method_1_code
def yX0_init : MethodName := ⟨RX0, "<init>", "()V"⟩
abbrev cX0_append : ByteArray := prog_2_method_2_code
def yX0_append : MethodName := ⟨RX0, "append", "(IIII)I"⟩
abbrev cX0_become : ByteArray := prog_2_method_3_code
def yX0_become : MethodName := ⟨RX0, "become", "(LNineLamps$Law;)V"⟩
abbrev cX0_becomeWithNumber : ByteArray := prog_2_method_4_code
def yX0_becomeWithNumber : MethodName := ⟨RX0, "becomeWithNumber", "(LNineLamps$Law;I)V"⟩
abbrev cX0_becomeWithout : ByteArray := prog_2_method_5_code
def yX0_becomeWithout : MethodName := ⟨RX0, "becomeWithout", "(LNineLamps$Law;I)V"⟩
def RX1 : String := "NineLamps$Logs"
def TX1 : u_T := fun k => match k with
  | 0 => ("NineLamps$Logs", "size", "I", false)
  | 1 => ("NineLamps$Logs", "from", "[I", true)
  | 2 => ("NineLamps$Logs", "to", "[I", true)
  | _ => ("NineLamps$Logs", "colour", "[I", true)
def tyX1 : Nat → FieldType := fun k => match k with
  | 0 => .int
  | 1 => .array .int
  | 2 => .array .int
  | _ => .array .int
abbrev wsX10 : List Cond := u_ws RX1 TX1 4
theorem nmX1 : ∀ a, a < 4 → ∀ b, b < 4 → a ≠ b → (TX1 a).2.1 ≠ (TX1 b).2.1 := by decide +kernel
theorem tyX1_ok : ∀ k, k < 4 → parseFieldDescriptor (TX1 k).2.2.1 = some (tyX1 k) := by decide +kernel
abbrev cX1_init : ByteArray := prog_3_method_1_code
def yX1_init : MethodName := ⟨RX1, "<init>", "()V"⟩
abbrev cX1_append : ByteArray := prog_3_method_2_code
def yX1_append : MethodName := ⟨RX1, "append", "(III)I"⟩
abbrev cX1_become : ByteArray := prog_3_method_3_code
def yX1_become : MethodName := ⟨RX1, "become", "(LNineLamps$Logs;)V"⟩
abbrev cX1_sureLiars : ByteArray := prog_3_method_4_code
def yX1_sureLiars : MethodName := ⟨RX1, "sureLiars", "()I"⟩
abbrev cX1_pairToAsk : ByteArray := prog_3_method_5_code
def yX1_pairToAsk : MethodName := ⟨RX1, "pairToAsk", "(I)I"⟩
abbrev cX1_logsOf : ByteArray := prog_3_method_6_code
def yX1_logsOf : MethodName := ⟨RX1, "logsOf", "(I)I"⟩
abbrev cX1_firstWithoutLog : ByteArray := prog_3_method_7_code
def yX1_firstWithoutLog : MethodName := ⟨RX1, "firstWithoutLog", "(II)I"⟩
abbrev cX1_hasPair : ByteArray := prog_3_method_8_code
def yX1_hasPair : MethodName := ⟨RX1, "hasPair", "(II)Z"⟩
def RX2 : String := "NineLamps$Night"
def TX2 : u_T := fun k => match k with
  | 0 => ("NineLamps$Night", "rocks", "I", false)
  | 1 => ("NineLamps$Night", "minutes", "I", false)
  | 2 => ("NineLamps$Night", "messages", "I", false)
  | 3 => ("NineLamps$Night", "draw", "I", false)
  | 4 => ("NineLamps$Night", "hand", "I", false)
  | 5 => ("NineLamps$Night", "blackout", "I", false)
  | 6 => ("NineLamps$Night", "stirred", "Z", false)
  | 7 => ("NineLamps$Night", "kind", "[I", true)
  | 8 => ("NineLamps$Night", "shows", "[I", true)
  | 9 => ("NineLamps$Night", "said", "[I", true)
  | 10 => ("NineLamps$Night", "darkFrom", "[I", true)
  | 11 => ("NineLamps$Night", "darkUntil", "[I", true)
  | 12 => ("NineLamps$Night", "delay", "[[I", true)
  | 13 => ("NineLamps$Night", "has", "[[I", true)
  | _ => ("NineLamps$Night", "ring", "[[I", true)
def tyX2 : Nat → FieldType := fun k => match k with
  | 0 => .int
  | 1 => .int
  | 2 => .int
  | 3 => .int
  | 4 => .int
  | 5 => .int
  | 6 => .boolean
  | 7 => .array .int
  | 8 => .array .int
  | 9 => .array .int
  | 10 => .array .int
  | 11 => .array .int
  | 12 => .array (.array .int)
  | 13 => .array (.array .int)
  | _ => .array (.array .int)
abbrev wsX20 : List Cond := u_ws RX2 TX2 15
theorem nmX2 : ∀ a, a < 15 → ∀ b, b < 15 → a ≠ b → (TX2 a).2.1 ≠ (TX2 b).2.1 := by decide +kernel
theorem tyX2_ok : ∀ k, k < 15 → parseFieldDescriptor (TX2 k).2.2.1 = some (tyX2 k) := by decide +kernel
abbrev cX2_init : ByteArray := prog_4_method_1_code
def yX2_init : MethodName := ⟨RX2, "<init>", "()V"⟩
abbrev cX2_ringPlace : ByteArray := prog_4_method_2_code
def yX2_ringPlace : MethodName := ⟨RX2, "ringPlace", "(II)I"⟩
abbrev cX2_become : ByteArray := prog_4_method_3_code
def yX2_become : MethodName := ⟨RX2, "become", "(LNineLamps$Night;)V"⟩
abbrev cX2_beginAnew : ByteArray := prog_4_method_4_code
def yX2_beginAnew : MethodName := ⟨RX2, "beginAnew", "()V"⟩
abbrev cX2_letIn : ByteArray := prog_4_method_5_code
def yX2_letIn : MethodName := ⟨RX2, "letIn", "(II)I"⟩
abbrev cX2_takeOut : ByteArray := prog_4_method_6_code
def yX2_takeOut : MethodName := ⟨RX2, "takeOut", "()I"⟩
abbrev cX2_isDark : ByteArray := prog_4_method_7_code
def yX2_isDark : MethodName := ⟨RX2, "isDark", "(I)Z"⟩
abbrev cX2_isTrue : ByteArray := prog_4_method_8_code
def yX2_isTrue : MethodName := ⟨RX2, "isTrue", "(I)Z"⟩
abbrev cX2_believed : ByteArray := prog_4_method_9_code
def yX2_believed : MethodName := ⟨RX2, "believed", "(I)I"⟩
abbrev cX2_colourOf : ByteArray := prog_4_method_10_code
def yX2_colourOf : MethodName := ⟨RX2, "colourOf", "(II)I"⟩
abbrev cX2_waiting : ByteArray := prog_4_method_11_code
def yX2_waiting : MethodName := ⟨RX2, "waiting", "(III)I"⟩
abbrev cX2_bitColour : ByteArray := prog_4_method_12_code
def yX2_bitColour : MethodName := ⟨RX2, "bitColour", "(III)I"⟩
abbrev cX2_counted : ByteArray := prog_4_method_13_code
def yX2_counted : MethodName := ⟨RX2, "counted", "(II)I"⟩
abbrev cX2_allWaiting : ByteArray := prog_4_method_14_code
def yX2_allWaiting : MethodName := ⟨RX2, "allWaiting", "()I"⟩
abbrev cX2_howManyShow : ByteArray := prog_4_method_15_code
def yX2_howManyShow : MethodName := ⟨RX2, "howManyShow", "(II)I"⟩
abbrev cX2_trueOnes : ByteArray := prog_4_method_16_code
def yX2_trueOnes : MethodName := ⟨RX2, "trueOnes", "()I"⟩
abbrev cX2_isDone : ByteArray := prog_4_method_17_code
def yX2_isDone : MethodName := ⟨RX2, "isDone", "(I)Z"⟩
abbrev cX2_isUnlike : ByteArray := prog_4_method_18_code
def yX2_isUnlike : MethodName := ⟨RX2, "isUnlike", "()Z"⟩
abbrev cX2_showsAs : ByteArray := prog_4_method_19_code
def yX2_showsAs : MethodName := ⟨RX2, "showsAs", "([JI)Z"⟩
abbrev cX2_outcome : ByteArray := prog_4_method_20_code
def yX2_outcome : MethodName := ⟨RX2, "outcome", "()I"⟩
abbrev cX2_isStill : ByteArray := prog_4_method_21_code
def yX2_isStill : MethodName := ⟨RX2, "isStill", "()Z"⟩
abbrev cX2_pass : ByteArray := prog_4_method_22_code
def yX2_pass : MethodName := ⟨RX2, "pass", "(LNineLamps$Law;Z)I"⟩
abbrev cX2_hear : ByteArray := prog_4_method_23_code
def yX2_hear : MethodName := ⟨RX2, "hear", "(I)V"⟩
abbrev cX2_act : ByteArray := prog_4_method_24_code
def yX2_act : MethodName := ⟨RX2, "act", "(ILNineLamps$Law;Z)I"⟩
abbrev cX2_believe : ByteArray := prog_4_method_25_code
def yX2_believe : MethodName := ⟨RX2, "believe", "(II)V"⟩
abbrev cX2_show : ByteArray := prog_4_method_26_code
def yX2_show : MethodName := ⟨RX2, "show", "(II)V"⟩
abbrev cX2_say : ByteArray := prog_4_method_27_code
def yX2_say : MethodName := ⟨RX2, "say", "(IIZ)I"⟩
abbrev cX2_colourSent : ByteArray := prog_4_method_28_code
def yX2_colourSent : MethodName := ⟨RX2, "colourSent", "(IIIZ)I"⟩
abbrev cX2_send : ByteArray := prog_4_method_29_code
def yX2_send : MethodName := ⟨RX2, "send", "(IIIZ)V"⟩
def RX3 : String := "NineLamps$Sheet"
def TX3 : u_T := fun k => match k with
  | 0 => ("NineLamps$Sheet", "isThere", "Z", false)
  | 1 => ("NineLamps$Sheet", "lane", "I", false)
  | 2 => ("NineLamps$Sheet", "size", "I", false)
  | _ => ("NineLamps$Sheet", "items", "[J", true)
def tyX3 : Nat → FieldType := fun k => match k with
  | 0 => .boolean
  | 1 => .int
  | 2 => .int
  | _ => .array .long
abbrev wsX30 : List Cond := u_ws RX3 TX3 4
theorem nmX3 : ∀ a, a < 4 → ∀ b, b < 4 → a ≠ b → (TX3 a).2.1 ≠ (TX3 b).2.1 := by decide +kernel
theorem tyX3_ok : ∀ k, k < 4 → parseFieldDescriptor (TX3 k).2.2.1 = some (tyX3 k) := by decide +kernel
abbrev cX3_init : ByteArray := prog_5_method_1_code
def yX3_init : MethodName := ⟨RX3, "<init>", "()V"⟩
abbrev cX3_renew : ByteArray := prog_5_method_2_code
def yX3_renew : MethodName := ⟨RX3, "renew", "(II)V"⟩
abbrev cX3_hasRow : ByteArray := prog_5_method_3_code
def yX3_hasRow : MethodName := ⟨RX3, "hasRow", "(II)Z"⟩
abbrev cX3_put : ByteArray := prog_5_method_4_code
def yX3_put : MethodName := ⟨RX3, "put", "(IJ)V"⟩
def RX4 : String := "NineLamps$State"
def TX4 : u_T := fun k => match k with
  | 0 => ("NineLamps$State", "night", "LNineLamps$Night;", true)
  | 1 => ("NineLamps$State", "law", "LNineLamps$Law;", true)
  | _ => ("NineLamps$State", "logs", "LNineLamps$Logs;", true)
def tyX4 : Nat → FieldType := fun k => match k with
  | 0 => .object "NineLamps$Night"
  | 1 => .object "NineLamps$Law"
  | _ => .object "NineLamps$Logs"
abbrev wsX40 : List Cond := u_ws RX4 TX4 3
theorem nmX4 : ∀ a, a < 3 → ∀ b, b < 3 → a ≠ b → (TX4 a).2.1 ≠ (TX4 b).2.1 := by decide +kernel
theorem tyX4_ok : ∀ k, k < 3 → parseFieldDescriptor (TX4 k).2.2.1 = some (tyX4 k) := by decide +kernel
abbrev cX4_init : ByteArray := prog_6_method_1_code
def yX4_init : MethodName := ⟨RX4, "<init>", "()V"⟩
abbrev cX4_become : ByteArray := prog_6_method_2_code
def yX4_become : MethodName := ⟨RX4, "become", "(LNineLamps$State;)V"⟩
def RX5 : String := "NineLamps$Tape"
def TX5 : u_T := fun k => match k with
  | 0 => ("NineLamps$Tape", "size", "I", false)
  | 1 => ("NineLamps$Tape", "law", "LNineLamps$Law;", true)
  | 2 => ("NineLamps$Tape", "kind", "[I", true)
  | 3 => ("NineLamps$Tape", "colour", "[I", true)
  | 4 => ("NineLamps$Tape", "darkFrom", "[I", true)
  | 5 => ("NineLamps$Tape", "darkUntil", "[I", true)
  | 6 => ("NineLamps$Tape", "letters", "[C", true)
  | 7 => ("NineLamps$Tape", "place", "I", false)
  | _ => ("NineLamps$Tape", "wrong", "I", false)
def tyX5 : Nat → FieldType := fun k => match k with
  | 0 => .int
  | 1 => .object "NineLamps$Law"
  | 2 => .array .int
  | 3 => .array .int
  | 4 => .array .int
  | 5 => .array .int
  | 6 => .array .char
  | 7 => .int
  | _ => .int
abbrev wsX50 : List Cond := u_ws RX5 TX5 9
theorem nmX5 : ∀ a, a < 9 → ∀ b, b < 9 → a ≠ b → (TX5 a).2.1 ≠ (TX5 b).2.1 := by decide +kernel
theorem tyX5_ok : ∀ k, k < 9 → parseFieldDescriptor (TX5 k).2.2.1 = some (tyX5 k) := by decide +kernel
abbrev cX5_init : ByteArray := prog_7_method_1_code
def yX5_init : MethodName := ⟨RX5, "<init>", "()V"⟩
abbrev cX5_append : ByteArray := prog_7_method_2_code
def yX5_append : MethodName := ⟨RX5, "append", "(I)I"⟩
abbrev cX5_readLaw : ByteArray := prog_7_method_3_code
def yX5_readLaw : MethodName := ⟨RX5, "readLaw", "()I"⟩
abbrev cX5_readRule : ByteArray := prog_7_method_4_code
def yX5_readRule : MethodName := ⟨RX5, "readRule", "()V"⟩
abbrev cX5_readRocks : ByteArray := prog_7_method_5_code
def yX5_readRocks : MethodName := ⟨RX5, "readRocks", "()I"⟩
abbrev cX5_readRock : ByteArray := prog_7_method_6_code
def yX5_readRock : MethodName := ⟨RX5, "readRock", "(I)V"⟩
abbrev cX5_begin : ByteArray := prog_7_method_7_code
def yX5_begin : MethodName := ⟨RX5, "begin", "()V"⟩
abbrev cX5_answer : ByteArray := prog_7_method_8_code
def yX5_answer : MethodName := ⟨RX5, "answer", "(I)I"⟩
abbrev cX5_refuse : ByteArray := prog_7_method_9_code
def yX5_refuse : MethodName := ⟨RX5, "refuse", "(I)V"⟩
abbrev cX5_refuseEnd : ByteArray := prog_7_method_10_code
def yX5_refuseEnd : MethodName := ⟨RX5, "refuseEnd", "()V"⟩
abbrev cX5_isAtEnd : ByteArray := prog_7_method_11_code
def yX5_isAtEnd : MethodName := ⟨RX5, "isAtEnd", "()Z"⟩
abbrev cX5_isNext : ByteArray := prog_7_method_12_code
def yX5_isNext : MethodName := ⟨RX5, "isNext", "(C)Z"⟩
abbrev cX5_pass : ByteArray := prog_7_method_13_code
def yX5_pass : MethodName := ⟨RX5, "pass", "(C)V"⟩
abbrev cX5_oneOf : ByteArray := prog_7_method_14_code
def yX5_oneOf : MethodName := ⟨RX5, "oneOf", "(Ljava/lang/String;)I"⟩
abbrev cX5_readNumber : ByteArray := prog_7_method_15_code
def yX5_readNumber : MethodName := ⟨RX5, "readNumber", "(I)I"⟩
abbrev cX5_isDigit : ByteArray := prog_7_method_16_code
def yX5_isDigit : MethodName := ⟨RX5, "isDigit", "(C)Z"⟩
def RX6 : String := "NineLamps$Trials"
def TX6 : u_T := fun k => match k with
  | 0 => ("NineLamps$Trials", "now", "LNineLamps$Night;", true)
  | 1 => ("NineLamps$Trials", "told", "LNineLamps$Law;", true)
  | 2 => ("NineLamps$Trials", "trial", "LNineLamps$Night;", true)
  | 3 => ("NineLamps$Trials", "other", "LNineLamps$Law;", true)
  | 4 => ("NineLamps$Trials", "items", "[J", false)
  | 5 => ("NineLamps$Trials", "itemsFrom", "I", false)
  | 6 => ("NineLamps$Trials", "found", "I", false)
  | _ => ("NineLamps$Trials", "foundMinutes", "I", false)
def tyX6 : Nat → FieldType := fun k => match k with
  | 0 => .object "NineLamps$Night"
  | 1 => .object "NineLamps$Law"
  | 2 => .object "NineLamps$Night"
  | 3 => .object "NineLamps$Law"
  | 4 => .array .long
  | 5 => .int
  | 6 => .int
  | _ => .int
abbrev wsX60 : List Cond := u_ws RX6 TX6 8
theorem nmX6 : ∀ a, a < 8 → ∀ b, b < 8 → a ≠ b → (TX6 a).2.1 ≠ (TX6 b).2.1 := by decide +kernel
theorem tyX6_ok : ∀ k, k < 8 → parseFieldDescriptor (TX6 k).2.2.1 = some (tyX6 k) := by decide +kernel
abbrev cX6_init : ByteArray := prog_8_method_1_code
def yX6_init : MethodName := ⟨RX6, "<init>", "(LNineLamps$Night;LNineLamps$Law;)V"⟩
abbrev cX6_begin : ByteArray := prog_8_method_2_code
def yX6_begin : MethodName := ⟨RX6, "begin", "(I)V"⟩
abbrev cX6_run : ByteArray := prog_8_method_3_code
def yX6_run : MethodName := ⟨RX6, "run", "(LNineLamps$Law;I)V"⟩
abbrev cX6_until : ByteArray := prog_8_method_4_code
def yX6_until : MethodName := ⟨RX6, "until", "(LNineLamps$Law;II)I"⟩
abbrev cX6_isAt : ByteArray := prog_8_method_5_code
def yX6_isAt : MethodName := ⟨RX6, "isAt", "(II)Z"⟩
abbrev cX6_later : ByteArray := prog_8_method_6_code
def yX6_later : MethodName := ⟨RX6, "later", "(I)LNineLamps$Night;"⟩
abbrev cX6_doneFromNow : ByteArray := prog_8_method_7_code
def yX6_doneFromNow : MethodName := ⟨RX6, "doneFromNow", "()I"⟩
abbrev cX6_unlikeWith : ByteArray := prog_8_method_8_code
def yX6_unlikeWith : MethodName := ⟨RX6, "unlikeWith", "(I)I"⟩
abbrev cX6_shownFromNow : ByteArray := prog_8_method_9_code
def yX6_shownFromNow : MethodName := ⟨RX6, "shownFromNow", "([JI)I"⟩
abbrev cX6_findDarkest : ByteArray := prog_8_method_10_code
def yX6_findDarkest : MethodName := ⟨RX6, "findDarkest", "()V"⟩
abbrev cX6_findWorst : ByteArray := prog_8_method_11_code
def yX6_findWorst : MethodName := ⟨RX6, "findWorst", "()V"⟩
abbrev cX6_keepIfLater : ByteArray := prog_8_method_12_code
def yX6_keepIfLater : MethodName := ⟨RX6, "keepIfLater", "(II)V"⟩
abbrev cX6_mostBorne : ByteArray := prog_8_method_13_code
def yX6_mostBorne : MethodName := ⟨RX6, "mostBorne", "()I"⟩
abbrev cX6_borne : ByteArray := prog_8_method_14_code
def yX6_borne : MethodName := ⟨RX6, "borne", "(LNineLamps$Law;I)I"⟩
abbrev cX6_leastNumber : ByteArray := prog_8_method_15_code
def yX6_leastNumber : MethodName := ⟨RX6, "leastNumber", "(II)I"⟩
abbrev cX6_spareRules : ByteArray := prog_8_method_16_code
def yX6_spareRules : MethodName := ⟨RX6, "spareRules", "()I"⟩
def RX7 : String := "NineLamps"
def TX7 : u_T := fun k => match k with
  | 0 => ("NineLamps", "now", "LNineLamps$State;", true)
  | 1 => ("NineLamps", "kept", "LNineLamps$State;", true)
  | 2 => ("NineLamps", "isKept", "Z", false)
  | 3 => ("NineLamps", "trials", "LNineLamps$Trials;", true)
  | 4 => ("NineLamps", "tape", "LNineLamps$Tape;", true)
  | _ => ("NineLamps", "sheets", "[LNineLamps$Sheet;", true)
def tyX7 : Nat → FieldType := fun k => match k with
  | 0 => .object "NineLamps$State"
  | 1 => .object "NineLamps$State"
  | 2 => .boolean
  | 3 => .object "NineLamps$Trials"
  | 4 => .object "NineLamps$Tape"
  | _ => .array (.object "NineLamps$Sheet")
abbrev wsX70 : List Cond := u_ws RX7 TX7 6
theorem nmX7 : ∀ a, a < 6 → ∀ b, b < 6 → a ≠ b → (TX7 a).2.1 ≠ (TX7 b).2.1 := by decide +kernel
theorem tyX7_ok : ∀ k, k < 6 → parseFieldDescriptor (TX7 k).2.2.1 = some (tyX7 k) := by decide +kernel
abbrev cX7_init : ByteArray := prog_1_method_1_code
def yX7_init : MethodName := ⟨RX7, "<init>", "()V"⟩
abbrev cX7_rock : ByteArray := prog_1_method_2_code
def yX7_rock : MethodName := ⟨RX7, "rock", "(II)I"⟩
abbrev cX7_out : ByteArray := prog_1_method_3_code
def yX7_out : MethodName := ⟨RX7, "out", "()I"⟩
abbrev cX7_turn : ByteArray := prog_1_method_4_code
def yX7_turn : MethodName := ⟨RX7, "turn", "(II)I"⟩
abbrev cX7_dark : ByteArray := prog_1_method_5_code
def yX7_dark : MethodName := ⟨RX7, "dark", "(III)I"⟩
abbrev cX7_delay : ByteArray := prog_1_method_6_code
def yX7_delay : MethodName := ⟨RX7, "delay", "(III)I"⟩
abbrev cX7_told : ByteArray := prog_1_method_7_code
def yX7_told : MethodName := ⟨RX7, "told", "(II)I"⟩
abbrev cX7_heard : ByteArray := prog_1_method_8_code
def yX7_heard : MethodName := ⟨RX7, "heard", "(II)I"⟩
abbrev cX7_counts : ByteArray := prog_1_method_9_code
def yX7_counts : MethodName := ⟨RX7, "counts", "(II)I"⟩
abbrev cX7_due : ByteArray := prog_1_method_10_code
def yX7_due : MethodName := ⟨RX7, "due", "(III)I"⟩
abbrev cX7_rule : ByteArray := prog_1_method_11_code
def yX7_rule : MethodName := ⟨RX7, "rule", "(II)I"⟩
abbrev cX7_add : ByteArray := prog_1_method_12_code
def yX7_add : MethodName := ⟨RX7, "add", "(IIII)I"⟩
abbrev cX7_type : ByteArray := prog_1_method_13_code
def yX7_type : MethodName := ⟨RX7, "type", "(I)I"⟩
abbrev cX7_laws : ByteArray := prog_1_method_14_code
def yX7_laws : MethodName := ⟨RX7, "laws", "()I"⟩
abbrev cX7_rocks : ByteArray := prog_1_method_15_code
def yX7_rocks : MethodName := ⟨RX7, "rocks", "()I"⟩
abbrev cX7_count : ByteArray := prog_1_method_16_code
def yX7_count : MethodName := ⟨RX7, "count", "(I)I"⟩
abbrev cX7_minute : ByteArray := prog_1_method_17_code
def yX7_minute : MethodName := ⟨RX7, "minute", "()I"⟩
abbrev cX7_night : ByteArray := prog_1_method_18_code
def yX7_night : MethodName := ⟨RX7, "night", "(I)I"⟩
abbrev cX7_lots : ByteArray := prog_1_method_19_code
def yX7_lots : MethodName := ⟨RX7, "lots", "(I)I"⟩
abbrev cX7_seed : ByteArray := prog_1_method_20_code
def yX7_seed : MethodName := ⟨RX7, "seed", "(I)I"⟩
abbrev cX7_behind : ByteArray := prog_1_method_21_code
def yX7_behind : MethodName := ⟨RX7, "behind", "(III)I"⟩
abbrev cX7_when : ByteArray := prog_1_method_22_code
def yX7_when : MethodName := ⟨RX7, "when", "(I)I"⟩
abbrev cX7_darkest : ByteArray := prog_1_method_23_code
def yX7_darkest : MethodName := ⟨RX7, "darkest", "(I)I"⟩
abbrev cX7_holds : ByteArray := prog_1_method_24_code
def yX7_holds : MethodName := ⟨RX7, "holds", "(I)I"⟩
abbrev cX7_bears : ByteArray := prog_1_method_25_code
def yX7_bears : MethodName := ⟨RX7, "bears", "()I"⟩
abbrev cX7_worst : ByteArray := prog_1_method_26_code
def yX7_worst : MethodName := ⟨RX7, "worst", "(I)I"⟩
abbrev cX7_least : ByteArray := prog_1_method_27_code
def yX7_least : MethodName := ⟨RX7, "least", "(II)I"⟩
abbrev cX7_spare : ByteArray := prog_1_method_28_code
def yX7_spare : MethodName := ⟨RX7, "spare", "()I"⟩
abbrev cX7_log : ByteArray := prog_1_method_29_code
def yX7_log : MethodName := ⟨RX7, "log", "(III)I"⟩
abbrev cX7_burn : ByteArray := prog_1_method_30_code
def yX7_burn : MethodName := ⟨RX7, "burn", "()I"⟩
abbrev cX7_sure : ByteArray := prog_1_method_31_code
def yX7_sure : MethodName := ⟨RX7, "sure", "()I"⟩
abbrev cX7_fits : ByteArray := prog_1_method_32_code
def yX7_fits : MethodName := ⟨RX7, "fits", "(I)I"⟩
abbrev cX7_ask : ByteArray := prog_1_method_33_code
def yX7_ask : MethodName := ⟨RX7, "ask", "()I"⟩
abbrev cX7_ship : ByteArray := prog_1_method_34_code
def yX7_ship : MethodName := ⟨RX7, "ship", "(II)I"⟩
abbrev cX7_image : ByteArray := prog_1_method_35_code
def yX7_image : MethodName := ⟨RX7, "image", "()I"⟩
abbrev cX7_restore : ByteArray := prog_1_method_36_code
def yX7_restore : MethodName := ⟨RX7, "restore", "()I"⟩
abbrev cX7_delays : ByteArray := prog_1_method_37_code
def yX7_delays : MethodName := ⟨RX7, "delays", "(IIII)I"⟩
abbrev cX7_film : ByteArray := prog_1_method_38_code
def yX7_film : MethodName := ⟨RX7, "film", "(III)I"⟩
abbrev cX7_seen : ByteArray := prog_1_method_39_code
def yX7_seen : MethodName := ⟨RX7, "seen", "(III)I"⟩
abbrev cX7_sheet : ByteArray := prog_1_method_40_code
def yX7_sheet : MethodName := ⟨RX7, "sheet", "(III)I"⟩
abbrev cX7_drop : ByteArray := prog_1_method_41_code
def yX7_drop : MethodName := ⟨RX7, "drop", "(I)I"⟩
abbrev cX7_item : ByteArray := prog_1_method_42_code
def yX7_item : MethodName := ⟨RX7, "item", "(IIIJ)I"⟩
abbrev cX7_copy : ByteArray := prog_1_method_43_code
def yX7_copy : MethodName := ⟨RX7, "copy", "(IIIII)I"⟩
abbrev cX7_within : ByteArray := prog_1_method_44_code
def yX7_within : MethodName := ⟨RX7, "within", "(III)Z"⟩
abbrev cX7_asNumber : ByteArray := prog_1_method_45_code
def yX7_asNumber : MethodName := ⟨RX7, "asNumber", "(Z)I"⟩
abbrev cX7_isRock : ByteArray := prog_1_method_46_code
def yX7_isRock : MethodName := ⟨RX7, "isRock", "(I)Z"⟩
abbrev cX7_isPair : ByteArray := prog_1_method_47_code
def yX7_isPair : MethodName := ⟨RX7, "isPair", "(II)Z"⟩
abbrev cX7_isSet : ByteArray := prog_1_method_48_code
def yX7_isSet : MethodName := ⟨RX7, "isSet", "(I)Z"⟩
abbrev cX7_passMinutes : ByteArray := prog_1_method_49_code
def yX7_passMinutes : MethodName := ⟨RX7, "passMinutes", "(IZ)I"⟩
abbrev cX7_refusalOfRow : ByteArray := prog_1_method_50_code
def yX7_refusalOfRow : MethodName := ⟨RX7, "refusalOfRow", "(IIII)I"⟩
abbrev cX7_choose : ByteArray := prog_1_method_51_code
def yX7_choose : MethodName := ⟨RX7, "choose", "(II)I"⟩
def RX8 : String := "NineLampsModel"
def TX8 : u_T := fun k => match k with
  | 0 => ("NineLampsModel", "thrown", "I", false)
  | 1 => ("NineLampsModel", "s", "[I", true)
  | 2 => ("NineLampsModel", "base", "[I", true)
  | 3 => ("NineLampsModel", "w", "[I", true)
  | 4 => ("NineLampsModel", "kept", "[I", true)
  | 5 => ("NineLampsModel", "isKept", "Z", false)
  | 6 => ("NineLampsModel", "tape", "[I", true)
  | 7 => ("NineLampsModel", "typed", "I", false)
  | 8 => ("NineLampsModel", "next", "I", false)
  | 9 => ("NineLampsModel", "place", "I", false)
  | 10 => ("NineLampsModel", "fault", "I", false)
  | 11 => ("NineLampsModel", "draft", "[I", true)
  | 12 => ("NineLampsModel", "read", "I", false)
  | 13 => ("NineLampsModel", "lane", "[I", true)
  | 14 => ("NineLampsModel", "size", "[I", true)
  | 15 => ("NineLampsModel", "items", "[J", true)
  | 16 => ("NineLampsModel", "isLot", "Z", false)
  | 17 => ("NineLampsModel", "darkOne", "I", false)
  | 18 => ("NineLampsModel", "sentNow", "I", false)
  | 19 => ("NineLampsModel", "ends", "[I", true)
  | _ => ("NineLampsModel", "held", "[J", true)
def tyX8 : Nat → FieldType := fun k => match k with
  | 0 => .int
  | 1 => .array .int
  | 2 => .array .int
  | 3 => .array .int
  | 4 => .array .int
  | 5 => .boolean
  | 6 => .array .int
  | 7 => .int
  | 8 => .int
  | 9 => .int
  | 10 => .int
  | 11 => .array .int
  | 12 => .int
  | 13 => .array .int
  | 14 => .array .int
  | 15 => .array .long
  | 16 => .boolean
  | 17 => .int
  | 18 => .int
  | 19 => .array .int
  | _ => .array .long
abbrev wsX80 : List Cond := u_ws RX8 TX8 21
theorem nmX8 : ∀ a, a < 21 → ∀ b, b < 21 → a ≠ b → (TX8 a).2.1 ≠ (TX8 b).2.1 := by decide +kernel
theorem tyX8_ok : ∀ k, k < 21 → parseFieldDescriptor (TX8 k).2.2.1 = some (tyX8 k) := by decide +kernel
abbrev cX8_init : ByteArray := prog_10_method_1_code
def yX8_init : MethodName := ⟨RX8, "<init>", "()V"⟩
abbrev cX8_in : ByteArray := prog_10_method_3_code
def yX8_in : MethodName := ⟨RX8, "in", "(JJJ)Z"⟩
abbrev cX8_ones : ByteArray := prog_10_method_4_code
def yX8_ones : MethodName := ⟨RX8, "ones", "(I)I"⟩
abbrev cX8_isRock : ByteArray := prog_10_method_5_code
def yX8_isRock : MethodName := ⟨RX8, "isRock", "(I)Z"⟩
abbrev cX8_letsIn : ByteArray := prog_10_method_6_code
def yX8_letsIn : MethodName := ⟨RX8, "letsIn", "([IIIII)V"⟩
abbrev cX8_clears : ByteArray := prog_10_method_7_code
def yX8_clears : MethodName := ⟨RX8, "clears", "([II)V"⟩
abbrev cX8_rock : ByteArray := prog_10_method_8_code
def yX8_rock : MethodName := ⟨RX8, "rock", "(II)I"⟩
abbrev cX8_out : ByteArray := prog_10_method_9_code
def yX8_out : MethodName := ⟨RX8, "out", "()I"⟩
abbrev cX8_turn : ByteArray := prog_10_method_10_code
def yX8_turn : MethodName := ⟨RX8, "turn", "(II)I"⟩
abbrev cX8_isDark : ByteArray := prog_10_method_11_code
def yX8_isDark : MethodName := ⟨RX8, "isDark", "([II)Z"⟩
abbrev cX8_dark : ByteArray := prog_10_method_12_code
def yX8_dark : MethodName := ⟨RX8, "dark", "(III)I"⟩
abbrev cX8_delay : ByteArray := prog_10_method_13_code
def yX8_delay : MethodName := ⟨RX8, "delay", "(III)I"⟩
abbrev cX8_isTrue : ByteArray := prog_10_method_14_code
def yX8_isTrue : MethodName := ⟨RX8, "isTrue", "([II)Z"⟩
abbrev cX8_told : ByteArray := prog_10_method_15_code
def yX8_told : MethodName := ⟨RX8, "told", "(II)I"⟩
abbrev cX8_heardBy : ByteArray := prog_10_method_16_code
def yX8_heardBy : MethodName := ⟨RX8, "heardBy", "([III)I"⟩
abbrev cX8_heard : ByteArray := prog_10_method_17_code
def yX8_heard : MethodName := ⟨RX8, "heard", "(II)I"⟩
abbrev cX8_countBy : ByteArray := prog_10_method_18_code
def yX8_countBy : MethodName := ⟨RX8, "countBy", "([III)I"⟩
abbrev cX8_counts : ByteArray := prog_10_method_19_code
def yX8_counts : MethodName := ⟨RX8, "counts", "(II)I"⟩
abbrev cX8_due : ByteArray := prog_10_method_20_code
def yX8_due : MethodName := ⟨RX8, "due", "(III)I"⟩
abbrev cX8_rule : ByteArray := prog_10_method_21_code
def yX8_rule : MethodName := ⟨RX8, "rule", "(II)I"⟩
abbrev cX8_add : ByteArray := prog_10_method_22_code
def yX8_add : MethodName := ⟨RX8, "add", "(IIII)I"⟩
abbrev cX8_type : ByteArray := prog_10_method_23_code
def yX8_type : MethodName := ⟨RX8, "type", "(I)I"⟩
abbrev cX8_letter : ByteArray := prog_10_method_24_code
def yX8_letter : MethodName := ⟨RX8, "letter", "()I"⟩
abbrev cX8_takes : ByteArray := prog_10_method_25_code
def yX8_takes : MethodName := ⟨RX8, "takes", "(III)I"⟩
abbrev cX8_passes : ByteArray := prog_10_method_26_code
def yX8_passes : MethodName := ⟨RX8, "passes", "(I)I"⟩
abbrev cX8_readsRule : ByteArray := prog_10_method_27_code
def yX8_readsRule : MethodName := ⟨RX8, "readsRule", "()V"⟩
abbrev cX8_reads : ByteArray := prog_10_method_28_code
def yX8_reads : MethodName := ⟨RX8, "reads", "(Z)V"⟩
abbrev cX8_laws : ByteArray := prog_10_method_29_code
def yX8_laws : MethodName := ⟨RX8, "laws", "()I"⟩
abbrev cX8_kindOf : ByteArray := prog_10_method_30_code
def yX8_kindOf : MethodName := ⟨RX8, "kindOf", "(I)I"⟩
abbrev cX8_number : ByteArray := prog_10_method_31_code
def yX8_number : MethodName := ⟨RX8, "number", "(I)I"⟩
abbrev cX8_readsRock : ByteArray := prog_10_method_32_code
def yX8_readsRock : MethodName := ⟨RX8, "readsRock", "()V"⟩
abbrev cX8_rocks : ByteArray := prog_10_method_33_code
def yX8_rocks : MethodName := ⟨RX8, "rocks", "()I"⟩
abbrev cX8_isDone : ByteArray := prog_10_method_34_code
def yX8_isDone : MethodName := ⟨RX8, "isDone", "([II)Z"⟩
abbrev cX8_isUnlike : ByteArray := prog_10_method_35_code
def yX8_isUnlike : MethodName := ⟨RX8, "isUnlike", "([I)Z"⟩
abbrev cX8_dueMany : ByteArray := prog_10_method_36_code
def yX8_dueMany : MethodName := ⟨RX8, "dueMany", "()I"⟩
abbrev cX8_count : ByteArray := prog_10_method_37_code
def yX8_count : MethodName := ⟨RX8, "count", "(I)I"⟩
abbrev cX8_sentBy : ByteArray := prog_10_method_38_code
def yX8_sentBy : MethodName := ⟨RX8, "sentBy", "(IIIII)I"⟩
abbrev cX8_drawn : ByteArray := prog_10_method_39_code
def yX8_drawn : MethodName := ⟨RX8, "drawn", "([I)I"⟩
abbrev cX8_says : ByteArray := prog_10_method_40_code
def yX8_says : MethodName := ⟨RX8, "says", "([III)V"⟩
abbrev cX8_acts : ByteArray := prog_10_method_41_code
def yX8_acts : MethodName := ⟨RX8, "acts", "([II)V"⟩
abbrev cX8_isOut : ByteArray := prog_10_method_42_code
def yX8_isOut : MethodName := ⟨RX8, "isOut", "([II)Z"⟩
abbrev cX8_goes : ByteArray := prog_10_method_43_code
def yX8_goes : MethodName := ⟨RX8, "goes", "([I)V"⟩
abbrev cX8_minute : ByteArray := prog_10_method_44_code
def yX8_minute : MethodName := ⟨RX8, "minute", "()I"⟩
abbrev cX8_gone : ByteArray := prog_10_method_45_code
def yX8_gone : MethodName := ⟨RX8, "gone", "(I)I"⟩
abbrev cX8_night : ByteArray := prog_10_method_46_code
def yX8_night : MethodName := ⟨RX8, "night", "(I)I"⟩
abbrev cX8_lots : ByteArray := prog_10_method_47_code
def yX8_lots : MethodName := ⟨RX8, "lots", "(I)I"⟩
abbrev cX8_seed : ByteArray := prog_10_method_48_code
def yX8_seed : MethodName := ⟨RX8, "seed", "(I)I"⟩
abbrev cX8_copies : ByteArray := prog_10_method_49_code
def yX8_copies : MethodName := ⟨RX8, "copies", "([I[I)V"⟩
abbrev cX8_tries : ByteArray := prog_10_method_50_code
def yX8_tries : MethodName := ⟨RX8, "tries", "([II)V"⟩
abbrev cX8_behind : ByteArray := prog_10_method_51_code
def yX8_behind : MethodName := ⟨RX8, "behind", "(III)I"⟩
abbrev cX8_doneBy : ByteArray := prog_10_method_52_code
def yX8_doneBy : MethodName := ⟨RX8, "doneBy", "([II)I"⟩
abbrev cX8_when : ByteArray := prog_10_method_53_code
def yX8_when : MethodName := ⟨RX8, "when", "(I)I"⟩
abbrev cX8_darkest : ByteArray := prog_10_method_54_code
def yX8_darkest : MethodName := ⟨RX8, "darkest", "(I)I"⟩
abbrev cX8_holdsBy : ByteArray := prog_10_method_55_code
def yX8_holdsBy : MethodName := ⟨RX8, "holdsBy", "([II)Z"⟩
abbrev cX8_holds : ByteArray := prog_10_method_56_code
def yX8_holds : MethodName := ⟨RX8, "holds", "(I)I"⟩
abbrev cX8_holdsAll : ByteArray := prog_10_method_57_code
def yX8_holdsAll : MethodName := ⟨RX8, "holdsAll", "([II)Z"⟩
abbrev cX8_bears : ByteArray := prog_10_method_58_code
def yX8_bears : MethodName := ⟨RX8, "bears", "()I"⟩
abbrev cX8_worst : ByteArray := prog_10_method_59_code
def yX8_worst : MethodName := ⟨RX8, "worst", "(I)I"⟩
abbrev cX8_least : ByteArray := prog_10_method_60_code
def yX8_least : MethodName := ⟨RX8, "least", "(II)I"⟩
abbrev cX8_spare : ByteArray := prog_10_method_61_code
def yX8_spare : MethodName := ⟨RX8, "spare", "()I"⟩
abbrev cX8_log : ByteArray := prog_10_method_62_code
def yX8_log : MethodName := ⟨RX8, "log", "(III)I"⟩
abbrev cX8_burn : ByteArray := prog_10_method_63_code
def yX8_burn : MethodName := ⟨RX8, "burn", "()I"⟩
abbrev cX8_sureOnes : ByteArray := prog_10_method_64_code
def yX8_sureOnes : MethodName := ⟨RX8, "sureOnes", "()I"⟩
abbrev cX8_sure : ByteArray := prog_10_method_65_code
def yX8_sure : MethodName := ⟨RX8, "sure", "()I"⟩
abbrev cX8_fits : ByteArray := prog_10_method_66_code
def yX8_fits : MethodName := ⟨RX8, "fits", "(I)I"⟩
abbrev cX8_isLogged : ByteArray := prog_10_method_67_code
def yX8_isLogged : MethodName := ⟨RX8, "isLogged", "(II)Z"⟩
abbrev cX8_logsOf : ByteArray := prog_10_method_68_code
def yX8_logsOf : MethodName := ⟨RX8, "logsOf", "(I)I"⟩
abbrev cX8_ask : ByteArray := prog_10_method_69_code
def yX8_ask : MethodName := ⟨RX8, "ask", "()I"⟩
abbrev cX8_ship : ByteArray := prog_10_method_70_code
def yX8_ship : MethodName := ⟨RX8, "ship", "(II)I"⟩
abbrev cX8_image : ByteArray := prog_10_method_71_code
def yX8_image : MethodName := ⟨RX8, "image", "()I"⟩
abbrev cX8_restore : ByteArray := prog_10_method_72_code
def yX8_restore : MethodName := ⟨RX8, "restore", "()I"⟩
abbrev cX8_wrongOf : ByteArray := prog_10_method_73_code
def yX8_wrongOf : MethodName := ⟨RX8, "wrongOf", "(IIII)I"⟩
abbrev cX8_isSheet : ByteArray := prog_10_method_74_code
def yX8_isSheet : MethodName := ⟨RX8, "isSheet", "(II)Z"⟩
abbrev cX8_delays : ByteArray := prog_10_method_75_code
def yX8_delays : MethodName := ⟨RX8, "delays", "(IIII)I"⟩
abbrev cX8_film : ByteArray := prog_10_method_76_code
def yX8_film : MethodName := ⟨RX8, "film", "(III)I"⟩
abbrev cX8_seen : ByteArray := prog_10_method_77_code
def yX8_seen : MethodName := ⟨RX8, "seen", "(III)I"⟩
abbrev cX8_sheet : ByteArray := prog_10_method_78_code
def yX8_sheet : MethodName := ⟨RX8, "sheet", "(III)I"⟩
abbrev cX8_drop : ByteArray := prog_10_method_79_code
def yX8_drop : MethodName := ⟨RX8, "drop", "(I)I"⟩
abbrev cX8_cut : ByteArray := prog_10_method_80_code
def yX8_cut : MethodName := ⟨RX8, "cut", "(IJ)J"⟩
abbrev cX8_item : ByteArray := prog_10_method_81_code
def yX8_item : MethodName := ⟨RX8, "item", "(IIIJ)I"⟩
abbrev cX8_copy : ByteArray := prog_10_method_82_code
def yX8_copy : MethodName := ⟨RX8, "copy", "(IIIII)I"⟩
def RJx145de : String := "java/io/Serializable"
def TJx145de : u_T := fun k => match k with
  | _ => ("", "", "", false)
def tyJx145de : Nat → FieldType := fun k => match k with
  | _ => .int
abbrev wsJx145de0 : List Cond := u_ws RJx145de TJx145de 0
theorem nmJx145de : ∀ a, a < 0 → ∀ b, b < 0 → a ≠ b → (TJx145de a).2.1 ≠ (TJx145de b).2.1 := by decide +kernel
theorem tyJx145de_ok : ∀ k, k < 0 → parseFieldDescriptor (TJx145de k).2.2.1 = some (tyJx145de k) := by decide +kernel
def RJx9f9b0 : String := "java/lang/CharSequence"
def TJx9f9b0 : u_T := fun k => match k with
  | _ => ("", "", "", false)
def tyJx9f9b0 : Nat → FieldType := fun k => match k with
  | _ => .int
abbrev wsJx9f9b00 : List Cond := u_ws RJx9f9b0 TJx9f9b0 0
theorem nmJx9f9b0 : ∀ a, a < 0 → ∀ b, b < 0 → a ≠ b → (TJx9f9b0 a).2.1 ≠ (TJx9f9b0 b).2.1 := by decide +kernel
theorem tyJx9f9b0_ok : ∀ k, k < 0 → parseFieldDescriptor (TJx9f9b0 k).2.2.1 = some (tyJx9f9b0 k) := by decide +kernel
def RJ11 : String := "java/lang/Character"
def TJ11 : u_T := fun k => match k with
  | _ => ("", "", "", false)
def tyJ11 : Nat → FieldType := fun k => match k with
  | _ => .int
abbrev wsJ110 : List Cond := u_ws RJ11 TJ11 0
theorem nmJ11 : ∀ a, a < 0 → ∀ b, b < 0 → a ≠ b → (TJ11 a).2.1 ≠ (TJ11 b).2.1 := by decide +kernel
theorem tyJ11_ok : ∀ k, k < 0 → parseFieldDescriptor (TJ11 k).2.2.1 = some (tyJ11 k) := by decide +kernel
abbrev cJ11_isValidCodePoint_9a6ad : ByteArray := prog_11_method_11_code
def yJ11_isValidCodePoint_9a6ad : MethodName := ⟨RJ11, "isValidCodePoint", "(I)Z"⟩
abbrev cJ11_highSurrogate_5068e : ByteArray := prog_11_method_28_code
def yJ11_highSurrogate_5068e : MethodName := ⟨RJ11, "highSurrogate", "(I)C"⟩
abbrev cJ11_lowSurrogate_5068e : ByteArray := prog_11_method_29_code
def yJ11_lowSurrogate_5068e : MethodName := ⟨RJ11, "lowSurrogate", "(I)C"⟩
def RJxb160c : String := "java/lang/Comparable"
def TJxb160c : u_T := fun k => match k with
  | _ => ("", "", "", false)
def tyJxb160c : Nat → FieldType := fun k => match k with
  | _ => .int
abbrev wsJxb160c0 : List Cond := u_ws RJxb160c TJxb160c 0
theorem nmJxb160c : ∀ a, a < 0 → ∀ b, b < 0 → a ≠ b → (TJxb160c a).2.1 ≠ (TJxb160c b).2.1 := by decide +kernel
theorem tyJxb160c_ok : ∀ k, k < 0 → parseFieldDescriptor (TJxb160c k).2.2.1 = some (tyJxb160c k) := by decide +kernel
def RJ6 : String := "java/lang/Integer"
def TJ6 : u_T := fun k => match k with
  | _ => ("", "", "", false)
def tyJ6 : Nat → FieldType := fun k => match k with
  | _ => .int
abbrev wsJ60 : List Cond := u_ws RJ6 TJ6 0
theorem nmJ6 : ∀ a, a < 0 → ∀ b, b < 0 → a ≠ b → (TJ6 a).2.1 ≠ (TJ6 b).2.1 := by decide +kernel
theorem tyJ6_ok : ∀ k, k < 0 → parseFieldDescriptor (TJ6 k).2.2.1 = some (tyJ6 k) := by decide +kernel
abbrev cJ6_bitCount_0f7a4 : ByteArray := prog_12_method_49_code
def yJ6_bitCount_0f7a4 : MethodName := ⟨RJ6, "bitCount", "(I)I"⟩
def RJ9 : String := "java/lang/Math"
def TJ9 : u_T := fun k => match k with
  | _ => ("", "", "", false)
def tyJ9 : Nat → FieldType := fun k => match k with
  | _ => .int
abbrev wsJ90 : List Cond := u_ws RJ9 TJ9 0
theorem nmJ9 : ∀ a, a < 0 → ∀ b, b < 0 → a ≠ b → (TJ9 a).2.1 ≠ (TJ9 b).2.1 := by decide +kernel
theorem tyJ9_ok : ∀ k, k < 0 → parseFieldDescriptor (TJ9 k).2.2.1 = some (tyJ9 k) := by decide +kernel
abbrev cJ9_max_7cf53 : ByteArray := prog_13_method_65_code
def yJ9_max_7cf53 : MethodName := ⟨RJ9, "max", "(II)I"⟩
abbrev cJ9_min_7cf53 : ByteArray := prog_13_method_69_code
def yJ9_min_7cf53 : MethodName := ⟨RJ9, "min", "(II)I"⟩
def RJ0 : String := "java/lang/String"
def TJ0 : u_T := fun k => match k with
  | _ => ("", "", "", false)
def tyJ0 : Nat → FieldType := fun k => match k with
  | _ => .int
abbrev wsJ00 : List Cond := u_ws RJ0 TJ0 0
theorem nmJ0 : ∀ a, a < 0 → ∀ b, b < 0 → a ≠ b → (TJ0 a).2.1 ≠ (TJ0 b).2.1 := by decide +kernel
theorem tyJ0_ok : ∀ k, k < 0 → parseFieldDescriptor (TJ0 k).2.2.1 = some (tyJ0 k) := by decide +kernel
abbrev cJ0_length_8abf5 : ByteArray := prog_14_method_54_code
def yJ0_length_8abf5 : MethodName := ⟨RJ0, "length", "()I"⟩
abbrev cJ0_indexOf_0f7a4 : ByteArray := prog_14_method_79_code
def yJ0_indexOf_0f7a4 : MethodName := ⟨RJ0, "indexOf", "(I)I"⟩
abbrev cJ0_indexOf_7cf53 : ByteArray := prog_14_method_80_code
def yJ0_indexOf_7cf53 : MethodName := ⟨RJ0, "indexOf", "(II)I"⟩
abbrev cJ0_coder_7d493 : ByteArray := prog_14_method_152_code
def yJ0_coder_7d493 : MethodName := ⟨RJ0, "coder", "()B"⟩
abbrev cJ0_isLatin1_aae02 : ByteArray := prog_14_method_154_code
def yJ0_isLatin1_aae02 : MethodName := ⟨RJ0, "isLatin1", "()Z"⟩
abbrev cJ0_checkBoundsBeginEnd_23922 : ByteArray := prog_14_method_158_code
def yJ0_checkBoundsBeginEnd_23922 : MethodName := ⟨RJ0, "checkBoundsBeginEnd", "(III)V"⟩
def RJ1 : String := "java/lang/StringLatin1"
def TJ1 : u_T := fun k => match k with
  | _ => ("", "", "", false)
def tyJ1 : Nat → FieldType := fun k => match k with
  | _ => .int
abbrev wsJ10 : List Cond := u_ws RJ1 TJ1 0
theorem nmJ1 : ∀ a, a < 0 → ∀ b, b < 0 → a ≠ b → (TJ1 a).2.1 ≠ (TJ1 b).2.1 := by decide +kernel
theorem tyJ1_ok : ∀ k, k < 0 → parseFieldDescriptor (TJ1 k).2.2.1 = some (tyJ1 k) := by decide +kernel
abbrev cJ1_canEncode_9a6ad : ByteArray := prog_15_method_4_code
def yJ1_canEncode_9a6ad : MethodName := ⟨RJ1, "canEncode", "(I)Z"⟩
abbrev cJ1_indexOf_4cfef : ByteArray := prog_15_method_22_code
def yJ1_indexOf_4cfef : MethodName := ⟨RJ1, "indexOf", "([BIII)I"⟩
abbrev cJ1_indexOfChar_4cfef : ByteArray := prog_15_method_23_code
def yJ1_indexOfChar_4cfef : MethodName := ⟨RJ1, "indexOfChar", "([BIII)I"⟩
def RJ2 : String := "java/lang/StringUTF16"
def TJ2 : u_T := fun k => match k with
  | _ => ("", "", "", false)
def tyJ2 : Nat → FieldType := fun k => match k with
  | _ => .int
abbrev wsJ20 : List Cond := u_ws RJ2 TJ2 0
theorem nmJ2 : ∀ a, a < 0 → ∀ b, b < 0 → a ≠ b → (TJ2 a).2.1 ≠ (TJ2 b).2.1 := by decide +kernel
theorem tyJ2_ok : ∀ k, k < 0 → parseFieldDescriptor (TJ2 k).2.2.1 = some (tyJ2 k) := by decide +kernel
abbrev cJ2_getChar_3b067 : ByteArray := prog_16_method_5_code
def yJ2_getChar_3b067 : MethodName := ⟨RJ2, "getChar", "([BI)C"⟩
abbrev cJ2_length_9d52b : ByteArray := prog_16_method_6_code
def yJ2_length_9d52b : MethodName := ⟨RJ2, "length", "([B)I"⟩
abbrev cJ2_indexOf_4cfef : ByteArray := prog_16_method_40_code
def yJ2_indexOf_4cfef : MethodName := ⟨RJ2, "indexOf", "([BIII)I"⟩
abbrev cJ2_indexOfChar_4cfef : ByteArray := prog_16_method_47_code
def yJ2_indexOfChar_4cfef : MethodName := ⟨RJ2, "indexOfChar", "([BIII)I"⟩
abbrev cJ2_indexOfCharUnsafe_4cfef : ByteArray := prog_16_method_48_code
def yJ2_indexOfCharUnsafe_4cfef : MethodName := ⟨RJ2, "indexOfCharUnsafe", "([BIII)I"⟩
abbrev cJ2_indexOfSupplementary_4cfef : ByteArray := prog_16_method_49_code
def yJ2_indexOfSupplementary_4cfef : MethodName := ⟨RJ2, "indexOfSupplementary", "([BIII)I"⟩
abbrev cJ2_checkBoundsBeginEnd_d044e : ByteArray := prog_16_method_93_code
def yJ2_checkBoundsBeginEnd_d044e : MethodName := ⟨RJ2, "checkBoundsBeginEnd", "(II[B)V"⟩
def RJ10 : String := "java/lang/System"
def TJ10 : u_T := fun k => match k with
  | _ => ("", "", "", false)
def tyJ10 : Nat → FieldType := fun k => match k with
  | _ => .int
abbrev wsJ100 : List Cond := u_ws RJ10 TJ10 0
theorem nmJ10 : ∀ a, a < 0 → ∀ b, b < 0 → a ≠ b → (TJ10 a).2.1 ≠ (TJ10 b).2.1 := by decide +kernel
theorem tyJ10_ok : ∀ k, k < 0 → parseFieldDescriptor (TJ10 k).2.2.1 = some (tyJ10 k) := by decide +kernel
def RJxfd54e : String := "java/lang/constant/Constable"
def TJxfd54e : u_T := fun k => match k with
  | _ => ("", "", "", false)
def tyJxfd54e : Nat → FieldType := fun k => match k with
  | _ => .int
abbrev wsJxfd54e0 : List Cond := u_ws RJxfd54e TJxfd54e 0
theorem nmJxfd54e : ∀ a, a < 0 → ∀ b, b < 0 → a ≠ b → (TJxfd54e a).2.1 ≠ (TJxfd54e b).2.1 := by decide +kernel
theorem tyJxfd54e_ok : ∀ k, k < 0 → parseFieldDescriptor (TJxfd54e k).2.2.1 = some (tyJxfd54e k) := by decide +kernel
def RJx3cf43 : String := "java/lang/constant/ConstantDesc"
def TJx3cf43 : u_T := fun k => match k with
  | _ => ("", "", "", false)
def tyJx3cf43 : Nat → FieldType := fun k => match k with
  | _ => .int
abbrev wsJx3cf430 : List Cond := u_ws RJx3cf43 TJx3cf43 0
theorem nmJx3cf43 : ∀ a, a < 0 → ∀ b, b < 0 → a ≠ b → (TJx3cf43 a).2.1 ≠ (TJx3cf43 b).2.1 := by decide +kernel
theorem tyJx3cf43_ok : ∀ k, k < 0 → parseFieldDescriptor (TJx3cf43 k).2.2.1 = some (tyJx3cf43 k) := by decide +kernel
def RJ7 : String := "java/util/Arrays"
def TJ7 : u_T := fun k => match k with
  | _ => ("", "", "", false)
def tyJ7 : Nat → FieldType := fun k => match k with
  | _ => .int
abbrev wsJ70 : List Cond := u_ws RJ7 TJ7 0
theorem nmJ7 : ∀ a, a < 0 → ∀ b, b < 0 → a ≠ b → (TJ7 a).2.1 ≠ (TJ7 b).2.1 := by decide +kernel
theorem tyJ7_ok : ∀ k, k < 0 → parseFieldDescriptor (TJ7 k).2.2.1 = some (tyJ7 k) := by decide +kernel
abbrev cJ7_fill_d0a16 : ByteArray := prog_18_method_101_code
def yJ7_fill_d0a16 : MethodName := ⟨RJ7, "fill", "([JJ)V"⟩
abbrev cJ7_fill_53178 : ByteArray := prog_18_method_103_code
def yJ7_fill_53178 : MethodName := ⟨RJ7, "fill", "([II)V"⟩
def RJ3 : String := "jdk/internal/util/Preconditions"
def TJ3 : u_T := fun k => match k with
  | _ => ("", "", "", false)
def tyJ3 : Nat → FieldType := fun k => match k with
  | _ => .int
abbrev wsJ30 : List Cond := u_ws RJ3 TJ3 0
theorem nmJ3 : ∀ a, a < 0 → ∀ b, b < 0 → a ≠ b → (TJ3 a).2.1 ≠ (TJ3 b).2.1 := by decide +kernel
theorem tyJ3_ok : ∀ k, k < 0 → parseFieldDescriptor (TJ3 k).2.2.1 = some (tyJ3 k) := by decide +kernel
abbrev cJ3_checkFromToIndex_8c36e : ByteArray := prog_19_method_12_code
def yJ3_checkFromToIndex_8c36e : MethodName := ⟨RJ3, "checkFromToIndex", "(IIILjava/util/function/BiFunction;)I"⟩
def RL : String := "NineLampsLaw"
abbrev cL_law : ByteArray := code
def yL_law : MethodName := ⟨RL, "law", "([I)Z"⟩
abbrev vwCl : List vw_C := [(RX0, TX0, 5), (RX1, TX1, 4), (RX2, TX2, 15), (RX3, TX3, 4), (RX4, TX4, 3), (RX5, TX5, 9), (RX6, TX6, 8), (RX7, TX7, 6), (RX8, TX8, 21)]
end
section
/-- the words that all methods share -/
def G0 : List Cond := lw_tbl.filter goodWord
/-! THE WORLD: all cells of the class's object and of the reference's, by number; what they hold is a memory -/
abbrev Mem : Type := (Nat → Nat → Int32) × (Nat → Nat → Int64)
abbrev jm_S : Type := (Nat × Nat × Nat) ⊕ (Nat × List (Nat × Nat))
def jm_night (b : Nat) (j : Nat) : jm_S := if j = 0 then .inr (2, [(0, 0), (0, 0), (0, 0), (0, 0), (0, 0), (0, 0), (0, 0), (2, b + 1), (2, b + 2), (2, b + 3), (2, b + 4), (2, b + 5), (2, b + 6), (2, b + 16), (2, b + 19)])
  else if j < 6 then .inl (0, 9, 0) else if j = 6 then .inl (3, 9, b + 7) else if j < 16 then .inl (0, 9, 0) else if j = 16 then .inl (3, 2, b + 17) else if j < 19 then .inl (0, 9, 0) else if j = 19 then .inl (3, 2, b + 20) else .inl (0, 171, 0)
def jm_law (b : Nat) (j : Nat) : jm_S := if j = 0 then .inr (0, [(0, 0), (2, b + 1), (2, b + 2), (2, b + 3), (2, b + 4)]) else .inl (0, 8, 0)
def jm_logs (b : Nat) (j : Nat) : jm_S := if j = 0 then .inr (1, [(0, 0), (2, b + 1), (2, b + 2), (2, b + 3)]) else .inl (0, 12, 0)
def jm_state (b : Nat) : jm_S := .inr (4, [(2, b + 1), (2, b + 23), (2, b + 28)])
def jm_lay (k : Nat) : jm_S :=
  if k = 0 then .inr (7, [(2, 1), (2, 33), (0, 0), (2, 65), (2, 93), (2, 104)])
  else if k = 1 then jm_state 1
  else if k < 24 then jm_night 2 (k - 2)
  else if k < 29 then jm_law 24 (k - 24)
  else if k < 33 then jm_logs 29 (k - 29)
  else if k = 33 then jm_state 33
  else if k < 56 then jm_night 34 (k - 34)
  else if k < 61 then jm_law 56 (k - 56)
  else if k < 65 then jm_logs 61 (k - 61)
  else if k = 65 then .inr (6, [(2, 2), (2, 24), (2, 66), (2, 88), (1, 0), (0, 0), (0, 0), (0, 0)])
  else if k < 88 then jm_night 66 (k - 66)
  else if k < 93 then jm_law 88 (k - 88)
  else if k = 93 then .inr (5, [(0, 0), (2, 94), (2, 99), (2, 100), (2, 101), (2, 102), (2, 103), (0, 0), (0, 0)])
  else if k < 99 then jm_law 94 (k - 94)
  else if k < 103 then .inl (0, 9, 0)
  else if k = 103 then .inl (1, 160, 0)
  else if k = 104 then .inl (4, 4, 105)
  else if k < 109 then .inr (3, [(0, 0), (0, 0), (0, 0), (2, k + 4)])
  else if k < 113 then .inl (2, 24, 0)
  else if k = 113 then .inr (8, [(0, 0), (2, 114), (2, 115), (2, 116), (2, 117), (0, 0), (2, 118), (0, 0), (0, 0), (0, 0), (0, 0), (2, 119), (0, 0), (2, 120), (2, 121), (2, 122), (0, 0), (0, 0), (0, 0), (2, 123), (2, 124)])
  else if k < 118 then .inl (0, 1829, 0)
  else if k = 118 then .inl (0, 160, 0)
  else if k = 119 then .inl (0, 36, 0)
  else if k < 122 then .inl (0, 4, 0)
  else if k = 122 then .inl (2, 96, 0)
  else if k = 123 then .inl (0, 9, 0)
  else .inl (2, 24, 0)
def jm_fv (ad : Nat → Nat) (x : Int32) (c : Nat × Nat) : Value := match c.1 with
  | 0 => .int x
  | 1 => if x = 0 then .null else .ref (ad x.toNatClampNeg)
  | _ => .ref (ad c.2)
def jm_fs (ad : Nat → Nat) (f : Nat → Int32) (fl : List (Nat × Nat)) : List Value := fl.mapIdx (fun j c => jm_fv ad (f j) c)
def jm_cs (ad : Nat → Nat) (cl : Nat → ClassId) (f : Nat → Int32) (g : Nat → Int64) (sh : jm_S) : va_E := match sh with
  | .inr o => .inr (o.1, jm_fs ad f o.2)
  | .inl a => if a.1 = 2 then .inl (cl 2, a.2.1, .inr (.inl g)) else if a.1 = 0 then .inl (cl 0, a.2.1, .inl f) else if a.1 = 1 then .inl (cl 1, a.2.1, .inl f) else .inl (cl a.1, a.2.1, .inr (.inr (.inr (.inr (fun i => if i < a.2.1 then some (ad (a.2.2 + i)) else none)))))
def jm_cell (ad : Nat → Nat) (cl : Nat → ClassId) (μ : Mem) (k : Nat) : va_E := jm_cs ad cl (μ.1 k) (μ.2 k) (jm_lay k)
def jm_W (ad : Nat → Nat) (cl : Nat → ClassId) (μ : Mem) : va_W := (List.range 125).map (fun k => (ad k, jm_cell ad cl μ k))
def jm_T (cl : Nat → ClassId) : List (ClassId × FieldType) := [(cl 0, .int), (cl 1, .char), (cl 2, .long), (cl 3, .array .int), (cl 4, .object "NineLamps$Sheet")]
def jm_inj (ad : Nat → Nat) : Prop := ∀ i j, i < 125 → j < 125 → ad i = ad j → i = j
def jm_R (ad : Nat → Nat) : Nat → Prop := fun q => ∃ k, k < 125 ∧ q = ad k
def jm_cv (ad : Nat → Nat) : Value → Value
  | .ref k => .ref (ad k)
  | v => v
def jm_lv (ad : Nat → Nat) (lv : List (Nat × Value)) : List (Nat × Value) := lv.map (fun q => (q.1, jm_cv ad q.2))
/-- memory writes -/
def sA (μ : Mem) (k : Nat) (f : Nat → Int32) : Mem := (va_up μ.1 k f, μ.2)
def sI (μ : Mem) (k j : Nat) (v : Int32) : Mem := sA μ k (upd (μ.1 k) j v)
def sB (μ : Mem) (k : Nat) (f : Nat → Int64) : Mem := (μ.1, va_up μ.2 k f)
def sL (μ : Mem) (k j : Nat) (v : Int64) : Mem := sB μ k (vp_updL (μ.2 k) j v)
/-- guards and names in the pure texts -/
def gd {α : Type} (b : Bool) (x : Option α) : Option α := if b = true then x else none
def zl {α β : Type} (v : α) (f : α → β) : β := f v
def inb (i : Int32) (n : Nat) : Bool := !(decide (i < 0) || decide (n ≤ i.toNatClampNeg))
def isB (v : Int32) : Bool := decide (v = 0) || decide (v = 1)
theorem gd_e {α : Type} {b : Bool} {x : Option α} {r : α} (h : gd b x = some r) : b = true ∧ x = some r := by
  unfold gd at h
  by_cases hb : b = true
  · rw [if_pos hb] at h; exact ⟨hb, h⟩
  · rw [if_neg hb] at h; cases h
theorem zl_u {α β : Type} {v x : α} {f : α → Option β} {r : β} (h : zl v f = some r) (e : x = v) : f x = some r := by rw [e]; exact h
theorem bd_e {α β : Type} {v : Option α} {f : α → Option β} {r : β} (h : v.bind f = some r) : ∃ x, v = some x ∧ f x = some r := Option.bind_eq_some_iff.mp h
theorem inb_e {i : Int32} {n : Nat} (h : inb i n = true) : vp_in i n := by
  unfold inb at h
  unfold vp_in
  simp at h
  intro q
  rcases q with q | q
  · exact absurd q (Int32.not_lt.mpr h.1)
  · omega
theorem isB_e {v : Int32} (h : isB v = true) : v = 0 ∨ v = 1 := by
  unfold isB at h
  simp at h
  exact h
theorem isB_n {v : Int32} (h : isB v = true) : narrow .boolean (.int v) = .int v := by
  rcases isB_e h with rfl | rfl <;> rfl
theorem isB_f {v : Int32} (h : isB v = true) : fits .boolean (.int v) = true := by
  rcases isB_e h with rfl | rfl <;> rfl
/-! what the world's list says -/
theorem jm_at {ad : Nat → Nat} {cl : Nat → ClassId} {μ : Mem} {k : Nat} (h : k < 125) : (jm_W ad cl μ)[k]? = some (ad k, jm_cell ad cl μ k) := by
  unfold jm_W
  rw [List.getElem?_map, List.getElem?_range h]
  rfl
theorem jm_atS {ad : Nat → Nat} {cl : Nat → ClassId} {μ : Mem} {k : Nat} {sh : jm_S} (h : k < 125) (hs : jm_lay k = sh) : (jm_W ad cl μ)[k]? = some (ad k, jm_cs ad cl (μ.1 k) (μ.2 k) sh) := by
  rw [jm_at h]; unfold jm_cell; rw [hs]
theorem jm_len {ad : Nat → Nat} {cl : Nat → ClassId} {μ : Mem} : (jm_W ad cl μ).length = 125 := by simp [jm_W]
theorem jm_set {ad : Nat → Nat} {cl : Nat → ClassId} {μ μ' : Mem} {k : Nat} {x : va_E} (hk : ∀ k', k' ≠ k → jm_cell ad cl μ' k' = jm_cell ad cl μ k') (hx : jm_cell ad cl μ' k = x) : (jm_W ad cl μ).set k (ad k, x) = jm_W ad cl μ' := by
  apply List.ext_getElem?
  intro i
  by_cases hi : i < 125
  · rw [List.getElem?_set, jm_at hi, jm_at hi]
    by_cases e : k = i
    · subst e
      rw [if_pos rfl, if_pos (by rw [jm_len]; exact hi), hx]
    · rw [if_neg e, hk i (fun q => e q.symm)]
  · rw [List.getElem?_eq_none (by rw [List.length_set, jm_len]; omega), List.getElem?_eq_none (by rw [jm_len]; omega)]
theorem jm_D {ad : Nat → Nat} {cl : Nat → ClassId} {μ : Mem} {A : Nat → Prop} (hi : jm_inj ad) (hA : ∀ k, k < 125 → A (ad k)) : va_D A (jm_W ad cl μ) := by
  refine ⟨fun i j p q h1 h2 e => ?_, fun k q h => ?_⟩
  · have l1 : i < 125 := by have := (List.getElem?_eq_some_iff.mp h1).1; rw [jm_len] at this; exact this
    have l2 : j < 125 := by have := (List.getElem?_eq_some_iff.mp h2).1; rw [jm_len] at this; exact this
    rw [jm_at l1] at h1
    rw [jm_at l2] at h2
    cases h1
    cases h2
    exact hi i j l1 l2 e
  · have l1 : k < 125 := by have := (List.getElem?_eq_some_iff.mp h).1; rw [jm_len] at this; exact this
    rw [jm_at l1] at h
    cases h
    exact hA k l1
theorem jm_cell_sA {ad : Nat → Nat} {cl : Nat → ClassId} {μ : Mem} {k : Nat} {f : Nat → Int32} : ∀ k', k' ≠ k → jm_cell ad cl (sA μ k f) k' = jm_cell ad cl μ k' := by
  intro k' h
  unfold jm_cell sA
  simp only [va_up, if_neg h]
theorem jm_cell_sB {ad : Nat → Nat} {cl : Nat → ClassId} {μ : Mem} {k : Nat} {f : Nat → Int64} : ∀ k', k' ≠ k → jm_cell ad cl (sB μ k f) k' = jm_cell ad cl μ k' := by
  intro k' h
  unfold jm_cell sB
  simp only [va_up, if_neg h]
theorem jm_cell_sAk {ad : Nat → Nat} {cl : Nat → ClassId} {μ : Mem} {k : Nat} {f : Nat → Int32} : jm_cell ad cl (sA μ k f) k = jm_cs ad cl f (μ.2 k) (jm_lay k) := by
  unfold jm_cell sA
  simp only [va_up, if_pos]
theorem jm_cell_sBk {ad : Nat → Nat} {cl : Nat → ClassId} {μ : Mem} {k : Nat} {f : Nat → Int64} : jm_cell ad cl (sB μ k f) k = jm_cs ad cl (μ.1 k) f (jm_lay k) := by
  unfold jm_cell sB
  simp only [va_up, if_pos]
theorem jm_fs_at {ad : Nat → Nat} {f : Nat → Int32} {fl : List (Nat × Nat)} {j : Nat} {c : Nat × Nat} (h : fl[j]? = some c) : (jm_fs ad f fl)[j]? = some (jm_fv ad (f j) c) := by
  unfold jm_fs
  rw [List.getElem?_mapIdx, h]
  rfl
theorem jm_fs_len {ad : Nat → Nat} {f : Nat → Int32} {fl : List (Nat × Nat)} : (jm_fs ad f fl).length = fl.length := by simp [jm_fs]
theorem jm_fs_set {ad : Nat → Nat} {f : Nat → Int32} {fl : List (Nat × Nat)} {j : Nat} {c : Nat × Nat} {x : Int32} (h : fl[j]? = some c) : (jm_fs ad f fl).set j (jm_fv ad x c) = jm_fs ad (upd f j x) fl := by
  apply List.ext_getElem?
  intro i
  by_cases hi : i < fl.length
  · have e1 : fl[i]? = some fl[i] := List.getElem?_eq_getElem hi
    rw [List.getElem?_set, jm_fs_at e1, jm_fs_at e1]
    by_cases e : j = i
    · subst e
      rw [if_pos rfl, if_pos (by rw [jm_fs_len]; exact hi)]
      rw [h] at e1
      cases e1
      simp [upd]
    · rw [if_neg e]
      simp [upd, show ¬ i = j from fun q => e q.symm]
  · rw [List.getElem?_eq_none (by rw [List.length_set, jm_fs_len]; omega), List.getElem?_eq_none (by rw [jm_fs_len]; omega)]
theorem jm_cat {ad : Nat → Nat} {v : Value} : (jm_cv ad v).category = v.category := by cases v <;> rfl
theorem jm_lv_at {ad : Nat → Nat} {lv : List (Nat × Value)} {k i : Nat} {v : Value} (h : lv[k]? = some (i, v)) : (jm_lv ad lv)[k]? = some (i, jm_cv ad v) := by
  unfold jm_lv
  rw [List.getElem?_map, h]
  rfl
def jm_st (lv : List (Nat × Value)) (i : Nat) (v : Value) : List (Nat × Value) := (i, v) :: lv.filter (fun q => !(q.1 == i) && !(q.1 + 1 == i && q.2.category == 2))
theorem jm_lv_st {ad : Nat → Nat} {lv : List (Nat × Value)} {i : Nat} {v : Value} : (i, jm_cv ad v) :: (jm_lv ad lv).filter (fun q => !(q.1 == i) && !(q.1 + 1 == i && q.2.category == 2)) = jm_lv ad (jm_st lv i v) := by
  unfold jm_st jm_lv
  rw [List.map_cons, List.filter_map]
  refine congrArg (List.cons _) ?_
  refine congrArg (List.map _) ?_
  refine congrArg (fun p => List.filter p lv) ?_
  funext q
  show (!(q.1 == i) && !(q.1 + 1 == i && (jm_cv ad q.2).category == 2)) = _
  rw [jm_cat]
theorem jm_pick {ad : Nat → Nat} {lv : List (Nat × Value)} (ks : List Nat) : lv_pick (jm_lv ad lv) ks = jm_lv ad (lv_pick lv ks) := by
  unfold lv_pick jm_lv
  induction ks with
  | nil => rfl
  | cons k ks ih =>
    rw [List.filterMap_cons, List.filterMap_cons, List.getElem?_map]
    cases h : lv[k]? with
    | none => simpa [h] using ih
    | some q => simpa [h] using ih
theorem jm_args {ad : Nat → Nat} : ∀ (vs : List Value) (n : Nat), lv_args n (vs.map (jm_cv ad)) = jm_lv ad (lv_args n vs) := by
  intro vs
  induction vs with
  | nil => intro n; rfl
  | cons v vs ih =>
    intro n
    show lv_args n (jm_cv ad v :: vs.map (jm_cv ad)) = _
    unfold lv_args
    rw [jm_cat, ih]
    rfl
end
section
/-! THE JUDGEMENT J over the world's numbers: a frame at pc, its locals and stack in the world's numbers, a memory -/
abbrev jG : Type := Program × Launch × Env × Room × State × MethodId × Array Value × List Frame × Method × Code × va_G × (Nat → Nat) × (Nat → ClassId) × (State → Prop) × Nat × Nat × (Nat → Prop)
def jJ : jG → Nat → Nat → List (Nat × Value) → List Value → Mem → Prop
  | (p, l, e, R, s, m, args, below, meth, c, D, ad, cl, Q, cells, slots, A), nL, pc, lv, st, μ => ∀ (ls : Array Slot) (H : Heap) (locs : List Loc), lv_has ls nL (jm_lv ad lv) → va_P D vwCl (jm_W ad cl μ) H → va_S A s.heap H locs → W p l e R s m args below meth c H locs cells slots Q (F0 m pc ls (st.map (jm_cv ad)))
def jC : jG → Nat → ByteArray → String → Room → Prop
  | (p, l, e, R, s, m, args, below, meth, c, D, ad, cl, Q, cells, slots, A), nL, cc, own, rm => p.tables.exec = Jvm.exec ∧ c.code = cc ∧ c.maxLocals = nL ∧ s.vm.findClass own = some m.cls ∧ (∀ w ∈ G0, w.before args s = true) ∧ va_K D vwCl (jm_T cl) s ∧ jm_inj ad ∧ (∀ k, k < 125 → A (ad k)) ∧ R = rm ∧ cells ≤ rm.cells ∧ slots ≤ rm.slots
def jgl : jG → Launch | (_, l, _) => l
def jgD : jG → va_G | (_, _, _, _, _, _, _, _, _, _, D, _) => D
def jgad : jG → (Nat → Nat) | (_, _, _, _, _, _, _, _, _, _, _, ad, _) => ad
def jgcl : jG → (Nat → ClassId) | (_, _, _, _, _, _, _, _, _, _, _, _, cl, _) => cl
/-- the ends: int (and void, long, a cell) -/
def jEI : jG → ByteArray → Int32 → Mem → Prop
  | (p, l, e, R, s, m, args, below, meth, c, D, ad, cl, Q, cells, slots, A), cc, r, μ => ∀ (pc : Nat) (ls : Array Slot) (H : Heap) (locs : List Loc), decode cc pc = .ok (.ireturn, 1) → va_P D vwCl (jm_W ad cl μ) H → va_S A s.heap H locs → W p l e R s m args below meth c H locs cells slots Q (F0 m pc ls [.int r])
def jEV : jG → ByteArray → Mem → Prop
  | (p, l, e, R, s, m, args, below, meth, c, D, ad, cl, Q, cells, slots, A), cc, μ => ∀ (pc : Nat) (ls : Array Slot) (H : Heap) (locs : List Loc), decode cc pc = .ok (.return_, 1) → va_P D vwCl (jm_W ad cl μ) H → va_S A s.heap H locs → W p l e R s m args below meth c H locs cells slots Q (F0 m pc ls [])
def jEL : jG → ByteArray → Int64 → Mem → Prop
  | (p, l, e, R, s, m, args, below, meth, c, D, ad, cl, Q, cells, slots, A), cc, r, μ => ∀ (pc : Nat) (ls : Array Slot) (H : Heap) (locs : List Loc), decode cc pc = .ok (.lreturn, 1) → va_P D vwCl (jm_W ad cl μ) H → va_S A s.heap H locs → W p l e R s m args below meth c H locs cells slots Q (F0 m pc ls [.long r])
def jER : jG → ByteArray → Nat → Mem → Prop
  | (p, l, e, R, s, m, args, below, meth, c, D, ad, cl, Q, cells, slots, A), cc, r, μ => ∀ (pc : Nat) (ls : Array Slot) (H : Heap) (locs : List Loc), decode cc pc = .ok (.areturn, 1) → va_P D vwCl (jm_W ad cl μ) H → va_S A s.heap H locs → W p l e R s m args below meth c H locs cells slots Q (F0 m pc ls [.ref (ad r)])
def jm_is (k : Nat) (sh : jm_S) : Prop := k < 125 ∧ jm_lay k = sh
theorem jm_is.at {ad : Nat → Nat} {cl : Nat → ClassId} {μ : Mem} {k : Nat} {sh : jm_S} (h : jm_is k sh) : (jm_W ad cl μ)[k]? = some (ad k, jm_cs ad cl (μ.1 k) (μ.2 k) sh) := jm_atS h.1 h.2
/-- a field as a method's words have it: class number, place -/
def jm_fl (own : String) (index ci j : Nat) : Prop := ∃ (CC : String) (T : u_T) (N : Nat), vwCl[ci]? = some (CC, T, N) ∧ (∀ w ∈ u_ws CC T N, w ∈ G0) ∧ j < N ∧ Cond.fieldLink own index (T j).1 (T j).2.1 (T j).2.2.1 ∈ G0
def jm_fp (own : String) (index ci j : Nat) (ty : FieldType) : Prop := ∃ (CC : String) (T : u_T) (N : Nat) (ty0 : Nat → FieldType), vwCl[ci]? = some (CC, T, N) ∧ (∀ w ∈ u_ws CC T N, w ∈ G0) ∧ j < N ∧ Cond.fieldLink own index (T j).1 (T j).2.1 (T j).2.2.1 ∈ G0 ∧ (∀ k, k < N → parseFieldDescriptor (T k).2.2.1 = some (ty0 k)) ∧ (∀ a, a < N → ∀ b, b < N → a ≠ b → (T a).2.1 ≠ (T b).2.1) ∧ (T j).2.2.2 = false ∧ parseFieldDescriptor (T j).2.2.1 = some ty
section JROWS
variable {Γ : jG} {nL : Nat} {cc : ByteArray} {own : String} {rm : Room} {pc pc' : Nat} {lv lv' : List (Nat × Value)} {st : List Value} {μ μ' : Mem}
theorem j_lv (ks : List Nat) (h : lv_pick lv ks = lv') (k : jJ Γ nL pc lv' st μ) : jJ Γ nL pc lv st μ := by
  obtain ⟨p, l, e, R, s, m, args, below, meth, c, D, ad, cl, Q, cells, slots, A⟩ := Γ
  exact fun ls H locs h1 h2 h3 => k ls H locs (lv_sub h1 ks (by rw [jm_pick, h])) h2 h3
theorem j_pc (h : pc = pc') (k : jJ Γ nL pc' lv st μ) : jJ Γ nL pc lv st μ := by rw [h]; exact k
theorem j_topi {x : Int32} (k : ∀ y : Int32, y = x → jJ Γ nL pc lv (.int y :: st) μ) : jJ Γ nL pc lv (.int x :: st) μ := k x rfl
theorem j_topl {x : Int64} (k : ∀ y : Int64, y = x → jJ Γ nL pc lv (.long y :: st) μ) : jJ Γ nL pc lv (.long x :: st) μ := k x rfl
theorem j_mem (k : ∀ u : Mem, u = μ → jJ Γ nL pc lv st u) : jJ Γ nL pc lv st μ := k μ rfl

theorem j_iconst {n : Int} {v : Int32} (C : jC Γ nL cc own rm) (hd : decode cc pc = .ok (.iconst n, 1)) (hp : pc + 1 = pc') (hv : Int32.ofInt n = v) (k : jJ Γ nL pc' lv (.int v :: st) μ) : jJ Γ nL pc lv st μ := by
  subst hp
  obtain ⟨p, l, e, R, s, m, args, below, meth, c, D, ad, cl, Q, cells, slots, A⟩ := Γ
  obtain ⟨hx, hb, hml, hown, hts, hK, hi, hA, hR, hc1, hc2⟩ := C
  exact fun ls H locs h1 h2 h3 => lv_iconst hx hb hd hv (k ls H locs h1 h2 h3)
theorem j_bipush {n : Int} {v : Int32} (C : jC Γ nL cc own rm) (hd : decode cc pc = .ok (.bipush n, 2)) (hp : pc + 2 = pc') (hv : (Int8.ofInt n).toInt32 = v) (k : jJ Γ nL pc' lv (.int v :: st) μ) : jJ Γ nL pc lv st μ := by
  subst hp
  obtain ⟨p, l, e, R, s, m, args, below, meth, c, D, ad, cl, Q, cells, slots, A⟩ := Γ
  obtain ⟨hx, hb, hml, hown, hts, hK, hi, hA, hR, hc1, hc2⟩ := C
  exact fun ls H locs h1 h2 h3 => lv_bipush hx hb hd hv (k ls H locs h1 h2 h3)
theorem j_sipush {n : Int} {v : Int32} (C : jC Γ nL cc own rm) (hd : decode cc pc = .ok (.sipush n, 3)) (hp : pc + 3 = pc') (hv : (Int16.ofInt n).toInt32 = v) (k : jJ Γ nL pc' lv (.int v :: st) μ) : jJ Γ nL pc lv st μ := by
  subst hp
  obtain ⟨p, l, e, R, s, m, args, below, meth, c, D, ad, cl, Q, cells, slots, A⟩ := Γ
  obtain ⟨hx, hb, hml, hown, hts, hK, hi, hA, hR, hc1, hc2⟩ := C
  exact fun ls H locs h1 h2 h3 => lv_sipush hx hb hd hv (k ls H locs h1 h2 h3)
theorem j_lconst {n : Fin 2} {v : Int64} (C : jC Γ nL cc own rm) (hd : decode cc pc = .ok (.lconst n, 1)) (hp : pc + 1 = pc') (hv : Int64.ofNat (n : Nat) = v) (k : jJ Γ nL pc' lv (.long v :: st) μ) : jJ Γ nL pc lv st μ := by
  subst hp
  obtain ⟨p, l, e, R, s, m, args, below, meth, c, D, ad, cl, Q, cells, slots, A⟩ := Γ
  obtain ⟨hx, hb, hml, hown, hts, hK, hi, hA, hR, hc1, hc2⟩ := C
  exact fun ls H locs h1 h2 h3 => lv_lconst hx hb hd hv (k ls H locs h1 h2 h3)
theorem j_ldc {index : Nat} {v : Int32} (C : jC Γ nL cc own rm) (hd : decode cc pc = .ok (.ldc index, 2)) (hp : pc + 2 = pc') (hw : Cond.constant own index v ∈ G0) (k : jJ Γ nL pc' lv (.int v :: st) μ) : jJ Γ nL pc lv st μ := by
  subst hp
  obtain ⟨p, l, e, R, s, m, args, below, meth, c, D, ad, cl, Q, cells, slots, A⟩ := Γ
  obtain ⟨hx, hb, hml, hown, hts, hK, hi, hA, hR, hc1, hc2⟩ := C
  exact fun ls H locs h1 h2 h3 => lv_ldc hx hb hown (hts _ hw) hd (k ls H locs h1 h2 h3)
theorem j_ldcw {index : Nat} {v : Int32} (C : jC Γ nL cc own rm) (hd : decode cc pc = .ok (.ldc_w index, 3)) (hp : pc + 3 = pc') (hw : Cond.constant own index v ∈ G0) (k : jJ Γ nL pc' lv (.int v :: st) μ) : jJ Γ nL pc lv st μ := by
  subst hp
  obtain ⟨p, l, e, R, s, m, args, below, meth, c, D, ad, cl, Q, cells, slots, A⟩ := Γ
  obtain ⟨hx, hb, hml, hown, hts, hK, hi, hA, hR, hc1, hc2⟩ := C
  exact fun ls H locs h1 h2 h3 => lv_ldcw hx hb hown (hts _ hw) hd (k ls H locs h1 h2 h3)
theorem j_ldc2 {index : Nat} {v : Int64} (C : jC Γ nL cc own rm) (hd : decode cc pc = .ok (.ldc2_w index, 3)) (hp : pc + 3 = pc') (hw : Cond.constantLong own index v ∈ G0) (k : jJ Γ nL pc' lv (.long v :: st) μ) : jJ Γ nL pc lv st μ := by
  subst hp
  obtain ⟨p, l, e, R, s, m, args, below, meth, c, D, ad, cl, Q, cells, slots, A⟩ := Γ
  obtain ⟨hx, hb, hml, hown, hts, hK, hi, hA, hR, hc1, hc2⟩ := C
  exact fun ls H locs h1 h2 h3 => lv_ldc2 hx hb hown (hts _ hw) hd (k ls H locs h1 h2 h3)
theorem j_iload_n {i : Fin 4} {x : Int32} (C : jC Γ nL cc own rm) (hd : decode cc pc = .ok (.iload_n i, 1)) (hp : pc + 1 = pc') (q : Nat) (hq : lv[q]? = some ((i : Nat), .int x)) (k : jJ Γ nL pc' lv (.int x :: st) μ) : jJ Γ nL pc lv st μ := by
  subst hp
  obtain ⟨p, l, e, R, s, m, args, below, meth, c, D, ad, cl, Q, cells, slots, A⟩ := Γ
  obtain ⟨hx, hb, hml, hown, hts, hK, hi, hA, hR, hc1, hc2⟩ := C
  exact fun ls H locs h1 h2 h3 => lv_iload_n hx hb hd rfl (lv_at h1 q (jm_lv_at hq)) (k ls H locs h1 h2 h3)
theorem j_iload {i : Nat} {x : Int32} (C : jC Γ nL cc own rm) (hd : decode cc pc = .ok (.iload i, 2)) (hp : pc + 2 = pc') (q : Nat) (hq : lv[q]? = some (i, .int x)) (k : jJ Γ nL pc' lv (.int x :: st) μ) : jJ Γ nL pc lv st μ := by
  subst hp
  obtain ⟨p, l, e, R, s, m, args, below, meth, c, D, ad, cl, Q, cells, slots, A⟩ := Γ
  obtain ⟨hx, hb, hml, hown, hts, hK, hi, hA, hR, hc1, hc2⟩ := C
  exact fun ls H locs h1 h2 h3 => lv_iload hx hb hd (lv_at h1 q (jm_lv_at hq)) (k ls H locs h1 h2 h3)
theorem j_lload_n {i : Fin 4} {x : Int64} (C : jC Γ nL cc own rm) (hd : decode cc pc = .ok (.lload_n i, 1)) (hp : pc + 1 = pc') (q : Nat) (hq : lv[q]? = some ((i : Nat), .long x)) (k : jJ Γ nL pc' lv (.long x :: st) μ) : jJ Γ nL pc lv st μ := by
  subst hp
  obtain ⟨p, l, e, R, s, m, args, below, meth, c, D, ad, cl, Q, cells, slots, A⟩ := Γ
  obtain ⟨hx, hb, hml, hown, hts, hK, hi, hA, hR, hc1, hc2⟩ := C
  exact fun ls H locs h1 h2 h3 => lv_lload_n hx hb hd rfl (lv_at h1 q (jm_lv_at hq)) (k ls H locs h1 h2 h3)
theorem j_lload {i : Nat} {x : Int64} (C : jC Γ nL cc own rm) (hd : decode cc pc = .ok (.lload i, 2)) (hp : pc + 2 = pc') (q : Nat) (hq : lv[q]? = some (i, .long x)) (k : jJ Γ nL pc' lv (.long x :: st) μ) : jJ Γ nL pc lv st μ := by
  subst hp
  obtain ⟨p, l, e, R, s, m, args, below, meth, c, D, ad, cl, Q, cells, slots, A⟩ := Γ
  obtain ⟨hx, hb, hml, hown, hts, hK, hi, hA, hR, hc1, hc2⟩ := C
  exact fun ls H locs h1 h2 h3 => lv_lload hx hb hd (lv_at h1 q (jm_lv_at hq)) (k ls H locs h1 h2 h3)
theorem j_aload_n {i : Fin 4} {x : Nat} (C : jC Γ nL cc own rm) (hd : decode cc pc = .ok (.aload_n i, 1)) (hp : pc + 1 = pc') (q : Nat) (hq : lv[q]? = some ((i : Nat), .ref x)) (k : jJ Γ nL pc' lv (.ref x :: st) μ) : jJ Γ nL pc lv st μ := by
  subst hp
  obtain ⟨p, l, e, R, s, m, args, below, meth, c, D, ad, cl, Q, cells, slots, A⟩ := Γ
  obtain ⟨hx, hb, hml, hown, hts, hK, hi, hA, hR, hc1, hc2⟩ := C
  exact fun ls H locs h1 h2 h3 => lv_aload_n hx hb hd rfl (lv_at h1 q (jm_lv_at hq)) (k ls H locs h1 h2 h3)
theorem j_aload {i : Nat} {x : Nat} (C : jC Γ nL cc own rm) (hd : decode cc pc = .ok (.aload i, 2)) (hp : pc + 2 = pc') (q : Nat) (hq : lv[q]? = some (i, .ref x)) (k : jJ Γ nL pc' lv (.ref x :: st) μ) : jJ Γ nL pc lv st μ := by
  subst hp
  obtain ⟨p, l, e, R, s, m, args, below, meth, c, D, ad, cl, Q, cells, slots, A⟩ := Γ
  obtain ⟨hx, hb, hml, hown, hts, hK, hi, hA, hR, hc1, hc2⟩ := C
  exact fun ls H locs h1 h2 h3 => lv_aload hx hb hd (lv_at h1 q (jm_lv_at hq)) (k ls H locs h1 h2 h3)
theorem j_istore_n {i : Fin 4} {x : Int32} (C : jC Γ nL cc own rm) (hd : decode cc pc = .ok (.istore_n i, 1)) (hp : pc + 1 = pc') (hn : (i : Nat) < nL) (hl : jm_st lv (i : Nat) (.int x) = lv') (k : jJ Γ nL pc' lv' st μ) : jJ Γ nL pc lv (.int x :: st) μ := by
  subst hp
  obtain ⟨p, l, e, R, s, m, args, below, meth, c, D, ad, cl, Q, cells, slots, A⟩ := Γ
  obtain ⟨hx, hb, hml, hown, hts, hK, hi, hA, hR, hc1, hc2⟩ := C
  exact fun ls H locs h1 h2 h3 => lv_istore_n (lv' := jm_lv ad lv') hx hb hd rfl h1 hn ((jm_lv_st (ad := ad) (v := .int x)).trans (congrArg (jm_lv ad) hl)) (fun ls h1 => k ls H locs h1 h2 h3)
theorem j_istore {i : Nat} {x : Int32} (C : jC Γ nL cc own rm) (hd : decode cc pc = .ok (.istore i, 2)) (hp : pc + 2 = pc') (hn : i < nL) (hl : jm_st lv i (.int x) = lv') (k : jJ Γ nL pc' lv' st μ) : jJ Γ nL pc lv (.int x :: st) μ := by
  subst hp
  obtain ⟨p, l, e, R, s, m, args, below, meth, c, D, ad, cl, Q, cells, slots, A⟩ := Γ
  obtain ⟨hx, hb, hml, hown, hts, hK, hi, hA, hR, hc1, hc2⟩ := C
  exact fun ls H locs h1 h2 h3 => lv_istore (lv' := jm_lv ad lv') hx hb hd h1 hn ((jm_lv_st (ad := ad) (v := .int x)).trans (congrArg (jm_lv ad) hl)) (fun ls h1 => k ls H locs h1 h2 h3)
theorem j_astore_n {i : Fin 4} {x : Nat} (C : jC Γ nL cc own rm) (hd : decode cc pc = .ok (.astore_n i, 1)) (hp : pc + 1 = pc') (hn : (i : Nat) < nL) (hl : jm_st lv (i : Nat) (.ref x) = lv') (k : jJ Γ nL pc' lv' st μ) : jJ Γ nL pc lv (.ref x :: st) μ := by
  subst hp
  obtain ⟨p, l, e, R, s, m, args, below, meth, c, D, ad, cl, Q, cells, slots, A⟩ := Γ
  obtain ⟨hx, hb, hml, hown, hts, hK, hi, hA, hR, hc1, hc2⟩ := C
  exact fun ls H locs h1 h2 h3 => lv_astore_n (lv' := jm_lv ad lv') hx hb hd rfl h1 hn ((jm_lv_st (ad := ad) (v := .ref x)).trans (congrArg (jm_lv ad) hl)) (fun ls h1 => k ls H locs h1 h2 h3)
theorem j_astore {i : Nat} {x : Nat} (C : jC Γ nL cc own rm) (hd : decode cc pc = .ok (.astore i, 2)) (hp : pc + 2 = pc') (hn : i < nL) (hl : jm_st lv i (.ref x) = lv') (k : jJ Γ nL pc' lv' st μ) : jJ Γ nL pc lv (.ref x :: st) μ := by
  subst hp
  obtain ⟨p, l, e, R, s, m, args, below, meth, c, D, ad, cl, Q, cells, slots, A⟩ := Γ
  obtain ⟨hx, hb, hml, hown, hts, hK, hi, hA, hR, hc1, hc2⟩ := C
  exact fun ls H locs h1 h2 h3 => lv_astore (lv' := jm_lv ad lv') hx hb hd h1 hn ((jm_lv_st (ad := ad) (v := .ref x)).trans (congrArg (jm_lv ad) hl)) (fun ls h1 => k ls H locs h1 h2 h3)
theorem j_iinc {i : Nat} {n : Int} {x d v : Int32} (C : jC Γ nL cc own rm) (hd : decode cc pc = .ok (.iinc i n, 3)) (hp : pc + 3 = pc') (hv : Int32.ofInt n = d) (q : Nat) (hq : lv[q]? = some (i, .int x)) (hn : i < nL) (hv2 : x + d = v) (hl : jm_st lv i (.int v) = lv') (k : jJ Γ nL pc' lv' st μ) : jJ Γ nL pc lv st μ := by
  subst hp
  obtain ⟨p, l, e, R, s, m, args, below, meth, c, D, ad, cl, Q, cells, slots, A⟩ := Γ
  obtain ⟨hx, hb, hml, hown, hts, hK, hi, hA, hR, hc1, hc2⟩ := C
  exact fun ls H locs h1 h2 h3 => lv_iinc (lv' := jm_lv ad lv') hx hb hd h1 (jm_lv_at hq) (by rw [hv]; exact hv2) hn ((jm_lv_st (ad := ad) (v := .int v)).trans (congrArg (jm_lv ad) hl)) (fun ls h1 => k ls H locs h1 h2 h3)
theorem j_iadd {x y : Int32} (C : jC Γ nL cc own rm) (hd : decode cc pc = .ok (.iadd, 1)) (hp : pc + 1 = pc')  (k : jJ Γ nL pc' lv (.int (x + y) :: st) μ) : jJ Γ nL pc lv (.int y :: .int x :: st) μ := by
  subst hp
  obtain ⟨p, l, e, R, s, m, args, below, meth, c, D, ad, cl, Q, cells, slots, A⟩ := Γ
  obtain ⟨hx, hb, hml, hown, hts, hK, hi, hA, hR, hc1, hc2⟩ := C
  exact fun ls H locs h1 h2 h3 => lv_iadd hx hb hd (k ls H locs h1 h2 h3)
theorem j_isub {x y : Int32} (C : jC Γ nL cc own rm) (hd : decode cc pc = .ok (.isub, 1)) (hp : pc + 1 = pc')  (k : jJ Γ nL pc' lv (.int (x - y) :: st) μ) : jJ Γ nL pc lv (.int y :: .int x :: st) μ := by
  subst hp
  obtain ⟨p, l, e, R, s, m, args, below, meth, c, D, ad, cl, Q, cells, slots, A⟩ := Γ
  obtain ⟨hx, hb, hml, hown, hts, hK, hi, hA, hR, hc1, hc2⟩ := C
  exact fun ls H locs h1 h2 h3 => lv_isub hx hb hd (k ls H locs h1 h2 h3)
theorem j_imul {x y : Int32} (C : jC Γ nL cc own rm) (hd : decode cc pc = .ok (.imul, 1)) (hp : pc + 1 = pc')  (k : jJ Γ nL pc' lv (.int (x * y) :: st) μ) : jJ Γ nL pc lv (.int y :: .int x :: st) μ := by
  subst hp
  obtain ⟨p, l, e, R, s, m, args, below, meth, c, D, ad, cl, Q, cells, slots, A⟩ := Γ
  obtain ⟨hx, hb, hml, hown, hts, hK, hi, hA, hR, hc1, hc2⟩ := C
  exact fun ls H locs h1 h2 h3 => lv_imul hx hb hd (k ls H locs h1 h2 h3)
theorem j_iand {x y : Int32} (C : jC Γ nL cc own rm) (hd : decode cc pc = .ok (.iand, 1)) (hp : pc + 1 = pc')  (k : jJ Γ nL pc' lv (.int (x &&& y) :: st) μ) : jJ Γ nL pc lv (.int y :: .int x :: st) μ := by
  subst hp
  obtain ⟨p, l, e, R, s, m, args, below, meth, c, D, ad, cl, Q, cells, slots, A⟩ := Γ
  obtain ⟨hx, hb, hml, hown, hts, hK, hi, hA, hR, hc1, hc2⟩ := C
  exact fun ls H locs h1 h2 h3 => lv_iand hx hb hd (k ls H locs h1 h2 h3)
theorem j_ior {x y : Int32} (C : jC Γ nL cc own rm) (hd : decode cc pc = .ok (.ior, 1)) (hp : pc + 1 = pc')  (k : jJ Γ nL pc' lv (.int (x ||| y) :: st) μ) : jJ Γ nL pc lv (.int y :: .int x :: st) μ := by
  subst hp
  obtain ⟨p, l, e, R, s, m, args, below, meth, c, D, ad, cl, Q, cells, slots, A⟩ := Γ
  obtain ⟨hx, hb, hml, hown, hts, hK, hi, hA, hR, hc1, hc2⟩ := C
  exact fun ls H locs h1 h2 h3 => lv_ior hx hb hd (k ls H locs h1 h2 h3)
theorem j_ixor {x y : Int32} (C : jC Γ nL cc own rm) (hd : decode cc pc = .ok (.ixor, 1)) (hp : pc + 1 = pc')  (k : jJ Γ nL pc' lv (.int (x ^^^ y) :: st) μ) : jJ Γ nL pc lv (.int y :: .int x :: st) μ := by
  subst hp
  obtain ⟨p, l, e, R, s, m, args, below, meth, c, D, ad, cl, Q, cells, slots, A⟩ := Γ
  obtain ⟨hx, hb, hml, hown, hts, hK, hi, hA, hR, hc1, hc2⟩ := C
  exact fun ls H locs h1 h2 h3 => lv_ixor hx hb hd (k ls H locs h1 h2 h3)
theorem j_ishl {x y : Int32} (C : jC Γ nL cc own rm) (hd : decode cc pc = .ok (.ishl, 1)) (hp : pc + 1 = pc')  (k : jJ Γ nL pc' lv (.int (x <<< (y &&& 31)) :: st) μ) : jJ Γ nL pc lv (.int y :: .int x :: st) μ := by
  subst hp
  obtain ⟨p, l, e, R, s, m, args, below, meth, c, D, ad, cl, Q, cells, slots, A⟩ := Γ
  obtain ⟨hx, hb, hml, hown, hts, hK, hi, hA, hR, hc1, hc2⟩ := C
  exact fun ls H locs h1 h2 h3 => lv_ishl hx hb hd (k ls H locs h1 h2 h3)
theorem j_ishr {x y : Int32} (C : jC Γ nL cc own rm) (hd : decode cc pc = .ok (.ishr, 1)) (hp : pc + 1 = pc')  (k : jJ Γ nL pc' lv (.int (x >>> (y &&& 31)) :: st) μ) : jJ Γ nL pc lv (.int y :: .int x :: st) μ := by
  subst hp
  obtain ⟨p, l, e, R, s, m, args, below, meth, c, D, ad, cl, Q, cells, slots, A⟩ := Γ
  obtain ⟨hx, hb, hml, hown, hts, hK, hi, hA, hR, hc1, hc2⟩ := C
  exact fun ls H locs h1 h2 h3 => lv_ishr hx hb hd (k ls H locs h1 h2 h3)
theorem j_iushr {x y : Int32} (C : jC Γ nL cc own rm) (hd : decode cc pc = .ok (.iushr, 1)) (hp : pc + 1 = pc')  (k : jJ Γ nL pc' lv (.int ((x.toUInt32 >>> (y.toUInt32 &&& Int32.toUInt32 31)).toInt32) :: st) μ) : jJ Γ nL pc lv (.int y :: .int x :: st) μ := by
  subst hp
  obtain ⟨p, l, e, R, s, m, args, below, meth, c, D, ad, cl, Q, cells, slots, A⟩ := Γ
  obtain ⟨hx, hb, hml, hown, hts, hK, hi, hA, hR, hc1, hc2⟩ := C
  exact fun ls H locs h1 h2 h3 => lv_iushr hx hb hd rfl (k ls H locs h1 h2 h3)
theorem j_idiv {x y : Int32} (C : jC Γ nL cc own rm) (hd : decode cc pc = .ok (.idiv, 1)) (hp : pc + 1 = pc') (hne : ¬ y = 0) (k : jJ Γ nL pc' lv (.int (x / y) :: st) μ) : jJ Γ nL pc lv (.int y :: .int x :: st) μ := by
  subst hp
  obtain ⟨p, l, e, R, s, m, args, below, meth, c, D, ad, cl, Q, cells, slots, A⟩ := Γ
  obtain ⟨hx, hb, hml, hown, hts, hK, hi, hA, hR, hc1, hc2⟩ := C
  exact fun ls H locs h1 h2 h3 => lv_idiv hx hb hd hne (k ls H locs h1 h2 h3)
theorem j_irem {x y : Int32} (C : jC Γ nL cc own rm) (hd : decode cc pc = .ok (.irem, 1)) (hp : pc + 1 = pc') (hne : ¬ y = 0) (k : jJ Γ nL pc' lv (.int (x - x / y * y) :: st) μ) : jJ Γ nL pc lv (.int y :: .int x :: st) μ := by
  subst hp
  obtain ⟨p, l, e, R, s, m, args, below, meth, c, D, ad, cl, Q, cells, slots, A⟩ := Γ
  obtain ⟨hx, hb, hml, hown, hts, hK, hi, hA, hR, hc1, hc2⟩ := C
  exact fun ls H locs h1 h2 h3 => lv_irem hx hb hd hne (k ls H locs h1 h2 h3)
theorem j_ladd {x y : Int64} (C : jC Γ nL cc own rm) (hd : decode cc pc = .ok (.ladd, 1)) (hp : pc + 1 = pc')  (k : jJ Γ nL pc' lv (.long (x + y) :: st) μ) : jJ Γ nL pc lv (.long y :: .long x :: st) μ := by
  subst hp
  obtain ⟨p, l, e, R, s, m, args, below, meth, c, D, ad, cl, Q, cells, slots, A⟩ := Γ
  obtain ⟨hx, hb, hml, hown, hts, hK, hi, hA, hR, hc1, hc2⟩ := C
  exact fun ls H locs h1 h2 h3 => lv_ladd hx hb hd (k ls H locs h1 h2 h3)
theorem j_land {x y : Int64} (C : jC Γ nL cc own rm) (hd : decode cc pc = .ok (.land, 1)) (hp : pc + 1 = pc')  (k : jJ Γ nL pc' lv (.long (x &&& y) :: st) μ) : jJ Γ nL pc lv (.long y :: .long x :: st) μ := by
  subst hp
  obtain ⟨p, l, e, R, s, m, args, below, meth, c, D, ad, cl, Q, cells, slots, A⟩ := Γ
  obtain ⟨hx, hb, hml, hown, hts, hK, hi, hA, hR, hc1, hc2⟩ := C
  exact fun ls H locs h1 h2 h3 => lv_land hx hb hd (k ls H locs h1 h2 h3)
theorem j_lor {x y : Int64} (C : jC Γ nL cc own rm) (hd : decode cc pc = .ok (.lor, 1)) (hp : pc + 1 = pc')  (k : jJ Γ nL pc' lv (.long (x ||| y) :: st) μ) : jJ Γ nL pc lv (.long y :: .long x :: st) μ := by
  subst hp
  obtain ⟨p, l, e, R, s, m, args, below, meth, c, D, ad, cl, Q, cells, slots, A⟩ := Γ
  obtain ⟨hx, hb, hml, hown, hts, hK, hi, hA, hR, hc1, hc2⟩ := C
  exact fun ls H locs h1 h2 h3 => lv_lor hx hb hd (k ls H locs h1 h2 h3)
theorem j_lshl {x : Int64} {y : Int32} (C : jC Γ nL cc own rm) (hd : decode cc pc = .ok (.lshl, 1)) (hp : pc + 1 = pc')  (k : jJ Γ nL pc' lv (.long (x <<< (y.toInt64 &&& 63)) :: st) μ) : jJ Γ nL pc lv (.int y :: .long x :: st) μ := by
  subst hp
  obtain ⟨p, l, e, R, s, m, args, below, meth, c, D, ad, cl, Q, cells, slots, A⟩ := Γ
  obtain ⟨hx, hb, hml, hown, hts, hK, hi, hA, hR, hc1, hc2⟩ := C
  exact fun ls H locs h1 h2 h3 => lv_lshl hx hb hd rfl (k ls H locs h1 h2 h3)
theorem j_lcmp {x y : Int64} (C : jC Γ nL cc own rm) (hd : decode cc pc = .ok (.lcmp, 1)) (hp : pc + 1 = pc')  (k : jJ Γ nL pc' lv (.int (lg_cmp x y) :: st) μ) : jJ Γ nL pc lv (.long y :: .long x :: st) μ := by
  subst hp
  obtain ⟨p, l, e, R, s, m, args, below, meth, c, D, ad, cl, Q, cells, slots, A⟩ := Γ
  obtain ⟨hx, hb, hml, hown, hts, hK, hi, hA, hR, hc1, hc2⟩ := C
  exact fun ls H locs h1 h2 h3 => W.lcmp hx hb hd (k ls H locs h1 h2 h3)
theorem j_i2l {x : Int32} (C : jC Γ nL cc own rm) (hd : decode cc pc = .ok (.i2l, 1)) (hp : pc + 1 = pc')  (k : jJ Γ nL pc' lv (.long x.toInt64 :: st) μ) : jJ Γ nL pc lv (.int x :: st) μ := by
  subst hp
  obtain ⟨p, l, e, R, s, m, args, below, meth, c, D, ad, cl, Q, cells, slots, A⟩ := Γ
  obtain ⟨hx, hb, hml, hown, hts, hK, hi, hA, hR, hc1, hc2⟩ := C
  exact fun ls H locs h1 h2 h3 => lv_i2l hx hb hd rfl (k ls H locs h1 h2 h3)
theorem j_l2i {x : Int64} (C : jC Γ nL cc own rm) (hd : decode cc pc = .ok (.l2i, 1)) (hp : pc + 1 = pc')  (k : jJ Γ nL pc' lv (.int x.toInt32 :: st) μ) : jJ Γ nL pc lv (.long x :: st) μ := by
  subst hp
  obtain ⟨p, l, e, R, s, m, args, below, meth, c, D, ad, cl, Q, cells, slots, A⟩ := Γ
  obtain ⟨hx, hb, hml, hown, hts, hK, hi, hA, hR, hc1, hc2⟩ := C
  exact fun ls H locs h1 h2 h3 => lv_l2i hx hb hd rfl (k ls H locs h1 h2 h3)
theorem j_i2b {x : Int32} (C : jC Γ nL cc own rm) (hd : decode cc pc = .ok (.i2b, 1)) (hp : pc + 1 = pc')  (k : jJ Γ nL pc' lv (.int x.toInt8.toInt32 :: st) μ) : jJ Γ nL pc lv (.int x :: st) μ := by
  subst hp
  obtain ⟨p, l, e, R, s, m, args, below, meth, c, D, ad, cl, Q, cells, slots, A⟩ := Γ
  obtain ⟨hx, hb, hml, hown, hts, hK, hi, hA, hR, hc1, hc2⟩ := C
  exact fun ls H locs h1 h2 h3 => lv_i2b hx hb hd rfl (k ls H locs h1 h2 h3)
theorem j_i2s {x : Int32} (C : jC Γ nL cc own rm) (hd : decode cc pc = .ok (.i2s, 1)) (hp : pc + 1 = pc')  (k : jJ Γ nL pc' lv (.int x.toInt16.toInt32 :: st) μ) : jJ Γ nL pc lv (.int x :: st) μ := by
  subst hp
  obtain ⟨p, l, e, R, s, m, args, below, meth, c, D, ad, cl, Q, cells, slots, A⟩ := Γ
  obtain ⟨hx, hb, hml, hown, hts, hK, hi, hA, hR, hc1, hc2⟩ := C
  exact fun ls H locs h1 h2 h3 => lv_i2s hx hb hd rfl (k ls H locs h1 h2 h3)
theorem j_i2c {x : Int32} (C : jC Γ nL cc own rm) (hd : decode cc pc = .ok (.i2c, 1)) (hp : pc + 1 = pc')  (k : jJ Γ nL pc' lv (.int (x.toUInt32 % 65536).toInt32 :: st) μ) : jJ Γ nL pc lv (.int x :: st) μ := by
  subst hp
  obtain ⟨p, l, e, R, s, m, args, below, meth, c, D, ad, cl, Q, cells, slots, A⟩ := Γ
  obtain ⟨hx, hb, hml, hown, hts, hK, hi, hA, hR, hc1, hc2⟩ := C
  exact fun ls H locs h1 h2 h3 => lv_i2c hx hb hd rfl (k ls H locs h1 h2 h3)
theorem j_dup {v : Value} (C : jC Γ nL cc own rm) (hd : decode cc pc = .ok (.dup, 1)) (hp : pc + 1 = pc') (hv : v.category = 1) (k : jJ Γ nL pc' lv (v :: v :: st) μ) : jJ Γ nL pc lv (v :: st) μ := by
  subst hp
  obtain ⟨p, l, e, R, s, m, args, below, meth, c, D, ad, cl, Q, cells, slots, A⟩ := Γ
  obtain ⟨hx, hb, hml, hown, hts, hK, hi, hA, hR, hc1, hc2⟩ := C
  exact fun ls H locs h1 h2 h3 => lv_dup hx hb hd (by rw [jm_cat]; exact hv) (k ls H locs h1 h2 h3)
theorem j_pop {v : Value} (C : jC Γ nL cc own rm) (hd : decode cc pc = .ok (.pop, 1)) (hp : pc + 1 = pc') (hv : v.category = 1) (k : jJ Γ nL pc' lv st μ) : jJ Γ nL pc lv (v :: st) μ := by
  subst hp
  obtain ⟨p, l, e, R, s, m, args, below, meth, c, D, ad, cl, Q, cells, slots, A⟩ := Γ
  obtain ⟨hx, hb, hml, hown, hts, hK, hi, hA, hR, hc1, hc2⟩ := C
  exact fun ls H locs h1 h2 h3 => lv_pop hx hb hd (by rw [jm_cat]; exact hv) (k ls H locs h1 h2 h3)
theorem j_dup2 {v w : Value} (C : jC Γ nL cc own rm) (hd : decode cc pc = .ok (.dup2, 1)) (hp : pc + 1 = pc') (hv : v.category = 1) (hw : w.category = 1) (k : jJ Γ nL pc' lv (v :: w :: v :: w :: st) μ) : jJ Γ nL pc lv (v :: w :: st) μ := by
  subst hp
  obtain ⟨p, l, e, R, s, m, args, below, meth, c, D, ad, cl, Q, cells, slots, A⟩ := Γ
  obtain ⟨hx, hb, hml, hown, hts, hK, hi, hA, hR, hc1, hc2⟩ := C
  exact fun ls H locs h1 h2 h3 => lv_dup2_11 hx hb hd (by rw [jm_cat]; exact hv) (by rw [jm_cat]; exact hw) (k ls H locs h1 h2 h3)
theorem j_if_eq {x : Int32} {off : Int} {tgt : Nat} (C : jC Γ nL cc own rm) (hd : decode cc pc = .ok (.ifCond .eq off, 3)) (hp : pc + 3 = pc') (ht : (pc : Int) + off = (tgt : Int)) (kt : x = 0 → jJ Γ nL tgt lv st μ) (kf : ¬ x = 0 → jJ Γ nL pc' lv st μ) : jJ Γ nL pc lv (.int x :: st) μ := by
  subst hp
  obtain ⟨p, l, e, R, s, m, args, below, meth, c, D, ad, cl, Q, cells, slots, A⟩ := Γ
  obtain ⟨hx, hb, hml, hown, hts, hK, hi, hA, hR, hc1, hc2⟩ := C
  exact fun ls H locs h1 h2 h3 => lv_if_eq hx hb hd ht (fun q => kt q ls H locs h1 h2 h3) (fun q => kf q ls H locs h1 h2 h3)
theorem j_icmp_eq {x y : Int32} {off : Int} {tgt : Nat} (C : jC Γ nL cc own rm) (hd : decode cc pc = .ok (.if_icmp .eq off, 3)) (hp : pc + 3 = pc') (ht : (pc : Int) + off = (tgt : Int)) (kt : x = y → jJ Γ nL tgt lv st μ) (kf : ¬ x = y → jJ Γ nL pc' lv st μ) : jJ Γ nL pc lv (.int y :: .int x :: st) μ := by
  subst hp
  obtain ⟨p, l, e, R, s, m, args, below, meth, c, D, ad, cl, Q, cells, slots, A⟩ := Γ
  obtain ⟨hx, hb, hml, hown, hts, hK, hi, hA, hR, hc1, hc2⟩ := C
  exact fun ls H locs h1 h2 h3 => lv_icmp_eq hx hb hd ht (fun q => kt q ls H locs h1 h2 h3) (fun q => kf q ls H locs h1 h2 h3)
theorem j_if_ne {x : Int32} {off : Int} {tgt : Nat} (C : jC Γ nL cc own rm) (hd : decode cc pc = .ok (.ifCond .ne off, 3)) (hp : pc + 3 = pc') (ht : (pc : Int) + off = (tgt : Int)) (kt : ¬ x = 0 → jJ Γ nL tgt lv st μ) (kf : x = 0 → jJ Γ nL pc' lv st μ) : jJ Γ nL pc lv (.int x :: st) μ := by
  subst hp
  obtain ⟨p, l, e, R, s, m, args, below, meth, c, D, ad, cl, Q, cells, slots, A⟩ := Γ
  obtain ⟨hx, hb, hml, hown, hts, hK, hi, hA, hR, hc1, hc2⟩ := C
  exact fun ls H locs h1 h2 h3 => lv_if_ne hx hb hd ht (fun q => kt q ls H locs h1 h2 h3) (fun q => kf q ls H locs h1 h2 h3)
theorem j_icmp_ne {x y : Int32} {off : Int} {tgt : Nat} (C : jC Γ nL cc own rm) (hd : decode cc pc = .ok (.if_icmp .ne off, 3)) (hp : pc + 3 = pc') (ht : (pc : Int) + off = (tgt : Int)) (kt : ¬ x = y → jJ Γ nL tgt lv st μ) (kf : x = y → jJ Γ nL pc' lv st μ) : jJ Γ nL pc lv (.int y :: .int x :: st) μ := by
  subst hp
  obtain ⟨p, l, e, R, s, m, args, below, meth, c, D, ad, cl, Q, cells, slots, A⟩ := Γ
  obtain ⟨hx, hb, hml, hown, hts, hK, hi, hA, hR, hc1, hc2⟩ := C
  exact fun ls H locs h1 h2 h3 => lv_icmp_ne hx hb hd ht (fun q => kt q ls H locs h1 h2 h3) (fun q => kf q ls H locs h1 h2 h3)
theorem j_if_lt {x : Int32} {off : Int} {tgt : Nat} (C : jC Γ nL cc own rm) (hd : decode cc pc = .ok (.ifCond .lt off, 3)) (hp : pc + 3 = pc') (ht : (pc : Int) + off = (tgt : Int)) (kt : x < 0 → jJ Γ nL tgt lv st μ) (kf : ¬ x < 0 → jJ Γ nL pc' lv st μ) : jJ Γ nL pc lv (.int x :: st) μ := by
  subst hp
  obtain ⟨p, l, e, R, s, m, args, below, meth, c, D, ad, cl, Q, cells, slots, A⟩ := Γ
  obtain ⟨hx, hb, hml, hown, hts, hK, hi, hA, hR, hc1, hc2⟩ := C
  exact fun ls H locs h1 h2 h3 => lv_if_lt hx hb hd ht (fun q => kt q ls H locs h1 h2 h3) (fun q => kf q ls H locs h1 h2 h3)
theorem j_icmp_lt {x y : Int32} {off : Int} {tgt : Nat} (C : jC Γ nL cc own rm) (hd : decode cc pc = .ok (.if_icmp .lt off, 3)) (hp : pc + 3 = pc') (ht : (pc : Int) + off = (tgt : Int)) (kt : x < y → jJ Γ nL tgt lv st μ) (kf : ¬ x < y → jJ Γ nL pc' lv st μ) : jJ Γ nL pc lv (.int y :: .int x :: st) μ := by
  subst hp
  obtain ⟨p, l, e, R, s, m, args, below, meth, c, D, ad, cl, Q, cells, slots, A⟩ := Γ
  obtain ⟨hx, hb, hml, hown, hts, hK, hi, hA, hR, hc1, hc2⟩ := C
  exact fun ls H locs h1 h2 h3 => lv_icmp_lt hx hb hd ht (fun q => kt q ls H locs h1 h2 h3) (fun q => kf q ls H locs h1 h2 h3)
theorem j_if_ge {x : Int32} {off : Int} {tgt : Nat} (C : jC Γ nL cc own rm) (hd : decode cc pc = .ok (.ifCond .ge off, 3)) (hp : pc + 3 = pc') (ht : (pc : Int) + off = (tgt : Int)) (kt : 0 ≤ x → jJ Γ nL tgt lv st μ) (kf : ¬ 0 ≤ x → jJ Γ nL pc' lv st μ) : jJ Γ nL pc lv (.int x :: st) μ := by
  subst hp
  obtain ⟨p, l, e, R, s, m, args, below, meth, c, D, ad, cl, Q, cells, slots, A⟩ := Γ
  obtain ⟨hx, hb, hml, hown, hts, hK, hi, hA, hR, hc1, hc2⟩ := C
  exact fun ls H locs h1 h2 h3 => lv_if_ge hx hb hd ht (fun q => kt q ls H locs h1 h2 h3) (fun q => kf q ls H locs h1 h2 h3)
theorem j_icmp_ge {x y : Int32} {off : Int} {tgt : Nat} (C : jC Γ nL cc own rm) (hd : decode cc pc = .ok (.if_icmp .ge off, 3)) (hp : pc + 3 = pc') (ht : (pc : Int) + off = (tgt : Int)) (kt : y ≤ x → jJ Γ nL tgt lv st μ) (kf : ¬ y ≤ x → jJ Γ nL pc' lv st μ) : jJ Γ nL pc lv (.int y :: .int x :: st) μ := by
  subst hp
  obtain ⟨p, l, e, R, s, m, args, below, meth, c, D, ad, cl, Q, cells, slots, A⟩ := Γ
  obtain ⟨hx, hb, hml, hown, hts, hK, hi, hA, hR, hc1, hc2⟩ := C
  exact fun ls H locs h1 h2 h3 => lv_icmp_ge hx hb hd ht (fun q => kt q ls H locs h1 h2 h3) (fun q => kf q ls H locs h1 h2 h3)
theorem j_if_gt {x : Int32} {off : Int} {tgt : Nat} (C : jC Γ nL cc own rm) (hd : decode cc pc = .ok (.ifCond .gt off, 3)) (hp : pc + 3 = pc') (ht : (pc : Int) + off = (tgt : Int)) (kt : 0 < x → jJ Γ nL tgt lv st μ) (kf : ¬ 0 < x → jJ Γ nL pc' lv st μ) : jJ Γ nL pc lv (.int x :: st) μ := by
  subst hp
  obtain ⟨p, l, e, R, s, m, args, below, meth, c, D, ad, cl, Q, cells, slots, A⟩ := Γ
  obtain ⟨hx, hb, hml, hown, hts, hK, hi, hA, hR, hc1, hc2⟩ := C
  exact fun ls H locs h1 h2 h3 => lv_if_gt hx hb hd ht (fun q => kt q ls H locs h1 h2 h3) (fun q => kf q ls H locs h1 h2 h3)
theorem j_icmp_gt {x y : Int32} {off : Int} {tgt : Nat} (C : jC Γ nL cc own rm) (hd : decode cc pc = .ok (.if_icmp .gt off, 3)) (hp : pc + 3 = pc') (ht : (pc : Int) + off = (tgt : Int)) (kt : y < x → jJ Γ nL tgt lv st μ) (kf : ¬ y < x → jJ Γ nL pc' lv st μ) : jJ Γ nL pc lv (.int y :: .int x :: st) μ := by
  subst hp
  obtain ⟨p, l, e, R, s, m, args, below, meth, c, D, ad, cl, Q, cells, slots, A⟩ := Γ
  obtain ⟨hx, hb, hml, hown, hts, hK, hi, hA, hR, hc1, hc2⟩ := C
  exact fun ls H locs h1 h2 h3 => lv_icmp_gt hx hb hd ht (fun q => kt q ls H locs h1 h2 h3) (fun q => kf q ls H locs h1 h2 h3)
theorem j_if_le {x : Int32} {off : Int} {tgt : Nat} (C : jC Γ nL cc own rm) (hd : decode cc pc = .ok (.ifCond .le off, 3)) (hp : pc + 3 = pc') (ht : (pc : Int) + off = (tgt : Int)) (kt : x ≤ 0 → jJ Γ nL tgt lv st μ) (kf : ¬ x ≤ 0 → jJ Γ nL pc' lv st μ) : jJ Γ nL pc lv (.int x :: st) μ := by
  subst hp
  obtain ⟨p, l, e, R, s, m, args, below, meth, c, D, ad, cl, Q, cells, slots, A⟩ := Γ
  obtain ⟨hx, hb, hml, hown, hts, hK, hi, hA, hR, hc1, hc2⟩ := C
  exact fun ls H locs h1 h2 h3 => lv_if_le hx hb hd ht (fun q => kt q ls H locs h1 h2 h3) (fun q => kf q ls H locs h1 h2 h3)
theorem j_icmp_le {x y : Int32} {off : Int} {tgt : Nat} (C : jC Γ nL cc own rm) (hd : decode cc pc = .ok (.if_icmp .le off, 3)) (hp : pc + 3 = pc') (ht : (pc : Int) + off = (tgt : Int)) (kt : x ≤ y → jJ Γ nL tgt lv st μ) (kf : ¬ x ≤ y → jJ Γ nL pc' lv st μ) : jJ Γ nL pc lv (.int y :: .int x :: st) μ := by
  subst hp
  obtain ⟨p, l, e, R, s, m, args, below, meth, c, D, ad, cl, Q, cells, slots, A⟩ := Γ
  obtain ⟨hx, hb, hml, hown, hts, hK, hi, hA, hR, hc1, hc2⟩ := C
  exact fun ls H locs h1 h2 h3 => lv_icmp_le hx hb hd ht (fun q => kt q ls H locs h1 h2 h3) (fun q => kf q ls H locs h1 h2 h3)
theorem j_goto {off : Int} (C : jC Γ nL cc own rm) (hd : decode cc pc = .ok (.goto off, 3)) (ht : (pc : Int) + off = (pc' : Int)) (k : jJ Γ nL pc' lv st μ) : jJ Γ nL pc lv st μ := by
  obtain ⟨p, l, e, R, s, m, args, below, meth, c, D, ad, cl, Q, cells, slots, A⟩ := Γ
  obtain ⟨hx, hb, hml, hown, hts, hK, hi, hA, hR, hc1, hc2⟩ := C
  exact fun ls H locs h1 h2 h3 => lv_goto hx hb hd ht (k ls H locs h1 h2 h3)
theorem j_ifnull {off : Int} {tgt : Nat} {x : Int32} (C : jC Γ nL cc own rm) (hd : decode cc pc = .ok (.ifnull off, 3)) (hp : pc + 3 = pc') (ht : (pc : Int) + off = (tgt : Int)) (kt : x = 0 → jJ Γ nL tgt lv st μ) (kf : ¬ x = 0 → jJ Γ nL pc' lv st μ) : jJ Γ nL pc lv ((if x = 0 then .null else .ref x.toNatClampNeg) :: st) μ := by
  subst hp
  obtain ⟨p, l, e, R, s, m, args, below, meth, c, D, ad, cl, Q, cells, slots, A⟩ := Γ
  obtain ⟨hx, hb, hml, hown, hts, hK, hi, hA, hR, hc1, hc2⟩ := C
  intro ls H locs h1 h2 h3
  by_cases h : x = 0
  · rw [if_pos h]
    exact lv_ifnullN hx hb hd ht (kt h ls H locs h1 h2 h3)
  · rw [if_neg h]
    exact lv_ifnull hx hb hd (kf h ls H locs h1 h2 h3)
theorem j_tabOut {dflt lo hi : Int} {offs : Array Int} {len tgt : Nat} {x : Int32} (C : jC Γ nL cc own rm) (hd : decode cc pc = .ok (.tableswitch dflt lo hi offs, len)) (h : x.toInt < lo ∨ hi < x.toInt) (ht : (pc : Int) + dflt = (tgt : Int)) (k : jJ Γ nL tgt lv st μ) : jJ Γ nL pc lv (.int x :: st) μ := by
  obtain ⟨p, l, e, R, s, m, args, below, meth, c, D, ad, cl, Q, cells, slots, A⟩ := Γ
  obtain ⟨hx, hb, hml, hown, hts, hK, hi, hA, hR, hc1, hc2⟩ := C
  exact fun ls H locs h1 h2 h3 => lv_tableOut hx hb hd h ht (k ls H locs h1 h2 h3)
theorem j_tabIn {dflt lo hi off : Int} {offs : Array Int} {len tgt : Nat} {x : Int32} (C : jC Γ nL cc own rm) (hd : decode cc pc = .ok (.tableswitch dflt lo hi offs, len)) (g1 : ¬ x.toInt < lo) (g2 : ¬ hi < x.toInt) (ho : offs[(x.toInt - lo).toNat]? = some off) (ht : (pc : Int) + off = (tgt : Int)) (k : jJ Γ nL tgt lv st μ) : jJ Γ nL pc lv (.int x :: st) μ := by
  obtain ⟨p, l, e, R, s, m, args, below, meth, c, D, ad, cl, Q, cells, slots, A⟩ := Γ
  obtain ⟨hx, hb, hml, hown, hts, hK, hi, hA, hR, hc1, hc2⟩ := C
  exact fun ls H locs h1 h2 h3 => lv_tableIn hx hb hd g1 g2 ho ht (k ls H locs h1 h2 h3)
theorem j_lookup {dflt : Int} {ps : Array (Int × Int)} {len tgt : Nat} {x : Int32} {off : Int} (C : jC Γ nL cc own rm) (hd : decode cc pc = .ok (.lookupswitch dflt ps, len)) (hq : (ps.toList.zip (ps.toList.drop 1)).all (fun (a, next) => a.1 < next.1) = true) (ho : Op.lookupswitch.offset ps.toList dflt x.toInt = off) (ht : (pc : Int) + off = (tgt : Int)) (k : jJ Γ nL tgt lv st μ) : jJ Γ nL pc lv (.int x :: st) μ := by
  obtain ⟨p, l, e, R, s, m, args, below, meth, c, D, ad, cl, Q, cells, slots, A⟩ := Γ
  obtain ⟨hx, hb, hml, hown, hts, hK, hi, hA, hR, hc1, hc2⟩ := C
  exact fun ls H locs h1 h2 h3 => lv_lookup hx hb hd hq ho ht (k ls H locs h1 h2 h3)
theorem j_get {index k ci j : Nat} {fl : List (Nat × Nat)} {cj : Nat × Nat} {v : Value} (C : jC Γ nL cc own rm) (hd : decode cc pc = .ok (.getfield index, 3)) (hp : pc + 3 = pc') (hf : jm_fl own index ci j) (hs : jm_is k (.inr (ci, fl))) (hj : fl[j]? = some cj) (hv : jm_fv (jgad Γ) (μ.1 k j) cj = jm_cv (jgad Γ) v) (kk : jJ Γ nL pc' lv (v :: st) μ) : jJ Γ nL pc lv (.ref k :: st) μ := by
  subst hp
  obtain ⟨p, l, e, R, s, m, args, below, meth, c, D, ad, cl, Q, cells, slots, A⟩ := Γ
  obtain ⟨hx, hb, hml, hown, hts, hK, hi, hA, hR, hc1, hc2⟩ := C
  obtain ⟨CC, T, N, f1, f2, f3, f4⟩ := hf
  have hv : jm_fv ad (μ.1 k j) cj = jm_cv ad v := hv
  exact fun ls H locs h1 h2 h3 => va_get (D := D) (ci := ci) hx hb hts f2 hown hK h2 k hs.at f1 j f3 (hts _ f4) (fun _ h9 => h9) ((jm_fs_at hj).trans (congrArg some hv)) hd (kk ls H locs h1 h2 h3)
theorem j_getI {index k ci j z : Nat} {fl : List (Nat × Nat)} (C : jC Γ nL cc own rm) (hd : decode cc pc = .ok (.getfield index, 3)) (hp : pc + 3 = pc') (hf : jm_fl own index ci j) (hs : jm_is k (.inr (ci, fl))) (hj : fl[j]? = some (0, z)) (kk : jJ Γ nL pc' lv (.int (μ.1 k j) :: st) μ) : jJ Γ nL pc lv (.ref k :: st) μ := j_get C hd hp hf hs hj rfl kk
theorem j_getR {index k ci j c : Nat} {fl : List (Nat × Nat)} (C : jC Γ nL cc own rm) (hd : decode cc pc = .ok (.getfield index, 3)) (hp : pc + 3 = pc') (hf : jm_fl own index ci j) (hs : jm_is k (.inr (ci, fl))) (hj : fl[j]? = some (2, c)) (kk : jJ Γ nL pc' lv (.ref c :: st) μ) : jJ Γ nL pc lv (.ref k :: st) μ := j_get C hd hp hf hs hj rfl kk
theorem j_getD {index k ci j c : Nat} {fl : List (Nat × Nat)} (C : jC Γ nL cc own rm) (hd : decode cc pc = .ok (.getfield index, 3)) (hp : pc + 3 = pc') (hf : jm_fl own index ci j) (hs : jm_is k (.inr (ci, fl))) (hj : fl[j]? = some (1, c)) (kk : jJ Γ nL pc' lv ((if μ.1 k j = 0 then .null else .ref (μ.1 k j).toNatClampNeg) :: st) μ) : jJ Γ nL pc lv (.ref k :: st) μ := by
  refine j_get C hd hp hf hs hj (v := if μ.1 k j = 0 then .null else .ref (μ.1 k j).toNatClampNeg) ?_ kk
  show (if μ.1 k j = 0 then Value.null else .ref (jgad Γ (μ.1 k j).toNatClampNeg)) = _
  by_cases h : μ.1 k j = 0
  · rw [if_pos h, if_pos h]; rfl
  · rw [if_neg h, if_neg h]; rfl
theorem j_putV {index k ci j : Nat} {fl : List (Nat × Nat)} {cj : Nat × Nat} {ty : FieldType} {v : Value} {x : Int32} (C : jC Γ nL cc own rm) (hd : decode cc pc = .ok (.putfield index, 3)) (hp : pc + 3 = pc') (hf : jm_fp own index ci j ty) (hs : jm_is k (.inr (ci, fl))) (hj : fl[j]? = some cj) (hv : jm_fv (jgad Γ) x cj = jm_cv (jgad Γ) v) (hn : narrow ty (jm_cv (jgad Γ) v) = jm_cv (jgad Γ) v) (hfit : fits ty (jm_cv (jgad Γ) v) = true) (kk : jJ Γ nL pc' lv st (sI μ k j x)) : jJ Γ nL pc lv (v :: .ref k :: st) μ := by
  subst hp
  obtain ⟨p, l, e, R, s, m, args, below, meth, c, D, ad, cl, Q, cells, slots, A⟩ := Γ
  obtain ⟨hx, hb, hml, hown, hts, hK, hi, hA, hR, hc1, hc2⟩ := C
  obtain ⟨CC, T, N, ty0, f1, f2, f3, f4, f5, f6, f7, f8⟩ := hf
  have hv : jm_fv ad x cj = jm_cv ad v := hv
  have hn : narrow ty (jm_cv ad v) = jm_cv ad v := hn
  have hfit : fits ty (jm_cv ad v) = true := hfit
  intro ls H locs h1 h2 h3
  refine va_put (D := D) (ci := ci) (ty := ty) hx hb hts f2 ty0 f5 f6 hown hK h2 (jm_D hi hA) h3 k hs.at f1 j f3 (hts _ f4) (fun _ h9 => h9) f7 f8 hn hfit ?_ hd (fun H1 locs1 g1 _ g3 => ?_)
  · rw [jm_fs_len]; exact (List.getElem?_eq_some_iff.mp hj).1
  · refine kk ls H1 locs1 h1 ?_ g3
    have e : (jm_W ad cl μ).set k (ad k, .inr (ci, (jm_fs ad (μ.1 k) fl).set j (jm_cv ad v))) = jm_W ad cl (sI μ k j x) := by
      refine jm_set jm_cell_sA ?_
      show jm_cell ad cl (sA μ k (upd (μ.1 k) j x)) k = _
      rw [jm_cell_sAk, hs.2, ← hv, jm_fs_set hj]
      rfl
    rw [← e]
    exact g1
theorem j_putI {index k ci j z : Nat} {fl : List (Nat × Nat)} {x : Int32} (C : jC Γ nL cc own rm) (hd : decode cc pc = .ok (.putfield index, 3)) (hp : pc + 3 = pc') (hf : jm_fp own index ci j .int) (hs : jm_is k (.inr (ci, fl))) (hj : fl[j]? = some (0, z)) (kk : jJ Γ nL pc' lv st (sI μ k j x)) : jJ Γ nL pc lv (.int x :: .ref k :: st) μ := j_putV C hd hp hf hs hj rfl rfl rfl kk
theorem j_putZ {index k ci j z : Nat} {fl : List (Nat × Nat)} {x : Int32} (C : jC Γ nL cc own rm) (hd : decode cc pc = .ok (.putfield index, 3)) (hp : pc + 3 = pc') (hf : jm_fp own index ci j .boolean) (hs : jm_is k (.inr (ci, fl))) (hj : fl[j]? = some (0, z)) (hB : isB x = true) (kk : jJ Γ nL pc' lv st (sI μ k j x)) : jJ Γ nL pc lv (.int x :: .ref k :: st) μ := j_putV C hd hp hf hs hj rfl (isB_n hB) (isB_f hB) kk
theorem j_putD {index k ci j z q : Nat} {fl : List (Nat × Nat)} {ty : FieldType} (C : jC Γ nL cc own rm) (hd : decode cc pc = .ok (.putfield index, 3)) (hp : pc + 3 = pc') (hf : jm_fp own index ci j (.array ty)) (hs : jm_is k (.inr (ci, fl))) (hj : fl[j]? = some (1, z)) (h0 : 0 < q) (h1 : q < 125) (kk : jJ Γ nL pc' lv st (sI μ k j (nI q))) : jJ Γ nL pc lv (.ref q :: .ref k :: st) μ := by
  refine j_putV C hd hp hf hs hj ?_ rfl rfl kk
  show (if nI q = 0 then Value.null else .ref (jgad Γ (nI q).toNatClampNeg)) = .ref (jgad Γ q)
  rw [if_neg (nI_ne0 h0 (by omega)), nI_clamp (by omega)]
theorem j_iald {k n z : Nat} {i : Int32} (C : jC Γ nL cc own rm) (hd : decode cc pc = .ok (.iaload, 1)) (hp : pc + 1 = pc') (hs : jm_is k (.inl (0, n, z))) (hin : inb i n = true) (kk : jJ Γ nL pc' lv (.int (μ.1 k i.toNatClampNeg) :: st) μ) : jJ Γ nL pc lv (.int i :: .ref k :: st) μ := by
  subst hp
  obtain ⟨p, l, e, R, s, m, args, below, meth, c, D, ad, cl, Q, cells, slots, A⟩ := Γ
  obtain ⟨hx, hb, hml, hown, hts, hK, hi, hA, hR, hc1, hc2⟩ := C
  exact fun ls H locs h1 h2 h3 => va_iald hx hb hK h2 k 0 (cA := cl 0) (n := n) (f := μ.1 k) hs.at rfl (inb_e hin) hd (kk ls H locs h1 h2 h3)
theorem j_cald {k n z : Nat} {i : Int32} (C : jC Γ nL cc own rm) (hd : decode cc pc = .ok (.caload, 1)) (hp : pc + 1 = pc') (hs : jm_is k (.inl (1, n, z))) (hin : inb i n = true) (kk : jJ Γ nL pc' lv (.int (μ.1 k i.toNatClampNeg) :: st) μ) : jJ Γ nL pc lv (.int i :: .ref k :: st) μ := by
  subst hp
  obtain ⟨p, l, e, R, s, m, args, below, meth, c, D, ad, cl, Q, cells, slots, A⟩ := Γ
  obtain ⟨hx, hb, hml, hown, hts, hK, hi, hA, hR, hc1, hc2⟩ := C
  exact fun ls H locs h1 h2 h3 => va_cald hx hb hK h2 k 1 (cA := cl 1) (n := n) (f := μ.1 k) hs.at rfl (inb_e hin) hd (kk ls H locs h1 h2 h3)
theorem j_lald {k n z : Nat} {i : Int32} (C : jC Γ nL cc own rm) (hd : decode cc pc = .ok (.laload, 1)) (hp : pc + 1 = pc') (hs : jm_is k (.inl (2, n, z))) (hin : inb i n = true) (kk : jJ Γ nL pc' lv (.long (μ.2 k i.toNatClampNeg) :: st) μ) : jJ Γ nL pc lv (.int i :: .ref k :: st) μ := by
  subst hp
  obtain ⟨p, l, e, R, s, m, args, below, meth, c, D, ad, cl, Q, cells, slots, A⟩ := Γ
  obtain ⟨hx, hb, hml, hown, hts, hK, hi, hA, hR, hc1, hc2⟩ := C
  exact fun ls H locs h1 h2 h3 => va_lald hx hb hK h2 k 2 (cA := cl 2) (n := n) (f := μ.2 k) hs.at rfl (inb_e hin) hd (kk ls H locs h1 h2 h3)
theorem j_setA {D : va_G} {ad : Nat → Nat} {cl : Nat → ClassId} {k n z t : Nat} {f : Nat → Int32} {H : Heap} (ht : t = 0 ∨ t = 1) (hs : jm_is k (.inl (t, n, z))) (h : va_P D vwCl ((jm_W ad cl μ).set k (ad k, .inl (cl t, n, .inl f))) H) : va_P D vwCl (jm_W ad cl (sA μ k f)) H := by
  have e : (jm_W ad cl μ).set k (ad k, .inl (cl t, n, .inl f)) = jm_W ad cl (sA μ k f) := by
    refine jm_set jm_cell_sA ?_
    rw [jm_cell_sAk, hs.2]
    rcases ht with rfl | rfl <;> rfl
  rw [← e]
  exact h
theorem j_setB {D : va_G} {ad : Nat → Nat} {cl : Nat → ClassId} {k n z : Nat} {f : Nat → Int64} {H : Heap} (hs : jm_is k (.inl (2, n, z))) (h : va_P D vwCl ((jm_W ad cl μ).set k (ad k, .inl (cl 2, n, .inr (.inl f)))) H) : va_P D vwCl (jm_W ad cl (sB μ k f)) H := by
  have e : (jm_W ad cl μ).set k (ad k, .inl (cl 2, n, .inr (.inl f))) = jm_W ad cl (sB μ k f) := by
    refine jm_set jm_cell_sB ?_
    rw [jm_cell_sBk, hs.2]
    rfl
  rw [← e]
  exact h
theorem j_iast {k n z : Nat} {i x : Int32} (C : jC Γ nL cc own rm) (hd : decode cc pc = .ok (.iastore, 1)) (hp : pc + 1 = pc') (hs : jm_is k (.inl (0, n, z))) (hin : inb i n = true) (kk : jJ Γ nL pc' lv st (sI μ k i.toNatClampNeg x)) : jJ Γ nL pc lv (.int x :: .int i :: .ref k :: st) μ := by
  subst hp
  obtain ⟨p, l, e, R, s, m, args, below, meth, c, D, ad, cl, Q, cells, slots, A⟩ := Γ
  obtain ⟨hx, hb, hml, hown, hts, hK, hi, hA, hR, hc1, hc2⟩ := C
  exact fun ls H locs h1 h2 h3 => va_iast hx hb hK h2 (jm_D hi hA) h3 k 0 (cA := cl 0) (n := n) (f := μ.1 k) hs.at rfl (inb_e hin) hd (fun H1 locs1 g1 _ g3 => kk ls H1 locs1 h1 (j_setA (Or.inl rfl) hs g1) g3)
theorem j_cast {k n z : Nat} {i x : Int32} (C : jC Γ nL cc own rm) (hd : decode cc pc = .ok (.castore, 1)) (hp : pc + 1 = pc') (hs : jm_is k (.inl (1, n, z))) (hin : inb i n = true) (kk : jJ Γ nL pc' lv st (sI μ k i.toNatClampNeg (vp_nar .char x))) : jJ Γ nL pc lv (.int x :: .int i :: .ref k :: st) μ := by
  subst hp
  obtain ⟨p, l, e, R, s, m, args, below, meth, c, D, ad, cl, Q, cells, slots, A⟩ := Γ
  obtain ⟨hx, hb, hml, hown, hts, hK, hi, hA, hR, hc1, hc2⟩ := C
  exact fun ls H locs h1 h2 h3 => va_cast hx hb hK h2 (jm_D hi hA) h3 k 1 (cA := cl 1) (n := n) (f := μ.1 k) hs.at rfl (inb_e hin) hd (fun H1 locs1 g1 _ g3 => kk ls H1 locs1 h1 (j_setA (Or.inr rfl) hs g1) g3)
theorem j_last {k n z : Nat} {i : Int32} {x : Int64} (C : jC Γ nL cc own rm) (hd : decode cc pc = .ok (.lastore, 1)) (hp : pc + 1 = pc') (hs : jm_is k (.inl (2, n, z))) (hin : inb i n = true) (kk : jJ Γ nL pc' lv st (sL μ k i.toNatClampNeg x)) : jJ Γ nL pc lv (.long x :: .int i :: .ref k :: st) μ := by
  subst hp
  obtain ⟨p, l, e, R, s, m, args, below, meth, c, D, ad, cl, Q, cells, slots, A⟩ := Γ
  obtain ⟨hx, hb, hml, hown, hts, hK, hi, hA, hR, hc1, hc2⟩ := C
  exact fun ls H locs h1 h2 h3 => va_last hx hb hK h2 (jm_D hi hA) h3 k 2 (cA := cl 2) (n := n) (f := μ.2 k) hs.at rfl (inb_e hin) hd (fun H1 locs1 g1 _ g3 => kk ls H1 locs1 h1 (j_setB hs g1) g3)
theorem j_alen {k n z t : Nat} {v : Int32} (C : jC Γ nL cc own rm) (hd : decode cc pc = .ok (.arraylength, 1)) (hp : pc + 1 = pc') (ht : t = 0 ∨ t = 2) (hs : jm_is k (.inl (t, n, z))) (hv : Int32.ofNat n = v) (kk : jJ Γ nL pc' lv (.int v :: st) μ) : jJ Γ nL pc lv (.ref k :: st) μ := by
  subst hp
  obtain ⟨p, l, e, R, s, m, args, below, meth, c, D, ad, cl, Q, cells, slots, A⟩ := Γ
  obtain ⟨hx, hb, hml, hown, hts, hK, hi, hA, hR, hc1, hc2⟩ := C
  rcases ht with rfl | rfl
  · exact fun ls H locs h1 h2 h3 => va_alen hx hb hK h2 k 0 (cA := cl 0) (x := (n, .inl (μ.1 k))) hs.at (ty := .int) rfl hv hd (kk ls H locs h1 h2 h3)
  · exact fun ls H locs h1 h2 h3 => va_alen hx hb hK h2 k 2 (cA := cl 2) (x := (n, .inr (.inl (μ.2 k)))) hs.at (ty := .long) rfl hv hd (kk ls H locs h1 h2 h3)
theorem j_aald {k n c0 t : Nat} {i : Int32} (C : jC Γ nL cc own rm) (hd : decode cc pc = .ok (.aaload, 1)) (hp : pc + 1 = pc') (ht : t = 3 ∨ t = 4) (hs : jm_is k (.inl (t, n, c0))) (hin : inb i n = true) (kk : jJ Γ nL pc' lv (.ref (c0 + i.toNatClampNeg) :: st) μ) : jJ Γ nL pc lv (.int i :: .ref k :: st) μ := by
  subst hp
  obtain ⟨p, l, e, R, s, m, args, below, meth, c, D, ad, cl, Q, cells, slots, A⟩ := Γ
  obtain ⟨hx, hb, hml, hown, hts, hK, hi, hA, hR, hc1, hc2⟩ := C
  have hq := inb_e hin
  have hlt : i.toNatClampNeg < n := Nat.not_le.mp fun q => hq (Or.inr q)
  intro ls H locs h1 h2 h3
  have kk := kk ls H locs h1 h2 h3
  obtain ⟨ty, hty, hr⟩ : ∃ ty : FieldType, (jm_T cl)[t]? = some (cl t, ty) ∧ ty.isReference = true := by
    rcases ht with rfl | rfl
    · exact ⟨_, rfl, rfl⟩
    · exact ⟨_, rfl, rfl⟩
  have hcell : (jm_W ad cl μ)[k]? = some (ad k, .inl (cl t, n, .inr (.inr (.inr (.inr (fun i => if i < n then some (ad (c0 + i)) else none)))))) := by
    rw [hs.at]
    rcases ht with rfl | rfl <;> rfl
  have e : va_rf (if i.toNatClampNeg < n then some (ad (c0 + i.toNatClampNeg)) else none) = .ref (ad (c0 + i.toNatClampNeg)) := by rw [if_pos hlt]; rfl
  exact W.aald (v := .ref (ad (c0 + i.toNatClampNeg))) (ty := ty) hx hb (h2 k _ hcell) ((hK.2 t _ hty).1 n (fun j => va_rf (if j < n then some (ad (c0 + j)) else none))) hr (fun q => by cases q) (by show ¬ (i < 0 ∨ (arrV _ _ _).slots.size ≤ _); rw [arrV_size]; exact hq) (by show (arrV _ _ _).slots[_]? = _; rw [arrV_read _ _ hlt, e]) rfl rfl hd kk
theorem j_iret {r : Int32} (E : jEI Γ cc r μ) (hd : decode cc pc = .ok (.ireturn, 1)) : jJ Γ nL pc lv [.int r] μ := by
  obtain ⟨p, l, e, R, s, m, args, below, meth, c, D, ad, cl, Q, cells, slots, A⟩ := Γ
  exact fun ls H locs h1 h2 h3 => E pc ls H locs hd h2 h3
theorem j_vret (E : jEV Γ cc μ) (hd : decode cc pc = .ok (.return_, 1)) : jJ Γ nL pc lv [] μ := by
  obtain ⟨p, l, e, R, s, m, args, below, meth, c, D, ad, cl, Q, cells, slots, A⟩ := Γ
  exact fun ls H locs h1 h2 h3 => E pc ls H locs hd h2 h3
theorem j_lret {r : Int64} (E : jEL Γ cc r μ) (hd : decode cc pc = .ok (.lreturn, 1)) : jJ Γ nL pc lv [.long r] μ := by
  obtain ⟨p, l, e, R, s, m, args, below, meth, c, D, ad, cl, Q, cells, slots, A⟩ := Γ
  exact fun ls H locs h1 h2 h3 => E pc ls H locs hd h2 h3
theorem j_aret {r : Nat} (E : jER Γ cc r μ) (hd : decode cc pc = .ok (.areturn, 1)) : jJ Γ nL pc lv [.ref r] μ := by
  obtain ⟨p, l, e, R, s, m, args, below, meth, c, D, ad, cl, Q, cells, slots, A⟩ := Γ
  exact fun ls H locs h1 h2 h3 => E pc ls H locs hd h2 h3
end JROWS
end
section
/-! CONTRACTS over the world, and calls -/
def jm_Pre (D : va_G) (ad : Nat → Nat) (cl : Nat → ClassId) (μ : Mem) : State → Prop := fun U => va_P D vwCl (jm_W ad cl μ) U.heap ∧ va_K D vwCl (jm_T cl) U ∧ jm_inj ad
def jm_Post (D : va_G) (ad : Nat → Nat) (cl : Nat → ClassId) (u : Mem) (t : State) : Prop := va_P D vwCl (jm_W ad cl u) t.heap
def CI (l : Launch) (D : va_G) (ad : Nat → Nat) (cl : Nat → ClassId) (y : MethodName) (ws : List Cond) (rm : Room) (av : List Value) (μ : Mem) (r : Int32) (μ' : Mem) : Prop := Met l y ws rm (va_Pc (av.map (jm_cv ad)) (jm_Pre D ad cl μ)) (va_Qi (fun r' (u : Mem) => r' = r ∧ u = μ') (jm_Post D ad cl) (jm_R ad)) 0 0 (jm_R ad)
def CL (l : Launch) (D : va_G) (ad : Nat → Nat) (cl : Nat → ClassId) (y : MethodName) (ws : List Cond) (rm : Room) (av : List Value) (μ : Mem) (r : Int64) (μ' : Mem) : Prop := Met l y ws rm (va_Pc (av.map (jm_cv ad)) (jm_Pre D ad cl μ)) (va_Ql (fun r' (u : Mem) => r' = r ∧ u = μ') (jm_Post D ad cl) (jm_R ad)) 0 0 (jm_R ad)
def CV (l : Launch) (D : va_G) (ad : Nat → Nat) (cl : Nat → ClassId) (y : MethodName) (ws : List Cond) (rm : Room) (av : List Value) (μ : Mem) (μ' : Mem) : Prop := Met l y ws rm (va_Pc (av.map (jm_cv ad)) (jm_Pre D ad cl μ)) (va_Qv (fun (u : Mem) => u = μ') (jm_Post D ad cl) (jm_R ad)) 0 0 (jm_R ad)
def CR (l : Launch) (D : va_G) (ad : Nat → Nat) (cl : Nat → ClassId) (y : MethodName) (ws : List Cond) (rm : Room) (av : List Value) (μ : Mem) (r : Nat) (μ' : Mem) : Prop := Met l y ws rm (va_Pc (av.map (jm_cv ad)) (jm_Pre D ad cl μ)) (va_Qr (fun (u : Mem) => u = μ') (fun u a t => a = ad r ∧ jm_Post D ad cl u t) (jm_R ad)) 0 0 (jm_R ad)
/-- what a call's words say: virtual (and private) calls, static ones -/
def jm_gv (own : String) (index : Nat) (CC : String) (y : MethodName) (ws : List Cond) (maxL n : Nat) : Prop := ∃ (bytes : ByteArray) (ret : Option FieldType), GoodIn G0 (wsV own index CC y ws) ∧ ws = Cond.code y bytes maxL ret :: G0 ∧ (y.cls = CC ∧ y.cls ≠ "java/lang/invoke/MethodHandle" ∧ y.cls ≠ "java/lang/invoke/VarHandle" ∧ (parseMethodDescriptor y.desc).map (fun d => d.parameters.length) = some n)
def jm_gs (own : String) (index : Nat) (y : MethodName) (ws : List Cond) (maxL n : Nat) : Prop := ∃ (bytes : ByteArray) (ret : Option FieldType), GoodIn G0 (va_wsS own index y ws) ∧ ws = Cond.code y bytes maxL ret :: G0 ∧ (y.cls ≠ "java/lang/invoke/MethodHandle" ∧ y.cls ≠ "java/lang/invoke/VarHandle" ∧ (parseMethodDescriptor y.desc).map (fun d => d.parameters.length) = some n)
def jm_rm (rm' rm : Room) (maxL : Nat) : Prop := (rm'.cells = 0 ∧ rm'.slots = 0) ∧ (rm'.frames + 1 ≤ rm.frames ∧ 8 + (maxL + 11) + rm'.locals ≤ rm.locals)
theorem gi_all {ws : List Cond} (h : ∀ w ∈ ws, w ∈ G0) : GoodIn G0 ws := fun w hw => ⟨h w hw, good_of_word (List.mem_filter.mp (h w hw)).2⟩
theorem gi_V {own CC : String} {index maxL : Nat} {y : MethodName} {bytes : ByteArray} {ret : Option FieldType} (h1 : Cond.methodLink own index y ∈ G0) (h2 : Cond.instanceMethod y ∈ G0) (h3 : Cond.selects CC y y ∈ G0) (h4 : Cond.initialized CC ∈ G0) (h5 : Cond.code y bytes maxL ret ∈ G0) : GoodIn G0 (wsV own index CC y (Cond.code y bytes maxL ret :: G0)) := gi_all (fun w hw => by
  unfold wsV at hw
  simp only [List.mem_append, List.mem_cons, List.not_mem_nil, or_false] at hw
  rcases hw with (rfl | rfl | rfl | rfl) | rfl | hw
  · exact h1
  · exact h2
  · exact h3
  · exact h4
  · exact h5
  · exact hw)
theorem gi_S {own : String} {index maxL : Nat} {y : MethodName} {bytes : ByteArray} {ret : Option FieldType} (h1 : Cond.methodLink own index y ∈ G0) (h2 : Cond.static y ∈ G0) (h4 : Cond.initialized y.cls ∈ G0) (h5 : Cond.code y bytes maxL ret ∈ G0) : GoodIn G0 (va_wsS own index y (Cond.code y bytes maxL ret :: G0)) := gi_all (fun w hw => by
  unfold va_wsS at hw
  simp only [List.mem_append, List.mem_cons, List.not_mem_nil, or_false] at hw
  rcases hw with (rfl | rfl | rfl) | rfl | hw
  · exact h1
  · exact h2
  · exact h4
  · exact h5
  · exact hw)
theorem jm_blind {av : List Value} {D : va_G} {ad : Nat → Nat} {cl : Nat → ClassId} {μ : Mem} : FrameBlind (va_Pc av (jm_Pre D ad cl μ)) := fun a U g mk q => by
  obtain ⟨q1, q2, q3, q4⟩ := q
  exact ⟨q1, q2, va_K.moved (u := U) (U := U.calling g mk a) (Vm.Alike.refl U.vm) q3, q4⟩
theorem jm_catsum {ad : Nat → Nat} {rest : List Value} : ((rest.map (jm_cv ad)).map fun v => v.category) = rest.map fun v => v.category := by
  rw [List.map_map]
  exact List.map_congr_left (fun v _ => jm_cat)
theorem jm_Rsub {ad : Nat → Nat} {A : Nat → Prop} (hA : ∀ k, k < 125 → A (ad k)) : ∀ q, jm_R ad q → A q := fun q ⟨k, h, e⟩ => e ▸ hA k h
section JCALLS
variable {Γ : jG} {nL : Nat} {cc : ByteArray} {own : String} {rm rm' : Room} {pc pc' index n maxL : Nat} {lv : List (Nat × Value)} {st av rest : List Value} {μ μ' : Mem} {y : MethodName} {ws : List Cond} {CC : String}
theorem j_runV {Qc : Array Value → State → Outcome → State → Prop} {k ci N : Nat} {T : u_T} {fl : List (Nat × Nat)} {p : Program} {l : Launch} {e : Env} {R : Room} {s : State} {m : MethodId} {args : Array Value} {below : List Frame} {meth : Method} {c : Code} {D : va_G} {ad : Nat → Nat} {cl : Nat → ClassId} {cells slots : Nat} {ls : Array Slot} {H : Heap} {locs : List Loc} (hx : p.tables.exec = Jvm.exec) (hb : c.code = cc) (hml : c.maxLocals = nL) (hown : s.vm.findClass own = some m.cls) (hts : ∀ w ∈ G0, w.before args s = true) (hK : va_K D vwCl (jm_T cl) s) (hi : jm_inj ad) (hR : R = rm) (hc1 : cells ≤ rm.cells) (hc2 : slots ≤ rm.slots)
    (hd : decode cc pc = .ok (.invokevirtual index, 3)) (hM : Met l y ws rm' (va_Pc ((Value.ref k :: av).map (jm_cv ad)) (jm_Pre D ad cl μ)) Qc 0 0 (jm_R ad)) (q : jm_gv own index CC y ws maxL n) (qr : jm_rm rm' rm maxL) (hn : av.length = n) (hs : jm_is k (.inr (ci, fl))) (hcl : vwCl[ci]? = some (CC, T, N)) (hst : st = av.reverse ++ .ref k :: rest) (hW : (rest.map fun v => v.category).sum ≤ 8) (h1 : ls.size = nL) (h2 : va_P D vwCl (jm_W ad cl μ) H) :
    va_Run p l e R s m args below meth c H locs cells slots 0 0 (F0 m pc ls (st.map (jm_cv ad))) (rest.map (jm_cv ad)) (Qc (Value.ref (ad k) :: av.map (jm_cv ad)).toArray) (jm_R ad) := by
  obtain ⟨bytes, ret, g1, g2, g3⟩ := q
  obtain ⟨g4, g5⟩ := qr
  subst hR
  exact va_runV (As := av.map (jm_cv ad)) ⟨hx, hb, hml, hown, hts⟩ hM (cwV n hts g1 g2 g4.1 g4.2 g3 g5) ⟨jm_blind, va_recv hK h2 hcl hs.at, fun U hU hWm => ⟨rfl, by rw [hU]; exact h2, va_K.moved hWm.alike hK, hi⟩⟩ rfl (by rw [List.length_map]; exact hn) h1 (by rw [hst]; simp [List.map_append, List.map_reverse, jm_cv]) (lv_room (by rw [jm_catsum]; exact hW)) hd ⟨hc1, hc2⟩
theorem j_runS {Qc : Array Value → State → Outcome → State → Prop} {p : Program} {l : Launch} {e : Env} {R : Room} {s : State} {m : MethodId} {args : Array Value} {below : List Frame} {meth : Method} {c : Code} {D : va_G} {ad : Nat → Nat} {cl : Nat → ClassId} {cells slots : Nat} {ls : Array Slot} {H : Heap} {locs : List Loc} (hx : p.tables.exec = Jvm.exec) (hb : c.code = cc) (hml : c.maxLocals = nL) (hown : s.vm.findClass own = some m.cls) (hts : ∀ w ∈ G0, w.before args s = true) (hK : va_K D vwCl (jm_T cl) s) (hi : jm_inj ad) (hR : R = rm) (hc1 : cells ≤ rm.cells) (hc2 : slots ≤ rm.slots)
    (hd : decode cc pc = .ok (.invokestatic index, 3)) (hM : Met l y ws rm' (va_Pc (av.map (jm_cv ad)) (jm_Pre D ad cl μ)) Qc 0 0 (jm_R ad)) (q : jm_gs own index y ws maxL n) (qr : jm_rm rm' rm maxL) (hn : av.length = n) (hst : st = av.reverse ++ rest) (hW : (rest.map fun v => v.category).sum ≤ 8) (h1 : ls.size = nL) (h2 : va_P D vwCl (jm_W ad cl μ) H) :
    va_Run p l e R s m args below meth c H locs cells slots 0 0 (F0 m pc ls (st.map (jm_cv ad))) (rest.map (jm_cv ad)) (Qc (av.map (jm_cv ad)).toArray) (jm_R ad) := by
  obtain ⟨bytes, ret, g1, g2, g3⟩ := q
  obtain ⟨g4, g5⟩ := qr
  subst hR
  exact va_runS (As := av.map (jm_cv ad)) ⟨hx, hb, hml, hown, hts⟩ hM (va_cwS n hts g1 g2 g4.1 g4.2 g3 g5) ⟨jm_blind, fun U hU hWm => ⟨rfl, by rw [hU]; exact h2, va_K.moved hWm.alike hK, hi⟩⟩ rfl (by rw [List.length_map]; exact hn) h1 (by rw [hst]; simp [List.map_append, List.map_reverse]) (lv_room (by rw [jm_catsum]; exact hW)) hd ⟨hc1, hc2⟩
theorem j_cVI {k ci N : Nat} {T : u_T} {fl : List (Nat × Nat)} {r : Int32} (C : jC Γ nL cc own rm) (hd : decode cc pc = .ok (.invokevirtual index, 3)) (hp : pc + 3 = pc') (hM : CI (jgl Γ) (jgD Γ) (jgad Γ) (jgcl Γ) y ws rm' (.ref k :: av) μ r μ') (q : jm_gv own index CC y ws maxL n) (qr : jm_rm rm' rm maxL) (hn : av.length = n) (hs : jm_is k (.inr (ci, fl))) (hcl : vwCl[ci]? = some (CC, T, N)) (hst : st = av.reverse ++ .ref k :: rest) (hW : (rest.map fun v => v.category).sum ≤ 8) (kk : jJ Γ nL pc' lv (.int r :: rest) μ') : jJ Γ nL pc lv st μ := by
  subst hp
  obtain ⟨p, l, e, R, s, m, args, below, meth, c, D, ad, cl, Q, cells, slots, A⟩ := Γ
  obtain ⟨hx, hb, hml, hown, hts, hK, hi, hA, hR, hc1, hc2⟩ := C
  intro ls H locs h1 h2 h3
  refine va_calli (j_runV hx hb hml hown hts hK hi hR hc1 hc2 hd hM q qr hn hs hcl hst hW h1.1 h2) h3 (fun q _ h => jm_Rsub hA q h) (jm_Rsub hA) (fun r2 u t H1 locs1 ht hvm hw hB hz1 hk1 hS => ?_)
  obtain ⟨rfl, rfl⟩ := hw
  exact kk ls H1 locs1 h1 (by rw [← ht]; exact hB) hS
theorem j_cSI {r : Int32} (C : jC Γ nL cc own rm) (hd : decode cc pc = .ok (.invokestatic index, 3)) (hp : pc + 3 = pc') (hM : CI (jgl Γ) (jgD Γ) (jgad Γ) (jgcl Γ) y ws rm' av μ r μ') (q : jm_gs own index y ws maxL n) (qr : jm_rm rm' rm maxL) (hn : av.length = n) (hst : st = av.reverse ++ rest) (hW : (rest.map fun v => v.category).sum ≤ 8) (kk : jJ Γ nL pc' lv (.int r :: rest) μ') : jJ Γ nL pc lv st μ := by
  subst hp
  obtain ⟨p, l, e, R, s, m, args, below, meth, c, D, ad, cl, Q, cells, slots, A⟩ := Γ
  obtain ⟨hx, hb, hml, hown, hts, hK, hi, hA, hR, hc1, hc2⟩ := C
  intro ls H locs h1 h2 h3
  refine va_calli (j_runS hx hb hml hown hts hK hi hR hc1 hc2 hd hM q qr hn hst hW h1.1 h2) h3 (fun q _ h => jm_Rsub hA q h) (jm_Rsub hA) (fun r2 u t H1 locs1 ht hvm hw hB hz1 hk1 hS => ?_)
  obtain ⟨rfl, rfl⟩ := hw
  exact kk ls H1 locs1 h1 (by rw [← ht]; exact hB) hS
theorem j_cVL {k ci N : Nat} {T : u_T} {fl : List (Nat × Nat)} {r : Int64} (C : jC Γ nL cc own rm) (hd : decode cc pc = .ok (.invokevirtual index, 3)) (hp : pc + 3 = pc') (hM : CL (jgl Γ) (jgD Γ) (jgad Γ) (jgcl Γ) y ws rm' (.ref k :: av) μ r μ') (q : jm_gv own index CC y ws maxL n) (qr : jm_rm rm' rm maxL) (hn : av.length = n) (hs : jm_is k (.inr (ci, fl))) (hcl : vwCl[ci]? = some (CC, T, N)) (hst : st = av.reverse ++ .ref k :: rest) (hW : (rest.map fun v => v.category).sum ≤ 8) (kk : jJ Γ nL pc' lv (.long r :: rest) μ') : jJ Γ nL pc lv st μ := by
  subst hp
  obtain ⟨p, l, e, R, s, m, args, below, meth, c, D, ad, cl, Q, cells, slots, A⟩ := Γ
  obtain ⟨hx, hb, hml, hown, hts, hK, hi, hA, hR, hc1, hc2⟩ := C
  intro ls H locs h1 h2 h3
  refine va_calll (j_runV hx hb hml hown hts hK hi hR hc1 hc2 hd hM q qr hn hs hcl hst hW h1.1 h2) h3 (fun q _ h => jm_Rsub hA q h) (jm_Rsub hA) (fun r2 u t H1 locs1 ht hvm hw hB hz1 hk1 hS => ?_)
  obtain ⟨rfl, rfl⟩ := hw
  exact kk ls H1 locs1 h1 (by rw [← ht]; exact hB) hS
theorem j_cSL {r : Int64} (C : jC Γ nL cc own rm) (hd : decode cc pc = .ok (.invokestatic index, 3)) (hp : pc + 3 = pc') (hM : CL (jgl Γ) (jgD Γ) (jgad Γ) (jgcl Γ) y ws rm' av μ r μ') (q : jm_gs own index y ws maxL n) (qr : jm_rm rm' rm maxL) (hn : av.length = n) (hst : st = av.reverse ++ rest) (hW : (rest.map fun v => v.category).sum ≤ 8) (kk : jJ Γ nL pc' lv (.long r :: rest) μ') : jJ Γ nL pc lv st μ := by
  subst hp
  obtain ⟨p, l, e, R, s, m, args, below, meth, c, D, ad, cl, Q, cells, slots, A⟩ := Γ
  obtain ⟨hx, hb, hml, hown, hts, hK, hi, hA, hR, hc1, hc2⟩ := C
  intro ls H locs h1 h2 h3
  refine va_calll (j_runS hx hb hml hown hts hK hi hR hc1 hc2 hd hM q qr hn hst hW h1.1 h2) h3 (fun q _ h => jm_Rsub hA q h) (jm_Rsub hA) (fun r2 u t H1 locs1 ht hvm hw hB hz1 hk1 hS => ?_)
  obtain ⟨rfl, rfl⟩ := hw
  exact kk ls H1 locs1 h1 (by rw [← ht]; exact hB) hS
theorem j_cVV {k ci N : Nat} {T : u_T} {fl : List (Nat × Nat)}  (C : jC Γ nL cc own rm) (hd : decode cc pc = .ok (.invokevirtual index, 3)) (hp : pc + 3 = pc') (hM : CV (jgl Γ) (jgD Γ) (jgad Γ) (jgcl Γ) y ws rm' (.ref k :: av) μ μ') (q : jm_gv own index CC y ws maxL n) (qr : jm_rm rm' rm maxL) (hn : av.length = n) (hs : jm_is k (.inr (ci, fl))) (hcl : vwCl[ci]? = some (CC, T, N)) (hst : st = av.reverse ++ .ref k :: rest) (hW : (rest.map fun v => v.category).sum ≤ 8) (kk : jJ Γ nL pc' lv (rest) μ') : jJ Γ nL pc lv st μ := by
  subst hp
  obtain ⟨p, l, e, R, s, m, args, below, meth, c, D, ad, cl, Q, cells, slots, A⟩ := Γ
  obtain ⟨hx, hb, hml, hown, hts, hK, hi, hA, hR, hc1, hc2⟩ := C
  intro ls H locs h1 h2 h3
  refine va_callv (j_runV hx hb hml hown hts hK hi hR hc1 hc2 hd hM q qr hn hs hcl hst hW h1.1 h2) h3 (fun q _ h => jm_Rsub hA q h) (jm_Rsub hA) (fun u t H1 locs1 ht hvm hw hB hz1 hk1 hS => ?_)
  subst hw
  exact kk ls H1 locs1 h1 (by rw [← ht]; exact hB) hS
theorem j_cSV  (C : jC Γ nL cc own rm) (hd : decode cc pc = .ok (.invokestatic index, 3)) (hp : pc + 3 = pc') (hM : CV (jgl Γ) (jgD Γ) (jgad Γ) (jgcl Γ) y ws rm' av μ μ') (q : jm_gs own index y ws maxL n) (qr : jm_rm rm' rm maxL) (hn : av.length = n) (hst : st = av.reverse ++ rest) (hW : (rest.map fun v => v.category).sum ≤ 8) (kk : jJ Γ nL pc' lv (rest) μ') : jJ Γ nL pc lv st μ := by
  subst hp
  obtain ⟨p, l, e, R, s, m, args, below, meth, c, D, ad, cl, Q, cells, slots, A⟩ := Γ
  obtain ⟨hx, hb, hml, hown, hts, hK, hi, hA, hR, hc1, hc2⟩ := C
  intro ls H locs h1 h2 h3
  refine va_callv (j_runS hx hb hml hown hts hK hi hR hc1 hc2 hd hM q qr hn hst hW h1.1 h2) h3 (fun q _ h => jm_Rsub hA q h) (jm_Rsub hA) (fun u t H1 locs1 ht hvm hw hB hz1 hk1 hS => ?_)
  subst hw
  exact kk ls H1 locs1 h1 (by rw [← ht]; exact hB) hS
theorem j_cVR {k ci N : Nat} {T : u_T} {fl : List (Nat × Nat)} {r : Nat} (C : jC Γ nL cc own rm) (hd : decode cc pc = .ok (.invokevirtual index, 3)) (hp : pc + 3 = pc') (hM : CR (jgl Γ) (jgD Γ) (jgad Γ) (jgcl Γ) y ws rm' (.ref k :: av) μ r μ') (q : jm_gv own index CC y ws maxL n) (qr : jm_rm rm' rm maxL) (hn : av.length = n) (hs : jm_is k (.inr (ci, fl))) (hcl : vwCl[ci]? = some (CC, T, N)) (hst : st = av.reverse ++ .ref k :: rest) (hW : (rest.map fun v => v.category).sum ≤ 8) (kk : jJ Γ nL pc' lv (.ref r :: rest) μ') : jJ Γ nL pc lv st μ := by
  subst hp
  obtain ⟨p, l, e, R, s, m, args, below, meth, c, D, ad, cl, Q, cells, slots, A⟩ := Γ
  obtain ⟨hx, hb, hml, hown, hts, hK, hi, hA, hR, hc1, hc2⟩ := C
  intro ls H locs h1 h2 h3
  refine va_callr (j_runV hx hb hml hown hts hK hi hR hc1 hc2 hd hM q qr hn hs hcl hst hW h1.1 h2) h3 (fun q _ h => jm_Rsub hA q h) (jm_Rsub hA) (fun u a t H1 locs1 ht hvm hw hB hz1 hk1 hS => ?_)
  subst hw
  obtain ⟨rfl, hB⟩ := hB
  exact kk ls H1 locs1 h1 (by rw [← ht]; exact hB) hS
theorem j_cSR {r : Nat} (C : jC Γ nL cc own rm) (hd : decode cc pc = .ok (.invokestatic index, 3)) (hp : pc + 3 = pc') (hM : CR (jgl Γ) (jgD Γ) (jgad Γ) (jgcl Γ) y ws rm' av μ r μ') (q : jm_gs own index y ws maxL n) (qr : jm_rm rm' rm maxL) (hn : av.length = n) (hst : st = av.reverse ++ rest) (hW : (rest.map fun v => v.category).sum ≤ 8) (kk : jJ Γ nL pc' lv (.ref r :: rest) μ') : jJ Γ nL pc lv st μ := by
  subst hp
  obtain ⟨p, l, e, R, s, m, args, below, meth, c, D, ad, cl, Q, cells, slots, A⟩ := Γ
  obtain ⟨hx, hb, hml, hown, hts, hK, hi, hA, hR, hc1, hc2⟩ := C
  intro ls H locs h1 h2 h3
  refine va_callr (j_runS hx hb hml hown hts hK hi hR hc1 hc2 hd hM q qr hn hst hW h1.1 h2) h3 (fun q _ h => jm_Rsub hA q h) (jm_Rsub hA) (fun u a t H1 locs1 ht hvm hw hB hz1 hk1 hS => ?_)
  subst hw
  obtain ⟨rfl, hB⟩ := hB
  exact kk ls H1 locs1 h1 (by rw [← ht]; exact hB) hS
def jm_cp (own : String) (index : Nat) : Prop := Cond.methodLink own index arraycopyName ∈ G0 ∧ Cond.native arraycopyName ∈ G0 ∧ Cond.static arraycopyName ∈ G0 ∧ Cond.initialized "java/lang/System" ∈ G0
def cpB (sp dp n : Int32) (n0 n1 : Nat) : Bool := decide (¬ sp < 0) && decide (¬ dp < 0) && decide (¬ n < 0) && decide (sp.toNatClampNeg + n.toNatClampNeg ≤ n0) && decide (dp.toNatClampNeg + n.toNatClampNeg ≤ n1)
theorem cpB_e {sp dp n : Int32} {n0 n1 : Nat} (h : cpB sp dp n n0 n1 = true) : ¬ sp < 0 ∧ ¬ dp < 0 ∧ ¬ n < 0 ∧ sp.toNatClampNeg + n.toNatClampNeg ≤ n0 ∧ dp.toNatClampNeg + n.toNatClampNeg ≤ n1 := by
  unfold cpB at h
  simp only [Bool.and_eq_true, decide_eq_true_eq] at h
  exact ⟨h.1.1.1.1, h.1.1.1.2, h.1.1.2, h.1.2, h.2⟩
theorem j_copyi {k0 k1 n0 n1 z0 z1 : Nat} {sp dp n : Int32} (C : jC Γ nL cc own rm) (hd : decode cc pc = .ok (.invokestatic index, 3)) (hp : pc + 3 = pc') (q : jm_cp own index) (hs0 : jm_is k0 (.inl (0, n0, z0))) (hs1 : jm_is k1 (.inl (0, n1, z1))) (hB : cpB sp dp n n0 n1 = true) (hr : 1 ≤ rm.frames ∧ (rest.map fun v => v.category).sum + (nativeFrameWords "java/lang/System" "arraycopy" 5 + 11) ≤ rm.locals) (kk : jJ Γ nL pc' lv rest (sA μ k1 (va_cpy (μ.1 k0) (μ.1 k1) sp.toNatClampNeg dp.toNatClampNeg n.toNatClampNeg))) : jJ Γ nL pc lv (.int n :: .int dp :: .ref k1 :: .int sp :: .ref k0 :: rest) μ := by
  subst hp
  obtain ⟨p, l, e, R, s, m, args, below, meth, c, D, ad, cl, Q, cells, slots, A⟩ := Γ
  obtain ⟨hx, hb, hml, hown, hts, hK, hi, hA, hR, hc1, hc2⟩ := C
  obtain ⟨q1, q2, q3, q4⟩ := q
  obtain ⟨b1, b2, b3, b4, b5⟩ := cpB_e hB
  subst hR
  exact fun ls H locs h1 h2 h3 => va_copyi hx hb (by rw [hml]; exact h1.1.symm) hown (hts _ q1) (hts _ q2) (hts _ q3) (hts _ q4) hK h2 (jm_D hi hA) h3 k0 k1 0 0 (c0 := cl 0) (c1 := cl 0) (f := μ.1 k0) (g := μ.1 k1) (ty := .int) hs0.at hs1.at rfl rfl rfl b1 b2 b3 b4 b5 (fun _ _ => rfl) hr.1 (by rw [jm_catsum]; exact hr.2) hd (fun H1 locs1 g1 _ g3 => kk ls H1 locs1 h1 (j_setA (Or.inl rfl) hs1 g1) g3)
theorem j_copyl {k0 k1 n0 n1 z0 z1 : Nat} {sp dp n : Int32} (C : jC Γ nL cc own rm) (hd : decode cc pc = .ok (.invokestatic index, 3)) (hp : pc + 3 = pc') (q : jm_cp own index) (hs0 : jm_is k0 (.inl (2, n0, z0))) (hs1 : jm_is k1 (.inl (2, n1, z1))) (hB : cpB sp dp n n0 n1 = true) (hr : 1 ≤ rm.frames ∧ (rest.map fun v => v.category).sum + (nativeFrameWords "java/lang/System" "arraycopy" 5 + 11) ≤ rm.locals) (kk : jJ Γ nL pc' lv rest (sB μ k1 (va_cpy (μ.2 k0) (μ.2 k1) sp.toNatClampNeg dp.toNatClampNeg n.toNatClampNeg))) : jJ Γ nL pc lv (.int n :: .int dp :: .ref k1 :: .int sp :: .ref k0 :: rest) μ := by
  subst hp
  obtain ⟨p, l, e, R, s, m, args, below, meth, c, D, ad, cl, Q, cells, slots, A⟩ := Γ
  obtain ⟨hx, hb, hml, hown, hts, hK, hi, hA, hR, hc1, hc2⟩ := C
  obtain ⟨q1, q2, q3, q4⟩ := q
  obtain ⟨b1, b2, b3, b4, b5⟩ := cpB_e hB
  subst hR
  exact fun ls H locs h1 h2 h3 => va_copyl hx hb (by rw [hml]; exact h1.1.symm) hown (hts _ q1) (hts _ q2) (hts _ q3) (hts _ q4) hK h2 (jm_D hi hA) h3 k0 k1 2 2 (c0 := cl 2) (c1 := cl 2) (f := μ.2 k0) (g := μ.2 k1) (ty := .long) hs0.at hs1.at rfl rfl rfl b1 b2 b3 b4 b5 (fun _ _ => rfl) hr.1 (by rw [jm_catsum]; exact hr.2) hd (fun H1 locs1 g1 _ g3 => kk ls H1 locs1 h1 (j_setB hs1 g1) g3)
end JCALLS
theorem c_ofI {l : Launch} {D : va_G} {ad : Nat → Nat} {cl : Nat → ClassId} {y : MethodName} {ws : List Cond} {rm : Room} {av : List Value} {μ μ' : Mem} {r : Int32} {cc : ByteArray} {nL : Nat} (hw : ws = Cond.code y cc nL (some .int) :: G0) (hy : plainName y.cls = true) (hn : (lg_sl (av.map (jm_cv ad))).length ≤ nL) (body : ∀ Γ : jG, jC Γ nL cc y.cls rm → jEI Γ cc r μ' → jJ Γ nL 0 (lv_args 0 av) [] μ) : CI l D ad cl y ws rm av μ r μ' := by
  refine Met.ofW (cc := cc) (maxL := nL) (ret := some .int) hy hw ?_
  intro p e s m args below meth c s₁ B hml hv
  obtain ⟨rfl, hP, hK, hi⟩ := hv
  have hx := B.exec
  have hb := B.bytes
  have hr := B.returns
  have hts : ∀ w ∈ G0, w.before (av.map (jm_cv ad)).toArray s = true := fun w h => atoms_spec (ws := ws) B.pre w (by rw [hw]; exact List.mem_cons_of_mem _ h)
  have hown : s.vm.findClass y.cls = some m.cls := findClass_of_methodNamed B.named
  have hlocks := B.notSynchronized
  have hl := lv_entry (av.map (jm_cv ad)) (n := nL) hn
  rw [lg_entry_eq]
  rw [jm_args] at hl
  have hbody := body (p, l, e, rm, s, m, (av.map (jm_cv ad)).toArray, below, meth, c, D, ad, cl, MQ below (va_Qi (fun r' (u : Mem) => r' = r ∧ u = μ') (jm_Post D ad cl) (jm_R ad)) (av.map (jm_cv ad)).toArray s 0 0 (jm_R ad), 0, 0, jm_R ad) ⟨hx, hb, hml, hown, hts, hK, hi, (fun k h => ⟨k, h, rfl⟩), rfl, Nat.zero_le _, Nat.zero_le _⟩ (fun pc ls H locs hd g2 g3 => W.iret hx hb hr (fun t ht hW => ⟨⟨r, μ', rfl, ⟨rfl, rfl⟩, by show va_P _ _ _ _; rw [ht]; exact g2⟩, g3.F ht⟩) (fun q hq => g3.2.2 q hq) hd)
  exact hbody _ s.heap [] hl hP va_S.rf
theorem c_ofZ {l : Launch} {D : va_G} {ad : Nat → Nat} {cl : Nat → ClassId} {y : MethodName} {ws : List Cond} {rm : Room} {av : List Value} {μ μ' : Mem} {r : Int32} {cc : ByteArray} {nL : Nat} (hw : ws = Cond.code y cc nL (some .boolean) :: G0) (hy : plainName y.cls = true) (hn : (lg_sl (av.map (jm_cv ad))).length ≤ nL) (body : ∀ Γ : jG, jC Γ nL cc y.cls rm → (isB r = true → jEI Γ cc r μ') → jJ Γ nL 0 (lv_args 0 av) [] μ) : CI l D ad cl y ws rm av μ r μ' := by
  refine Met.ofW (cc := cc) (maxL := nL) (ret := some .boolean) hy hw ?_
  intro p e s m args below meth c s₁ B hml hv
  obtain ⟨rfl, hP, hK, hi⟩ := hv
  have hx := B.exec
  have hb := B.bytes
  have hr := B.returns
  have hts : ∀ w ∈ G0, w.before (av.map (jm_cv ad)).toArray s = true := fun w h => atoms_spec (ws := ws) B.pre w (by rw [hw]; exact List.mem_cons_of_mem _ h)
  have hown : s.vm.findClass y.cls = some m.cls := findClass_of_methodNamed B.named
  have hlocks := B.notSynchronized
  have hl := lv_entry (av.map (jm_cv ad)) (n := nL) hn
  rw [lg_entry_eq]
  rw [jm_args] at hl
  have hbody := body (p, l, e, rm, s, m, (av.map (jm_cv ad)).toArray, below, meth, c, D, ad, cl, MQ below (va_Qi (fun r' (u : Mem) => r' = r ∧ u = μ') (jm_Post D ad cl) (jm_R ad)) (av.map (jm_cv ad)).toArray s 0 0 (jm_R ad), 0, 0, jm_R ad) ⟨hx, hb, hml, hown, hts, hK, hi, (fun k h => ⟨k, h, rfl⟩), rfl, Nat.zero_le _, Nat.zero_le _⟩ (fun hB pc ls H locs hd g2 g3 => W.zret hx hb hr (isB_n hB) (fun t ht hW => ⟨⟨r, μ', rfl, ⟨rfl, rfl⟩, by show va_P _ _ _ _; rw [ht]; exact g2⟩, g3.F ht⟩) (fun q hq => g3.2.2 q hq) hd)
  exact hbody _ s.heap [] hl hP va_S.rf
theorem c_ofV {l : Launch} {D : va_G} {ad : Nat → Nat} {cl : Nat → ClassId} {y : MethodName} {ws : List Cond} {rm : Room} {av : List Value} {μ μ' : Mem} {cc : ByteArray} {nL : Nat} (hw : ws = Cond.code y cc nL (none) :: G0) (hy : plainName y.cls = true) (hn : (lg_sl (av.map (jm_cv ad))).length ≤ nL) (body : ∀ Γ : jG, jC Γ nL cc y.cls rm → jEV Γ cc μ' → jJ Γ nL 0 (lv_args 0 av) [] μ) : CV l D ad cl y ws rm av μ  μ' := by
  refine Met.ofW (cc := cc) (maxL := nL) (ret := none) hy hw ?_
  intro p e s m args below meth c s₁ B hml hv
  obtain ⟨rfl, hP, hK, hi⟩ := hv
  have hx := B.exec
  have hb := B.bytes
  have hr := B.returns
  have hts : ∀ w ∈ G0, w.before (av.map (jm_cv ad)).toArray s = true := fun w h => atoms_spec (ws := ws) B.pre w (by rw [hw]; exact List.mem_cons_of_mem _ h)
  have hown : s.vm.findClass y.cls = some m.cls := findClass_of_methodNamed B.named
  have hlocks := B.notSynchronized
  have hl := lv_entry (av.map (jm_cv ad)) (n := nL) hn
  rw [lg_entry_eq]
  rw [jm_args] at hl
  have hbody := body (p, l, e, rm, s, m, (av.map (jm_cv ad)).toArray, below, meth, c, D, ad, cl, MQ below (va_Qv (fun (u : Mem) => u = μ') (jm_Post D ad cl) (jm_R ad)) (av.map (jm_cv ad)).toArray s 0 0 (jm_R ad), 0, 0, jm_R ad) ⟨hx, hb, hml, hown, hts, hK, hi, (fun k h => ⟨k, h, rfl⟩), rfl, Nat.zero_le _, Nat.zero_le _⟩ (fun pc ls H locs hd g2 g3 => W.vret hx hb hr (fun t ht hW => ⟨⟨μ', rfl, rfl, by show va_P _ _ _ _; rw [ht]; exact g2⟩, g3.F ht⟩) (fun q hq => g3.2.2 q hq) hd)
  exact hbody _ s.heap [] hl hP va_S.rf
theorem c_ofL {l : Launch} {D : va_G} {ad : Nat → Nat} {cl : Nat → ClassId} {y : MethodName} {ws : List Cond} {rm : Room} {av : List Value} {μ μ' : Mem} {r : Int64} {cc : ByteArray} {nL : Nat} (hw : ws = Cond.code y cc nL (some .long) :: G0) (hy : plainName y.cls = true) (hn : (lg_sl (av.map (jm_cv ad))).length ≤ nL) (body : ∀ Γ : jG, jC Γ nL cc y.cls rm → jEL Γ cc r μ' → jJ Γ nL 0 (lv_args 0 av) [] μ) : CL l D ad cl y ws rm av μ r μ' := by
  refine Met.ofW (cc := cc) (maxL := nL) (ret := some .long) hy hw ?_
  intro p e s m args below meth c s₁ B hml hv
  obtain ⟨rfl, hP, hK, hi⟩ := hv
  have hx := B.exec
  have hb := B.bytes
  have hr := B.returns
  have hts : ∀ w ∈ G0, w.before (av.map (jm_cv ad)).toArray s = true := fun w h => atoms_spec (ws := ws) B.pre w (by rw [hw]; exact List.mem_cons_of_mem _ h)
  have hown : s.vm.findClass y.cls = some m.cls := findClass_of_methodNamed B.named
  have hlocks := B.notSynchronized
  have hl := lv_entry (av.map (jm_cv ad)) (n := nL) hn
  rw [lg_entry_eq]
  rw [jm_args] at hl
  have hbody := body (p, l, e, rm, s, m, (av.map (jm_cv ad)).toArray, below, meth, c, D, ad, cl, MQ below (va_Ql (fun r' (u : Mem) => r' = r ∧ u = μ') (jm_Post D ad cl) (jm_R ad)) (av.map (jm_cv ad)).toArray s 0 0 (jm_R ad), 0, 0, jm_R ad) ⟨hx, hb, hml, hown, hts, hK, hi, (fun k h => ⟨k, h, rfl⟩), rfl, Nat.zero_le _, Nat.zero_le _⟩ (fun pc ls H locs hd g2 g3 => W.lret hx hb hr (fun t ht hW => ⟨⟨r, μ', rfl, ⟨rfl, rfl⟩, by show va_P _ _ _ _; rw [ht]; exact g2⟩, g3.F ht⟩) (fun q hq => g3.2.2 q hq) hd)
  exact hbody _ s.heap [] hl hP va_S.rf
theorem c_ofR {l : Launch} {D : va_G} {ad : Nat → Nat} {cl : Nat → ClassId} {y : MethodName} {ws : List Cond} {rm : Room} {av : List Value} {μ μ' : Mem} {r : Nat} {C0 : String} {cc : ByteArray} {nL : Nat} (hw : ws = Cond.code y cc nL (some (.object C0)) :: G0) (hy : plainName y.cls = true) (hn : (lg_sl (av.map (jm_cv ad))).length ≤ nL) (body : ∀ Γ : jG, jC Γ nL cc y.cls rm → jER Γ cc r μ' → jJ Γ nL 0 (lv_args 0 av) [] μ) : CR l D ad cl y ws rm av μ r μ' := by
  refine Met.ofW (cc := cc) (maxL := nL) (ret := some (.object C0)) hy hw ?_
  intro p e s m args below meth c s₁ B hml hv
  obtain ⟨rfl, hP, hK, hi⟩ := hv
  have hx := B.exec
  have hb := B.bytes
  have hr := B.returns
  have hts : ∀ w ∈ G0, w.before (av.map (jm_cv ad)).toArray s = true := fun w h => atoms_spec (ws := ws) B.pre w (by rw [hw]; exact List.mem_cons_of_mem _ h)
  have hown : s.vm.findClass y.cls = some m.cls := findClass_of_methodNamed B.named
  have hlocks := B.notSynchronized
  have hl := lv_entry (av.map (jm_cv ad)) (n := nL) hn
  rw [lg_entry_eq]
  rw [jm_args] at hl
  have hbody := body (p, l, e, rm, s, m, (av.map (jm_cv ad)).toArray, below, meth, c, D, ad, cl, MQ below (va_Qr (fun (u : Mem) => u = μ') (fun u a t => a = ad r ∧ jm_Post D ad cl u t) (jm_R ad)) (av.map (jm_cv ad)).toArray s 0 0 (jm_R ad), 0, 0, jm_R ad) ⟨hx, hb, hml, hown, hts, hK, hi, (fun k h => ⟨k, h, rfl⟩), rfl, Nat.zero_le _, Nat.zero_le _⟩ (fun pc ls H locs hd g2 g3 => W.aret hx hb hr (Or.inl ⟨_, rfl⟩) (Or.inr ⟨_, rfl⟩) (fun t ht hW => ⟨⟨μ', ad r, rfl, rfl, rfl, by show va_P _ _ _ _; rw [ht]; exact g2⟩, g3.F ht⟩) (fun q hq => g3.2.2 q hq) hd)
  exact hbody _ s.heap [] hl hP va_S.rf
end
