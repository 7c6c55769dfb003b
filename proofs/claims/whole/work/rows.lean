section
-- ===== PART A: goes FIRST, ahead of the names: the tables' words, and 'selects' of the private methods out of them =====
/-- a private method of a class that the tables say can be made, by its rows of tables_1 -/
def lw_okq (q : MethodName × Nat) : Prop := (q.1.cls ≠ "java/lang/invoke/MethodHandle" ∧ q.1.cls ≠ "java/lang/invoke/VarHandle") ∧ Cond.instantiable q.1.cls q.2 ∈ tables_1 ∧ Cond.privateMethod q.1 ∈ tables_1 ∧ Cond.instanceMethod q.1 ∈ tables_1
theorem lw_p0 : lw_okq (⟨"PatternHouse", "freePattern", "()LPatternHouse$Pattern;"⟩, 8) := ⟨⟨by decide +kernel, by decide +kernel⟩, List.mem_of_getElem? (i := 20) (by decide +kernel), List.mem_of_getElem? (i := 348) (by decide +kernel), List.mem_of_getElem? (i := 349) (by decide +kernel)⟩
theorem lw_p1 : lw_okq (⟨"PatternHouse$Layer", "beginChoices", "()V"⟩, 7) := ⟨⟨by decide +kernel, by decide +kernel⟩, List.mem_of_getElem? (i := 34) (by decide +kernel), List.mem_of_getElem? (i := 364) (by decide +kernel), List.mem_of_getElem? (i := 365) (by decide +kernel)⟩
theorem lw_p2 : lw_okq (⟨"PatternHouse$Layer", "beginRow", "()V"⟩, 7) := ⟨⟨by decide +kernel, by decide +kernel⟩, List.mem_of_getElem? (i := 34) (by decide +kernel), List.mem_of_getElem? (i := 372) (by decide +kernel), List.mem_of_getElem? (i := 373) (by decide +kernel)⟩
theorem lw_p3 : lw_okq (⟨"PatternHouse$Reader", "takeInRow", "(II)V"⟩, 13) := ⟨⟨by decide +kernel, by decide +kernel⟩, List.mem_of_getElem? (i := 28) (by decide +kernel), List.mem_of_getElem? (i := 376) (by decide +kernel), List.mem_of_getElem? (i := 377) (by decide +kernel)⟩
theorem lw_p4 : lw_okq (⟨"PatternHouse$Layer", "endPart", "()V"⟩, 7) := ⟨⟨by decide +kernel, by decide +kernel⟩, List.mem_of_getElem? (i := 34) (by decide +kernel), List.mem_of_getElem? (i := 387) (by decide +kernel), List.mem_of_getElem? (i := 388) (by decide +kernel)⟩
theorem lw_p5 : lw_okq (⟨"PatternHouse$Reader", "failUnless", "(ZII)V"⟩, 13) := ⟨⟨by decide +kernel, by decide +kernel⟩, List.mem_of_getElem? (i := 28) (by decide +kernel), List.mem_of_getElem? (i := 403) (by decide +kernel), List.mem_of_getElem? (i := 404) (by decide +kernel)⟩
theorem lw_p6 : lw_okq (⟨"PatternHouse$Reader", "fail", "(II)V"⟩, 13) := ⟨⟨by decide +kernel, by decide +kernel⟩, List.mem_of_getElem? (i := 28) (by decide +kernel), List.mem_of_getElem? (i := 407) (by decide +kernel), List.mem_of_getElem? (i := 408) (by decide +kernel)⟩
theorem lw_p7 : lw_okq (⟨"PatternHouse$Reader", "openSet", "(I)V"⟩, 13) := ⟨⟨by decide +kernel, by decide +kernel⟩, List.mem_of_getElem? (i := 28) (by decide +kernel), List.mem_of_getElem? (i := 412) (by decide +kernel), List.mem_of_getElem? (i := 413) (by decide +kernel)⟩
theorem lw_p8 : lw_okq (⟨"PatternHouse$Reader", "takeSuffix", "(II)V"⟩, 13) := ⟨⟨by decide +kernel, by decide +kernel⟩, List.mem_of_getElem? (i := 28) (by decide +kernel), List.mem_of_getElem? (i := 432) (by decide +kernel), List.mem_of_getElem? (i := 433) (by decide +kernel)⟩
theorem lw_p9 : lw_okq (⟨"PatternHouse$Reader", "takeInSet", "(II)V"⟩, 13) := ⟨⟨by decide +kernel, by decide +kernel⟩, List.mem_of_getElem? (i := 28) (by decide +kernel), List.mem_of_getElem? (i := 445) (by decide +kernel), List.mem_of_getElem? (i := 446) (by decide +kernel)⟩
theorem lw_p10 : lw_okq (⟨"PatternHouse$Reader", "takeSetLetter", "(II)V"⟩, 13) := ⟨⟨by decide +kernel, by decide +kernel⟩, List.mem_of_getElem? (i := 28) (by decide +kernel), List.mem_of_getElem? (i := 449) (by decide +kernel), List.mem_of_getElem? (i := 450) (by decide +kernel)⟩
theorem lw_p11 : lw_okq (⟨"PatternHouse$Reader", "takeInTimes", "(II)V"⟩, 13) := ⟨⟨by decide +kernel, by decide +kernel⟩, List.mem_of_getElem? (i := 28) (by decide +kernel), List.mem_of_getElem? (i := 455) (by decide +kernel), List.mem_of_getElem? (i := 456) (by decide +kernel)⟩
theorem lw_p12 : lw_okq (⟨"PatternHouse$Reader", "closeTimes", "()V"⟩, 13) := ⟨⟨by decide +kernel, by decide +kernel⟩, List.mem_of_getElem? (i := 28) (by decide +kernel), List.mem_of_getElem? (i := 459) (by decide +kernel), List.mem_of_getElem? (i := 460) (by decide +kernel)⟩
theorem lw_p13 : lw_okq (⟨"PatternHouse$Pattern", "haversOf", "(I)J"⟩, 8) := ⟨⟨by decide +kernel, by decide +kernel⟩, List.mem_of_getElem? (i := 236) (by decide +kernel), List.mem_of_getElem? (i := 480) (by decide +kernel), List.mem_of_getElem? (i := 481) (by decide +kernel)⟩
theorem lw_p14 : lw_okq (⟨"java/lang/Throwable", "fillInStackTrace", "(I)Ljava/lang/Throwable;"⟩, 6) := ⟨⟨by decide +kernel, by decide +kernel⟩, List.mem_of_getElem? (i := 550) (by decide +kernel), List.mem_of_getElem? (i := 548) (by decide +kernel), List.mem_of_getElem? (i := 549) (by decide +kernel)⟩
theorem lw_p15 : lw_okq (⟨"PatternHouse", "thePattern", "()LPatternHouse$Pattern;"⟩, 8) := ⟨⟨by decide +kernel, by decide +kernel⟩, List.mem_of_getElem? (i := 20) (by decide +kernel), List.mem_of_getElem? (i := 604) (by decide +kernel), List.mem_of_getElem? (i := 605) (by decide +kernel)⟩
def lw_privs_1 : List (MethodName × Nat) := [(⟨"PatternHouse", "freePattern", "()LPatternHouse$Pattern;"⟩, 8), (⟨"PatternHouse$Layer", "beginChoices", "()V"⟩, 7), (⟨"PatternHouse$Layer", "beginRow", "()V"⟩, 7), (⟨"PatternHouse$Reader", "takeInRow", "(II)V"⟩, 13), (⟨"PatternHouse$Layer", "endPart", "()V"⟩, 7), (⟨"PatternHouse$Reader", "failUnless", "(ZII)V"⟩, 13), (⟨"PatternHouse$Reader", "fail", "(II)V"⟩, 13), (⟨"PatternHouse$Reader", "openSet", "(I)V"⟩, 13), (⟨"PatternHouse$Reader", "takeSuffix", "(II)V"⟩, 13), (⟨"PatternHouse$Reader", "takeInSet", "(II)V"⟩, 13), (⟨"PatternHouse$Reader", "takeSetLetter", "(II)V"⟩, 13), (⟨"PatternHouse$Reader", "takeInTimes", "(II)V"⟩, 13), (⟨"PatternHouse$Reader", "closeTimes", "()V"⟩, 13), (⟨"PatternHouse$Pattern", "haversOf", "(I)J"⟩, 8), (⟨"java/lang/Throwable", "fillInStackTrace", "(I)Ljava/lang/Throwable;"⟩, 6), (⟨"PatternHouse", "thePattern", "()LPatternHouse$Pattern;"⟩, 8)]
theorem lw_r1 : ∀ q ∈ lw_privs_1, lw_okq q := List.forall_mem_cons.mpr ⟨lw_p0, List.forall_mem_cons.mpr ⟨lw_p1, List.forall_mem_cons.mpr ⟨lw_p2, List.forall_mem_cons.mpr ⟨lw_p3, List.forall_mem_cons.mpr ⟨lw_p4, List.forall_mem_cons.mpr ⟨lw_p5, List.forall_mem_cons.mpr ⟨lw_p6, List.forall_mem_cons.mpr ⟨lw_p7, List.forall_mem_cons.mpr ⟨lw_p8, List.forall_mem_cons.mpr ⟨lw_p9, List.forall_mem_cons.mpr ⟨lw_p10, List.forall_mem_cons.mpr ⟨lw_p11, List.forall_mem_cons.mpr ⟨lw_p12, List.forall_mem_cons.mpr ⟨lw_p13, List.forall_mem_cons.mpr ⟨lw_p14, List.forall_mem_cons.mpr ⟨lw_p15, fun _ h => absurd h List.not_mem_nil⟩⟩⟩⟩⟩⟩⟩⟩⟩⟩⟩⟩⟩⟩⟩⟩
theorem lw_p16 : lw_okq (⟨"PatternHouse$Text", "longestEnd", "(LPatternHouse$Pattern;I)I"⟩, 6) := ⟨⟨by decide +kernel, by decide +kernel⟩, List.mem_of_getElem? (i := 134) (by decide +kernel), List.mem_of_getElem? (i := 697) (by decide +kernel), List.mem_of_getElem? (i := 698) (by decide +kernel)⟩
theorem lw_p17 : lw_okq (⟨"PatternHouse", "automatonOf", "(LPatternHouse$Pattern;)LPatternHouse$Automaton;"⟩, 8) := ⟨⟨by decide +kernel, by decide +kernel⟩, List.mem_of_getElem? (i := 20) (by decide +kernel), List.mem_of_getElem? (i := 715) (by decide +kernel), List.mem_of_getElem? (i := 716) (by decide +kernel)⟩
theorem lw_p18 : lw_okq (⟨"PatternHouse$Automaton", "layWays", "(IJLPatternHouse$Pattern;LPatternHouse$Register;)V"⟩, 6) := ⟨⟨by decide +kernel, by decide +kernel⟩, List.mem_of_getElem? (i := 242) (by decide +kernel), List.mem_of_getElem? (i := 727) (by decide +kernel), List.mem_of_getElem? (i := 728) (by decide +kernel)⟩
theorem lw_p19 : lw_okq (⟨"PatternHouse$Register", "enter", "(JI)I"⟩, 4) := ⟨⟨by decide +kernel, by decide +kernel⟩, List.mem_of_getElem? (i := 163) (by decide +kernel), List.mem_of_getElem? (i := 739) (by decide +kernel), List.mem_of_getElem? (i := 740) (by decide +kernel)⟩
theorem lw_p20 : lw_okq (⟨"PatternHouse$Grouping", "groupByGood", "(LPatternHouse$Automaton;LPatternHouse$Register;)I"⟩, 2) := ⟨⟨by decide +kernel, by decide +kernel⟩, List.mem_of_getElem? (i := 186) (by decide +kernel), List.mem_of_getElem? (i := 773) (by decide +kernel), List.mem_of_getElem? (i := 774) (by decide +kernel)⟩
theorem lw_p21 : lw_okq (⟨"PatternHouse$Grouping", "groupByWay", "(LPatternHouse$Automaton;ILPatternHouse$Register;)I"⟩, 2) := ⟨⟨by decide +kernel, by decide +kernel⟩, List.mem_of_getElem? (i := 186) (by decide +kernel), List.mem_of_getElem? (i := 779) (by decide +kernel), List.mem_of_getElem? (i := 780) (by decide +kernel)⟩
theorem lw_p22 : lw_okq (⟨"PatternHouse$Comparison", "begin", "()V"⟩, 9) := ⟨⟨by decide +kernel, by decide +kernel⟩, List.mem_of_getElem? (i := 199) (by decide +kernel), List.mem_of_getElem? (i := 806) (by decide +kernel), List.mem_of_getElem? (i := 807) (by decide +kernel)⟩
theorem lw_p23 : lw_okq (⟨"PatternHouse$Comparison", "join", "(II)V"⟩, 9) := ⟨⟨by decide +kernel, by decide +kernel⟩, List.mem_of_getElem? (i := 199) (by decide +kernel), List.mem_of_getElem? (i := 810) (by decide +kernel), List.mem_of_getElem? (i := 811) (by decide +kernel)⟩
theorem lw_p24 : lw_okq (⟨"PatternHouse$Comparison", "tellsApart", "(ILPatternHouse$Automaton;LPatternHouse$Automaton;)Z"⟩, 9) := ⟨⟨by decide +kernel, by decide +kernel⟩, List.mem_of_getElem? (i := 199) (by decide +kernel), List.mem_of_getElem? (i := 814) (by decide +kernel), List.mem_of_getElem? (i := 815) (by decide +kernel)⟩
theorem lw_p25 : lw_okq (⟨"PatternHouse$Comparison", "spell", "(I)V"⟩, 9) := ⟨⟨by decide +kernel, by decide +kernel⟩, List.mem_of_getElem? (i := 199) (by decide +kernel), List.mem_of_getElem? (i := 819) (by decide +kernel), List.mem_of_getElem? (i := 820) (by decide +kernel)⟩
theorem lw_p26 : lw_okq (⟨"PatternHouseModel", "beginChoices", "()V"⟩, 43) := ⟨⟨by decide +kernel, by decide +kernel⟩, List.mem_of_getElem? (i := 830) (by decide +kernel), List.mem_of_getElem? (i := 980) (by decide +kernel), List.mem_of_getElem? (i := 981) (by decide +kernel)⟩
theorem lw_p27 : lw_okq (⟨"PatternHouseModel", "beginRow", "()V"⟩, 43) := ⟨⟨by decide +kernel, by decide +kernel⟩, List.mem_of_getElem? (i := 830) (by decide +kernel), List.mem_of_getElem? (i := 984) (by decide +kernel), List.mem_of_getElem? (i := 985) (by decide +kernel)⟩
theorem lw_p28 : lw_okq (⟨"PatternHouseModel", "readOne", "()V"⟩, 43) := ⟨⟨by decide +kernel, by decide +kernel⟩, List.mem_of_getElem? (i := 830) (by decide +kernel), List.mem_of_getElem? (i := 988) (by decide +kernel), List.mem_of_getElem? (i := 989) (by decide +kernel)⟩
theorem lw_p29 : lw_okq (⟨"PatternHouseModel", "here", "()I"⟩, 43) := ⟨⟨by decide +kernel, by decide +kernel⟩, List.mem_of_getElem? (i := 830) (by decide +kernel), List.mem_of_getElem? (i := 992) (by decide +kernel), List.mem_of_getElem? (i := 993) (by decide +kernel)⟩
theorem lw_p30 : lw_okq (⟨"PatternHouseModel", "atom", "(JI)V"⟩, 43) := ⟨⟨by decide +kernel, by decide +kernel⟩, List.mem_of_getElem? (i := 830) (by decide +kernel), List.mem_of_getElem? (i := 999) (by decide +kernel), List.mem_of_getElem? (i := 1000) (by decide +kernel)⟩
theorem lw_p31 : lw_okq (⟨"PatternHouseModel", "fail", "(II)V"⟩, 43) := ⟨⟨by decide +kernel, by decide +kernel⟩, List.mem_of_getElem? (i := 830) (by decide +kernel), List.mem_of_getElem? (i := 1003) (by decide +kernel), List.mem_of_getElem? (i := 1004) (by decide +kernel)⟩
def lw_privs_2 : List (MethodName × Nat) := [(⟨"PatternHouse$Text", "longestEnd", "(LPatternHouse$Pattern;I)I"⟩, 6), (⟨"PatternHouse", "automatonOf", "(LPatternHouse$Pattern;)LPatternHouse$Automaton;"⟩, 8), (⟨"PatternHouse$Automaton", "layWays", "(IJLPatternHouse$Pattern;LPatternHouse$Register;)V"⟩, 6), (⟨"PatternHouse$Register", "enter", "(JI)I"⟩, 4), (⟨"PatternHouse$Grouping", "groupByGood", "(LPatternHouse$Automaton;LPatternHouse$Register;)I"⟩, 2), (⟨"PatternHouse$Grouping", "groupByWay", "(LPatternHouse$Automaton;ILPatternHouse$Register;)I"⟩, 2), (⟨"PatternHouse$Comparison", "begin", "()V"⟩, 9), (⟨"PatternHouse$Comparison", "join", "(II)V"⟩, 9), (⟨"PatternHouse$Comparison", "tellsApart", "(ILPatternHouse$Automaton;LPatternHouse$Automaton;)Z"⟩, 9), (⟨"PatternHouse$Comparison", "spell", "(I)V"⟩, 9), (⟨"PatternHouseModel", "beginChoices", "()V"⟩, 43), (⟨"PatternHouseModel", "beginRow", "()V"⟩, 43), (⟨"PatternHouseModel", "readOne", "()V"⟩, 43), (⟨"PatternHouseModel", "here", "()I"⟩, 43), (⟨"PatternHouseModel", "atom", "(JI)V"⟩, 43), (⟨"PatternHouseModel", "fail", "(II)V"⟩, 43)]
theorem lw_r2 : ∀ q ∈ lw_privs_2, lw_okq q := List.forall_mem_cons.mpr ⟨lw_p16, List.forall_mem_cons.mpr ⟨lw_p17, List.forall_mem_cons.mpr ⟨lw_p18, List.forall_mem_cons.mpr ⟨lw_p19, List.forall_mem_cons.mpr ⟨lw_p20, List.forall_mem_cons.mpr ⟨lw_p21, List.forall_mem_cons.mpr ⟨lw_p22, List.forall_mem_cons.mpr ⟨lw_p23, List.forall_mem_cons.mpr ⟨lw_p24, List.forall_mem_cons.mpr ⟨lw_p25, List.forall_mem_cons.mpr ⟨lw_p26, List.forall_mem_cons.mpr ⟨lw_p27, List.forall_mem_cons.mpr ⟨lw_p28, List.forall_mem_cons.mpr ⟨lw_p29, List.forall_mem_cons.mpr ⟨lw_p30, List.forall_mem_cons.mpr ⟨lw_p31, fun _ h => absurd h List.not_mem_nil⟩⟩⟩⟩⟩⟩⟩⟩⟩⟩⟩⟩⟩⟩⟩⟩
theorem lw_p32 : lw_okq (⟨"PatternHouseModel", "joinPart", "()V"⟩, 43) := ⟨⟨by decide +kernel, by decide +kernel⟩, List.mem_of_getElem? (i := 830) (by decide +kernel), List.mem_of_getElem? (i := 1007) (by decide +kernel), List.mem_of_getElem? (i := 1008) (by decide +kernel)⟩
theorem lw_p33 : lw_okq (⟨"PatternHouseModel", "link", "(JJ)V"⟩, 43) := ⟨⟨by decide +kernel, by decide +kernel⟩, List.mem_of_getElem? (i := 830) (by decide +kernel), List.mem_of_getElem? (i := 1011) (by decide +kernel), List.mem_of_getElem? (i := 1012) (by decide +kernel)⟩
theorem lw_p34 : lw_okq (⟨"PatternHouseModel", "setPart", "(IZJJ)V"⟩, 43) := ⟨⟨by decide +kernel, by decide +kernel⟩, List.mem_of_getElem? (i := 830) (by decide +kernel), List.mem_of_getElem? (i := 1018) (by decide +kernel), List.mem_of_getElem? (i := 1019) (by decide +kernel)⟩
theorem lw_p35 : lw_okq (⟨"PatternHouseModel", "readSet", "()V"⟩, 43) := ⟨⟨by decide +kernel, by decide +kernel⟩, List.mem_of_getElem? (i := 830) (by decide +kernel), List.mem_of_getElem? (i := 1025) (by decide +kernel), List.mem_of_getElem? (i := 1026) (by decide +kernel)⟩
theorem lw_p36 : lw_okq (⟨"PatternHouseModel", "failHere", "()V"⟩, 43) := ⟨⟨by decide +kernel, by decide +kernel⟩, List.mem_of_getElem? (i := 830) (by decide +kernel), List.mem_of_getElem? (i := 1029) (by decide +kernel), List.mem_of_getElem? (i := 1030) (by decide +kernel)⟩
theorem lw_p37 : lw_okq (⟨"PatternHouseModel", "close", "()V"⟩, 43) := ⟨⟨by decide +kernel, by decide +kernel⟩, List.mem_of_getElem? (i := 830) (by decide +kernel), List.mem_of_getElem? (i := 1034) (by decide +kernel), List.mem_of_getElem? (i := 1035) (by decide +kernel)⟩
theorem lw_p38 : lw_okq (⟨"PatternHouseModel", "endRow", "()V"⟩, 43) := ⟨⟨by decide +kernel, by decide +kernel⟩, List.mem_of_getElem? (i := 830) (by decide +kernel), List.mem_of_getElem? (i := 1038) (by decide +kernel), List.mem_of_getElem? (i := 1039) (by decide +kernel)⟩
theorem lw_p39 : lw_okq (⟨"PatternHouseModel", "suffix", "(I)V"⟩, 43) := ⟨⟨by decide +kernel, by decide +kernel⟩, List.mem_of_getElem? (i := 830) (by decide +kernel), List.mem_of_getElem? (i := 1042) (by decide +kernel), List.mem_of_getElem? (i := 1043) (by decide +kernel)⟩
theorem lw_p40 : lw_okq (⟨"PatternHouseModel", "readTimes", "()V"⟩, 43) := ⟨⟨by decide +kernel, by decide +kernel⟩, List.mem_of_getElem? (i := 830) (by decide +kernel), List.mem_of_getElem? (i := 1046) (by decide +kernel), List.mem_of_getElem? (i := 1047) (by decide +kernel)⟩
theorem lw_p41 : lw_okq (⟨"PatternHouseModel", "digit", "()I"⟩, 43) := ⟨⟨by decide +kernel, by decide +kernel⟩, List.mem_of_getElem? (i := 830) (by decide +kernel), List.mem_of_getElem? (i := 1050) (by decide +kernel), List.mem_of_getElem? (i := 1051) (by decide +kernel)⟩
theorem lw_p42 : lw_okq (⟨"PatternHouseModel", "times", "(III)V"⟩, 43) := ⟨⟨by decide +kernel, by decide +kernel⟩, List.mem_of_getElem? (i := 830) (by decide +kernel), List.mem_of_getElem? (i := 1054) (by decide +kernel), List.mem_of_getElem? (i := 1055) (by decide +kernel)⟩
theorem lw_p43 : lw_okq (⟨"PatternHouseModel", "copy", "(II)V"⟩, 43) := ⟨⟨by decide +kernel, by decide +kernel⟩, List.mem_of_getElem? (i := 830) (by decide +kernel), List.mem_of_getElem? (i := 1058) (by decide +kernel), List.mem_of_getElem? (i := 1059) (by decide +kernel)⟩
theorem lw_p44 : lw_okq (⟨"PatternHouseModel", "none", "()Z"⟩, 43) := ⟨⟨by decide +kernel, by decide +kernel⟩, List.mem_of_getElem? (i := 830) (by decide +kernel), List.mem_of_getElem? (i := 1070) (by decide +kernel), List.mem_of_getElem? (i := 1071) (by decide +kernel)⟩
theorem lw_p45 : lw_okq (⟨"PatternHouseModel", "noPosition", "(I)Z"⟩, 43) := ⟨⟨by decide +kernel, by decide +kernel⟩, List.mem_of_getElem? (i := 830) (by decide +kernel), List.mem_of_getElem? (i := 1082) (by decide +kernel), List.mem_of_getElem? (i := 1083) (by decide +kernel)⟩
theorem lw_p46 : lw_okq (⟨"PatternHouseModel", "goOn", "(IZJI)J"⟩, 43) := ⟨⟨by decide +kernel, by decide +kernel⟩, List.mem_of_getElem? (i := 830) (by decide +kernel), List.mem_of_getElem? (i := 1106) (by decide +kernel), List.mem_of_getElem? (i := 1107) (by decide +kernel)⟩
theorem lw_p47 : lw_okq (⟨"PatternHouseModel", "findAll", "()V"⟩, 43) := ⟨⟨by decide +kernel, by decide +kernel⟩, List.mem_of_getElem? (i := 830) (by decide +kernel), List.mem_of_getElem? (i := 1114) (by decide +kernel), List.mem_of_getElem? (i := 1115) (by decide +kernel)⟩
def lw_privs_3 : List (MethodName × Nat) := [(⟨"PatternHouseModel", "joinPart", "()V"⟩, 43), (⟨"PatternHouseModel", "link", "(JJ)V"⟩, 43), (⟨"PatternHouseModel", "setPart", "(IZJJ)V"⟩, 43), (⟨"PatternHouseModel", "readSet", "()V"⟩, 43), (⟨"PatternHouseModel", "failHere", "()V"⟩, 43), (⟨"PatternHouseModel", "close", "()V"⟩, 43), (⟨"PatternHouseModel", "endRow", "()V"⟩, 43), (⟨"PatternHouseModel", "suffix", "(I)V"⟩, 43), (⟨"PatternHouseModel", "readTimes", "()V"⟩, 43), (⟨"PatternHouseModel", "digit", "()I"⟩, 43), (⟨"PatternHouseModel", "times", "(III)V"⟩, 43), (⟨"PatternHouseModel", "copy", "(II)V"⟩, 43), (⟨"PatternHouseModel", "none", "()Z"⟩, 43), (⟨"PatternHouseModel", "noPosition", "(I)Z"⟩, 43), (⟨"PatternHouseModel", "goOn", "(IZJI)J"⟩, 43), (⟨"PatternHouseModel", "findAll", "()V"⟩, 43)]
theorem lw_r3 : ∀ q ∈ lw_privs_3, lw_okq q := List.forall_mem_cons.mpr ⟨lw_p32, List.forall_mem_cons.mpr ⟨lw_p33, List.forall_mem_cons.mpr ⟨lw_p34, List.forall_mem_cons.mpr ⟨lw_p35, List.forall_mem_cons.mpr ⟨lw_p36, List.forall_mem_cons.mpr ⟨lw_p37, List.forall_mem_cons.mpr ⟨lw_p38, List.forall_mem_cons.mpr ⟨lw_p39, List.forall_mem_cons.mpr ⟨lw_p40, List.forall_mem_cons.mpr ⟨lw_p41, List.forall_mem_cons.mpr ⟨lw_p42, List.forall_mem_cons.mpr ⟨lw_p43, List.forall_mem_cons.mpr ⟨lw_p44, List.forall_mem_cons.mpr ⟨lw_p45, List.forall_mem_cons.mpr ⟨lw_p46, List.forall_mem_cons.mpr ⟨lw_p47, fun _ h => absurd h List.not_mem_nil⟩⟩⟩⟩⟩⟩⟩⟩⟩⟩⟩⟩⟩⟩⟩⟩
theorem lw_p48 : lw_okq (⟨"PatternHouseModel", "longest", "(I)I"⟩, 43) := ⟨⟨by decide +kernel, by decide +kernel⟩, List.mem_of_getElem? (i := 830) (by decide +kernel), List.mem_of_getElem? (i := 1118) (by decide +kernel), List.mem_of_getElem? (i := 1119) (by decide +kernel)⟩
theorem lw_p49 : lw_okq (⟨"PatternHouseModel", "build", "(I)V"⟩, 43) := ⟨⟨by decide +kernel, by decide +kernel⟩, List.mem_of_getElem? (i := 830) (by decide +kernel), List.mem_of_getElem? (i := 1130) (by decide +kernel), List.mem_of_getElem? (i := 1131) (by decide +kernel)⟩
theorem lw_p50 : lw_okq (⟨"PatternHouseModel", "stateOf", "(IJ)I"⟩, 43) := ⟨⟨by decide +kernel, by decide +kernel⟩, List.mem_of_getElem? (i := 830) (by decide +kernel), List.mem_of_getElem? (i := 1134) (by decide +kernel), List.mem_of_getElem? (i := 1135) (by decide +kernel)⟩
theorem lw_p51 : lw_okq (⟨"PatternHouseModel", "noState", "(I)Z"⟩, 43) := ⟨⟨by decide +kernel, by decide +kernel⟩, List.mem_of_getElem? (i := 830) (by decide +kernel), List.mem_of_getElem? (i := 1142) (by decide +kernel), List.mem_of_getElem? (i := 1143) (by decide +kernel)⟩
theorem lw_p52 : lw_okq (⟨"PatternHouseModel", "isGood", "(II)Z"⟩, 43) := ⟨⟨by decide +kernel, by decide +kernel⟩, List.mem_of_getElem? (i := 830) (by decide +kernel), List.mem_of_getElem? (i := 1150) (by decide +kernel), List.mem_of_getElem? (i := 1151) (by decide +kernel)⟩
theorem lw_p53 : lw_okq (⟨"PatternHouseModel", "partMore", "(I)Z"⟩, 43) := ⟨⟨by decide +kernel, by decide +kernel⟩, List.mem_of_getElem? (i := 830) (by decide +kernel), List.mem_of_getElem? (i := 1158) (by decide +kernel), List.mem_of_getElem? (i := 1159) (by decide +kernel)⟩
theorem lw_p54 : lw_okq (⟨"PatternHouseModel", "nowApart", "(II)Z"⟩, 43) := ⟨⟨by decide +kernel, by decide +kernel⟩, List.mem_of_getElem? (i := 830) (by decide +kernel), List.mem_of_getElem? (i := 1162) (by decide +kernel), List.mem_of_getElem? (i := 1163) (by decide +kernel)⟩
theorem lw_p55 : lw_okq (⟨"PatternHouseModel", "spell", "(I)V"⟩, 43) := ⟨⟨by decide +kernel, by decide +kernel⟩, List.mem_of_getElem? (i := 830) (by decide +kernel), List.mem_of_getElem? (i := 1174) (by decide +kernel), List.mem_of_getElem? (i := 1175) (by decide +kernel)⟩
def lw_privs_4 : List (MethodName × Nat) := [(⟨"PatternHouseModel", "longest", "(I)I"⟩, 43), (⟨"PatternHouseModel", "build", "(I)V"⟩, 43), (⟨"PatternHouseModel", "stateOf", "(IJ)I"⟩, 43), (⟨"PatternHouseModel", "noState", "(I)Z"⟩, 43), (⟨"PatternHouseModel", "isGood", "(II)Z"⟩, 43), (⟨"PatternHouseModel", "partMore", "(I)Z"⟩, 43), (⟨"PatternHouseModel", "nowApart", "(II)Z"⟩, 43), (⟨"PatternHouseModel", "spell", "(I)V"⟩, 43)]
theorem lw_r4 : ∀ q ∈ lw_privs_4, lw_okq q := List.forall_mem_cons.mpr ⟨lw_p48, List.forall_mem_cons.mpr ⟨lw_p49, List.forall_mem_cons.mpr ⟨lw_p50, List.forall_mem_cons.mpr ⟨lw_p51, List.forall_mem_cons.mpr ⟨lw_p52, List.forall_mem_cons.mpr ⟨lw_p53, List.forall_mem_cons.mpr ⟨lw_p54, List.forall_mem_cons.mpr ⟨lw_p55, fun _ h => absurd h List.not_mem_nil⟩⟩⟩⟩⟩⟩⟩⟩
def lw_privs : List (MethodName × Nat) := lw_privs_1 ++ (lw_privs_2 ++ (lw_privs_3 ++ (lw_privs_4)))
def lw_tbl : List Cond := k2_sels lw_privs ++ tables_1
theorem lw_privs_ok : ∀ q ∈ lw_privs, lw_okq q := by
  show ∀ q ∈ lw_privs_1 ++ (lw_privs_2 ++ (lw_privs_3 ++ (lw_privs_4))), lw_okq q
  exact List.forall_mem_append.mpr ⟨lw_r1, List.forall_mem_append.mpr ⟨lw_r2, List.forall_mem_append.mpr ⟨lw_r3, lw_r4⟩⟩⟩
end
section
/-! My own: a callee's throw is caught by a row of the table, behind rows that are passed (the printed vx_catch names a law that the rounds' library doesn't hold). -/
section ZC
/-- what a row with a class says: the class it links to takes the thrown one, or not -/
def zc_L (pl : Platform) (s0 : State) (d : ClassId) (th : ClassId) (x : ExceptionTableEntry) (b : Bool) : Prop :=
  x.catchType ≠ 0 ∧ ∃ k, s0.vm.ClassLinks pl d x.catchType k ∧ s0.vm.assignable th k = b
theorem zc_row {e : Env} {s0 S : State} {f : JFrame} {a : Addr} {cell : Cell} {b : Bool} {x : ExceptionTableEntry} (hobj : ∀ k, cell.vm ≠ .statics k) (hk0 : ∃ k, s0.vm.classes[cell.cls]? = some k)
    (hW : s0.WarmedH S.vm) (hcell : S.heap[a]? = some cell) (hc : covers x f.pc = true) (hl : zc_L e.platform s0 f.method.cls cell.cls x b) :
    ∃ vm', s0.WarmedH vm' ∧ ∀ (t : List ExceptionTableEntry) (Q : Handler → Pre) (E : CtlPost) (d : Bool) (acts : List Action),
      (wp (findHandler.go f a (x :: t)) Q E e d acts S ↔ bif b then Q (.found x.handlerPc) d acts (S.setVm vm') else wp (findHandler.go f a t) Q E e d acts (S.setVm vm')) := by
  obtain ⟨h0, k, hk, hb⟩ := hl
  obtain ⟨k1, hk1⟩ := hk0
  obtain ⟨dk, _, _, kt, hd, _, _, _, _, hkt, _, hopen⟩ := hk.here
  have hkS := hW.classLinks hk
  have hal : s0.vm.Alike (S.vm.noted f.method.cls x.catchType (.cls k)) := hW.alike.trans ((Vm.Alike.refl S.vm).noted _ _ _)
  obtain ⟨k1', hk1', -⟩ := hal.2.2 _ _ hk1
  obtain ⟨k2', hk2', -⟩ := hal.2.2 _ _ hkt
  have hb' : (S.vm.noted f.method.cls x.catchType (.cls k)).assignable cell.cls k = b := by rw [hal.assignable]; exact hb
  refine ⟨S.vm.noted f.method.cls x.catchType (.cls k), hW.noted hd hopen (State.rightAt_cls hk), fun t Q E d acts => ?_⟩
  obtain ⟨ha, ht⟩ := (resolveClass_links e.toSetting hkS).op (op := VmOp.resolveClass f.method.cls x.catchType) rfl
  simp only [covers] at hc
  cases b <;> simp [findHandler.go, hc, h0, ha, ht, hcell, hobj, hk1', hk2', hb', VmOp.dirties, VmOp.acts]
theorem zc_go {e : Env} {s0 : State} {f : JFrame} {a : Addr} {cell : Cell} (hobj : ∀ k, cell.vm ≠ .statics k) (hk0 : ∃ k, s0.vm.classes[cell.cls]? = some k) {x : ExceptionTableEntry} {suf : List ExceptionTableEntry}
    (hx : covers x f.pc = true) (hl : zc_L e.platform s0 f.method.cls cell.cls x true) :
    ∀ (pre : List ExceptionTableEntry), (∀ y ∈ pre, covers y f.pc = false ∨ zc_L e.platform s0 f.method.cls cell.cls y false) → ∀ (S : State), s0.WarmedH S.vm → S.heap[a]? = some cell →
      ∃ vm', s0.WarmedH vm' ∧ ∀ (Q : Handler → Pre) (E : CtlPost) (d : Bool) (acts : List Action), (wp (findHandler.go f a (pre ++ x :: suf)) Q E e d acts S ↔ Q (.found x.handlerPc) d acts (S.setVm vm')) := by
  intro pre
  induction pre with
  | nil =>
    intro _ S hW hcell
    obtain ⟨v, h1, h2⟩ := zc_row hobj hk0 hW hcell hx hl
    exact ⟨v, h1, fun Q E d acts => h2 suf Q E d acts⟩
  | cons y ys ih =>
    intro hp S hW hcell
    by_cases hy : covers y f.pc = true
    · rcases hp y List.mem_cons_self with h | h
      · rw [h] at hy; cases hy
      · obtain ⟨v, h1, h2⟩ := zc_row hobj hk0 hW hcell hy h
        obtain ⟨v2, h3, h4⟩ := ih (fun z hz => hp z (List.mem_cons_of_mem _ hz)) (S.setVm v) h1 hcell
        exact ⟨v2, h3, fun Q E d acts => (h2 _ Q E d acts).trans (h4 Q E d acts)⟩
    · obtain ⟨v, h1, h2⟩ := ih (fun z hz => hp z (List.mem_cons_of_mem _ hz)) S hW hcell
      exact ⟨v, h1, fun Q E d acts => by
        rw [List.cons_append, W.findHandler_go_skip (by simpa using hy)]
        exact h2 Q E d acts⟩
theorem zc_caught {p : Program} {l : Launch} {e : Env} {R : Room} {s : State} {m₀ : MethodId} {args : Array Value} {below : List Frame} {meth : Method} {c : Code} {T : State} {locs : List Loc} {cells slots : Nat}
    (X : Stand p l e R s m₀ args below meth c T locs cells slots) (a : Addr) {g : JFrame} (hg : g.method = m₀)
    {cell : Cell} (hcell : T.heap[a]? = some cell) (hobj : cell.vm.isStatics = false) (hk0 : ∃ k, s.vm.classes[cell.cls]? = some k)
    (pre : List ExceptionTableEntry) (x : ExceptionTableEntry) (rest : List ExceptionTableEntry) (hsplit : c.exceptionTable.toList = pre ++ x :: rest)
    (hpass : ∀ y ∈ pre, covers y g.pc = false ∨ zc_L e.platform s m₀.cls cell.cls y false) (hx : covers x g.pc = true) (hend : zc_L e.platform s m₀.cls cell.cls x true) :
    ∃ vm', Stand p l e R s m₀ args below meth c (T.setVm vm') locs cells slots ∧ Steps p.tables e below ((T.setTop g).pushFrame (.throwing a)) ((T.setVm vm').setTop { g with pc := x.handlerPc, stack := [.ref a] }) := by
  subst hg
  obtain ⟨v, hW, hq⟩ := zc_go (e := e) (s0 := s) (f := g) (a := a) (suf := rest) (VmData.ne_statics_of hobj) hk0 hx hend pre hpass ((T.setTop g).pushFrame (.throwing a)) X.warmed hcell
  refine ⟨v, X.noted hW, ?_⟩
  obtain ⟨hgo, hw⟩ := X.here.throwing a (g := g)
  refine Steps.head hgo hw ?_
  have hm : ((T.setTop g).pushFrame (.throwing a)).vm.method? g.method = some meth := X.method'
  have hst : (stepThrowing e ((T.setTop g).pushFrame (.throwing a)) a (.java g :: T.frames.tail)).1 = ((((T.setTop g).pushFrame (.throwing a)).setVm v).setFrames (.java { g with pc := x.handlerPc, stack := [.ref a] } :: T.frames.tail)) := by
    simp only [stepThrowing, searchFrame, vmDo]
    generalize hr : Sem.go _ e false [] ((T.setTop g).pushFrame (.throwing a)) = res
    obtain ⟨as, rfl, ha⟩ := Sem.eq_ok_of hr (a := Handler.found x.handlerPc) (s' := ((T.setTop g).pushFrame (.throwing a)).setVm v) (acts' := []) (by simp [W.findHandler_eq hm X.code, hsplit, hq])
    rfl
  rw [stepThread_throwing (frames_entered X.here.top _), hst]
  obtain ⟨g0, hg0⟩ := Option.isSome_iff_exists.mp X.here.top
  obtain ⟨r, hr⟩ := State.topJava?_eq_some.mp hg0
  have hr2 : (T.setVm v).frames = .java g0 :: r := hr
  have h1 : (((T.setTop g).pushFrame (.throwing a)).setVm v).setFrames (.java { g with pc := x.handlerPc, stack := [.ref a] } :: T.frames.tail) = (T.setVm v).setTop { g with pc := x.handlerPc, stack := [.ref a] } := by
    rw [State.setTop_of_frames _ hr2, hr, List.tail_cons, State.pushFrame, State.setTop_of_frames _ hr, State.setFrames_setFrames]
    show ((T.setVm v).setFrames _).setFrames _ = _
    rw [State.setFrames_setFrames]
  rw [h1]
  exact Steps.refl _
end ZC
end
section
/-! ===== BEGIN words of one list among another's, by their places ===== -/
theorem goodIn_r {big : List Cond} (ws : List Cond) (ps : List Nat) (hp : ws = ps.filterMap (fun i => big[i]?)) (h : ws.all goodWord = true) : GoodIn big ws := by
  intro w hw
  have h1 := List.all_eq_true.mp h w hw
  rw [hp] at hw
  obtain ⟨i, -, hi⟩ := List.mem_filterMap.mp hw
  have hm : w ∈ big := by first | exact List.mem_of_getElem? hi | exact List.getElem?_mem hi
  exact ⟨hm, good_of_word h1⟩
theorem goodIn_app {big a b : List Cond} (ha : GoodIn big a) (hb : GoodIn big b) : GoodIn big (a ++ b) := fun w h => (List.mem_append.mp h).elim (ha w) (hb w)
theorem goodIn_ca {big a b : List Cond} {c : Cond} (ha : GoodIn big (c :: a)) (hb : GoodIn big b) : GoodIn big (c :: (a ++ b)) := fun w h => (List.mem_cons.mp h).elim (fun e => ha w (List.mem_cons.mpr (Or.inl e))) (fun h => (List.mem_append.mp h).elim (fun h => ha w (List.mem_cons.mpr (Or.inr h))) (hb w))
theorem goodIn_sub {big ws : List Cond} (hm : ∀ w ∈ ws, w ∈ big) (h : ws.all goodWord = true) : GoodIn big ws := fun w hw => ⟨hm w hw, good_of_word (List.all_eq_true.mp h w hw)⟩
/-! ===== END ===== -/

/-! ===== BEGIN exceptions that leave a method, and their catching by the caller (launches without stack traces) ===== -/
section VXA
/-! The laws vx_back, vx_callV, vx_callS, vx_callSW, vx_throw0, vx_throwS follow proofs of the library, with one case more: JvmDerived/Free/Laws.lean (Back.of_free), Shelf42/LK1.lean (callV, callS), Shelf/KitTraced.lean (throwNew0V, throwNewS). -/
/-- where a method has thrown q: the class by its name, the cell, what was written, the world -/
def vx_T (XC : String → State → State → Prop) (st : State) (q : Addr) (t : State) (mc ms : Nat) (free : Addr → Prop) : Prop :=
  ∃ (E : String) (ce : Cell) (L : List Loc), XC E st t ∧ t.heap[q]? = some ce ∧ ce.vm = .none ∧ st.vm.findClass E = some ce.cls ∧ st.WarmedH t.vm ∧ st.sameButNew ({ t with vm := st.vm } : State) L mc ms ∧ ∀ z ∈ L, free z.base
def vx_Q (Qc : Array Value → State → Outcome → State → Prop) (XC : String → State → State → Prop) (mc ms : Nat) (free : Addr → Prop) : Array Value → State → Outcome → State → Prop := fun a st o t =>
  (Qc a st o t ∧ ∃ L, FrameEnd st o t L mc ms ∧ ∀ q ∈ L, free q.base) ∨ ∃ q, o = .threw q ∧ vx_T XC st q t mc ms free
/-- a callee that returns or throws -/
def vx_Met (l : Launch) (y : MethodName) (ws : List Cond) (rm : Room) (Pc : Array Value → State → Prop) (Qc : Array Value → State → Outcome → State → Prop) (XC : String → State → State → Prop) (mc ms : Nat) (free : Addr → Prop) : Prop :=
  MetFree l y (headSpec ws rm) Pc (fun _ _ _ _ _ => True) (vx_Q Qc XC mc ms free)
def vx_Post (XC : String → State → State → Prop) (mc ms : Nat) (free : Addr → Prop) : Pt → Array Value → Addr → Pt → Prop := fun A a q B =>
  ∃ (g : JFrame) (mk : MethodId) (t : State) (L : List Loc) (E : String) (ce : Cell), B.U.heap = t.heap ∧ B.U.vm = t.vm ∧ XC E (A.U.calling g mk a) t ∧ t.heap[q]? = some ce ∧ ce.vm = .none ∧ A.U.vm.findClass E = some ce.cls ∧ B.locs = A.locs ++ L ∧ (∀ z ∈ L, free z.base) ∧ B.cells = A.cells + mc ∧ B.slots = A.slots + ms
def vx_Back (l : Launch) (R : Room) (p : Program) (e : Env) (below : List Frame) (s : State) (sargs : Array Value) (y : MethodName) (len W9 : Nat)
    (Pre : Pt → Array Value → Prop) (Post : Pt → Array Value → Option Value → Pt → Prop) (PostX : Pt → Array Value → Addr → Pt → Prop) : Prop :=
  ∀ (m : MethodId) (meth : Method) (c : Code) (A : Pt) (g : JFrame) (ig : Instr) (mk : MethodId) (a : Array Value),
    Stand p l e R s m sargs below meth c A.U A.locs A.cells A.slots → g.method = m → g.locals.size = c.maxLocals → decode c.code g.pc = .ok (ig, len) →
    2 * g.monitorRoom + (g.stack.map fun v => v.category).sum ≤ W9 → A.U.methodNamed? y = some mk → Pre A a →
    (∃ (v : Option Value) (B : Pt), Stand p l e R s m sargs below meth c B.U B.locs B.cells B.slots ∧ Post A a v B ∧
      Steps p.tables e below (doInvoke e (A.U.setTop g) [] mk a).1 (B.U.setTop { g with pc := g.pc + len, stack := v.toList ++ g.stack })) ∨
    (∃ (q : Addr) (B : Pt), Stand p l e R s m sargs below meth c B.U B.locs B.cells B.slots ∧ PostX A a q B ∧
      Steps p.tables e below (doInvoke e (A.U.setTop g) [] mk a).1 ((B.U.setTop g).pushFrame (.throwing q)))
section Payer
variable {l : Launch} {R : Room} {p : Program} {e : Env} {below : List Frame} {s : State} {sargs : Array Value} {y : MethodName} {len W9 : Nat}
theorem vx_back {ws : List Cond} {rm : Room} {Pc : Array Value → State → Prop} {Qc : Array Value → State → Outcome → State → Prop} {XC : String → State → State → Prop} {mc ms : Nat} {free : Addr → Prop} {bytes : ByteArray} {maxL : Nat} {ret : Option FieldType}
    (hM : vx_Met l y ws rm Pc Qc XC mc ms free) (hblind : FrameBlind Pc) (hrc : rm.cells = mc) (hrs : rm.slots = ms)
    (hframes : rm.frames + 1 ≤ R.frames) (hlocals : W9 + (maxL + 11) + rm.locals ≤ R.locals)
    (hws : ∀ w ∈ ws, ∀ a' U, s.WarmedH U.vm → w.before a' U = true) (hcode : Cond.code y bytes maxL ret ∈ ws) (hinit : ∀ a' U, s.WarmedH U.vm → (Cond.initialized y.cls).before a' U = true) :
    vx_Back l R p e below s sargs y len W9 (PreOf R mc ms Pc) (PostOf Qc mc ms free) (vx_Post XC mc ms free) := by
  intro m meth c A g ig mk a X hg hsize hdg hW hn hp
  have h1 : (headSpec ws rm).pre.before a A.U = true := atoms_intro fun w hw => hws w hw _ _ X.warmed
  have h2 : (Cond.code y bytes maxL ret).before a A.U = true := hws _ hcode _ _ X.warmed
  have h3 : (Cond.initialized y.cls).before a A.U = true := hinit _ _ X.warmed
  have h4 : A.cells + (headSpec ws rm).room.cells ≤ R.cells := by rw [show (headSpec ws rm).room.cells = mc from hrc]; exact hp.1
  have h5 : A.slots + (headSpec ws rm).room.slots ≤ R.slots := by rw [show (headSpec ws rm).room.slots = ms from hrs]; exact hp.2.1
  have hPc : Pc a (A.U.calling g mk a) := hblind _ _ _ _ hp.2.2
  obtain ⟨U, Ls, c0, s0⟩ := A
  dsimp only [Pt.U, Pt.locs, Pt.cells, Pt.slots] at h1 h2 h3 h4 h5 X hn hPc ⊢
  obtain ⟨methY, cY, hmY, hcY, -, hlY, -, -, -, -⟩ := Cond.code_spec hn h2
  obtain ⟨kY, hkY, -⟩ := className_of_methodNamed hn
  have hinitY : kY.init = .initialized := Cond.initialized_spec (findClass_of_methodNamed hn) hkY h3
  have h : At U g.method c below := by rw [hg]; exact X.here
  have hlocals9 : W9 + (maxL + 11) + (headSpec ws rm).room.locals ≤ R.locals := hlocals
  have happ : (headSpec ws rm).appliesLoose y e.platform (U.calling g mk a) = true :=
    Spec.appliesLoose_calling (g := g) h hdg hn hkY hinitY
      (X.room_calling (g := g) (R' := (headSpec ws rm).room) hsize hmY hcY hframes (by rw [hlY]; omega) h4 h5) h1
  obtain ⟨mid, hmid⟩ := h.above
  have hfr : (U.setTop g).frames = (.java g :: mid) ++ below := by rw [State.frames_setTop' g h.top, hmid]; rfl
  obtain ⟨o, s₂, hsteps, -, hend, hq⟩ := Steps.callFree hM p X.admits X.cas X.clock (acts := []) hfr happ hPc trivial
  have hq' : vx_Q Qc XC mc ms free a (U.calling g mk a) o s₂ := hq
  rw [State.frames_setTop' g h.top] at hend
  obtain ⟨g₀, hg0⟩ := Option.isSome_iff_exists.mp h.top
  obtain ⟨r, hr⟩ := State.topJava?_eq_some.mp hg0
  have hr' : (({ U with heap := s₂.heap, slotsUsed := s₂.slotsUsed } : State).setVm s₂.vm).frames = .java g₀ :: r := hr
  rcases hq' with ⟨hqc, L, hfe, hL⟩ | ⟨q, rfl, E, ce, L, hx, hce, hcv, hcl, hW₂, hsm, hL⟩
  · obtain ⟨⟨v, rfl⟩, hW₂, e2, q2, q3, q4, q5, q6⟩ := id hfe
    have e3 : s₂ = ({ (U.calling g mk a).setFrames s₂.frames with heap := s₂.heap, slotsUsed := s₂.slotsUsed } : State).setVm s₂.vm := by
      have : s₂ = ({ s₂ with vm := (U.calling g mk a).vm } : State).setVm s₂.vm := rfl
      rw [e2] at this
      exact this
    obtain ⟨c₂, i₂, len₂, hc₂, hd₂, hf₂⟩ := hend
    have hW' : U.WarmedH s₂.vm := hW₂
    have hcc : c₂ = c := by
      have h1 : s₂.code? g.method = U.code? g.method := by
        rw [State.code?_eq, State.code?_eq, hW'.alike.method?]
      exact Option.some.inj (hc₂.symm.trans (h1.trans h.code))
    subst hcc
    have hlen : len₂ = len := by rw [hdg] at hd₂; cases hd₂; rfl
    subst hlen
    have hs₂ : s₂ = (({ U with heap := s₂.heap, slotsUsed := s₂.slotsUsed } : State).setVm s₂.vm).setTop { g with pc := g.pc + len₂, stack := v.toList ++ g.stack } := by
      refine e3.trans ?_
      rw [hf₂, State.calling_eq h.top, State.setFrames_setFrames, State.setTop_of_frames _ hr', hr]
      rfl
    have hsame : U.sameButNew ({ U with heap := s₂.heap, slotsUsed := s₂.slotsUsed } : State) L mc ms := by
      refine ⟨?_, q2, q3, q4, q5, q6⟩
      obtain ⟨t, ht, -⟩ := State.frames_cons hr
      show ({ U with heap := s₂.heap, slotsUsed := s₂.slotsUsed } : State) = { U.setFrames U.frames with heap := s₂.heap, slotsUsed := s₂.slotsUsed }
      rw [State.setFrames_self ht]
    subst hg
    refine Or.inl ⟨v, ⟨(({ U with heap := s₂.heap, slotsUsed := s₂.slotsUsed } : State).setVm s₂.vm), Ls ++ L, c0 + mc, s0 + ms⟩,
      ⟨X.admits, X.cas, X.clock, X.frames, X.room, X.hears, X.method, X.code, (X.here.setHeapUsed s₂.heap s₂.slotsUsed).setVm hW'.alike, X.tail, State.WarmedH.trans X.warmed hW', X.limits, X.bytes, X.same.trans (hsame.setVm s.vm)⟩,
      ⟨g, mk, s₂, L, rfl, rfl, hqc, rfl, hL, rfl, rfl⟩, ?_⟩
    show Steps p.tables e below _ ((({ U with heap := s₂.heap, slotsUsed := s₂.slotsUsed } : State).setVm s₂.vm).setTop { g with pc := g.pc + len₂, stack := v.toList ++ g.stack })
    rw [← hs₂]
    exact hsteps
  · obtain ⟨e2, q2, q3, q4, q5, q6⟩ := id hsm
    have e3 : s₂ = ({ (U.calling g mk a).setFrames s₂.frames with heap := s₂.heap, slotsUsed := s₂.slotsUsed } : State).setVm s₂.vm := by
      have : s₂ = ({ s₂ with vm := (U.calling g mk a).vm } : State).setVm s₂.vm := rfl
      rw [e2] at this
      exact this
    have hf₂ : s₂.frames = .throwing q :: .java g :: U.frames.tail := hend
    have hW' : U.WarmedH s₂.vm := hW₂
    have hs₂ : s₂ = ((({ U with heap := s₂.heap, slotsUsed := s₂.slotsUsed } : State).setVm s₂.vm).setTop g).pushFrame (.throwing q) := by
      refine e3.trans ?_
      rw [hf₂, State.calling_eq h.top, State.setFrames_setFrames, State.pushFrame, State.frames_setTop _ hr', State.setTop_of_frames _ hr', State.setFrames_setFrames, hr]
      rfl
    have hsame : U.sameButNew ({ U with heap := s₂.heap, slotsUsed := s₂.slotsUsed } : State) L mc ms := by
      refine ⟨?_, q2, q3, q4, q5, q6⟩
      obtain ⟨t, ht, -⟩ := State.frames_cons hr
      show ({ U with heap := s₂.heap, slotsUsed := s₂.slotsUsed } : State) = { U.setFrames U.frames with heap := s₂.heap, slotsUsed := s₂.slotsUsed }
      rw [State.setFrames_self ht]
    subst hg
    refine Or.inr ⟨q, ⟨(({ U with heap := s₂.heap, slotsUsed := s₂.slotsUsed } : State).setVm s₂.vm), Ls ++ L, c0 + mc, s0 + ms⟩,
      ⟨X.admits, X.cas, X.clock, X.frames, X.room, X.hears, X.method, X.code, (X.here.setHeapUsed s₂.heap s₂.slotsUsed).setVm hW'.alike, X.tail, State.WarmedH.trans X.warmed hW', X.limits, X.bytes, X.same.trans (hsame.setVm s.vm)⟩,
      ⟨g, mk, s₂, L, E, ce, rfl, rfl, hx, hce, hcv, hcl, rfl, hL, rfl, rfl⟩, ?_⟩
    show Steps p.tables e below _ (((({ U with heap := s₂.heap, slotsUsed := s₂.slotsUsed } : State).setVm s₂.vm).setTop g).pushFrame (.throwing q))
    rw [← hs₂]
    exact hsteps
end Payer
section Calls
variable {p : Program} {l : Launch} {e : Env} {R : Room} {s : State} {m : MethodId} {args : Array Value} {below : List Frame} {meth : Method} {c : Code} {T : State} {locs : List Loc} {cells slots : Nat}
theorem vx_callV (X : Stand p l e R s m args below meth c T locs cells slots) (hexec : p.tables.exec = Jvm.exec) {own C : String} {index : Nat} {y : MethodName} {bytes : ByteArray} {maxL : Nat} {ret : Option FieldType}
    (hown : s.vm.findClass own = some m.cls) (hlink : (Cond.methodLink own index y).before args s = true) (hinst : (Cond.instanceMethod y).before args s = true) (hsel : (Cond.selects C y y).before args s = true)
    (hcode : (Cond.code y bytes maxL ret).before args s = true) (hy : y.cls ≠ "java/lang/invoke/MethodHandle" ∧ y.cls ≠ "java/lang/invoke/VarHandle")
    {W9 : Nat} {Pre : Pt → Array Value → Prop} {Post : Pt → Array Value → Option Value → Pt → Prop} {PostX : Pt → Array Value → Addr → Pt → Prop} (hK : vx_Back l R p e below s args y 3 W9 Pre Post PostX)
    {b : Addr} {cellB : Cell} (hcell : T.heap[b]? = some cellB) (hobj : cellB.vm.isStatics = false) (hcls : s.vm.findClass C = some cellB.cls)
    {g : JFrame} (hg : g.method = m) (hsize : g.locals.size = c.maxLocals) {argsL rest : List Value} (hlen : ∀ sig, parseMethodDescriptor y.desc = some sig → argsL.length = sig.parameters.length)
    (hstack : g.stack = argsL.reverse ++ .ref b :: rest) (hW : 2 * g.monitorRoom + (rest.map fun v => v.category).sum ≤ W9) (hdg : decode c.code g.pc = .ok (.invokevirtual index, 3))
    (hpre : ∀ vm₁, s.WarmedH vm₁ → Pre ⟨T.setVm vm₁, locs, cells, slots⟩ (Value.ref b :: argsL).toArray) :
    (∃ (v : Option Value) (vm₁ : Vm) (B : Pt), s.WarmedH vm₁ ∧ Stand p l e R s m args below meth c B.U B.locs B.cells B.slots ∧ Post ⟨T.setVm vm₁, locs, cells, slots⟩ (Value.ref b :: argsL).toArray v B ∧
      ∀ target, Steps p.tables e below (B.U.setTop { g with pc := g.pc + 3, stack := v.toList ++ rest }) target → Steps p.tables e below (T.setTop g) target) ∨
    (∃ (q : Addr) (vm₁ : Vm) (B : Pt), s.WarmedH vm₁ ∧ Stand p l e R s m args below meth c B.U B.locs B.cells B.slots ∧ PostX ⟨T.setVm vm₁, locs, cells, slots⟩ (Value.ref b :: argsL).toArray q B ∧
      Steps p.tables e below (T.setTop g) ((B.U.setTop { g with stack := rest }).pushFrame (.throwing q))) := by
  obtain ⟨mk, methM, hnamed, hmethM, hstM, habM⟩ := Cond.instanceMethod_spec hinst
  obtain ⟨methM', cM, hmethM', -, -, -, -, -, -, hsigM⟩ := Cond.code_spec hnamed hcode
  cases hmethM.symm.trans hmethM'
  obtain ⟨c2, r2, m2, q1, q2, q3, q4, kP, hkP, hkPi⟩ := Cond.selects_spec hsel
  cases hcls.symm.trans q1
  cases (State.methodFound?_of_named hnamed hy).symm.trans q2
  cases hnamed.symm.trans q3
  have hselP : selectMethod e.platform s.vm cellB.cls mk = .method mk := by rw [Launch.admits_selectMethod X.admits]; exact q4
  obtain ⟨vm₁, X₁, hstep₁⟩ := X.invokevirtual hexec hown hlink hnamed hmethM hstM hkP hkPi hy (a := b) (cell := cellB) hcell
    (fun z h => by rw [h] at hobj; cases hobj) hselP hmethM habM hkP hkPi (g := g) hg (argsL := argsL) (rest := rest) (hlen _ hsigM) hstack hdg
  rcases hK m meth c ⟨T.setVm vm₁, locs, cells, slots⟩ { g with stack := rest } (.invokevirtual index) mk (Value.ref b :: argsL).toArray X₁ hg hsize hdg hW (X₁.named hnamed) (hpre vm₁ X₁.warmed) with ⟨v, B, X', hpost, hsteps⟩ | ⟨q, B, X', hpost, hsteps⟩
  · exact Or.inl ⟨v, vm₁, B, X₁.warmed, X', hpost, fun target h => hstep₁ _ fun acts => by rw [doInvoke_state]; exact hsteps.trans h⟩
  · exact Or.inr ⟨q, vm₁, B, X₁.warmed, X', hpost, hstep₁ _ fun acts => by rw [doInvoke_state]; exact hsteps⟩
theorem vx_callS (X : Stand p l e R s m args below meth c T locs cells slots) (hexec : p.tables.exec = Jvm.exec) {own : String} {index : Nat} {y : MethodName} {bytes : ByteArray} {maxL : Nat} {ret : Option FieldType}
    (hown : s.vm.findClass own = some m.cls) (hlink : (Cond.methodLink own index y).before args s = true) (hstat : (Cond.static y).before args s = true) (hinit : (Cond.initialized y.cls).before args s = true)
    (hcode : (Cond.code y bytes maxL ret).before args s = true) (hy : y.cls ≠ "java/lang/invoke/MethodHandle" ∧ y.cls ≠ "java/lang/invoke/VarHandle")
    {W9 : Nat} {Pre : Pt → Array Value → Prop} {Post : Pt → Array Value → Option Value → Pt → Prop} {PostX : Pt → Array Value → Addr → Pt → Prop} (hK : vx_Back l R p e below s args y 3 W9 Pre Post PostX)
    {g : JFrame} (hg : g.method = m) (hsize : g.locals.size = c.maxLocals) {argsL rest : List Value} (hlen : ∀ sig, parseMethodDescriptor y.desc = some sig → argsL.length = sig.parameters.length)
    (hstack : g.stack = argsL.reverse ++ rest) (hW : 2 * g.monitorRoom + (rest.map fun v => v.category).sum ≤ W9) (hdg : decode c.code g.pc = .ok (.invokestatic index, 3))
    (hpre : ∀ vm₁, s.WarmedH vm₁ → Pre ⟨T.setVm vm₁, locs, cells, slots⟩ argsL.toArray) :
    (∃ (v : Option Value) (vm₁ : Vm) (B : Pt), s.WarmedH vm₁ ∧ Stand p l e R s m args below meth c B.U B.locs B.cells B.slots ∧ Post ⟨T.setVm vm₁, locs, cells, slots⟩ argsL.toArray v B ∧
      ∀ target, Steps p.tables e below (B.U.setTop { g with pc := g.pc + 3, stack := v.toList ++ rest }) target → Steps p.tables e below (T.setTop g) target) ∨
    (∃ (q : Addr) (vm₁ : Vm) (B : Pt), s.WarmedH vm₁ ∧ Stand p l e R s m args below meth c B.U B.locs B.cells B.slots ∧ PostX ⟨T.setVm vm₁, locs, cells, slots⟩ argsL.toArray q B ∧
      Steps p.tables e below (T.setTop g) ((B.U.setTop { g with stack := rest }).pushFrame (.throwing q))) := by
  obtain ⟨mk, hnamed⟩ := Cond.code_named hcode
  obtain ⟨methM, cM, hmethM, -, -, -, -, -, -, hsigM⟩ := Cond.code_spec hnamed hcode
  have hstatic : methM.isStatic = true := Cond.static_spec hnamed hmethM hstat
  obtain ⟨kP, hkP, -⟩ := className_of_methodNamed hnamed
  have hinitP : kP.init = .initialized := Cond.initialized_spec (findClass_of_methodNamed hnamed) hkP hinit
  obtain ⟨vm₁, X₁, hstep₁⟩ := X.invokestatic hexec hown hlink hnamed hmethM hstatic hkP hinitP hy (g := g) hg (argsL := argsL) (rest := rest) (hlen _ hsigM) hstack hdg
  rcases hK m meth c ⟨T.setVm vm₁, locs, cells, slots⟩ { g with stack := rest } (.invokestatic index) mk argsL.toArray X₁ hg hsize hdg hW (X₁.named hnamed) (hpre vm₁ X₁.warmed) with ⟨v, B, X', hpost, hsteps⟩ | ⟨q, B, X', hpost, hsteps⟩
  · exact Or.inl ⟨v, vm₁, B, X₁.warmed, X', hpost, fun target h => hstep₁ _ fun acts => by rw [doInvoke_state]; exact hsteps.trans h⟩
  · exact Or.inr ⟨q, vm₁, B, X₁.warmed, X', hpost, hstep₁ _ fun acts => by rw [doInvoke_state]; exact hsteps⟩
end Calls
theorem vx_cls {s : State} {T : State} {vm₁ : Vm} {E : String} {k : ClassId} (hW : s.WarmedH vm₁) (h : (T.setVm vm₁).vm.findClass E = some k) : s.vm.findClass E = some k := by
  have h1 : vm₁.findClass E = some k := h
  rw [hW.alike.findClass] at h1
  exact h1
/-- the method's frame g, with q thrown over it -/
def vx_W (p : Program) (l : Launch) (e : Env) (R : Room) (s : State) (m : MethodId) (args : Array Value) (below : List Frame) (meth : Method) (c : Code) (H : Heap) (locs : List Loc) (cells slots : Nat) (Q : State → Prop) (g : JFrame) (q : Addr) : Prop :=
  ∀ T : State, T.heap = H → Stand p l e R s m args below meth c T locs cells slots → ∃ t, Steps p.tables e below ((T.setTop g).pushFrame (.throwing q)) t ∧ Q t
def vx_Run (p : Program) (l : Launch) (e : Env) (R : Room) (s : State) (m : MethodId) (args : Array Value) (below : List Frame) (meth : Method) (c : Code) (H : Heap) (locs : List Loc) (cells slots mc ms : Nat) (g : JFrame) (rest : List Value) (Qa : State → Outcome → State → Prop) (XC : String → State → State → Prop) (free : Addr → Prop) : Prop :=
  ∀ T : State, T.heap = H → Stand p l e R s m args below meth c T locs cells slots →
    (∃ (v : Option Value) (st₀ t T' : State) (L : List Loc), st₀.heap = H ∧ Stand p l e R s m args below meth c T' (locs ++ L) (cells + mc) (slots + ms) ∧ (∀ q ∈ L, free q.base) ∧ T'.heap = t.heap ∧ T'.vm = t.vm ∧ Qa st₀ (.returned v) t ∧
      Goes p e below T g T' { g with pc := g.pc + 3, stack := v.toList ++ rest }) ∨
    (∃ (q : Addr) (st₀ t T' : State) (L : List Loc) (E : String) (ce : Cell), st₀.heap = H ∧ Stand p l e R s m args below meth c T' (locs ++ L) (cells + mc) (slots + ms) ∧ (∀ z ∈ L, free z.base) ∧ T'.heap = t.heap ∧ T'.vm = t.vm ∧ XC E st₀ t ∧ t.heap[q]? = some ce ∧ ce.vm = .none ∧ s.vm.findClass E = some ce.cls ∧
      Steps p.tables e below (T.setTop g) ((T'.setTop { g with stack := rest }).pushFrame (.throwing q)))
def vx_X {S : Type} (px : S → Prop) (B : String → S → State → Prop) (A : Nat → Prop) : String → State → State → Prop := fun E st t => ∃ u : S, px u ∧ B E u t ∧ va_F A st t
section Runs
variable {p : Program} {l : Launch} {e : Env} {R : Room} {s : State} {m : MethodId} {args : Array Value} {below : List Frame} {meth : Method} {c : Code} {H : Heap} {locs : List Loc} {cells slots : Nat}
variable {y : MethodName} {bytes cc : ByteArray} {maxL nL mc ms n index : Nat} {ret : Option FieldType} {ws : List Cond} {rm : Room} {Pc : Array Value → State → Prop} {Qc : Array Value → State → Outcome → State → Prop} {XC : String → State → State → Prop} {free : Addr → Prop} {Ts : List Cond} {own C : String} {b : Addr} {As rest : List Value} {g : JFrame}
theorem vx_callBack (cb : CallB R s args own index y bytes maxL ret ws rm mc ms n) (hM : vx_Met l y ws rm Pc Qc XC mc ms free) (hbl : FrameBlind Pc) : vx_Back l R p e below s args y 3 8 (PreOf R mc ms Pc) (PostOf Qc mc ms free) (vx_Post XC mc ms free) := by
  obtain ⟨hrc, hrs, hfr, hlo, hws, hcw, -, hini, -⟩ := cb
  exact vx_back (bytes := bytes) (maxL := maxL) (ret := ret) hM hbl hrc hrs hfr hlo hws hcw (fun a' U hW => word_at hW (Or.inl (by first | rfl | simp [Cond.onTables, Cond.keeps, Cond.steady])) hini)
theorem vx_runV (S : CallFix p m c cc nL s args Ts own) (hM : vx_Met l y ws rm Pc Qc XC mc ms free) (cw : CallW R s args own C index y bytes maxL ret ws rm mc ms n) (hp : PreV s H C b Pc As)
    (hg : g.method = m) (hn : As.length = n) (hsize : g.locals.size = nL) (hstack : g.stack = As.reverse ++ .ref b :: rest) (hW : 2 * g.monitorRoom + (rest.map fun v => v.category).sum ≤ 8) (hdg : decode cc g.pc = .ok (.invokevirtual index, 3)) (hf : cells + mc ≤ R.cells ∧ slots + ms ≤ R.slots) :
    vx_Run p l e R s m args below meth c H locs cells slots mc ms g rest (Qc (Value.ref b :: As).toArray) XC free := by
  have hK : vx_Back l R p e below s args y 3 8 (PreOf R mc ms Pc) (PostOf Qc mc ms free) (vx_Post XC mc ms free) := vx_callBack cw.1 hM hp.1
  obtain ⟨⟨-, -, -, -, -, -, hcode, -, hy, hlen, hl⟩, hin, hse⟩ := cw
  obtain ⟨hx, hb, hml, ho, -⟩ := S
  obtain ⟨-, ⟨cellB, hcB, hoB, hclB⟩, hPc⟩ := hp
  intro T hT X
  rcases vx_callV X hx (C := C) (bytes := bytes) (maxL := maxL) (ret := ret) ho hl hin hse hcode hy hK (by rw [hT]; exact hcB) hoB hclB hg (hsize.trans hml.symm) (argsL := As) (rest := rest) (fun sig h => hn.trans (hlen sig h)) hstack hW (by rw [hb]; exact hdg)
    (fun vm₁ hW₁ => ⟨hf.1, hf.2, hPc (T.setVm vm₁) hT hW₁⟩) with ⟨v, vm₁, ⟨U', l2, c2, s2⟩, hW₁, X', ⟨g', mk, t, L, e1, e2, hq, h1, hL, h2, h3⟩, st⟩ | ⟨q, vm₁, ⟨U', l2, c2, s2⟩, hW₁, X', ⟨g', mk, t, L, E, ce, e1, e2, hq, hce, hcv, hcl, h1, hL, h2, h3⟩, st⟩
  · dsimp only [Pt.U, Pt.locs, Pt.cells, Pt.slots] at X' e1 e2 h1 h2 h3 st
    subst h1; subst h2; subst h3
    exact Or.inl ⟨v, (T.setVm vm₁).calling g' mk (Value.ref b :: As).toArray, t, U', L, hT, X', hL, e1, e2, hq, st⟩
  · dsimp only [Pt.U, Pt.locs, Pt.cells, Pt.slots] at X' e1 e2 h1 h2 h3 st hcl
    subst h1; subst h2; subst h3
    exact Or.inr ⟨q, (T.setVm vm₁).calling g' mk (Value.ref b :: As).toArray, t, U', L, E, ce, hT, X', hL, e1, e2, hq, hce, hcv, vx_cls hW₁ hcl, st⟩
theorem vx_runS (S : CallFix p m c cc nL s args Ts own) (hM : vx_Met l y ws rm Pc Qc XC mc ms free) (cw : CallB R s args own index y bytes maxL ret ws rm mc ms n ∧ (Cond.static y).before args s = true) (hp : PreS s H Pc As)
    (hg : g.method = m) (hn : As.length = n) (hsize : g.locals.size = nL) (hstack : g.stack = As.reverse ++ rest) (hW : 2 * g.monitorRoom + (rest.map fun v => v.category).sum ≤ 8) (hdg : decode cc g.pc = .ok (.invokestatic index, 3)) (hf : cells + mc ≤ R.cells ∧ slots + ms ≤ R.slots) :
    vx_Run p l e R s m args below meth c H locs cells slots mc ms g rest (Qc As.toArray) XC free := by
  have hK : vx_Back l R p e below s args y 3 8 (PreOf R mc ms Pc) (PostOf Qc mc ms free) (vx_Post XC mc ms free) := vx_callBack cw.1 hM hp.1
  obtain ⟨⟨-, -, -, -, -, -, hcode, hini, hy, hlen, hl⟩, hstt⟩ := cw
  obtain ⟨hx, hb, hml, ho, -⟩ := S
  intro T hT X
  rcases vx_callS X hx (bytes := bytes) (maxL := maxL) (ret := ret) ho hl hstt hini hcode hy hK hg (hsize.trans hml.symm) (argsL := As) (rest := rest) (fun sig h => hn.trans (hlen sig h)) hstack hW (by rw [hb]; exact hdg)
    (fun vm₁ hW₁ => ⟨hf.1, hf.2, hp.2 (T.setVm vm₁) hT hW₁⟩) with ⟨v, vm₁, ⟨U', l2, c2, s2⟩, hW₁, X', ⟨g', mk, t, L, e1, e2, hq, h1, hL, h2, h3⟩, st⟩ | ⟨q, vm₁, ⟨U', l2, c2, s2⟩, hW₁, X', ⟨g', mk, t, L, E, ce, e1, e2, hq, hce, hcv, hcl, h1, hL, h2, h3⟩, st⟩
  · dsimp only [Pt.U, Pt.locs, Pt.cells, Pt.slots] at X' e1 e2 h1 h2 h3 st
    subst h1; subst h2; subst h3
    exact Or.inl ⟨v, (T.setVm vm₁).calling g' mk As.toArray, t, U', L, hT, X', hL, e1, e2, hq, st⟩
  · dsimp only [Pt.U, Pt.locs, Pt.cells, Pt.slots] at X' e1 e2 h1 h2 h3 st hcl
    subst h1; subst h2; subst h3
    exact Or.inr ⟨q, (T.setVm vm₁).calling g' mk As.toArray, t, U', L, E, ce, hT, X', hL, e1, e2, hq, hce, hcv, vx_cls hW₁ hcl, st⟩
end Runs
section Rows
variable {p : Program} {l : Launch} {e : Env} {R : Room} {s : State} {m : MethodId} {args : Array Value} {below : List Frame} {meth : Method} {c : Code} {H : Heap} {locs : List Loc} {cells slots : Nat} {Q : State → Prop}
variable {mc ms : Nat} {free : Addr → Prop} {A0 A1 : Nat → Prop} {H0 : Heap} {a : Array Value} {pc : Nat} {ls : Array Slot} {st0 rest : List Value}
theorem vx_keep {st₀ t T' : State} {L : List Loc} (h0 : st₀.heap = H) (e1 : T'.heap = t.heap) (hS : va_S A0 H0 H locs) (hA : ∀ q, q < H.size → A1 q → A0 q) (hf : ∀ q, free q → A0 q) (hL : ∀ q ∈ L, free q.base) (hF : va_F A1 st₀ t) :
    H.size ≤ T'.heap.size ∧ (∀ q : Nat, q < H.size → ¬ A1 q → T'.heap[q]? = H[q]?) ∧ va_S A0 H0 T'.heap (locs ++ L) := by
  obtain ⟨hz, hk⟩ := hF
  rw [h0] at hz hk
  exact ⟨by rw [e1]; exact hz, fun q h1 h2 => by rw [e1]; exact hk q h1 h2,
    ⟨Nat.le_trans hS.1 (by rw [e1]; exact hz), fun q h1 h2 => by rw [e1, hk q (Nat.lt_of_lt_of_le h1 hS.1) (fun z => h2 (hA q (Nat.lt_of_lt_of_le h1 hS.1) z))]; exact hS.2.1 q h1 h2, fun q hq => by
      rcases List.mem_append.mp hq with h | h
      · exact hS.2.2 q h
      · exact hf _ (hL q h)⟩⟩
theorem vx_calli {S SX : Type} {post : Int32 → S → Prop} {px : SX → Prop} {B : S → State → Prop} {BX : String → SX → State → Prop} {AX : Nat → Prop} (hr : vx_Run p l e R s m args below meth c H locs cells slots mc ms (F0 m pc ls st0) rest (va_Qi post B A1 a) (vx_X px BX AX) free) (hS : va_S A0 H0 H locs) (hA : ∀ q, q < H.size → A1 q → A0 q) (hf : ∀ q, free q → A0 q) (hAX : ∀ q, q < H.size → AX q → A0 q)
    (kx : ∀ (E : String) (ce : Cell) (q9 : Addr) (u : SX) (t : State) (H1 : Heap) (locs1 : List Loc), t.heap = H1 → s.vm.Alike t.vm → px u → BX E u t → H.size ≤ H1.size → (∀ q : Nat, q < H.size → ¬ AX q → H1[q]? = H[q]?) → va_S A0 H0 H1 locs1 → H1[q9]? = some ce → ce.vm = .none → s.vm.findClass E = some ce.cls → vx_W p l e R s m args below meth c H1 locs1 (cells + mc) (slots + ms) Q (F0 m pc ls rest) q9)
    (kk : ∀ (r : Int32) (u : S) (t : State) (H1 : Heap) (locs1 : List Loc), t.heap = H1 → s.vm.Alike t.vm → post r u → B u t → H.size ≤ H1.size → (∀ q : Nat, q < H.size → ¬ A1 q → H1[q]? = H[q]?) → va_S A0 H0 H1 locs1 → W p l e R s m args below meth c H1 locs1 (cells + mc) (slots + ms) Q (F0 m (pc + 3) ls (.int r :: rest))) : W p l e R s m args below meth c H locs cells slots Q (F0 m pc ls st0) := by
  intro T hT X
  rcases hr T hT X with ⟨v, st₀, t, T', L, h0, X', hL, e1, e2, ⟨⟨r, u, hv, hp, hb⟩, hF⟩, st⟩ | ⟨q, st₀, t, T', L, E, ce, h0, X', hL, e1, e2, ⟨u, hp, hb, hF⟩, hce, hcv, hcl, st⟩
  · cases hv
    obtain ⟨k1, k2, k3⟩ := vx_keep h0 e1 hS hA hf hL hF
    obtain ⟨t2, a1, b1⟩ := kk r u t T'.heap (locs ++ L) e1.symm (by rw [← e2]; exact X'.warmed.alike) hp hb k1 k2 k3 T' rfl X'
    exact ⟨t2, st t2 a1, b1⟩
  · obtain ⟨k1, k2, k3⟩ := vx_keep h0 e1 hS hAX hf hL hF
    obtain ⟨t2, a1, b1⟩ := kx E ce q u t T'.heap (locs ++ L) e1.symm (by rw [← e2]; exact X'.warmed.alike) hp hb k1 k2 k3 (by rw [e1]; exact hce) hcv hcl T' rfl X'
    exact ⟨t2, st.trans a1, b1⟩
theorem vx_calll {S SX : Type} {post : Int64 → S → Prop} {px : SX → Prop} {B : S → State → Prop} {BX : String → SX → State → Prop} {AX : Nat → Prop} (hr : vx_Run p l e R s m args below meth c H locs cells slots mc ms (F0 m pc ls st0) rest (va_Ql post B A1 a) (vx_X px BX AX) free) (hS : va_S A0 H0 H locs) (hA : ∀ q, q < H.size → A1 q → A0 q) (hf : ∀ q, free q → A0 q) (hAX : ∀ q, q < H.size → AX q → A0 q)
    (kx : ∀ (E : String) (ce : Cell) (q9 : Addr) (u : SX) (t : State) (H1 : Heap) (locs1 : List Loc), t.heap = H1 → s.vm.Alike t.vm → px u → BX E u t → H.size ≤ H1.size → (∀ q : Nat, q < H.size → ¬ AX q → H1[q]? = H[q]?) → va_S A0 H0 H1 locs1 → H1[q9]? = some ce → ce.vm = .none → s.vm.findClass E = some ce.cls → vx_W p l e R s m args below meth c H1 locs1 (cells + mc) (slots + ms) Q (F0 m pc ls rest) q9)
    (kk : ∀ (r : Int64) (u : S) (t : State) (H1 : Heap) (locs1 : List Loc), t.heap = H1 → s.vm.Alike t.vm → post r u → B u t → H.size ≤ H1.size → (∀ q : Nat, q < H.size → ¬ A1 q → H1[q]? = H[q]?) → va_S A0 H0 H1 locs1 → W p l e R s m args below meth c H1 locs1 (cells + mc) (slots + ms) Q (F0 m (pc + 3) ls (.long r :: rest))) : W p l e R s m args below meth c H locs cells slots Q (F0 m pc ls st0) := by
  intro T hT X
  rcases hr T hT X with ⟨v, st₀, t, T', L, h0, X', hL, e1, e2, ⟨⟨r, u, hv, hp, hb⟩, hF⟩, st⟩ | ⟨q, st₀, t, T', L, E, ce, h0, X', hL, e1, e2, ⟨u, hp, hb, hF⟩, hce, hcv, hcl, st⟩
  · cases hv
    obtain ⟨k1, k2, k3⟩ := vx_keep h0 e1 hS hA hf hL hF
    obtain ⟨t2, a1, b1⟩ := kk r u t T'.heap (locs ++ L) e1.symm (by rw [← e2]; exact X'.warmed.alike) hp hb k1 k2 k3 T' rfl X'
    exact ⟨t2, st t2 a1, b1⟩
  · obtain ⟨k1, k2, k3⟩ := vx_keep h0 e1 hS hAX hf hL hF
    obtain ⟨t2, a1, b1⟩ := kx E ce q u t T'.heap (locs ++ L) e1.symm (by rw [← e2]; exact X'.warmed.alike) hp hb k1 k2 k3 (by rw [e1]; exact hce) hcv hcl T' rfl X'
    exact ⟨t2, st.trans a1, b1⟩
theorem vx_callf {S SX : Type} {post : UInt32 → S → Prop} {px : SX → Prop} {B : S → State → Prop} {BX : String → SX → State → Prop} {AX : Nat → Prop} (hr : vx_Run p l e R s m args below meth c H locs cells slots mc ms (F0 m pc ls st0) rest (va_Qf post B A1 a) (vx_X px BX AX) free) (hS : va_S A0 H0 H locs) (hA : ∀ q, q < H.size → A1 q → A0 q) (hf : ∀ q, free q → A0 q) (hAX : ∀ q, q < H.size → AX q → A0 q)
    (kx : ∀ (E : String) (ce : Cell) (q9 : Addr) (u : SX) (t : State) (H1 : Heap) (locs1 : List Loc), t.heap = H1 → s.vm.Alike t.vm → px u → BX E u t → H.size ≤ H1.size → (∀ q : Nat, q < H.size → ¬ AX q → H1[q]? = H[q]?) → va_S A0 H0 H1 locs1 → H1[q9]? = some ce → ce.vm = .none → s.vm.findClass E = some ce.cls → vx_W p l e R s m args below meth c H1 locs1 (cells + mc) (slots + ms) Q (F0 m pc ls rest) q9)
    (kk : ∀ (r : UInt32) (u : S) (t : State) (H1 : Heap) (locs1 : List Loc), t.heap = H1 → s.vm.Alike t.vm → post r u → B u t → H.size ≤ H1.size → (∀ q : Nat, q < H.size → ¬ A1 q → H1[q]? = H[q]?) → va_S A0 H0 H1 locs1 → W p l e R s m args below meth c H1 locs1 (cells + mc) (slots + ms) Q (F0 m (pc + 3) ls (.float r :: rest))) : W p l e R s m args below meth c H locs cells slots Q (F0 m pc ls st0) := by
  intro T hT X
  rcases hr T hT X with ⟨v, st₀, t, T', L, h0, X', hL, e1, e2, ⟨⟨r, u, hv, hp, hb⟩, hF⟩, st⟩ | ⟨q, st₀, t, T', L, E, ce, h0, X', hL, e1, e2, ⟨u, hp, hb, hF⟩, hce, hcv, hcl, st⟩
  · cases hv
    obtain ⟨k1, k2, k3⟩ := vx_keep h0 e1 hS hA hf hL hF
    obtain ⟨t2, a1, b1⟩ := kk r u t T'.heap (locs ++ L) e1.symm (by rw [← e2]; exact X'.warmed.alike) hp hb k1 k2 k3 T' rfl X'
    exact ⟨t2, st t2 a1, b1⟩
  · obtain ⟨k1, k2, k3⟩ := vx_keep h0 e1 hS hAX hf hL hF
    obtain ⟨t2, a1, b1⟩ := kx E ce q u t T'.heap (locs ++ L) e1.symm (by rw [← e2]; exact X'.warmed.alike) hp hb k1 k2 k3 (by rw [e1]; exact hce) hcv hcl T' rfl X'
    exact ⟨t2, st.trans a1, b1⟩
theorem vx_calld {S SX : Type} {post : UInt64 → S → Prop} {px : SX → Prop} {B : S → State → Prop} {BX : String → SX → State → Prop} {AX : Nat → Prop} (hr : vx_Run p l e R s m args below meth c H locs cells slots mc ms (F0 m pc ls st0) rest (va_Qd post B A1 a) (vx_X px BX AX) free) (hS : va_S A0 H0 H locs) (hA : ∀ q, q < H.size → A1 q → A0 q) (hf : ∀ q, free q → A0 q) (hAX : ∀ q, q < H.size → AX q → A0 q)
    (kx : ∀ (E : String) (ce : Cell) (q9 : Addr) (u : SX) (t : State) (H1 : Heap) (locs1 : List Loc), t.heap = H1 → s.vm.Alike t.vm → px u → BX E u t → H.size ≤ H1.size → (∀ q : Nat, q < H.size → ¬ AX q → H1[q]? = H[q]?) → va_S A0 H0 H1 locs1 → H1[q9]? = some ce → ce.vm = .none → s.vm.findClass E = some ce.cls → vx_W p l e R s m args below meth c H1 locs1 (cells + mc) (slots + ms) Q (F0 m pc ls rest) q9)
    (kk : ∀ (r : UInt64) (u : S) (t : State) (H1 : Heap) (locs1 : List Loc), t.heap = H1 → s.vm.Alike t.vm → post r u → B u t → H.size ≤ H1.size → (∀ q : Nat, q < H.size → ¬ A1 q → H1[q]? = H[q]?) → va_S A0 H0 H1 locs1 → W p l e R s m args below meth c H1 locs1 (cells + mc) (slots + ms) Q (F0 m (pc + 3) ls (.double r :: rest))) : W p l e R s m args below meth c H locs cells slots Q (F0 m pc ls st0) := by
  intro T hT X
  rcases hr T hT X with ⟨v, st₀, t, T', L, h0, X', hL, e1, e2, ⟨⟨r, u, hv, hp, hb⟩, hF⟩, st⟩ | ⟨q, st₀, t, T', L, E, ce, h0, X', hL, e1, e2, ⟨u, hp, hb, hF⟩, hce, hcv, hcl, st⟩
  · cases hv
    obtain ⟨k1, k2, k3⟩ := vx_keep h0 e1 hS hA hf hL hF
    obtain ⟨t2, a1, b1⟩ := kk r u t T'.heap (locs ++ L) e1.symm (by rw [← e2]; exact X'.warmed.alike) hp hb k1 k2 k3 T' rfl X'
    exact ⟨t2, st t2 a1, b1⟩
  · obtain ⟨k1, k2, k3⟩ := vx_keep h0 e1 hS hAX hf hL hF
    obtain ⟨t2, a1, b1⟩ := kx E ce q u t T'.heap (locs ++ L) e1.symm (by rw [← e2]; exact X'.warmed.alike) hp hb k1 k2 k3 (by rw [e1]; exact hce) hcv hcl T' rfl X'
    exact ⟨t2, st.trans a1, b1⟩
theorem vx_callv {S SX : Type} {post : S → Prop} {px : SX → Prop} {B : S → State → Prop} {BX : String → SX → State → Prop} {AX : Nat → Prop} (hr : vx_Run p l e R s m args below meth c H locs cells slots mc ms (F0 m pc ls st0) rest (va_Qv post B A1 a) (vx_X px BX AX) free) (hS : va_S A0 H0 H locs) (hA : ∀ q, q < H.size → A1 q → A0 q) (hf : ∀ q, free q → A0 q) (hAX : ∀ q, q < H.size → AX q → A0 q)
    (kx : ∀ (E : String) (ce : Cell) (q9 : Addr) (u : SX) (t : State) (H1 : Heap) (locs1 : List Loc), t.heap = H1 → s.vm.Alike t.vm → px u → BX E u t → H.size ≤ H1.size → (∀ q : Nat, q < H.size → ¬ AX q → H1[q]? = H[q]?) → va_S A0 H0 H1 locs1 → H1[q9]? = some ce → ce.vm = .none → s.vm.findClass E = some ce.cls → vx_W p l e R s m args below meth c H1 locs1 (cells + mc) (slots + ms) Q (F0 m pc ls rest) q9)
    (kk : ∀ (u : S) (t : State) (H1 : Heap) (locs1 : List Loc), t.heap = H1 → s.vm.Alike t.vm → post u → B u t → H.size ≤ H1.size → (∀ q : Nat, q < H.size → ¬ A1 q → H1[q]? = H[q]?) → va_S A0 H0 H1 locs1 → W p l e R s m args below meth c H1 locs1 (cells + mc) (slots + ms) Q (F0 m (pc + 3) ls (rest))) : W p l e R s m args below meth c H locs cells slots Q (F0 m pc ls st0) := by
  intro T hT X
  rcases hr T hT X with ⟨v, st₀, t, T', L, h0, X', hL, e1, e2, ⟨⟨u, hv, hp, hb⟩, hF⟩, st⟩ | ⟨q, st₀, t, T', L, E, ce, h0, X', hL, e1, e2, ⟨u, hp, hb, hF⟩, hce, hcv, hcl, st⟩
  · cases hv
    obtain ⟨k1, k2, k3⟩ := vx_keep h0 e1 hS hA hf hL hF
    obtain ⟨t2, a1, b1⟩ := kk u t T'.heap (locs ++ L) e1.symm (by rw [← e2]; exact X'.warmed.alike) hp hb k1 k2 k3 T' rfl X'
    exact ⟨t2, st t2 a1, b1⟩
  · obtain ⟨k1, k2, k3⟩ := vx_keep h0 e1 hS hAX hf hL hF
    obtain ⟨t2, a1, b1⟩ := kx E ce q u t T'.heap (locs ++ L) e1.symm (by rw [← e2]; exact X'.warmed.alike) hp hb k1 k2 k3 (by rw [e1]; exact hce) hcv hcl T' rfl X'
    exact ⟨t2, st.trans a1, b1⟩
/-- caught by the row x of this method's table; the rows ahead don't take it -/
theorem vx_catch {own name : String} {E : String} {ce : Cell} {q : Addr} (hown : s.vm.findClass own = some m.cls) (pre : List ExceptionTableEntry) (x : ExceptionTableEntry) (suf : List ExceptionTableEntry) (hsplit : c.exceptionTable.toList = pre ++ x :: suf)
    (hpass : ∀ z ∈ pre, covers z pc = false ∨ (z.catchType ≠ 0 ∧ ∃ nm : String, (Cond.classLink own z.catchType nm).before args s = true ∧ va_Nc E nm s)) (hx : covers x pc = true) (h0 : x.catchType ≠ 0)
    (hlink : (Cond.classLink own x.catchType name).before args s = true) (hcast : (Cond.castable E name).before args s = true) (hcell : H[q]? = some ce) (hv : ce.vm = .none) (hcl : s.vm.findClass E = some ce.cls)
    (kk : W p l e R s m args below meth c H locs cells slots Q (F0 m x.handlerPc ls [.ref q])) : vx_W p l e R s m args below meth c H locs cells slots Q (F0 m pc ls rest) q := by
  intro T hT X
  have hpl : e.platform.magicAccessors = ({} : Platform).magicAccessors := by rw [X.admits.platform]
  obtain ⟨c3, c4, hc3, hc4, hasg⟩ := Cond.castable_spec hcast
  cases Option.some.inj (hc3.symm.trans hcl)
  obtain ⟨c5, hc5, hcl5⟩ := Cond.classLink_spec hown hlink e.platform hpl
  cases Option.some.inj (hc4.symm.trans hc5)
  obtain ⟨vm', X', st⟩ := zc_caught X q (g := F0 m pc ls rest) rfl (by rw [hT]; exact hcell) (by rw [hv]; rfl) (by obtain ⟨k9, h9, -⟩ := Vm.findClass_spec hcl; exact ⟨k9, h9⟩) pre x suf hsplit
    (fun z hz => by
      rcases hpass z hz with h | ⟨hz0, nm, hl1, hn1⟩
      · exact Or.inl h
      · obtain ⟨c6, hc6, hcl6⟩ := Cond.classLink_spec hown hl1 e.platform hpl
        obtain ⟨a8, b8, h1, h2, h3⟩ := hn1
        cases Option.some.inj (h1.symm.trans hcl)
        cases Option.some.inj (h2.symm.trans hc6)
        exact Or.inr ⟨hz0, _, hcl6, h3⟩) hx ⟨h0, c4, hcl5, hasg⟩
  obtain ⟨t, a1, b1⟩ := kk (T.setVm vm') hT X'
  exact ⟨t, st.trans a1, b1⟩
end Rows
section Ends
variable {p : Program} {l : Launch} {e : Env} {R : Room} {s : State} {m : MethodId} {args : Array Value} {below : List Frame} {meth : Method} {c : Code} {H : Heap} {locs : List Loc} {cells slots : Nat} {Q : State → Prop}
variable {mc ms : Nat} {free : Addr → Prop} {A0 A1 : Nat → Prop} {H0 : Heap} {a : Array Value} {ls : Array Slot} {st0 rest : List Value}
variable {Qc : Array Value → State → Outcome → State → Prop} {XC : String → State → State → Prop}
/-- what a body that may throw owes at its end -/
def vx_MQ (below : List Frame) (Qc : Array Value → State → Outcome → State → Prop) (XC : String → State → State → Prop) (a : Array Value) (s : State) (mc ms : Nat) (free : Addr → Prop) : State → Prop := fun t =>
  ∃ o, t.status = .running ∧ Ended t below o ∧ vx_Q Qc XC mc ms free a s o t
theorem vx_ret {g : JFrame} {mc ms : Nat} (k : W p l e R s m args below meth c H locs cells slots (MQ below Qc args s mc ms free) g) : W p l e R s m args below meth c H locs cells slots (vx_MQ below Qc XC args s mc ms free) g := by
  intro T hT X
  obtain ⟨t, a1, o, b1, b2, b3, b4⟩ := k T hT X
  exact ⟨t, a1, o, b1, b2, Or.inl ⟨b3, b4⟩⟩
/-- not caught here: it goes on to the caller -/
theorem vx_widen {g : JFrame} {q : Addr} {k n : Nat} (h1 : cells ≤ k) (h2 : slots ≤ n) (kk : vx_W p l e R s m args below meth c H locs k n Q g q) : vx_W p l e R s m args below meth c H locs cells slots Q g q := fun T hT X => kk T hT (stand_widen X h1 h2)
theorem vx_out {pc : Nat} {E : String} {ce : Cell} {q : Addr} {mc ms : Nat} (hout : ∀ x ∈ c.exceptionTable.toList, covers x pc = false) (hlocks : meth.locks = false) (hcell : H[q]? = some ce) (hv : ce.vm = .none) (hcl : s.vm.findClass E = some ce.cls)
    (hx : ∀ t : State, t.heap = H → s.vm.Alike t.vm → XC E s t) (hf : ∀ z ∈ locs, free z.base) (hc : cells ≤ mc) (hs : slots ≤ ms) :
    vx_W p l e R s m args below meth c H locs cells slots (vx_MQ below Qc XC args s mc ms free) (F0 m pc ls rest) q := by
  intro T hT X
  obtain ⟨st1, hrun, hend, hW, hsm⟩ := X.leaveThrown q (g := F0 m pc ls rest) rfl rfl rfl hout hlocks
  have hcell9 : (T.setFrames (.throwing q :: below)).heap[q]? = some ce := by
    show T.heap[q]? = some ce
    rw [hT]; exact hcell
  exact ⟨_, st1, .threw q, hrun, hend, Or.inr ⟨q, rfl, E, ce, locs, hx _ hT hW.alike, hcell9, hv, hcl, hW, hsm.mono hc hs, hf⟩⟩
theorem vx_frame {U : State} {k n : Nat} (h : s.sameButNew ({ U with vm := s.vm } : State) locs k n) : s.heap.size ≤ U.heap.size ∧ ∀ q : Nat, q < s.heap.size → (∀ z ∈ locs, z.base ≠ q) → U.heap[q]? = s.heap[q]? := by
  obtain ⟨-, h2, -, -, -, h6⟩ := h
  refine ⟨h2, fun q hq hz => ?_⟩
  obtain ⟨c9, e1, e2, e3, e4⟩ := h6 q _ (Array.getElem?_eq_getElem hq)
  have hs : c9.slots = (s.heap[q]).slots := Array.ext_getElem? fun i => e4 i fun hm => hz _ hm rfl
  have h9 : c9 = s.heap[q] := by
    rw [hs] at e2
    exact e2
  have e5 : U.heap[q]? = some c9 := e1
  rw [e5, h9, Array.getElem?_eq_getElem hq]
/-- the words of a throw but the four that speak of the heap -/
def vx_no (w : Cond) : Bool := decide (w ≠ .isRef (.static Bundle.tN "UNASSIGNED_STACK" Bundle.steD)) && decide (w ≠ .isRef (.static Bundle.tN "SUPPRESSED_SENTINEL" Bundle.listD)) && decide (w ≠ .laysStatic Bundle.tN "UNASSIGNED_STACK" Bundle.steD) && decide (w ≠ .laysStatic Bundle.tN "SUPPRESSED_SENTINEL" Bundle.listD)
def vx_at0 (own : String) (ic : Nat) (X : String) (names : List String) : List Cond := (Bundle.ownAtoms0 own ic X names).filter vx_no
def vx_atS (own : String) (ic : Nat) (X : String) (names : List String) : List Cond := (Bundle.ownAtoms own ic X names).filter vx_no
/-- a word that the tables alone decide, or a good one -/
def vx_ot (w : Cond) : Bool := w.onTables || goodWord w
theorem vx_ot_at {args a' : Array Value} {s U : State} {w : Cond} (hW : s.WarmedH U.vm) (hvm : s.vm = U.vm) (hg : vx_ot w = true) (h : w.before args s = true) : w.before a' U = true := by
  simp only [vx_ot, Bool.or_eq_true] at hg
  rcases hg with hg | hg
  · exact va_tabs hg hvm h
  · exact word_at hW (good_of_word hg) h
/-- a list's words: the good ones out of the method's own list, the others by premises of their own -/
theorem vx_hat {args : Array Value} {s : State} {L B : List Cond} (h1 : ∀ w ∈ L.filter goodWord, w.before args s = true) (h2 : ∀ w ∈ L.filter (fun w => !goodWord w), w ∈ B) (h3 : ∀ w ∈ B, w.before args s = true) : ∀ w ∈ L, w.before args s = true := by
  intro w hw
  by_cases g : goodWord w = true
  · exact h1 w (List.mem_filter.mpr ⟨hw, g⟩)
  · refine h3 w (h2 w (List.mem_filter.mpr ⟨hw, ?_⟩))
    show (!goodWord w) = true
    cases hgw : goodWord w
    · rfl
    · exact absurd hgw g
theorem vx_c {args : Array Value} {s : State} {w : Cond} {B : List Cond} (h : w.before args s = true) (t : ∀ w ∈ B, w.before args s = true) : ∀ w' ∈ w :: B, w'.before args s = true := fun w' h' => (List.mem_cons.mp h').elim (fun e => by rw [e]; exact h) (t w')
theorem vx_n {args : Array Value} {s : State} : ∀ w ∈ ([] : List Cond), w.before args s = true := fun _ h => nomatch h
theorem vx_own {args : Array Value} {s : State} {L : List Cond} (h1 : ∀ w ∈ L.filter vx_no, w.before args s = true)
    (hU : (Cond.isRef (.static Bundle.tN "UNASSIGNED_STACK" Bundle.steD)).before args s = true) (hN : (Cond.isRef (.static Bundle.tN "SUPPRESSED_SENTINEL" Bundle.listD)).before args s = true)
    (lU : (Cond.laysStatic Bundle.tN "UNASSIGNED_STACK" Bundle.steD).before args s = true) (lN : (Cond.laysStatic Bundle.tN "SUPPRESSED_SENTINEL" Bundle.listD).before args s = true) : ∀ w ∈ L, w.before args s = true := by
  intro w hw
  by_cases e1 : w = .isRef (.static Bundle.tN "UNASSIGNED_STACK" Bundle.steD)
  · rw [e1]; exact hU
  · by_cases e2 : w = .isRef (.static Bundle.tN "SUPPRESSED_SENTINEL" Bundle.listD)
    · rw [e2]; exact hN
    · by_cases e3 : w = .laysStatic Bundle.tN "UNASSIGNED_STACK" Bundle.steD
      · rw [e3]; exact lU
      · by_cases e4 : w = .laysStatic Bundle.tN "SUPPRESSED_SENTINEL" Bundle.listD
        · rw [e4]; exact lN
        · exact h1 w (List.mem_filter.mpr ⟨hw, by unfold vx_no; rw [decide_eq_true e1, decide_eq_true e2, decide_eq_true e3, decide_eq_true e4]; rfl⟩)
/-- where a static field lies, its class's statics cell in H -/
def vx_L (C n d : String) (A : Nat → Prop) (U : State) (H : Heap) : Prop := ∃ (c : ClassId) (k : Class) (i : Nat) (f : Field) (a : Nat) (cell : Cell), U.vm.findClass C = some c ∧ U.fieldFound? C n d = some (c, k, i, f) ∧ f.isStatic = true ∧ k.statics = some a ∧ H[a]? = some cell ∧ cell.vm.isStatics = true ∧ cell.cls = c ∧ f.slot < cell.slots.size ∧ k.staticTypes[f.slot]? = some f.type ∧ ¬ A a
theorem vx_L.moved {C n d : String} {A : Nat → Prop} {u U : State} {H : Heap} (hvm : u.vm.Alike U.vm) (h : vx_L C n d A u H) : vx_L C n d A U H := by
  obtain ⟨c, k, i, f, a, cell, h1, h2, h3, h4, h5, h6, h7, h8, h9, h10⟩ := h
  obtain ⟨k', hi', he⟩ := State.fieldFound?_setVm hvm h2
  exact ⟨c, k', i, f, a, cell, by rw [hvm.findClass]; exact h1, hi', h3, by rw [he]; exact h4, h5, h6, h7, h8, by rw [he]; exact h9, h10⟩
theorem vx_L.kept {C n d : String} {A : Nat → Prop} {U : State} {H H1 : Heap} (h : vx_L C n d A U H) (hq : ∀ a : Nat, a < H.size → ¬ A a → H1[a]? = H[a]?) : vx_L C n d A U H1 := by
  obtain ⟨c, k, i, f, a, cell, h1, h2, h3, h4, h5, h6, h7, h8, h9, h10⟩ := h
  exact ⟨c, k, i, f, a, cell, h1, h2, h3, h4, by rw [hq a (Array.getElem?_eq_some_iff.mp h5).1 h10]; exact h5, h6, h7, h8, h9, h10⟩
theorem vx_L.narrow {C n d : String} {A B : Nat → Prop} {U : State} {H : Heap} (h : vx_L C n d A U H) (hAB : ∀ q, B q → A q) : vx_L C n d B U H := by
  obtain ⟨c, k, i, f, a, cell, h1, h2, h3, h4, h5, h6, h7, h8, h9, h10⟩ := h
  exact ⟨c, k, i, f, a, cell, h1, h2, h3, h4, h5, h6, h7, h8, h9, fun z => h10 (hAB _ z)⟩
theorem vx_L.word {C n d : String} {A : Nat → Prop} {s : State} {args : Array Value} (h : vx_L C n d A s s.heap) : (Cond.laysStatic C n d).before args s = true := by
  obtain ⟨c, k, i, f, a, cell, h1, h2, h3, h4, h5, h6, h7, h8, h9, -⟩ := h
  show (Cond.laysStatic C n d).holds args s none s [] = true
  exact Cond.laysStatic_of h1 h2 h3 h4 h5 h6 h7 h8 h9
/-- .. and what it holds: null or some reference -/
def vx_Zq (C n d : String) (A : Nat → Prop) (U : State) (H : Heap) : Prop := va_Zq C n d A U H ∧ vx_L C n d A U H
theorem vx_Zq.moved {C n d : String} {A : Nat → Prop} {u U : State} {H : Heap} (hvm : u.vm.Alike U.vm) (h : vx_Zq C n d A u H) : vx_Zq C n d A U H := ⟨va_Zq.moved hvm h.1, vx_L.moved hvm h.2⟩
theorem vx_Zq.kept {C n d : String} {A : Nat → Prop} {U : State} {H H1 : Heap} (h : vx_Zq C n d A U H) (hq : ∀ a : Nat, a < H.size → ¬ A a → H1[a]? = H[a]?) : vx_Zq C n d A U H1 := ⟨va_Zq.kept h.1 hq, vx_L.kept h.2 hq⟩
theorem vx_Zq.narrow {C n d : String} {A B : Nat → Prop} {U : State} {H : Heap} (h : vx_Zq C n d A U H) (hAB : ∀ q, B q → A q) : vx_Zq C n d B U H := ⟨va_Zq.narrow h.1 hAB, vx_L.narrow h.2 hAB⟩
theorem vx_Zqof {args : Array Value} {s : State} {C n d : String} {A : Nat → Prop} (hl : (Cond.laysStatic C n d).before args s = true) (hini : (Cond.initialized C).before args s = true) (h : (Cond.isRef (.static C n d)).before args s = true) (hA : ∀ a : Nat, a < s.heap.size → ¬ A a) : vx_Zq C n d A s s.heap := by
  refine ⟨va_Zqof hl hini h hA, ?_⟩
  obtain ⟨c, k, i, f, a, cell, h1, h2, h3, h4, h5, h6, h7, h8, h9⟩ := Cond.laysStatic_spec hl
  exact ⟨c, k, i, f, a, cell, h1, h2, h3, h4, h5, h6, h7, h8, h9, hA a (Array.getElem?_eq_some_iff.mp h5).1⟩
theorem vx_isRef {C n d : String} {v : Value} {A : Nat → Prop} {s : State} {args : Array Value} (h : va_Z C n d v A s s.heap) (hv : v.isRef = true) : (Cond.isRef (.static C n d)).before args s = true := by
  obtain ⟨cf, kf, fi, f, a, cell, h1, h2, h3, h4, h5, h6, h7, -⟩ := h
  have he : (Term.static C n d).eval args s none [] s = some v := by
    simp [Term.eval, State.fieldNamed?, h1, h2, h4, h5, h6, h7]
  simp only [Cond.before, Cond.holds, Cond.value, he]
  cases v <;> simp_all [Value.isRef]
theorem vx_isRefq {C n d : String} {A : Nat → Prop} {s : State} {args : Array Value} (h : va_Zq C n d A s s.heap) : (Cond.isRef (.static C n d)).before args s = true := by
  rcases h with h | ⟨t, h⟩
  · exact vx_isRef h rfl
  · exact vx_isRef h rfl
/-- the same frame, seen from here: as if the method were called anew in this heap -/
theorem vx_rebase {T : State} (X : Stand p l e R s m args below meth c T locs cells slots) {R' : Room} (hf : R'.frames ≤ R.frames) (hl : R'.locals ≤ R.locals) (hc : cells + R'.cells ≤ R.cells) (hs : slots + R'.slots ≤ R.slots) :
    Stand p l e R' ((T.setVm s.vm).setFrames (.invoking m args :: below)) m args below meth c T [] 0 0 := by
  have htop : (T.setVm s.vm).topJava?.isSome := X.here.top
  have hF : ((T.setVm s.vm).setFrames (.invoking m args :: below)).frames = .invoking m args :: below := State.frames_setFrames _ (State.cur_lt_of_top htop)
  obtain ⟨g₀, hg0⟩ := Option.isSome_iff_exists.mp htop
  obtain ⟨r, hr⟩ := State.topJava?_eq_some.mp hg0
  have hl9 : e.platform.stackLimits (T.setVm s.vm).me = e.platform.stackLimits s.me := X.limits
  have hb9 : (T.setVm s.vm).me.stackBytes = s.me.stackBytes := X.bytes
  refine ⟨X.admits, X.cas, X.clock, hF, ?_, X.hears, X.method, X.code, X.here, X.tail, X.warmed, ?_, ?_, ?_⟩
  · have h := X.room
    have hU : ((T.setVm s.vm).setFrames (.invoking m args :: below)).localsInUse = s.localsInUse := by
      rw [State.localsInUse_invoking hF (meth := meth) (c := c) X.method X.code, State.localsInUse_invoking X.frames X.method X.code]
    simp only [State.hasRoom, Bool.and_eq_true, decide_eq_true_eq] at h ⊢
    obtain ⟨⟨⟨⟨h1, h2, h3, h4, h5, h6⟩, h7⟩, h8⟩, h9⟩ := h
    rw [X.frames, List.length_cons] at h2 h3
    have q1 := X.heapSize
    have q2 := X.used
    simp only [hF, hU, List.length_cons, State.stackLimits_setFrames, State.stackBytes_setFrames, hl9, hb9]
    refine ⟨⟨⟨⟨by omega, by omega, by omega, by omega, by omega, h6⟩, ?_⟩, ?_⟩, X.book⟩
    · show T.heap.size + R'.cells ≤ e.platform.maxCells
      omega
    · show T.slotsUsed + R'.slots ≤ e.platform.maxSlots
      omega
  · rw [State.stackLimits_setFrames]; rfl
  · rw [State.stackBytes_setFrames]; rfl
  · refine ⟨?_, Nat.le_refl _, Nat.le_refl _, ?_, ?_, fun a c9 h9 => ⟨c9, h9, rfl, rfl, fun _ _ => rfl⟩⟩
    · obtain ⟨t, ht, -⟩ := State.frames_cons hr
      show T.setVm s.vm = { ((T.setVm s.vm).setFrames (.invoking m args :: below)).setFrames (T.setVm s.vm).frames with heap := T.heap, slotsUsed := T.slotsUsed }
      rw [State.setFrames_setFrames, State.setFrames_self ht]
      rfl
    · show T.slotsUsed = T.slotsUsed + ((T.heap.toList.drop T.heap.size).map (·.slots.size)).sum
      rw [List.drop_eq_nil_of_le (Nat.le_of_eq Array.length_toList)]
      rfl
    · show ((T.heap.toList.drop T.heap.size).map (·.slots.size)).sum ≤ 0
      rw [List.drop_eq_nil_of_le (Nat.le_of_eq Array.length_toList)]
      exact Nat.le_refl _
/-- 'throw new E()': new; dup; invokespecial; athrow -/
theorem vx_throw0 {cc : ByteArray} {pc : Nat} (hexec : p.tables.exec = Jvm.exec) (hb : c.code = cc) (hl : l.stackTraces = false) {own cls : String} {names : List String} {ik ic mc ms : Nat} {A : Nat → Prop}
    (hown : s.vm.findClass own = some m.cls) (hcls : Bundle.fit cls = true) (hnames : ∀ n ∈ names, Bundle.fit n = true)
    (hk : (Cond.classLink own ik cls).before args s = true) (hini : (Cond.initialized cls).before args s = true) (hat : ∀ w ∈ vx_at0 own ic cls names, w.before args s = true)
    (hgood : ∀ w ∈ Cond.classLink own ik cls :: Cond.initialized cls :: vx_at0 own ic cls names, vx_ot w = true)
    (hU : vx_Zq Bundle.tN "UNASSIGNED_STACK" Bundle.steD A s s.heap) (hN : vx_Zq Bundle.tN "SUPPRESSED_SENTINEL" Bundle.listD A s s.heap) (hS : va_S A s.heap H locs) (hsize : ls.size = c.maxLocals)
    (d0 : decode cc pc = .ok (.new ik, 3)) (d3 : decode cc (pc + 3) = .ok (.dup, 1)) (d4 : decode cc (pc + 4) = .ok (.invokespecial ic, 3)) (d7 : decode cc (pc + 7) = .ok (.athrow, 1))
    (hout : ∀ x ∈ c.exceptionTable.toList, covers x (pc + 7) = false)
    (hRframes : names.length + 3 < R.frames) (hRlocals : (rest.map fun v => v.category).sum + (13 * (names.length + 1) + 42) ≤ R.locals) (hRcells : cells + 1 ≤ R.cells) (hRslots : slots + 6 ≤ R.slots) (hlocks : meth.locks = false)
    (hx : ∀ t : State, s.vm.Alike t.vm → H.size ≤ t.heap.size → (∀ q : Nat, q < H.size → t.heap[q]? = H[q]?) → XC cls s t)
    (hf : ∀ z ∈ locs, free z.base) (hc : cells + 1 ≤ mc) (hs : slots + 6 ≤ ms) :
    W p l e R s m args below meth c H locs cells slots (vx_MQ below Qc XC args s mc ms free) (F0 m pc ls rest) := by
  intro T hT X
  have htr : e.platform.stackTraces = false := (show e.platform.stackTraces = l.stackTraces by rw [X.admits.platform]).trans hl
  have Y := vx_rebase X (R' := { frames := R.frames, locals := R.locals, cells := 1, slots := 6 }) (Nat.le_refl _) (Nat.le_refl _) hRcells hRslots
  obtain ⟨s', hA⟩ : ∃ z, z = (T.setVm s.vm).setFrames (.invoking m args :: below) := ⟨_, rfl⟩
  rw [← hA] at Y
  have hvm : s'.vm = s.vm := by rw [hA]; rfl
  have hhp : s'.heap = H := by rw [hA]; exact hT
  have hW0 : s.WarmedH s'.vm := by rw [hvm]; exact State.WarmedH.refl s
  have hat' : ∀ w ∈ vx_at0 own ic cls names, w.before args s' = true := fun w hw => vx_ot_at hW0 hvm.symm (hgood w (List.mem_cons_of_mem _ (List.mem_cons_of_mem _ hw))) (hat w hw)
  have hk' : (Cond.classLink own ik cls).before args s' = true := vx_ot_at hW0 hvm.symm (hgood _ List.mem_cons_self) hk
  have hini' : (Cond.initialized cls).before args s' = true := vx_ot_at hW0 hvm.symm (hgood _ (List.mem_cons_of_mem _ List.mem_cons_self)) hini
  have hU' : vx_Zq Bundle.tN "UNASSIGNED_STACK" Bundle.steD A s' s'.heap := by rw [hhp]; exact vx_Zq.moved hW0.alike (hU.kept hS.2.1)
  have hN' : vx_Zq Bundle.tN "SUPPRESSED_SENTINEL" Bundle.listD A s' s'.heap := by rw [hhp]; exact vx_Zq.moved hW0.alike (hN.kept hS.2.1)
  have h : ∀ w ∈ Bundle.ownAtoms0 own ic cls names, w.before args s' = true := vx_own hat' (vx_isRefq hU'.1) (vx_isRefq hN'.1) hU'.2.word hN'.2.word
  have hown' : s'.vm.findClass own = some m.cls := by rw [hvm]; exact hown
  have hins : (Cond.instantiable cls 6).before args s' = true := h _ (by simp [Bundle.ownAtoms0])
  obtain ⟨vm₁, cX, kX, hfX, hkX, -, -, X₁, st1⟩ := Y.newCold hexec (own := own) (C := cls) (index := ik) (n := 6) hown' hk' hins hini'
    (g := F0 m pc ls rest) rfl (by rw [hb]; exact d0) (Nat.le_refl _) (Nat.le_refl _)
  generalize hT1 : (T.setVm vm₁).pushCell { cls := cX, slots := kX.instanceTypes.map defaultValue, vm := .none } = T1 at X₁ st1
  have hcat : (Value.ref T.heap.size).category = 1 := rfl
  have hcellA : T1.heap[T.heap.size]? = some (freshCell cX kX) := by rw [← hT1]; exact State.heap_pushCell_size _ _
  have d3' : decode c.code (pc + 3) = .ok (.dup, 1) := by rw [hb]; exact d3
  obtain ⟨U, hsteps, hrun, hend, hW, hsame, ce, hce, hO⟩ := X₁.ctorThrow0 hexec htr (own := own) (cls := cls) (names := names) (ic := ic) hown' hcls hnames h (fun x hx => nomatch hx) hfX hkX hcellA (by rw [hhp, hT]; exact Nat.le_refl _)
    (g := { method := m, pc := pc + 4, locals := ls, stack := .ref T.heap.size :: .ref T.heap.size :: rest, locked := none }) rfl hsize rfl rfl (rest := rest) rfl
    (by rw [hb]; exact d4) (by rw [hb]; exact d7) hout hRframes (by simp only [List.map_cons, List.sum_cons, hcat]; omega) hlocks
  obtain ⟨f1, f2⟩ := vx_frame hsame
  rw [hhp] at f1 f2
  have hWs : s.WarmedH U.vm := State.WarmedH.trans hW0 hW
  have hcl : s.vm.findClass cls = some ce.cls := by
    have h9 := hO.cls
    rw [hvm] at h9
    exact h9
  have hall : s.sameButNew ({ U with vm := s.vm } : State) locs mc ms := by
    subst hA
    obtain ⟨e1, e2⟩ := hsame
    rw [State.setFrames_setFrames] at e1
    have h2 : (T.setVm s.vm).sameButNew ({ U with vm := s.vm } : State) [] (0 + 1) (0 + 6) := ⟨e1, e2⟩
    have h3 := X.same.trans h2
    rw [List.append_nil] at h3
    exact h3.mono hc hs
  refine ⟨U, ?_, .threw T.heap.size, hrun, hend, Or.inr ⟨T.heap.size, rfl, cls, ce, locs, hx U hWs.alike f1 (fun q hq => f2 q hq (fun z hz => nomatch hz)), hce, hO.vm, hcl, hWs, hall, hf⟩⟩
  refine st1 _ ?_
  show Steps p.tables e below (T1.setTop { method := m, pc := pc + 3, locals := ls, stack := .ref T.heap.size :: rest, locked := none }) _
  jvm_step X₁.here [X₁.here.top, hexec, d3', Value.category]
  exact hsteps
/-- 'throw new E("text")': new; dup; ldc; invokespecial; athrow -/
theorem vx_throwS {cc : ByteArray} {pc : Nat} (hexec : p.tables.exec = Jvm.exec) (hb : c.code = cc) (hl : l.stackTraces = false) {own cls text : String} {names : List String} {ik is ic mc ms sa : Nat} {A : Nat → Prop}
    (hown : s.vm.findClass own = some m.cls) (hcls : Bundle.fit cls = true) (hnames : ∀ n ∈ names, Bundle.fit n = true)
    (hk : (Cond.classLink own ik cls).before args s = true) (hini : (Cond.initialized cls).before args s = true) (hstr : vk_R own is text sa s) (hat : ∀ w ∈ vx_atS own ic cls names, w.before args s = true)
    (hgood : ∀ w ∈ Cond.classLink own ik cls :: Cond.initialized cls :: vx_atS own ic cls names, vx_ot w = true)
    (hU : vx_Zq Bundle.tN "UNASSIGNED_STACK" Bundle.steD A s s.heap) (hN : vx_Zq Bundle.tN "SUPPRESSED_SENTINEL" Bundle.listD A s s.heap) (hS : va_S A s.heap H locs) (hsize : ls.size = c.maxLocals)
    (d0 : decode cc pc = .ok (.new ik, 3)) (d3 : decode cc (pc + 3) = .ok (.dup, 1)) (d4 : decode cc (pc + 4) = .ok (.ldc is, 2)) (d6 : decode cc (pc + 6) = .ok (.invokespecial ic, 3)) (d9 : decode cc (pc + 9) = .ok (.athrow, 1))
    (hout : ∀ x ∈ c.exceptionTable.toList, covers x (pc + 9) = false)
    (hRframes : names.length + 3 < R.frames) (hRlocals : (rest.map fun v => v.category).sum + (13 * (names.length + 1) + 43) ≤ R.locals) (hRcells : cells + 1 ≤ R.cells) (hRslots : slots + 6 ≤ R.slots) (hlocks : meth.locks = false)
    (hx : ∀ t : State, s.vm.Alike t.vm → H.size ≤ t.heap.size → (∀ q : Nat, q < H.size → t.heap[q]? = H[q]?) → XC cls s t)
    (hf : ∀ z ∈ locs, free z.base) (hc : cells + 1 ≤ mc) (hs : slots + 6 ≤ ms) :
    W p l e R s m args below meth c H locs cells slots (vx_MQ below Qc XC args s mc ms free) (F0 m pc ls rest) := by
  intro T hT X
  have htr : e.platform.stackTraces = false := (show e.platform.stackTraces = l.stackTraces by rw [X.admits.platform]).trans hl
  have Y := vx_rebase X (R' := { frames := R.frames, locals := R.locals, cells := 1, slots := 6 }) (Nat.le_refl _) (Nat.le_refl _) hRcells hRslots
  obtain ⟨s', hA⟩ : ∃ z, z = (T.setVm s.vm).setFrames (.invoking m args :: below) := ⟨_, rfl⟩
  rw [← hA] at Y
  have hvm : s'.vm = s.vm := by rw [hA]; rfl
  have hhp : s'.heap = H := by rw [hA]; exact hT
  have hW0 : s.WarmedH s'.vm := by rw [hvm]; exact State.WarmedH.refl s
  have hat' : ∀ w ∈ vx_atS own ic cls names, w.before args s' = true := fun w hw => vx_ot_at hW0 hvm.symm (hgood w (List.mem_cons_of_mem _ (List.mem_cons_of_mem _ hw))) (hat w hw)
  have hk' : (Cond.classLink own ik cls).before args s' = true := vx_ot_at hW0 hvm.symm (hgood _ List.mem_cons_self) hk
  have hini' : (Cond.initialized cls).before args s' = true := vx_ot_at hW0 hvm.symm (hgood _ (List.mem_cons_of_mem _ List.mem_cons_self)) hini
  have hU' : vx_Zq Bundle.tN "UNASSIGNED_STACK" Bundle.steD A s' s'.heap := by rw [hhp]; exact vx_Zq.moved hW0.alike (hU.kept hS.2.1)
  have hN' : vx_Zq Bundle.tN "SUPPRESSED_SENTINEL" Bundle.listD A s' s'.heap := by rw [hhp]; exact vx_Zq.moved hW0.alike (hN.kept hS.2.1)
  have h : ∀ w ∈ Bundle.ownAtoms own ic cls names, w.before args s' = true := vx_own hat' (vx_isRefq hU'.1) (vx_isRefq hN'.1) hU'.2.word hN'.2.word
  have hown' : s'.vm.findClass own = some m.cls := by rw [hvm]; exact hown
  have hins : (Cond.instantiable cls 6).before args s' = true := h _ (by simp [Bundle.ownAtoms])
  obtain ⟨vm₁, cX, kX, hfX, hkX, -, -, X₁, st1⟩ := Y.newCold hexec (own := own) (C := cls) (index := ik) (n := 6) hown' hk' hins hini'
    (g := F0 m pc ls rest) rfl (by rw [hb]; exact d0) (Nat.le_refl _) (Nat.le_refl _)
  generalize hT1 : (T.setVm vm₁).pushCell { cls := cX, slots := kX.instanceTypes.map defaultValue, vm := .none } = T1 at X₁ st1
  have hcat : (Value.ref T.heap.size).category = 1 := rfl
  have hcellA : T1.heap[T.heap.size]? = some (freshCell cX kX) := by rw [← hT1]; exact State.heap_pushCell_size _ _
  have d3' : decode c.code (pc + 3) = .ok (.dup, 1) := by rw [hb]; exact d3
  have d4' : decode c.code (pc + 4) = .ok (.ldc is, 2) := by rw [hb]; exact d4
  have hstr' : vk_R own is text sa s' := vk_R.warm hW0 hstr
  obtain ⟨U, hsteps, hrun, hend, hW, hsame, ce, hce, hO⟩ := X₁.ctorThrowS hexec htr (own := own) (cls := cls) (names := names) (ic := ic) hown' hcls hnames h (fun x hx => nomatch hx) hfX hkX hcellA (by rw [hhp, hT]; exact Nat.le_refl _) (msg := .ref sa) rfl
    (g := { method := m, pc := pc + 6, locals := ls, stack := .ref sa :: .ref T.heap.size :: .ref T.heap.size :: rest, locked := none }) rfl hsize rfl rfl (rest := rest) rfl
    (by rw [hb]; exact d6) (by rw [hb]; exact d9) hout hRframes (by simp only [List.map_cons, List.sum_cons, hcat]; omega) hlocks
  obtain ⟨f1, f2⟩ := vx_frame hsame
  rw [hhp] at f1 f2
  have hWs : s.WarmedH U.vm := State.WarmedH.trans hW0 hW
  have hcl : s.vm.findClass cls = some ce.cls := by
    have h9 := hO.cls
    rw [hvm] at h9
    exact h9
  have hall : s.sameButNew ({ U with vm := s.vm } : State) locs mc ms := by
    subst hA
    obtain ⟨e1, e2⟩ := hsame
    rw [State.setFrames_setFrames] at e1
    have h2 : (T.setVm s.vm).sameButNew ({ U with vm := s.vm } : State) [] (0 + 1) (0 + 6) := ⟨e1, e2⟩
    have h3 := X.same.trans h2
    rw [List.append_nil] at h3
    exact h3.mono hc hs
  refine ⟨U, ?_, .threw T.heap.size, hrun, hend, Or.inr ⟨T.heap.size, rfl, cls, ce, locs, hx U hWs.alike f1 (fun q hq => f2 q hq (fun z hz => nomatch hz)), hce, hO.vm, hcl, hWs, hall, hf⟩⟩
  refine st1 _ ?_
  show Steps p.tables e below (T1.setTop { method := m, pc := pc + 3, locals := ls, stack := .ref T.heap.size :: rest, locked := none }) _
  jvm_step X₁.here [X₁.here.top, hexec, d3', Value.category]
  exact X₁.ldcString hexec (own := own) (text := text) (index := is) (a := sa) hown' hstr'.1 hstr'.2
    (g := { method := m, pc := pc + 4, locals := ls, stack := .ref T.heap.size :: .ref T.heap.size :: rest, locked := none }) rfl d4' _ hsteps
/-- 'throw new E("text")', the text by a wide index -/
theorem vx_throwSW {cc : ByteArray} {pc : Nat} (hexec : p.tables.exec = Jvm.exec) (hb : c.code = cc) (hl : l.stackTraces = false) {own cls text : String} {names : List String} {ik is ic mc ms sa : Nat} {A : Nat → Prop}
    (hown : s.vm.findClass own = some m.cls) (hcls : Bundle.fit cls = true) (hnames : ∀ n ∈ names, Bundle.fit n = true)
    (hk : (Cond.classLink own ik cls).before args s = true) (hini : (Cond.initialized cls).before args s = true) (hstr : vk_R own is text sa s) (hat : ∀ w ∈ vx_atS own ic cls names, w.before args s = true)
    (hgood : ∀ w ∈ Cond.classLink own ik cls :: Cond.initialized cls :: vx_atS own ic cls names, vx_ot w = true)
    (hU : vx_Zq Bundle.tN "UNASSIGNED_STACK" Bundle.steD A s s.heap) (hN : vx_Zq Bundle.tN "SUPPRESSED_SENTINEL" Bundle.listD A s s.heap) (hS : va_S A s.heap H locs) (hsize : ls.size = c.maxLocals)
    (d0 : decode cc pc = .ok (.new ik, 3)) (d3 : decode cc (pc + 3) = .ok (.dup, 1)) (d4 : decode cc (pc + 4) = .ok (.ldc_w is, 3)) (d7 : decode cc (pc + 7) = .ok (.invokespecial ic, 3)) (d10 : decode cc (pc + 10) = .ok (.athrow, 1))
    (hout : ∀ x ∈ c.exceptionTable.toList, covers x (pc + 10) = false)
    (hRframes : names.length + 3 < R.frames) (hRlocals : (rest.map fun v => v.category).sum + (13 * (names.length + 1) + 43) ≤ R.locals) (hRcells : cells + 1 ≤ R.cells) (hRslots : slots + 6 ≤ R.slots) (hlocks : meth.locks = false)
    (hx : ∀ t : State, s.vm.Alike t.vm → H.size ≤ t.heap.size → (∀ q : Nat, q < H.size → t.heap[q]? = H[q]?) → XC cls s t)
    (hf : ∀ z ∈ locs, free z.base) (hc : cells + 1 ≤ mc) (hs : slots + 6 ≤ ms) :
    W p l e R s m args below meth c H locs cells slots (vx_MQ below Qc XC args s mc ms free) (F0 m pc ls rest) := by
  intro T hT X
  have htr : e.platform.stackTraces = false := (show e.platform.stackTraces = l.stackTraces by rw [X.admits.platform]).trans hl
  have Y := vx_rebase X (R' := { frames := R.frames, locals := R.locals, cells := 1, slots := 6 }) (Nat.le_refl _) (Nat.le_refl _) hRcells hRslots
  obtain ⟨s', hA⟩ : ∃ z, z = (T.setVm s.vm).setFrames (.invoking m args :: below) := ⟨_, rfl⟩
  rw [← hA] at Y
  have hvm : s'.vm = s.vm := by rw [hA]; rfl
  have hhp : s'.heap = H := by rw [hA]; exact hT
  have hW0 : s.WarmedH s'.vm := by rw [hvm]; exact State.WarmedH.refl s
  have hat' : ∀ w ∈ vx_atS own ic cls names, w.before args s' = true := fun w hw => vx_ot_at hW0 hvm.symm (hgood w (List.mem_cons_of_mem _ (List.mem_cons_of_mem _ hw))) (hat w hw)
  have hk' : (Cond.classLink own ik cls).before args s' = true := vx_ot_at hW0 hvm.symm (hgood _ List.mem_cons_self) hk
  have hini' : (Cond.initialized cls).before args s' = true := vx_ot_at hW0 hvm.symm (hgood _ (List.mem_cons_of_mem _ List.mem_cons_self)) hini
  have hU' : vx_Zq Bundle.tN "UNASSIGNED_STACK" Bundle.steD A s' s'.heap := by rw [hhp]; exact vx_Zq.moved hW0.alike (hU.kept hS.2.1)
  have hN' : vx_Zq Bundle.tN "SUPPRESSED_SENTINEL" Bundle.listD A s' s'.heap := by rw [hhp]; exact vx_Zq.moved hW0.alike (hN.kept hS.2.1)
  have h : ∀ w ∈ Bundle.ownAtoms own ic cls names, w.before args s' = true := vx_own hat' (vx_isRefq hU'.1) (vx_isRefq hN'.1) hU'.2.word hN'.2.word
  have hown' : s'.vm.findClass own = some m.cls := by rw [hvm]; exact hown
  have hins : (Cond.instantiable cls 6).before args s' = true := h _ (by simp [Bundle.ownAtoms])
  obtain ⟨vm₁, cX, kX, hfX, hkX, -, -, X₁, st1⟩ := Y.newCold hexec (own := own) (C := cls) (index := ik) (n := 6) hown' hk' hins hini'
    (g := F0 m pc ls rest) rfl (by rw [hb]; exact d0) (Nat.le_refl _) (Nat.le_refl _)
  generalize hT1 : (T.setVm vm₁).pushCell { cls := cX, slots := kX.instanceTypes.map defaultValue, vm := .none } = T1 at X₁ st1
  have hcat : (Value.ref T.heap.size).category = 1 := rfl
  have hcellA : T1.heap[T.heap.size]? = some (freshCell cX kX) := by rw [← hT1]; exact State.heap_pushCell_size _ _
  have d3' : decode c.code (pc + 3) = .ok (.dup, 1) := by rw [hb]; exact d3
  have d4' : decode c.code (pc + 4) = .ok (.ldc_w is, 3) := by rw [hb]; exact d4
  have hstr' : vk_R own is text sa s' := vk_R.warm hW0 hstr
  obtain ⟨U, hsteps, hrun, hend, hW, hsame, ce, hce, hO⟩ := X₁.ctorThrowS hexec htr (own := own) (cls := cls) (names := names) (ic := ic) hown' hcls hnames h (fun x hx => nomatch hx) hfX hkX hcellA (by rw [hhp, hT]; exact Nat.le_refl _) (msg := .ref sa) rfl
    (g := { method := m, pc := pc + 7, locals := ls, stack := .ref sa :: .ref T.heap.size :: .ref T.heap.size :: rest, locked := none }) rfl hsize rfl rfl (rest := rest) rfl
    (by rw [hb]; exact d7) (by rw [hb]; exact d10) hout hRframes (by simp only [List.map_cons, List.sum_cons, hcat]; omega) hlocks
  obtain ⟨f1, f2⟩ := vx_frame hsame
  rw [hhp] at f1 f2
  have hWs : s.WarmedH U.vm := State.WarmedH.trans hW0 hW
  have hcl : s.vm.findClass cls = some ce.cls := by
    have h9 := hO.cls
    rw [hvm] at h9
    exact h9
  have hall : s.sameButNew ({ U with vm := s.vm } : State) locs mc ms := by
    subst hA
    obtain ⟨e1, e2⟩ := hsame
    rw [State.setFrames_setFrames] at e1
    have h2 : (T.setVm s.vm).sameButNew ({ U with vm := s.vm } : State) [] (0 + 1) (0 + 6) := ⟨e1, e2⟩
    have h3 := X.same.trans h2
    rw [List.append_nil] at h3
    exact h3.mono hc hs
  refine ⟨U, ?_, .threw T.heap.size, hrun, hend, Or.inr ⟨T.heap.size, rfl, cls, ce, locs, hx U hWs.alike f1 (fun q hq => f2 q hq (fun z hz => nomatch hz)), hce, hO.vm, hcl, hWs, hall, hf⟩⟩
  refine st1 _ ?_
  show Steps p.tables e below (T1.setTop { method := m, pc := pc + 3, locals := ls, stack := .ref T.heap.size :: rest, locked := none }) _
  jvm_step X₁.here [X₁.here.top, hexec, d3', Value.category]
  exact X₁.ldcStringW hexec (own := own) (text := text) (index := is) (a := sa) hown' hstr'.1 hstr'.2
    (g := { method := m, pc := pc + 4, locals := ls, stack := .ref T.heap.size :: .ref T.heap.size :: rest, locked := none }) rfl d4' _ hsteps
end Ends
section Bodies
variable {l : Launch}
theorem vx_ofW {y : MethodName} {ws ws' : List Cond} {rm : Room} {Pc : Array Value → State → Prop} {Qc : Array Value → State → Outcome → State → Prop} {XC : String → State → State → Prop} {mc ms : Nat} {free : Addr → Prop} {cc : ByteArray} {maxL : Nat} {ret : Option FieldType}
    (hy : plainName y.cls = true) (hw : ws = Cond.code y cc maxL ret :: ws')
    (body : ∀ p e s m args below meth c s₁, BodyLoose p l y (headSpec ws rm) cc maxL ret e s m args below meth c s₁ → c.maxLocals = maxL → (∀ x ∈ c.exceptionTable.toList, False) → Pc args s →
      W p l e (headSpec ws rm).room s m args below meth c s.heap [] 0 0 (vx_MQ below Qc XC args s mc ms free) (entryFrame m args maxL)) : vx_Met l y ws rm Pc Qc XC mc ms free := by
  refine MetFree.of_bodyS (code := cc) (maxLocals := maxL) (ret := ret) hy ?_ ?_
  · intro args s m h hn
    obtain ⟨meth, c, h1, h2, h3, h4, h5, h6, -, -⟩ := Cond.code_spec hn (atoms_spec (ws := ws) h _ (by rw [hw]; exact List.mem_cons_self))
    exact ⟨meth, c, h1, h2, h3, h4, h5, h6⟩
  · intro p e s m args below meth c s₁ B hml hP _
    have hh0 : s₁.heap = s.heap := by rw [B.state]; rfl
    have ht : ∀ x ∈ c.exceptionTable.toList, False := by
      obtain ⟨meth9, c9, h1, h2, -, -, -, -, h7, -⟩ := Cond.code_spec B.named (atoms_spec (ws := ws) B.pre _ (by rw [hw]; exact List.mem_cons_self))
      cases Option.some.inj (h1.symm.trans B.method)
      cases Option.some.inj (h2.symm.trans (Stand.of_body B).code)
      intro x hx
      rw [Array.isEmpty_iff.mp h7] at hx
      cases hx
    obtain ⟨t, a1, o, b1, b2, b3⟩ := body p e s m args below meth c s₁ B hml ht hP s₁ hh0 (Stand.of_body B)
    exact ⟨t, o, a1, b1, b2, b3⟩
/-- the table of a body with handlers -/
theorem vx_table {p : Program} {x y : MethodName} {S : Spec} {cc bytes : ByteArray} {maxL maxL' : Nat} {ret ret' : Option FieldType} {e : Env} {s s₁ : State} {m : MethodId} {args : Array Value} {below : List Frame} {meth : Method} {c : Code} {hh : List (Nat × Nat × Nat × Nat)}
    (B : BodyLoose p l y S cc maxL ret e s m args below meth c s₁) (h : (Cond.codeWith y bytes maxL' ret' hh).before args s = true) : c.exceptionTable.toList = tableOf hh := by
  obtain ⟨m9, meth9, c9, hn9, h1, h2, -, -, h6, -⟩ := Cond.codeWith_spec h
  cases Option.some.inj (hn9.symm.trans B.named)
  cases Option.some.inj (h1.symm.trans B.method)
  cases Option.some.inj (h2.symm.trans (Stand.of_body B).code)
  rw [← h6, table_eq]
end Bodies
end VXA
/-! ===== END ===== -/
/-! ===== BEGIN a static call of a method with an exception table ===== -/
section VXS
variable {p : Program} {l : Launch} {e : Env} {R : Room} {s : State} {m : MethodId} {args : Array Value} {below : List Frame} {meth : Method} {c : Code} {T : State} {H : Heap} {locs : List Loc} {cells slots : Nat}
abbrev vx_CSW (R : Room) (s : State) (args : Array Value) (own : String) (index : Nat) (y : MethodName) (bytes : ByteArray) (maxL : Nat) (ret : Option FieldType) (hh : List (Nat × Nat × Nat × Nat)) (ws : List Cond) (rm : Room) (mc ms n : Nat) : Prop :=
  (rm.cells = mc ∧ rm.slots = ms ∧ rm.frames + 1 ≤ R.frames ∧ 8 + (maxL + 11) + rm.locals ≤ R.locals ∧ (∀ w ∈ ws, ∀ (a' : Array Value) (U : State), s.WarmedH U.vm → w.before a' U = true) ∧ Cond.codeWith y bytes maxL ret hh ∈ ws) ∧
  (Cond.codeWith y bytes maxL ret hh).before args s = true ∧ (Cond.initialized y.cls).before args s = true ∧ (y.cls ≠ "java/lang/invoke/MethodHandle" ∧ y.cls ≠ "java/lang/invoke/VarHandle") ∧
  (∀ sig, parseMethodDescriptor y.desc = some sig → n = sig.parameters.length) ∧ (Cond.methodLink own index y).before args s = true ∧ (Cond.static y).before args s = true
theorem vx_cwSW {own : String} {index maxL mc ms : Nat} {y : MethodName} {bytes : ByteArray} {ret : Option FieldType} {hh : List (Nat × Nat × Nat × Nat)} {Ts ws ws' : List Cond} {rm : Room} (n : Nat) (ht : ∀ w ∈ Ts, w.before args s = true) (hT : GoodIn Ts (va_wsS own index y ws)) (hw : ws = Cond.codeWith y bytes maxL ret hh :: ws') (hrc : rm.cells = mc) (hrs : rm.slots = ms)
    (hd : y.cls ≠ "java/lang/invoke/MethodHandle" ∧ y.cls ≠ "java/lang/invoke/VarHandle" ∧ (parseMethodDescriptor y.desc).map (fun d => d.parameters.length) = some n) (hR : rm.frames + 1 ≤ R.frames ∧ 8 + (maxL + 11) + rm.locals ≤ R.locals) :
    vx_CSW R s args own index y bytes maxL ret hh ws rm mc ms n := by
  have ok : ∀ w ∈ va_wsS own index y ws, w.before args s = true := fun w h => ht w (hT w h).1
  have hG : GoodIn Ts ws := fun w h => hT w (by unfold va_wsS; exact List.mem_append_right _ h)
  have hc : Cond.codeWith y bytes maxL ret hh ∈ ws := by rw [hw]; exact List.mem_cons_self
  refine ⟨⟨hrc, hrs, hR.1, hR.2, pay_in ht hG, hc⟩, ht _ (hG _ hc).1, ok _ (by simp [va_wsS]), ⟨hd.1, hd.2.1⟩, fun sig h => ?_, ok _ (by simp [va_wsS]), ok _ (by simp [va_wsS])⟩
  have h2 := hd.2.2
  rw [h] at h2
  exact (Option.some.inj h2).symm
theorem vx_callSW (X : Stand p l e R s m args below meth c T locs cells slots) (hexec : p.tables.exec = Jvm.exec) {own : String} {index : Nat} {y : MethodName} {bytes : ByteArray} {maxL : Nat} {ret : Option FieldType} {hh : List (Nat × Nat × Nat × Nat)}
    (hown : s.vm.findClass own = some m.cls) (hlink : (Cond.methodLink own index y).before args s = true) (hstat : (Cond.static y).before args s = true) (hinit : (Cond.initialized y.cls).before args s = true)
    (hcode : (Cond.codeWith y bytes maxL ret hh).before args s = true) (hy : y.cls ≠ "java/lang/invoke/MethodHandle" ∧ y.cls ≠ "java/lang/invoke/VarHandle")
    {W9 : Nat} {Pre : Pt → Array Value → Prop} {Post : Pt → Array Value → Option Value → Pt → Prop} (hK : Back l R p e below s args y 3 W9 Pre Post)
    {g : JFrame} (hg : g.method = m) (hsize : g.locals.size = c.maxLocals) {argsL rest : List Value} (hlen : ∀ sig, parseMethodDescriptor y.desc = some sig → argsL.length = sig.parameters.length)
    (hstack : g.stack = argsL.reverse ++ rest) (hW : 2 * g.monitorRoom + (rest.map fun v => v.category).sum ≤ W9) (hdg : decode c.code g.pc = .ok (.invokestatic index, 3))
    (hpre : ∀ vm₁, s.WarmedH vm₁ → Pre ⟨T.setVm vm₁, locs, cells, slots⟩ argsL.toArray) :
    ∃ (v : Option Value) (vm₁ : Vm) (B : Pt), s.WarmedH vm₁ ∧ Stand p l e R s m args below meth c B.U B.locs B.cells B.slots ∧ Post ⟨T.setVm vm₁, locs, cells, slots⟩ argsL.toArray v B ∧
      ∀ target, Steps p.tables e below (B.U.setTop { g with pc := g.pc + 3, stack := v.toList ++ rest }) target → Steps p.tables e below (T.setTop g) target := by
  obtain ⟨mk, methM, cM, hnamed, hmethM, -, -, -, -, -, -, hsigM⟩ := Cond.codeWith_spec hcode
  have hstatic : methM.isStatic = true := Cond.static_spec hnamed hmethM hstat
  obtain ⟨kP, hkP, -⟩ := className_of_methodNamed hnamed
  have hinitP : kP.init = .initialized := Cond.initialized_spec (findClass_of_methodNamed hnamed) hkP hinit
  obtain ⟨vm₁, X₁, hstep₁⟩ := X.invokestatic hexec hown hlink hnamed hmethM hstatic hkP hinitP hy (g := g) hg (argsL := argsL) (rest := rest) (hlen _ hsigM) hstack hdg
  obtain ⟨v, B, X', hpost, hsteps⟩ := hK m meth c ⟨T.setVm vm₁, locs, cells, slots⟩ { g with stack := rest } (.invokestatic index) mk argsL.toArray X₁ hg hsize hdg hW (X₁.named hnamed) (hpre vm₁ X₁.warmed)
  exact ⟨v, vm₁, B, X₁.warmed, X', hpost, fun target h => hstep₁ _ fun acts => by rw [doInvoke_state]; exact hsteps.trans h⟩
theorem vx_runSW {y : MethodName} {bytes cc : ByteArray} {maxL nL mc ms n index : Nat} {ret : Option FieldType} {hh : List (Nat × Nat × Nat × Nat)} {ws : List Cond} {rm : Room} {Pc : Array Value → State → Prop} {Qc : Array Value → State → Outcome → State → Prop} {free : Addr → Prop} {Ts : List Cond} {own : String} {As rest : List Value} {g : JFrame}
    (S : CallFix p m c cc nL s args Ts own) (hM : Met l y ws rm Pc Qc mc ms free) (cw : vx_CSW R s args own index y bytes maxL ret hh ws rm mc ms n) (hp : PreS s H Pc As)
    (hg : g.method = m) (hn : As.length = n) (hsize : g.locals.size = nL) (hstack : g.stack = As.reverse ++ rest) (hW : 2 * g.monitorRoom + (rest.map fun v => v.category).sum ≤ 8) (hdg : decode cc g.pc = .ok (.invokestatic index, 3)) (hf : cells + mc ≤ R.cells ∧ slots + ms ≤ R.slots) :
    va_Run p l e R s m args below meth c H locs cells slots mc ms g rest (Qc As.toArray) (free) := by
  obtain ⟨⟨hrc, hrs, hfr, hlo, hws, hcw⟩, hcode, hini, hy, hlen, hl, hstt⟩ := cw
  have hK : Back l R p e below s args y 3 8 (PreOf R mc ms Pc) (PostOf Qc mc ms free) := va_backW (hh := hh) (bytes := bytes) (maxL := maxL) (ret := ret) hM hp.1 hrc hrs hfr hlo hws hcw (fun a' U hW => word_at hW (Or.inl (by first | rfl | simp [Cond.onTables, Cond.keeps, Cond.steady])) hini)
  obtain ⟨hx, hb, hml, ho, -⟩ := S
  intro T hT X
  obtain ⟨v, vm₁, ⟨U', l2, c2, s2⟩, hW₁, X', ⟨g', mk, t, L, e1, e2, hq, h1, hL, h2, h3⟩, st⟩ := vx_callSW X hx (hh := hh) (bytes := bytes) (maxL := maxL) (ret := ret) ho hl hstt hini hcode hy hK hg (hsize.trans hml.symm) (argsL := As) (rest := rest) (fun sig h => hn.trans (hlen sig h)) hstack hW (by rw [hb]; exact hdg)
    (fun vm₁ hW₁ => ⟨hf.1, hf.2, hp.2 (T.setVm vm₁) hT hW₁⟩)
  dsimp only [Pt.U, Pt.locs, Pt.cells, Pt.slots] at X' e1 e2 h1 h2 h3 st
  subst h1; subst h2; subst h3
  exact ⟨v, (T.setVm vm₁).calling g' mk As.toArray, t, U', L, hT, X', hL, e1, e2, hq, st⟩
/-- a thing of a world lies in the heap -/
theorem vx_lt {D : va_G} {cl : List vw_C} {ws : va_W} {H1 : Heap} (h : va_P D cl ws H1) {k : Nat} {q : Nat × va_E} (hk : ws[k]? = some q) : q.1 < H1.size := (h k q hk).lt
end VXS
/-! ===== END ===== -/
/-! ===== BEGIN methods with a table of their own: called by a name, returning or throwing ===== -/
section VXH
/-! vx_backW, vx_callVX, vx_callSX, vx_callVW, vx_runVW, vx_runVX, vx_runSX, vx_ofWH follow the same proofs as their sisters above (Free/Laws.lean, Shelf42/LK1.lean); vx_outP calls Shelf42/NT130.lean (outThrough). -/
section
variable {l : Launch} {R : Room} {p : Program} {e : Env} {below : List Frame} {s : State} {sargs : Array Value} {y : MethodName} {len W9 : Nat}
theorem vx_backW {ws : List Cond} {rm : Room} {Pc : Array Value → State → Prop} {Qc : Array Value → State → Outcome → State → Prop} {XC : String → State → State → Prop} {mc ms : Nat} {free : Addr → Prop} {bytes : ByteArray} {maxL : Nat} {ret : Option FieldType} {hh : List (Nat × Nat × Nat × Nat)}
    (hM : vx_Met l y ws rm Pc Qc XC mc ms free) (hblind : FrameBlind Pc) (hrc : rm.cells = mc) (hrs : rm.slots = ms)
    (hframes : rm.frames + 1 ≤ R.frames) (hlocals : W9 + (maxL + 11) + rm.locals ≤ R.locals)
    (hws : ∀ w ∈ ws, ∀ a' U, s.WarmedH U.vm → w.before a' U = true) (hcode : Cond.codeWith y bytes maxL ret hh ∈ ws) (hinit : ∀ a' U, s.WarmedH U.vm → (Cond.initialized y.cls).before a' U = true) :
    vx_Back l R p e below s sargs y len W9 (PreOf R mc ms Pc) (PostOf Qc mc ms free) (vx_Post XC mc ms free) := by
  intro m meth c A g ig mk a X hg hsize hdg hW hn hp
  have h1 : (headSpec ws rm).pre.before a A.U = true := atoms_intro fun w hw => hws w hw _ _ X.warmed
  have h2 : (Cond.codeWith y bytes maxL ret hh).before a A.U = true := hws _ hcode _ _ X.warmed
  have h3 : (Cond.initialized y.cls).before a A.U = true := hinit _ _ X.warmed
  have h4 : A.cells + (headSpec ws rm).room.cells ≤ R.cells := by rw [show (headSpec ws rm).room.cells = mc from hrc]; exact hp.1
  have h5 : A.slots + (headSpec ws rm).room.slots ≤ R.slots := by rw [show (headSpec ws rm).room.slots = ms from hrs]; exact hp.2.1
  have hPc : Pc a (A.U.calling g mk a) := hblind _ _ _ _ hp.2.2
  obtain ⟨U, Ls, c0, s0⟩ := A
  dsimp only [Pt.U, Pt.locs, Pt.cells, Pt.slots] at h1 h2 h3 h4 h5 X hn hPc ⊢
  obtain ⟨m9, methY, cY, hn9, hmY, hcY, -, hlY, -⟩ := Cond.codeWith_spec h2
  cases Option.some.inj (hn9.symm.trans hn)
  obtain ⟨kY, hkY, -⟩ := className_of_methodNamed hn
  have hinitY : kY.init = .initialized := Cond.initialized_spec (findClass_of_methodNamed hn) hkY h3
  have h : At U g.method c below := by rw [hg]; exact X.here
  have hlocals9 : W9 + (maxL + 11) + (headSpec ws rm).room.locals ≤ R.locals := hlocals
  have happ : (headSpec ws rm).appliesLoose y e.platform (U.calling g mk a) = true :=
    Spec.appliesLoose_calling (g := g) h hdg hn hkY hinitY
      (X.room_calling (g := g) (R' := (headSpec ws rm).room) hsize hmY hcY hframes (by rw [hlY]; omega) h4 h5) h1
  obtain ⟨mid, hmid⟩ := h.above
  have hfr : (U.setTop g).frames = (.java g :: mid) ++ below := by rw [State.frames_setTop' g h.top, hmid]; rfl
  obtain ⟨o, s₂, hsteps, -, hend, hq⟩ := Steps.callFree hM p X.admits X.cas X.clock (acts := []) hfr happ hPc trivial
  have hq' : vx_Q Qc XC mc ms free a (U.calling g mk a) o s₂ := hq
  rw [State.frames_setTop' g h.top] at hend
  obtain ⟨g₀, hg0⟩ := Option.isSome_iff_exists.mp h.top
  obtain ⟨r, hr⟩ := State.topJava?_eq_some.mp hg0
  have hr' : (({ U with heap := s₂.heap, slotsUsed := s₂.slotsUsed } : State).setVm s₂.vm).frames = .java g₀ :: r := hr
  rcases hq' with ⟨hqc, L, hfe, hL⟩ | ⟨q, rfl, E, ce, L, hx, hce, hcv, hcl, hW₂, hsm, hL⟩
  · obtain ⟨⟨v, rfl⟩, hW₂, e2, q2, q3, q4, q5, q6⟩ := id hfe
    have e3 : s₂ = ({ (U.calling g mk a).setFrames s₂.frames with heap := s₂.heap, slotsUsed := s₂.slotsUsed } : State).setVm s₂.vm := by
      have : s₂ = ({ s₂ with vm := (U.calling g mk a).vm } : State).setVm s₂.vm := rfl
      rw [e2] at this
      exact this
    obtain ⟨c₂, i₂, len₂, hc₂, hd₂, hf₂⟩ := hend
    have hW' : U.WarmedH s₂.vm := hW₂
    have hcc : c₂ = c := by
      have h1 : s₂.code? g.method = U.code? g.method := by
        rw [State.code?_eq, State.code?_eq, hW'.alike.method?]
      exact Option.some.inj (hc₂.symm.trans (h1.trans h.code))
    subst hcc
    have hlen : len₂ = len := by rw [hdg] at hd₂; cases hd₂; rfl
    subst hlen
    have hs₂ : s₂ = (({ U with heap := s₂.heap, slotsUsed := s₂.slotsUsed } : State).setVm s₂.vm).setTop { g with pc := g.pc + len₂, stack := v.toList ++ g.stack } := by
      refine e3.trans ?_
      rw [hf₂, State.calling_eq h.top, State.setFrames_setFrames, State.setTop_of_frames _ hr', hr]
      rfl
    have hsame : U.sameButNew ({ U with heap := s₂.heap, slotsUsed := s₂.slotsUsed } : State) L mc ms := by
      refine ⟨?_, q2, q3, q4, q5, q6⟩
      obtain ⟨t, ht, -⟩ := State.frames_cons hr
      show ({ U with heap := s₂.heap, slotsUsed := s₂.slotsUsed } : State) = { U.setFrames U.frames with heap := s₂.heap, slotsUsed := s₂.slotsUsed }
      rw [State.setFrames_self ht]
    subst hg
    refine Or.inl ⟨v, ⟨(({ U with heap := s₂.heap, slotsUsed := s₂.slotsUsed } : State).setVm s₂.vm), Ls ++ L, c0 + mc, s0 + ms⟩,
      ⟨X.admits, X.cas, X.clock, X.frames, X.room, X.hears, X.method, X.code, (X.here.setHeapUsed s₂.heap s₂.slotsUsed).setVm hW'.alike, X.tail, State.WarmedH.trans X.warmed hW', X.limits, X.bytes, X.same.trans (hsame.setVm s.vm)⟩,
      ⟨g, mk, s₂, L, rfl, rfl, hqc, rfl, hL, rfl, rfl⟩, ?_⟩
    show Steps p.tables e below _ ((({ U with heap := s₂.heap, slotsUsed := s₂.slotsUsed } : State).setVm s₂.vm).setTop { g with pc := g.pc + len₂, stack := v.toList ++ g.stack })
    rw [← hs₂]
    exact hsteps
  · obtain ⟨e2, q2, q3, q4, q5, q6⟩ := id hsm
    have e3 : s₂ = ({ (U.calling g mk a).setFrames s₂.frames with heap := s₂.heap, slotsUsed := s₂.slotsUsed } : State).setVm s₂.vm := by
      have : s₂ = ({ s₂ with vm := (U.calling g mk a).vm } : State).setVm s₂.vm := rfl
      rw [e2] at this
      exact this
    have hf₂ : s₂.frames = .throwing q :: .java g :: U.frames.tail := hend
    have hW' : U.WarmedH s₂.vm := hW₂
    have hs₂ : s₂ = ((({ U with heap := s₂.heap, slotsUsed := s₂.slotsUsed } : State).setVm s₂.vm).setTop g).pushFrame (.throwing q) := by
      refine e3.trans ?_
      rw [hf₂, State.calling_eq h.top, State.setFrames_setFrames, State.pushFrame, State.frames_setTop _ hr', State.setTop_of_frames _ hr', State.setFrames_setFrames, hr]
      rfl
    have hsame : U.sameButNew ({ U with heap := s₂.heap, slotsUsed := s₂.slotsUsed } : State) L mc ms := by
      refine ⟨?_, q2, q3, q4, q5, q6⟩
      obtain ⟨t, ht, -⟩ := State.frames_cons hr
      show ({ U with heap := s₂.heap, slotsUsed := s₂.slotsUsed } : State) = { U.setFrames U.frames with heap := s₂.heap, slotsUsed := s₂.slotsUsed }
      rw [State.setFrames_self ht]
    subst hg
    refine Or.inr ⟨q, ⟨(({ U with heap := s₂.heap, slotsUsed := s₂.slotsUsed } : State).setVm s₂.vm), Ls ++ L, c0 + mc, s0 + ms⟩,
      ⟨X.admits, X.cas, X.clock, X.frames, X.room, X.hears, X.method, X.code, (X.here.setHeapUsed s₂.heap s₂.slotsUsed).setVm hW'.alike, X.tail, State.WarmedH.trans X.warmed hW', X.limits, X.bytes, X.same.trans (hsame.setVm s.vm)⟩,
      ⟨g, mk, s₂, L, E, ce, rfl, rfl, hx, hce, hcv, hcl, rfl, hL, rfl, rfl⟩, ?_⟩
    show Steps p.tables e below _ (((({ U with heap := s₂.heap, slotsUsed := s₂.slotsUsed } : State).setVm s₂.vm).setTop g).pushFrame (.throwing q))
    rw [← hs₂]
    exact hsteps
end
variable {p : Program} {l : Launch} {e : Env} {R : Room} {s : State} {m : MethodId} {args : Array Value} {below : List Frame} {meth : Method} {c : Code} {T : State} {H : Heap} {locs : List Loc} {cells slots : Nat}
theorem vx_callVX (X : Stand p l e R s m args below meth c T locs cells slots) (hexec : p.tables.exec = Jvm.exec) {own C : String} {index : Nat} {y : MethodName} {bytes : ByteArray} {maxL : Nat} {ret : Option FieldType} {hh : List (Nat × Nat × Nat × Nat)}
    (hown : s.vm.findClass own = some m.cls) (hlink : (Cond.methodLink own index y).before args s = true) (hinst : (Cond.instanceMethod y).before args s = true) (hsel : (Cond.selects C y y).before args s = true)
    (hcode : (Cond.codeWith y bytes maxL ret hh).before args s = true) (hy : y.cls ≠ "java/lang/invoke/MethodHandle" ∧ y.cls ≠ "java/lang/invoke/VarHandle")
    {W9 : Nat} {Pre : Pt → Array Value → Prop} {Post : Pt → Array Value → Option Value → Pt → Prop} {PostX : Pt → Array Value → Addr → Pt → Prop} (hK : vx_Back l R p e below s args y 3 W9 Pre Post PostX)
    {b : Addr} {cellB : Cell} (hcell : T.heap[b]? = some cellB) (hobj : cellB.vm.isStatics = false) (hcls : s.vm.findClass C = some cellB.cls)
    {g : JFrame} (hg : g.method = m) (hsize : g.locals.size = c.maxLocals) {argsL rest : List Value} (hlen : ∀ sig, parseMethodDescriptor y.desc = some sig → argsL.length = sig.parameters.length)
    (hstack : g.stack = argsL.reverse ++ .ref b :: rest) (hW : 2 * g.monitorRoom + (rest.map fun v => v.category).sum ≤ W9) (hdg : decode c.code g.pc = .ok (.invokevirtual index, 3))
    (hpre : ∀ vm₁, s.WarmedH vm₁ → Pre ⟨T.setVm vm₁, locs, cells, slots⟩ (Value.ref b :: argsL).toArray) :
    (∃ (v : Option Value) (vm₁ : Vm) (B : Pt), s.WarmedH vm₁ ∧ Stand p l e R s m args below meth c B.U B.locs B.cells B.slots ∧ Post ⟨T.setVm vm₁, locs, cells, slots⟩ (Value.ref b :: argsL).toArray v B ∧
      ∀ target, Steps p.tables e below (B.U.setTop { g with pc := g.pc + 3, stack := v.toList ++ rest }) target → Steps p.tables e below (T.setTop g) target) ∨
    (∃ (q : Addr) (vm₁ : Vm) (B : Pt), s.WarmedH vm₁ ∧ Stand p l e R s m args below meth c B.U B.locs B.cells B.slots ∧ PostX ⟨T.setVm vm₁, locs, cells, slots⟩ (Value.ref b :: argsL).toArray q B ∧
      Steps p.tables e below (T.setTop g) ((B.U.setTop { g with stack := rest }).pushFrame (.throwing q))) := by
  obtain ⟨mk, methM, hnamed, hmethM, hstM, habM⟩ := Cond.instanceMethod_spec hinst
  obtain ⟨m8, methM', cM, hn8, hmethM', -, -, -, -, -, -, hsigM⟩ := Cond.codeWith_spec hcode
  cases Option.some.inj (hn8.symm.trans hnamed)
  cases hmethM.symm.trans hmethM'
  obtain ⟨c2, r2, m2, q1, q2, q3, q4, kP, hkP, hkPi⟩ := Cond.selects_spec hsel
  cases hcls.symm.trans q1
  cases (State.methodFound?_of_named hnamed hy).symm.trans q2
  cases hnamed.symm.trans q3
  have hselP : selectMethod e.platform s.vm cellB.cls mk = .method mk := by rw [Launch.admits_selectMethod X.admits]; exact q4
  obtain ⟨vm₁, X₁, hstep₁⟩ := X.invokevirtual hexec hown hlink hnamed hmethM hstM hkP hkPi hy (a := b) (cell := cellB) hcell
    (fun z h => by rw [h] at hobj; cases hobj) hselP hmethM habM hkP hkPi (g := g) hg (argsL := argsL) (rest := rest) (hlen _ hsigM) hstack hdg
  rcases hK m meth c ⟨T.setVm vm₁, locs, cells, slots⟩ { g with stack := rest } (.invokevirtual index) mk (Value.ref b :: argsL).toArray X₁ hg hsize hdg hW (X₁.named hnamed) (hpre vm₁ X₁.warmed) with ⟨v, B, X', hpost, hsteps⟩ | ⟨q, B, X', hpost, hsteps⟩
  · exact Or.inl ⟨v, vm₁, B, X₁.warmed, X', hpost, fun target h => hstep₁ _ fun acts => by rw [doInvoke_state]; exact hsteps.trans h⟩
  · exact Or.inr ⟨q, vm₁, B, X₁.warmed, X', hpost, hstep₁ _ fun acts => by rw [doInvoke_state]; exact hsteps⟩
theorem vx_callSX (X : Stand p l e R s m args below meth c T locs cells slots) (hexec : p.tables.exec = Jvm.exec) {own : String} {index : Nat} {y : MethodName} {bytes : ByteArray} {maxL : Nat} {ret : Option FieldType} {hh : List (Nat × Nat × Nat × Nat)}
    (hown : s.vm.findClass own = some m.cls) (hlink : (Cond.methodLink own index y).before args s = true) (hstat : (Cond.static y).before args s = true) (hinit : (Cond.initialized y.cls).before args s = true)
    (hcode : (Cond.codeWith y bytes maxL ret hh).before args s = true) (hy : y.cls ≠ "java/lang/invoke/MethodHandle" ∧ y.cls ≠ "java/lang/invoke/VarHandle")
    {W9 : Nat} {Pre : Pt → Array Value → Prop} {Post : Pt → Array Value → Option Value → Pt → Prop} {PostX : Pt → Array Value → Addr → Pt → Prop} (hK : vx_Back l R p e below s args y 3 W9 Pre Post PostX)
    {g : JFrame} (hg : g.method = m) (hsize : g.locals.size = c.maxLocals) {argsL rest : List Value} (hlen : ∀ sig, parseMethodDescriptor y.desc = some sig → argsL.length = sig.parameters.length)
    (hstack : g.stack = argsL.reverse ++ rest) (hW : 2 * g.monitorRoom + (rest.map fun v => v.category).sum ≤ W9) (hdg : decode c.code g.pc = .ok (.invokestatic index, 3))
    (hpre : ∀ vm₁, s.WarmedH vm₁ → Pre ⟨T.setVm vm₁, locs, cells, slots⟩ argsL.toArray) :
    (∃ (v : Option Value) (vm₁ : Vm) (B : Pt), s.WarmedH vm₁ ∧ Stand p l e R s m args below meth c B.U B.locs B.cells B.slots ∧ Post ⟨T.setVm vm₁, locs, cells, slots⟩ argsL.toArray v B ∧
      ∀ target, Steps p.tables e below (B.U.setTop { g with pc := g.pc + 3, stack := v.toList ++ rest }) target → Steps p.tables e below (T.setTop g) target) ∨
    (∃ (q : Addr) (vm₁ : Vm) (B : Pt), s.WarmedH vm₁ ∧ Stand p l e R s m args below meth c B.U B.locs B.cells B.slots ∧ PostX ⟨T.setVm vm₁, locs, cells, slots⟩ argsL.toArray q B ∧
      Steps p.tables e below (T.setTop g) ((B.U.setTop { g with stack := rest }).pushFrame (.throwing q))) := by
  obtain ⟨mk, methM, cM, hnamed, hmethM, -, -, -, -, -, -, hsigM⟩ := Cond.codeWith_spec hcode
  have hstatic : methM.isStatic = true := Cond.static_spec hnamed hmethM hstat
  obtain ⟨kP, hkP, -⟩ := className_of_methodNamed hnamed
  have hinitP : kP.init = .initialized := Cond.initialized_spec (findClass_of_methodNamed hnamed) hkP hinit
  obtain ⟨vm₁, X₁, hstep₁⟩ := X.invokestatic hexec hown hlink hnamed hmethM hstatic hkP hinitP hy (g := g) hg (argsL := argsL) (rest := rest) (hlen _ hsigM) hstack hdg
  rcases hK m meth c ⟨T.setVm vm₁, locs, cells, slots⟩ { g with stack := rest } (.invokestatic index) mk argsL.toArray X₁ hg hsize hdg hW (X₁.named hnamed) (hpre vm₁ X₁.warmed) with ⟨v, B, X', hpost, hsteps⟩ | ⟨q, B, X', hpost, hsteps⟩
  · exact Or.inl ⟨v, vm₁, B, X₁.warmed, X', hpost, fun target h => hstep₁ _ fun acts => by rw [doInvoke_state]; exact hsteps.trans h⟩
  · exact Or.inr ⟨q, vm₁, B, X₁.warmed, X', hpost, hstep₁ _ fun acts => by rw [doInvoke_state]; exact hsteps⟩
theorem vx_callVW (X : Stand p l e R s m args below meth c T locs cells slots) (hexec : p.tables.exec = Jvm.exec) {own C : String} {index : Nat} {y : MethodName} {bytes : ByteArray} {maxL : Nat} {ret : Option FieldType} {hh : List (Nat × Nat × Nat × Nat)}
    (hown : s.vm.findClass own = some m.cls) (hlink : (Cond.methodLink own index y).before args s = true) (hinst : (Cond.instanceMethod y).before args s = true) (hsel : (Cond.selects C y y).before args s = true)
    (hcode : (Cond.codeWith y bytes maxL ret hh).before args s = true) (hy : y.cls ≠ "java/lang/invoke/MethodHandle" ∧ y.cls ≠ "java/lang/invoke/VarHandle")
    {W9 : Nat} {Pre : Pt → Array Value → Prop} {Post : Pt → Array Value → Option Value → Pt → Prop} (hK : Back l R p e below s args y 3 W9 Pre Post)
    {b : Addr} {cellB : Cell} (hcell : T.heap[b]? = some cellB) (hobj : cellB.vm.isStatics = false) (hcls : s.vm.findClass C = some cellB.cls)
    {g : JFrame} (hg : g.method = m) (hsize : g.locals.size = c.maxLocals) {argsL rest : List Value} (hlen : ∀ sig, parseMethodDescriptor y.desc = some sig → argsL.length = sig.parameters.length)
    (hstack : g.stack = argsL.reverse ++ .ref b :: rest) (hW : 2 * g.monitorRoom + (rest.map fun v => v.category).sum ≤ W9) (hdg : decode c.code g.pc = .ok (.invokevirtual index, 3))
    (hpre : ∀ vm₁, s.WarmedH vm₁ → Pre ⟨T.setVm vm₁, locs, cells, slots⟩ (Value.ref b :: argsL).toArray) :
    ∃ (v : Option Value) (vm₁ : Vm) (B : Pt), s.WarmedH vm₁ ∧ Stand p l e R s m args below meth c B.U B.locs B.cells B.slots ∧ Post ⟨T.setVm vm₁, locs, cells, slots⟩ (Value.ref b :: argsL).toArray v B ∧
      ∀ target, Steps p.tables e below (B.U.setTop { g with pc := g.pc + 3, stack := v.toList ++ rest }) target → Steps p.tables e below (T.setTop g) target := by
  obtain ⟨mk, methM, hnamed, hmethM, hstM, habM⟩ := Cond.instanceMethod_spec hinst
  obtain ⟨m8, methM', cM, hn8, hmethM', -, -, -, -, -, -, hsigM⟩ := Cond.codeWith_spec hcode
  cases Option.some.inj (hn8.symm.trans hnamed)
  cases hmethM.symm.trans hmethM'
  obtain ⟨c2, r2, m2, q1, q2, q3, q4, kP, hkP, hkPi⟩ := Cond.selects_spec hsel
  cases hcls.symm.trans q1
  cases (State.methodFound?_of_named hnamed hy).symm.trans q2
  cases hnamed.symm.trans q3
  have hselP : selectMethod e.platform s.vm cellB.cls mk = .method mk := by rw [Launch.admits_selectMethod X.admits]; exact q4
  obtain ⟨vm₁, X₁, hstep₁⟩ := X.invokevirtual hexec hown hlink hnamed hmethM hstM hkP hkPi hy (a := b) (cell := cellB) hcell
    (fun z h => by rw [h] at hobj; cases hobj) hselP hmethM habM hkP hkPi (g := g) hg (argsL := argsL) (rest := rest) (hlen _ hsigM) hstack hdg
  obtain ⟨v, B, X', hpost, hsteps⟩ := hK m meth c ⟨T.setVm vm₁, locs, cells, slots⟩ { g with stack := rest } (.invokevirtual index) mk (Value.ref b :: argsL).toArray X₁ hg hsize hdg hW (X₁.named hnamed) (hpre vm₁ X₁.warmed)
  exact ⟨v, vm₁, B, X₁.warmed, X', hpost, fun target h => hstep₁ _ fun acts => by rw [doInvoke_state]; exact hsteps.trans h⟩
abbrev vx_CVW (R : Room) (s : State) (args : Array Value) (own C : String) (index : Nat) (y : MethodName) (bytes : ByteArray) (maxL : Nat) (ret : Option FieldType) (hh : List (Nat × Nat × Nat × Nat)) (ws : List Cond) (rm : Room) (mc ms n : Nat) : Prop :=
  (rm.cells = mc ∧ rm.slots = ms ∧ rm.frames + 1 ≤ R.frames ∧ 8 + (maxL + 11) + rm.locals ≤ R.locals ∧ (∀ w ∈ ws, ∀ (a' : Array Value) (U : State), s.WarmedH U.vm → w.before a' U = true) ∧ Cond.codeWith y bytes maxL ret hh ∈ ws) ∧
  (Cond.codeWith y bytes maxL ret hh).before args s = true ∧ (Cond.initialized y.cls).before args s = true ∧ (y.cls ≠ "java/lang/invoke/MethodHandle" ∧ y.cls ≠ "java/lang/invoke/VarHandle") ∧
  (∀ sig, parseMethodDescriptor y.desc = some sig → n = sig.parameters.length) ∧ (Cond.methodLink own index y).before args s = true ∧ (Cond.instanceMethod y).before args s = true ∧ (Cond.selects C y y).before args s = true
theorem vx_cwVW {own C : String} {index maxL mc ms : Nat} {y : MethodName} {bytes : ByteArray} {ret : Option FieldType} {hh : List (Nat × Nat × Nat × Nat)} {Ts ws ws' : List Cond} {rm : Room} (n : Nat) (ht : ∀ w ∈ Ts, w.before args s = true) (hT : GoodIn Ts (wsV own index C y ws)) (hw : ws = Cond.codeWith y bytes maxL ret hh :: ws') (hrc : rm.cells = mc) (hrs : rm.slots = ms)
    (hd : y.cls = C ∧ y.cls ≠ "java/lang/invoke/MethodHandle" ∧ y.cls ≠ "java/lang/invoke/VarHandle" ∧ (parseMethodDescriptor y.desc).map (fun d => d.parameters.length) = some n) (hR : rm.frames + 1 ≤ R.frames ∧ 8 + (maxL + 11) + rm.locals ≤ R.locals) :
    vx_CVW R s args own C index y bytes maxL ret hh ws rm mc ms n := by
  obtain ⟨hC, hd⟩ := hd
  subst hC
  have ok : ∀ w ∈ wsV own index y.cls y ws, w.before args s = true := fun w h => ht w (hT w h).1
  have hG : GoodIn Ts ws := fun w h => hT w (by unfold wsV; exact List.mem_append_right _ h)
  have hc : Cond.codeWith y bytes maxL ret hh ∈ ws := by rw [hw]; exact List.mem_cons_self
  refine ⟨⟨hrc, hrs, hR.1, hR.2, pay_in ht hG, hc⟩, ht _ (hG _ hc).1, ok _ (by simp [wsV]), ⟨hd.1, hd.2.1⟩, fun sig h => ?_, ok _ (by simp [wsV]), ok _ (by simp [wsV]), ok _ (by simp [wsV])⟩
  have h2 := hd.2.2
  rw [h] at h2
  exact (Option.some.inj h2).symm
theorem vx_runVW {y : MethodName} {bytes cc : ByteArray} {maxL nL mc ms n index : Nat} {ret : Option FieldType} {hh : List (Nat × Nat × Nat × Nat)} {ws : List Cond} {rm : Room} {Pc : Array Value → State → Prop} {Qc : Array Value → State → Outcome → State → Prop} {free : Addr → Prop} {Ts : List Cond} {own C : String} {b : Addr} {As rest : List Value} {g : JFrame}
    (S : CallFix p m c cc nL s args Ts own) (hM : Met l y ws rm Pc Qc mc ms free) (cw : vx_CVW R s args own C index y bytes maxL ret hh ws rm mc ms n) (hp : PreV s H C b Pc As)
    (hg : g.method = m) (hn : As.length = n) (hsize : g.locals.size = nL) (hstack : g.stack = As.reverse ++ .ref b :: rest) (hW : 2 * g.monitorRoom + (rest.map fun v => v.category).sum ≤ 8) (hdg : decode cc g.pc = .ok (.invokevirtual index, 3)) (hf : cells + mc ≤ R.cells ∧ slots + ms ≤ R.slots) :
    va_Run p l e R s m args below meth c H locs cells slots mc ms g rest (Qc (Value.ref b :: As).toArray) free := by
  obtain ⟨⟨hrc, hrs, hfr, hlo, hws, hcw⟩, hcode, hini, hy, hlen, hl, hin, hse⟩ := cw
  have hK : Back l R p e below s args y 3 8 (PreOf R mc ms Pc) (PostOf Qc mc ms free) := va_backW (hh := hh) (bytes := bytes) (maxL := maxL) (ret := ret) hM hp.1 hrc hrs hfr hlo hws hcw (fun a' U hW => word_at hW (Or.inl (by first | rfl | simp [Cond.onTables, Cond.keeps, Cond.steady])) hini)
  obtain ⟨hx, hb, hml, ho, -⟩ := S
  obtain ⟨-, ⟨cellB, hcB, hoB, hclB⟩, hPc⟩ := hp
  intro T hT X
  obtain ⟨v, vm₁, ⟨U', l2, c2, s2⟩, hW₁, X', ⟨g', mk, t, L, e1, e2, hq, h1, hL, h2, h3⟩, st⟩ := vx_callVW X hx (C := C) (hh := hh) (bytes := bytes) (maxL := maxL) (ret := ret) ho hl hin hse hcode hy hK (by rw [hT]; exact hcB) hoB hclB hg (hsize.trans hml.symm) (argsL := As) (rest := rest) (fun sig h => hn.trans (hlen sig h)) hstack hW (by rw [hb]; exact hdg)
    (fun vm₁ hW₁ => ⟨hf.1, hf.2, hPc (T.setVm vm₁) hT hW₁⟩)
  dsimp only [Pt.U, Pt.locs, Pt.cells, Pt.slots] at X' e1 e2 h1 h2 h3 st
  subst h1; subst h2; subst h3
  exact ⟨v, (T.setVm vm₁).calling g' mk (Value.ref b :: As).toArray, t, U', L, hT, X', hL, e1, e2, hq, st⟩
section
variable {y : MethodName} {bytes cc : ByteArray} {maxL nL mc ms n index : Nat} {ret : Option FieldType} {ws : List Cond} {rm : Room} {Pc : Array Value → State → Prop} {Qc : Array Value → State → Outcome → State → Prop} {XC : String → State → State → Prop} {free : Addr → Prop} {Ts : List Cond} {own C : String} {b : Addr} {As rest : List Value} {g : JFrame}
theorem vx_runVX {hh : List (Nat × Nat × Nat × Nat)} (S : CallFix p m c cc nL s args Ts own) (hM : vx_Met l y ws rm Pc Qc XC mc ms free) (cw : vx_CVW R s args own C index y bytes maxL ret hh ws rm mc ms n) (hp : PreV s H C b Pc As)
    (hg : g.method = m) (hn : As.length = n) (hsize : g.locals.size = nL) (hstack : g.stack = As.reverse ++ .ref b :: rest) (hW : 2 * g.monitorRoom + (rest.map fun v => v.category).sum ≤ 8) (hdg : decode cc g.pc = .ok (.invokevirtual index, 3)) (hf : cells + mc ≤ R.cells ∧ slots + ms ≤ R.slots) :
    vx_Run p l e R s m args below meth c H locs cells slots mc ms g rest (Qc (Value.ref b :: As).toArray) XC free := by
  obtain ⟨⟨hrc, hrs, hfr, hlo, hws, hcw⟩, hcode, hini, hy, hlen, hl, hin, hse⟩ := cw
  have hK : vx_Back l R p e below s args y 3 8 (PreOf R mc ms Pc) (PostOf Qc mc ms free) (vx_Post XC mc ms free) := vx_backW (hh := hh) (bytes := bytes) (maxL := maxL) (ret := ret) hM hp.1 hrc hrs hfr hlo hws hcw (fun a' U hW => word_at hW (Or.inl (by first | rfl | simp [Cond.onTables, Cond.keeps, Cond.steady])) hini)
  obtain ⟨hx, hb, hml, ho, -⟩ := S
  obtain ⟨-, ⟨cellB, hcB, hoB, hclB⟩, hPc⟩ := hp
  intro T hT X
  rcases vx_callVX X hx (C := C) (hh := hh) (bytes := bytes) (maxL := maxL) (ret := ret) ho hl hin hse hcode hy hK (by rw [hT]; exact hcB) hoB hclB hg (hsize.trans hml.symm) (argsL := As) (rest := rest) (fun sig h => hn.trans (hlen sig h)) hstack hW (by rw [hb]; exact hdg)
    (fun vm₁ hW₁ => ⟨hf.1, hf.2, hPc (T.setVm vm₁) hT hW₁⟩) with ⟨v, vm₁, ⟨U', l2, c2, s2⟩, hW₁, X', ⟨g', mk, t, L, e1, e2, hq, h1, hL, h2, h3⟩, st⟩ | ⟨q, vm₁, ⟨U', l2, c2, s2⟩, hW₁, X', ⟨g', mk, t, L, E, ce, e1, e2, hq, hce, hcv, hcl, h1, hL, h2, h3⟩, st⟩
  · dsimp only [Pt.U, Pt.locs, Pt.cells, Pt.slots] at X' e1 e2 h1 h2 h3 st
    subst h1; subst h2; subst h3
    exact Or.inl ⟨v, (T.setVm vm₁).calling g' mk (Value.ref b :: As).toArray, t, U', L, hT, X', hL, e1, e2, hq, st⟩
  · dsimp only [Pt.U, Pt.locs, Pt.cells, Pt.slots] at X' e1 e2 h1 h2 h3 st hcl
    subst h1; subst h2; subst h3
    exact Or.inr ⟨q, (T.setVm vm₁).calling g' mk (Value.ref b :: As).toArray, t, U', L, E, ce, hT, X', hL, e1, e2, hq, hce, hcv, vx_cls hW₁ hcl, st⟩
theorem vx_runSX {hh : List (Nat × Nat × Nat × Nat)} (S : CallFix p m c cc nL s args Ts own) (hM : vx_Met l y ws rm Pc Qc XC mc ms free) (cw : vx_CSW R s args own index y bytes maxL ret hh ws rm mc ms n) (hp : PreS s H Pc As)
    (hg : g.method = m) (hn : As.length = n) (hsize : g.locals.size = nL) (hstack : g.stack = As.reverse ++ rest) (hW : 2 * g.monitorRoom + (rest.map fun v => v.category).sum ≤ 8) (hdg : decode cc g.pc = .ok (.invokestatic index, 3)) (hf : cells + mc ≤ R.cells ∧ slots + ms ≤ R.slots) :
    vx_Run p l e R s m args below meth c H locs cells slots mc ms g rest (Qc As.toArray) XC free := by
  obtain ⟨⟨hrc, hrs, hfr, hlo, hws, hcw⟩, hcode, hini, hy, hlen, hl, hstt⟩ := cw
  have hK : vx_Back l R p e below s args y 3 8 (PreOf R mc ms Pc) (PostOf Qc mc ms free) (vx_Post XC mc ms free) := vx_backW (hh := hh) (bytes := bytes) (maxL := maxL) (ret := ret) hM hp.1 hrc hrs hfr hlo hws hcw (fun a' U hW => word_at hW (Or.inl (by first | rfl | simp [Cond.onTables, Cond.keeps, Cond.steady])) hini)
  obtain ⟨hx, hb, hml, ho, -⟩ := S
  intro T hT X
  rcases vx_callSX X hx (hh := hh) (bytes := bytes) (maxL := maxL) (ret := ret) ho hl hstt hini hcode hy hK hg (hsize.trans hml.symm) (argsL := As) (rest := rest) (fun sig h => hn.trans (hlen sig h)) hstack hW (by rw [hb]; exact hdg)
    (fun vm₁ hW₁ => ⟨hf.1, hf.2, hp.2 (T.setVm vm₁) hT hW₁⟩) with ⟨v, vm₁, ⟨U', l2, c2, s2⟩, hW₁, X', ⟨g', mk, t, L, e1, e2, hq, h1, hL, h2, h3⟩, st⟩ | ⟨q, vm₁, ⟨U', l2, c2, s2⟩, hW₁, X', ⟨g', mk, t, L, E, ce, e1, e2, hq, hce, hcv, hcl, h1, hL, h2, h3⟩, st⟩
  · dsimp only [Pt.U, Pt.locs, Pt.cells, Pt.slots] at X' e1 e2 h1 h2 h3 st
    subst h1; subst h2; subst h3
    exact Or.inl ⟨v, (T.setVm vm₁).calling g' mk As.toArray, t, U', L, hT, X', hL, e1, e2, hq, st⟩
  · dsimp only [Pt.U, Pt.locs, Pt.cells, Pt.slots] at X' e1 e2 h1 h2 h3 st hcl
    subst h1; subst h2; subst h3
    exact Or.inr ⟨q, (T.setVm vm₁).calling g' mk As.toArray, t, U', L, E, ce, hT, X', hL, e1, e2, hq, hce, hcv, vx_cls hW₁ hcl, st⟩
end
end VXH
theorem vx_ofWH {l : Launch} {y : MethodName} {ws ws' : List Cond} {rm : Room} {Pc : Array Value → State → Prop} {Qc : Array Value → State → Outcome → State → Prop} {XC : String → State → State → Prop} {mc ms : Nat} {free : Addr → Prop} {cc : ByteArray} {maxL : Nat} {ret : Option FieldType} {hh : List (Nat × Nat × Nat × Nat)}
    (hy : plainName y.cls = true) (hw : ws = Cond.codeWith y cc maxL ret hh :: ws')
    (body : ∀ p e s m args below meth c s₁, BodyLoose p l y (headSpec ws rm) cc maxL ret e s m args below meth c s₁ → c.maxLocals = maxL → Pc args s →
      W p l e (headSpec ws rm).room s m args below meth c s.heap [] 0 0 (vx_MQ below Qc XC args s mc ms free) (entryFrame m args maxL)) : vx_Met l y ws rm Pc Qc XC mc ms free := by
  refine MetFree.of_bodyS (code := cc) (maxLocals := maxL) (ret := ret) hy ?_ ?_
  · intro args s m h hn
    obtain ⟨m9, meth, c, hn9, h1, h2, h3, h4, -, h5, h6, -⟩ := Cond.codeWith_spec (atoms_spec (ws := ws) h _ (by rw [hw]; exact List.mem_cons_self))
    cases hn.symm.trans hn9
    exact ⟨meth, c, h1, h2, h3, h4, h5, h6⟩
  · intro p e s m args below meth c s₁ B hml hP _
    have hh0 : s₁.heap = s.heap := by rw [B.state]; rfl
    obtain ⟨t, a1, o, b1, b2, b3⟩ := body p e s m args below meth c s₁ B hml hP s₁ hh0 (Stand.of_body B)
    exact ⟨t, o, a1, b1, b2, b3⟩
/-! ===== END ===== -/
end
section
/-! ===== BEGIN printed: names, fields, word lists, decode rows ===== -/
def RX0 : String := "PatternHouse$Automaton"
def TX0 : u_T := fun k => match k with
  | 0 => ("PatternHouse$Automaton", "isBuilt", "Z", false)
  | 1 => ("PatternHouse$Automaton", "goesBeyond", "Z", false)
  | 2 => ("PatternHouse$Automaton", "size", "I", false)
  | 3 => ("PatternHouse$Automaton", "groups", "I", false)
  | 4 => ("PatternHouse$Automaton", "isGood", "[Z", true)
  | _ => ("PatternHouse$Automaton", "ways", "[I", true)
def tyX0 : Nat → FieldType := fun k => match k with
  | 0 => .boolean
  | 1 => .boolean
  | 2 => .int
  | 3 => .int
  | 4 => .array .boolean
  | _ => .array .int
abbrev wsX00 : List Cond := u_ws RX0 TX0 6
theorem nmX0 : ∀ a, a < 6 → ∀ b, b < 6 → a ≠ b → (TX0 a).2.1 ≠ (TX0 b).2.1 := by decide +kernel
theorem tyX0_ok : ∀ k, k < 6 → parseFieldDescriptor (TX0 k).2.2.1 = some (tyX0 k) := by decide +kernel
abbrev cX0_init : ByteArray := prog_2_method_1_code
def yX0_init : MethodName := ⟨RX0, "<init>", "()V"⟩
abbrev cX0_wayFrom : ByteArray := prog_2_method_2_code
def yX0_wayFrom : MethodName := ⟨RX0, "wayFrom", "(II)I"⟩
abbrev cX0_build : ByteArray := prog_2_method_3_code
def yX0_build : MethodName := ⟨RX0, "build", "(LPatternHouse$Pattern;LPatternHouse$Register;)V"⟩
abbrev cX0_layWays : ByteArray := prog_2_method_4_code
def yX0_layWays : MethodName := ⟨RX0, "layWays", "(IJLPatternHouse$Pattern;LPatternHouse$Register;)V"⟩
def RX1 : String := "PatternHouse$Comparison"
def TX1 : u_T := fun k => match k with
  | 0 => ("PatternHouse$Comparison", "wordLength", "I", false)
  | 1 => ("PatternHouse$Comparison", "word", "[I", true)
  | 2 => ("PatternHouse$Comparison", "familyOf", "[I", true)
  | 3 => ("PatternHouse$Comparison", "pairs", "I", false)
  | 4 => ("PatternHouse$Comparison", "lefts", "[I", true)
  | 5 => ("PatternHouse$Comparison", "rights", "[I", true)
  | 6 => ("PatternHouse$Comparison", "cameFrom", "[I", true)
  | 7 => ("PatternHouse$Comparison", "byLetter", "[I", true)
  | _ => ("PatternHouse$Comparison", "lengths", "[I", true)
def tyX1 : Nat → FieldType := fun k => match k with
  | 0 => .int
  | 1 => .array .int
  | 2 => .array .int
  | 3 => .int
  | 4 => .array .int
  | 5 => .array .int
  | 6 => .array .int
  | 7 => .array .int
  | _ => .array .int
abbrev wsX10 : List Cond := u_ws RX1 TX1 9
theorem nmX1 : ∀ a, a < 9 → ∀ b, b < 9 → a ≠ b → (TX1 a).2.1 ≠ (TX1 b).2.1 := by decide +kernel
theorem tyX1_ok : ∀ k, k < 9 → parseFieldDescriptor (TX1 k).2.2.1 = some (tyX1 k) := by decide +kernel
abbrev cX1_init : ByteArray := prog_3_method_1_code
def yX1_init : MethodName := ⟨RX1, "<init>", "()V"⟩
abbrev cX1_compare : ByteArray := prog_3_method_2_code
def yX1_compare : MethodName := ⟨RX1, "compare", "(LPatternHouse$Automaton;LPatternHouse$Automaton;)I"⟩
abbrev cX1_begin : ByteArray := prog_3_method_3_code
def yX1_begin : MethodName := ⟨RX1, "begin", "()V"⟩
abbrev cX1_tellsApart : ByteArray := prog_3_method_4_code
def yX1_tellsApart : MethodName := ⟨RX1, "tellsApart", "(ILPatternHouse$Automaton;LPatternHouse$Automaton;)Z"⟩
abbrev cX1_join : ByteArray := prog_3_method_5_code
def yX1_join : MethodName := ⟨RX1, "join", "(II)V"⟩
abbrev cX1_spell : ByteArray := prog_3_method_6_code
def yX1_spell : MethodName := ⟨RX1, "spell", "(I)V"⟩
def RX2 : String := "PatternHouse$Grouping"
def TX2 : u_T := fun k => match k with
  | 0 => ("PatternHouse$Grouping", "groupOf", "[I", true)
  | _ => ("PatternHouse$Grouping", "finerOf", "[I", true)
def tyX2 : Nat → FieldType := fun k => match k with
  | 0 => .array .int
  | _ => .array .int
abbrev wsX20 : List Cond := u_ws RX2 TX2 2
theorem nmX2 : ∀ a, a < 2 → ∀ b, b < 2 → a ≠ b → (TX2 a).2.1 ≠ (TX2 b).2.1 := by decide +kernel
theorem tyX2_ok : ∀ k, k < 2 → parseFieldDescriptor (TX2 k).2.2.1 = some (tyX2 k) := by decide +kernel
abbrev cX2_init : ByteArray := prog_4_method_1_code
def yX2_init : MethodName := ⟨RX2, "<init>", "()V"⟩
abbrev cX2_countGroups : ByteArray := prog_4_method_2_code
def yX2_countGroups : MethodName := ⟨RX2, "countGroups", "(LPatternHouse$Automaton;LPatternHouse$Register;)I"⟩
abbrev cX2_groupByGood : ByteArray := prog_4_method_3_code
def yX2_groupByGood : MethodName := ⟨RX2, "groupByGood", "(LPatternHouse$Automaton;LPatternHouse$Register;)I"⟩
abbrev cX2_groupByWay : ByteArray := prog_4_method_4_code
def yX2_groupByWay : MethodName := ⟨RX2, "groupByWay", "(LPatternHouse$Automaton;ILPatternHouse$Register;)I"⟩
def RX3 : String := "PatternHouse$Layer"
def TX3 : u_T := fun k => match k with
  | 0 => ("PatternHouse$Layer", "depth", "I", false)
  | 1 => ("PatternHouse$Layer", "hasPart", "Z", false)
  | 2 => ("PatternHouse$Layer", "pattern", "LPatternHouse$Pattern;", false)
  | 3 => ("PatternHouse$Layer", "part", "LPatternHouse$Piece;", true)
  | 4 => ("PatternHouse$Layer", "copy", "LPatternHouse$Piece;", true)
  | 5 => ("PatternHouse$Layer", "rows", "[LPatternHouse$Piece;", true)
  | _ => ("PatternHouse$Layer", "choices", "[LPatternHouse$Piece;", true)
def tyX3 : Nat → FieldType := fun k => match k with
  | 0 => .int
  | 1 => .boolean
  | 2 => .object "PatternHouse$Pattern"
  | 3 => .object "PatternHouse$Piece"
  | 4 => .object "PatternHouse$Piece"
  | 5 => .array (.object "PatternHouse$Piece")
  | _ => .array (.object "PatternHouse$Piece")
abbrev wsX30 : List Cond := u_ws RX3 TX3 7
theorem nmX3 : ∀ a, a < 7 → ∀ b, b < 7 → a ≠ b → (TX3 a).2.1 ≠ (TX3 b).2.1 := by decide +kernel
theorem tyX3_ok : ∀ k, k < 7 → parseFieldDescriptor (TX3 k).2.2.1 = some (tyX3 k) := by decide +kernel
abbrev cX3_init : ByteArray := prog_5_method_1_code
def yX3_init : MethodName := ⟨RX3, "<init>", "()V"⟩
abbrev cX3_begin : ByteArray := prog_5_method_2_code
def yX3_begin : MethodName := ⟨RX3, "begin", "(LPatternHouse$Pattern;)V"⟩
abbrev cX3_beginChoices : ByteArray := prog_5_method_3_code
def yX3_beginChoices : MethodName := ⟨RX3, "beginChoices", "()V"⟩
abbrev cX3_beginRow : ByteArray := prog_5_method_4_code
def yX3_beginRow : MethodName := ⟨RX3, "beginRow", "()V"⟩
abbrev cX3_endPart : ByteArray := prog_5_method_5_code
def yX3_endPart : MethodName := ⟨RX3, "endPart", "()V"⟩
abbrev cX3_endRow : ByteArray := prog_5_method_6_code
def yX3_endRow : MethodName := ⟨RX3, "endRow", "()V"⟩
abbrev cX3_addAtom : ByteArray := prog_5_method_7_code
def yX3_addAtom : MethodName := ⟨RX3, "addAtom", "(J)Z"⟩
abbrev cX3_openBracket : ByteArray := prog_5_method_8_code
def yX3_openBracket : MethodName := ⟨RX3, "openBracket", "()Z"⟩
abbrev cX3_closeBracket : ByteArray := prog_5_method_9_code
def yX3_closeBracket : MethodName := ⟨RX3, "closeBracket", "()V"⟩
abbrev cX3_allowMore : ByteArray := prog_5_method_10_code
def yX3_allowMore : MethodName := ⟨RX3, "allowMore", "()V"⟩
abbrev cX3_allowNone : ByteArray := prog_5_method_11_code
def yX3_allowNone : MethodName := ⟨RX3, "allowNone", "()V"⟩
abbrev cX3_repeat : ByteArray := prog_5_method_12_code
def yX3_repeat : MethodName := ⟨RX3, "repeat", "(II)Z"⟩
abbrev cX3_finish : ByteArray := prog_5_method_13_code
def yX3_finish : MethodName := ⟨RX3, "finish", "()V"⟩
def RX4 : String := "PatternHouse$Pattern"
def TX4 : u_T := fun k => match k with
  | 0 => ("PatternHouse$Pattern", "size", "I", false)
  | 1 => ("PatternHouse$Pattern", "hasEmptyWord", "Z", false)
  | 2 => ("PatternHouse$Pattern", "firsts", "J", false)
  | 3 => ("PatternHouse$Pattern", "lasts", "J", false)
  | 4 => ("PatternHouse$Pattern", "behind", "[J", true)
  | 5 => ("PatternHouse$Pattern", "lettersOf", "[J", true)
  | 6 => ("PatternHouse$Pattern", "havers", "[J", true)
  | _ => ("PatternHouse$Pattern", "automaton", "LPatternHouse$Automaton;", true)
def tyX4 : Nat → FieldType := fun k => match k with
  | 0 => .int
  | 1 => .boolean
  | 2 => .long
  | 3 => .long
  | 4 => .array .long
  | 5 => .array .long
  | 6 => .array .long
  | _ => .object "PatternHouse$Automaton"
abbrev wsX40 : List Cond := u_ws RX4 TX4 8
theorem nmX4 : ∀ a, a < 8 → ∀ b, b < 8 → a ≠ b → (TX4 a).2.1 ≠ (TX4 b).2.1 := by decide +kernel
theorem tyX4_ok : ∀ k, k < 8 → parseFieldDescriptor (TX4 k).2.2.1 = some (tyX4 k) := by decide +kernel
abbrev cX4_init : ByteArray := prog_6_method_1_code
def yX4_init : MethodName := ⟨RX4, "<init>", "()V"⟩
abbrev cX4_wipe : ByteArray := prog_6_method_2_code
def yX4_wipe : MethodName := ⟨RX4, "wipe", "()V"⟩
abbrev cX4_addPosition : ByteArray := prog_6_method_3_code
def yX4_addPosition : MethodName := ⟨RX4, "addPosition", "(J)V"⟩
abbrev cX4_copyPositions : ByteArray := prog_6_method_4_code
def yX4_copyPositions : MethodName := ⟨RX4, "copyPositions", "(II)V"⟩
abbrev cX4_connect : ByteArray := prog_6_method_5_code
def yX4_connect : MethodName := ⟨RX4, "connect", "(JJ)V"⟩
abbrev cX4_complete : ByteArray := prog_6_method_6_code
def yX4_complete : MethodName := ⟨RX4, "complete", "(LPatternHouse$Piece;)V"⟩
abbrev cX4_haversOf : ByteArray := prog_6_method_7_code
def yX4_haversOf : MethodName := ⟨RX4, "haversOf", "(I)J"⟩
abbrev cX4_behindAny : ByteArray := prog_6_method_8_code
def yX4_behindAny : MethodName := ⟨RX4, "behindAny", "(J)J"⟩
def RX5 : String := "PatternHouse$Piece"
def TX5 : u_T := fun k => match k with
  | 0 => ("PatternHouse$Piece", "from", "I", false)
  | 1 => ("PatternHouse$Piece", "hasEmptyWord", "Z", false)
  | 2 => ("PatternHouse$Piece", "firsts", "J", false)
  | _ => ("PatternHouse$Piece", "lasts", "J", false)
def tyX5 : Nat → FieldType := fun k => match k with
  | 0 => .int
  | 1 => .boolean
  | 2 => .long
  | _ => .long
abbrev wsX50 : List Cond := u_ws RX5 TX5 4
theorem nmX5 : ∀ a, a < 4 → ∀ b, b < 4 → a ≠ b → (TX5 a).2.1 ≠ (TX5 b).2.1 := by decide +kernel
theorem tyX5_ok : ∀ k, k < 4 → parseFieldDescriptor (TX5 k).2.2.1 = some (tyX5 k) := by decide +kernel
abbrev cX5_init : ByteArray := prog_7_method_1_code
def yX5_init : MethodName := ⟨RX5, "<init>", "()V"⟩
abbrev cX5_set : ByteArray := prog_7_method_2_code
def yX5_set : MethodName := ⟨RX5, "set", "(IZJJ)V"⟩
abbrev cX5_append : ByteArray := prog_7_method_3_code
def yX5_append : MethodName := ⟨RX5, "append", "(LPatternHouse$Piece;LPatternHouse$Pattern;)V"⟩
abbrev cX5_orElse : ByteArray := prog_7_method_4_code
def yX5_orElse : MethodName := ⟨RX5, "orElse", "(LPatternHouse$Piece;)V"⟩
def RX6 : String := "PatternHouse$Reader"
def TX6 : u_T := fun k => match k with
  | 0 => ("PatternHouse$Reader", "length", "I", false)
  | 1 => ("PatternHouse$Reader", "faultPlace", "I", false)
  | 2 => ("PatternHouse$Reader", "characters", "[I", true)
  | 3 => ("PatternHouse$Reader", "layer", "LPatternHouse$Layer;", true)
  | 4 => ("PatternHouse$Reader", "fault", "I", false)
  | 5 => ("PatternHouse$Reader", "mode", "I", false)
  | 6 => ("PatternHouse$Reader", "openedAt", "I", false)
  | 7 => ("PatternHouse$Reader", "set", "J", false)
  | 8 => ("PatternHouse$Reader", "negated", "Z", false)
  | 9 => ("PatternHouse$Reader", "latestLetter", "I", false)
  | 10 => ("PatternHouse$Reader", "latestAt", "I", false)
  | 11 => ("PatternHouse$Reader", "least", "I", false)
  | _ => ("PatternHouse$Reader", "most", "I", false)
def tyX6 : Nat → FieldType := fun k => match k with
  | 0 => .int
  | 1 => .int
  | 2 => .array .int
  | 3 => .object "PatternHouse$Layer"
  | 4 => .int
  | 5 => .int
  | 6 => .int
  | 7 => .long
  | 8 => .boolean
  | 9 => .int
  | 10 => .int
  | 11 => .int
  | _ => .int
abbrev wsX60 : List Cond := u_ws RX6 TX6 13
theorem nmX6 : ∀ a, a < 13 → ∀ b, b < 13 → a ≠ b → (TX6 a).2.1 ≠ (TX6 b).2.1 := by decide +kernel
theorem tyX6_ok : ∀ k, k < 13 → parseFieldDescriptor (TX6 k).2.2.1 = some (tyX6 k) := by decide +kernel
abbrev cX6_init : ByteArray := prog_8_method_1_code
def yX6_init : MethodName := ⟨RX6, "<init>", "()V"⟩
abbrev cX6_append : ByteArray := prog_8_method_2_code
def yX6_append : MethodName := ⟨RX6, "append", "(JI)V"⟩
abbrev cX6_layOut : ByteArray := prog_8_method_3_code
def yX6_layOut : MethodName := ⟨RX6, "layOut", "(LPatternHouse$Pattern;)I"⟩
abbrev cX6_fail : ByteArray := prog_8_method_4_code
def yX6_fail : MethodName := ⟨RX6, "fail", "(II)V"⟩
abbrev cX6_failUnless : ByteArray := prog_8_method_5_code
def yX6_failUnless : MethodName := ⟨RX6, "failUnless", "(ZII)V"⟩
abbrev cX6_takeInRow : ByteArray := prog_8_method_6_code
def yX6_takeInRow : MethodName := ⟨RX6, "takeInRow", "(II)V"⟩
abbrev cX6_takeSuffix : ByteArray := prog_8_method_7_code
def yX6_takeSuffix : MethodName := ⟨RX6, "takeSuffix", "(II)V"⟩
abbrev cX6_openSet : ByteArray := prog_8_method_8_code
def yX6_openSet : MethodName := ⟨RX6, "openSet", "(I)V"⟩
abbrev cX6_takeInSet : ByteArray := prog_8_method_9_code
def yX6_takeInSet : MethodName := ⟨RX6, "takeInSet", "(II)V"⟩
abbrev cX6_takeSetLetter : ByteArray := prog_8_method_10_code
def yX6_takeSetLetter : MethodName := ⟨RX6, "takeSetLetter", "(II)V"⟩
abbrev cX6_takeInTimes : ByteArray := prog_8_method_11_code
def yX6_takeInTimes : MethodName := ⟨RX6, "takeInTimes", "(II)V"⟩
abbrev cX6_closeTimes : ByteArray := prog_8_method_12_code
def yX6_closeTimes : MethodName := ⟨RX6, "closeTimes", "()V"⟩
def RX7 : String := "PatternHouse$Register"
def TX7 : u_T := fun k => match k with
  | 0 => ("PatternHouse$Register", "size", "I", false)
  | 1 => ("PatternHouse$Register", "keys", "[J", true)
  | 2 => ("PatternHouse$Register", "slotOf", "[I", true)
  | _ => ("PatternHouse$Register", "slots", "[I", true)
def tyX7 : Nat → FieldType := fun k => match k with
  | 0 => .int
  | 1 => .array .long
  | 2 => .array .int
  | _ => .array .int
abbrev wsX70 : List Cond := u_ws RX7 TX7 4
theorem nmX7 : ∀ a, a < 4 → ∀ b, b < 4 → a ≠ b → (TX7 a).2.1 ≠ (TX7 b).2.1 := by decide +kernel
theorem tyX7_ok : ∀ k, k < 4 → parseFieldDescriptor (TX7 k).2.2.1 = some (tyX7 k) := by decide +kernel
abbrev cX7_init : ByteArray := prog_9_method_1_code
def yX7_init : MethodName := ⟨RX7, "<init>", "()V"⟩
abbrev cX7_forgetAll : ByteArray := prog_9_method_2_code
def yX7_forgetAll : MethodName := ⟨RX7, "forgetAll", "()V"⟩
abbrev cX7_numberOf : ByteArray := prog_9_method_3_code
def yX7_numberOf : MethodName := ⟨RX7, "numberOf", "(JI)I"⟩
abbrev cX7_enter : ByteArray := prog_9_method_4_code
def yX7_enter : MethodName := ⟨RX7, "enter", "(JI)I"⟩
abbrev cX7_homeOf : ByteArray := prog_9_method_5_code
def yX7_homeOf : MethodName := ⟨RX7, "homeOf", "(J)I"⟩
def RX8 : String := "PatternHouse$Text"
def TX8 : u_T := fun k => match k with
  | 0 => ("PatternHouse$Text", "length", "I", false)
  | 1 => ("PatternHouse$Text", "found", "I", false)
  | 2 => ("PatternHouse$Text", "begins", "[I", true)
  | 3 => ("PatternHouse$Text", "ends", "[I", true)
  | 4 => ("PatternHouse$Text", "letters", "[I", true)
  | _ => ("PatternHouse$Text", "looked", "Z", false)
def tyX8 : Nat → FieldType := fun k => match k with
  | 0 => .int
  | 1 => .int
  | 2 => .array .int
  | 3 => .array .int
  | 4 => .array .int
  | _ => .boolean
abbrev wsX80 : List Cond := u_ws RX8 TX8 6
theorem nmX8 : ∀ a, a < 6 → ∀ b, b < 6 → a ≠ b → (TX8 a).2.1 ≠ (TX8 b).2.1 := by decide +kernel
theorem tyX8_ok : ∀ k, k < 6 → parseFieldDescriptor (TX8 k).2.2.1 = some (tyX8 k) := by decide +kernel
abbrev cX8_init : ByteArray := prog_10_method_1_code
def yX8_init : MethodName := ⟨RX8, "<init>", "()V"⟩
abbrev cX8_append : ByteArray := prog_10_method_2_code
def yX8_append : MethodName := ⟨RX8, "append", "(JI)V"⟩
abbrev cX8_cutOff : ByteArray := prog_10_method_3_code
def yX8_cutOff : MethodName := ⟨RX8, "cutOff", "()V"⟩
abbrev cX8_forgetFinds : ByteArray := prog_10_method_4_code
def yX8_forgetFinds : MethodName := ⟨RX8, "forgetFinds", "()V"⟩
abbrev cX8_isWordOf : ByteArray := prog_10_method_5_code
def yX8_isWordOf : MethodName := ⟨RX8, "isWordOf", "(LPatternHouse$Pattern;)Z"⟩
abbrev cX8_lookFor : ByteArray := prog_10_method_6_code
def yX8_lookFor : MethodName := ⟨RX8, "lookFor", "(LPatternHouse$Pattern;)V"⟩
abbrev cX8_longestEnd : ByteArray := prog_10_method_7_code
def yX8_longestEnd : MethodName := ⟨RX8, "longestEnd", "(LPatternHouse$Pattern;I)I"⟩
def RX9 : String := "PatternHouse"
def TX9 : u_T := fun k => match k with
  | 0 => ("PatternHouse", "reader", "LPatternHouse$Reader;", true)
  | 1 => ("PatternHouse", "text", "LPatternHouse$Text;", true)
  | 2 => ("PatternHouse", "register", "LPatternHouse$Register;", true)
  | 3 => ("PatternHouse", "grouping", "LPatternHouse$Grouping;", true)
  | 4 => ("PatternHouse", "comparison", "LPatternHouse$Comparison;", true)
  | 5 => ("PatternHouse", "patterns", "[LPatternHouse$Pattern;", true)
  | 6 => ("PatternHouse", "current", "LPatternHouse$Pattern;", false)
  | _ => ("PatternHouse", "kept", "LPatternHouse$Pattern;", false)
def tyX9 : Nat → FieldType := fun k => match k with
  | 0 => .object "PatternHouse$Reader"
  | 1 => .object "PatternHouse$Text"
  | 2 => .object "PatternHouse$Register"
  | 3 => .object "PatternHouse$Grouping"
  | 4 => .object "PatternHouse$Comparison"
  | 5 => .array (.object "PatternHouse$Pattern")
  | 6 => .object "PatternHouse$Pattern"
  | _ => .object "PatternHouse$Pattern"
abbrev wsX90 : List Cond := u_ws RX9 TX9 8
theorem nmX9 : ∀ a, a < 8 → ∀ b, b < 8 → a ≠ b → (TX9 a).2.1 ≠ (TX9 b).2.1 := by decide +kernel
theorem tyX9_ok : ∀ k, k < 8 → parseFieldDescriptor (TX9 k).2.2.1 = some (tyX9 k) := by decide +kernel
abbrev cX9_init : ByteArray := prog_1_method_1_code
def yX9_init : MethodName := ⟨RX9, "<init>", "()V"⟩
abbrev cX9_type : ByteArray := prog_1_method_2_code
def yX9_type : MethodName := ⟨RX9, "type", "(JI)I"⟩
abbrev cX9_read : ByteArray := prog_1_method_3_code
def yX9_read : MethodName := ⟨RX9, "read", "()I"⟩
abbrev cX9_place : ByteArray := prog_1_method_4_code
def yX9_place : MethodName := ⟨RX9, "place", "()I"⟩
abbrev cX9_positions : ByteArray := prog_1_method_5_code
def yX9_positions : MethodName := ⟨RX9, "positions", "()I"⟩
abbrev cX9_empty : ByteArray := prog_1_method_6_code
def yX9_empty : MethodName := ⟨RX9, "empty", "()Z"⟩
abbrev cX9_is : ByteArray := prog_1_method_7_code
def yX9_is : MethodName := ⟨RX9, "is", "(II)Z"⟩
abbrev cX9_follows : ByteArray := prog_1_method_8_code
def yX9_follows : MethodName := ⟨RX9, "follows", "(II)Z"⟩
abbrev cX9_has : ByteArray := prog_1_method_9_code
def yX9_has : MethodName := ⟨RX9, "has", "(II)Z"⟩
abbrev cX9_feed : ByteArray := prog_1_method_10_code
def yX9_feed : MethodName := ⟨RX9, "feed", "(JI)I"⟩
abbrev cX9_clear : ByteArray := prog_1_method_11_code
def yX9_clear : MethodName := ⟨RX9, "clear", "()I"⟩
abbrev cX9_whole : ByteArray := prog_1_method_12_code
def yX9_whole : MethodName := ⟨RX9, "whole", "()Z"⟩
abbrev cX9_finds : ByteArray := prog_1_method_13_code
def yX9_finds : MethodName := ⟨RX9, "finds", "()I"⟩
abbrev cX9_find : ByteArray := prog_1_method_14_code
def yX9_find : MethodName := ⟨RX9, "find", "(IZ)I"⟩
abbrev cX9_states : ByteArray := prog_1_method_15_code
def yX9_states : MethodName := ⟨RX9, "states", "()I"⟩
abbrev cX9_next : ByteArray := prog_1_method_16_code
def yX9_next : MethodName := ⟨RX9, "next", "(II)I"⟩
abbrev cX9_good : ByteArray := prog_1_method_17_code
def yX9_good : MethodName := ⟨RX9, "good", "(I)Z"⟩
abbrev cX9_classes : ByteArray := prog_1_method_18_code
def yX9_classes : MethodName := ⟨RX9, "classes", "()I"⟩
abbrev cX9_keep : ByteArray := prog_1_method_19_code
def yX9_keep : MethodName := ⟨RX9, "keep", "()V"⟩
abbrev cX9_differ : ByteArray := prog_1_method_20_code
def yX9_differ : MethodName := ⟨RX9, "differ", "()I"⟩
abbrev cX9_letter : ByteArray := prog_1_method_21_code
def yX9_letter : MethodName := ⟨RX9, "letter", "(I)I"⟩
abbrev cX9_thePattern : ByteArray := prog_1_method_22_code
def yX9_thePattern : MethodName := ⟨RX9, "thePattern", "()LPatternHouse$Pattern;"⟩
abbrev cX9_freePattern : ByteArray := prog_1_method_23_code
def yX9_freePattern : MethodName := ⟨RX9, "freePattern", "()LPatternHouse$Pattern;"⟩
abbrev cX9_automatonOf : ByteArray := prog_1_method_24_code
def yX9_automatonOf : MethodName := ⟨RX9, "automatonOf", "(LPatternHouse$Pattern;)LPatternHouse$Automaton;"⟩
abbrev cX9_byteOf : ByteArray := prog_1_method_25_code
def yX9_byteOf : MethodName := ⟨RX9, "byteOf", "(JI)I"⟩
abbrev cX9_letterOf : ByteArray := prog_1_method_26_code
def yX9_letterOf : MethodName := ⟨RX9, "letterOf", "(I)I"⟩
abbrev cX9_allLetters : ByteArray := prog_1_method_27_code
def yX9_allLetters : MethodName := ⟨RX9, "allLetters", "(JI)Z"⟩
abbrev cX9_holds : ByteArray := prog_1_method_28_code
def yX9_holds : MethodName := ⟨RX9, "holds", "(JI)Z"⟩
def RX10 : String := "PatternHouseModel"
def TX10 : u_T := fun k => match k with
  | 0 => ("PatternHouseModel", "code", "I", false)
  | 1 => ("PatternHouseModel", "typed", "[I", true)
  | 2 => ("PatternHouseModel", "typedSize", "I", false)
  | 3 => ("PatternHouseModel", "text", "[I", true)
  | 4 => ("PatternHouseModel", "textSize", "I", false)
  | 5 => ("PatternHouseModel", "where", "I", false)
  | 6 => ("PatternHouseModel", "is", "[Z", true)
  | 7 => ("PatternHouseModel", "count", "[I", true)
  | 8 => ("PatternHouseModel", "hasEmpty", "[Z", true)
  | 9 => ("PatternHouseModel", "first", "[J", true)
  | 10 => ("PatternHouseModel", "last", "[J", true)
  | 11 => ("PatternHouseModel", "follow", "[J", true)
  | 12 => ("PatternHouseModel", "sets", "[J", true)
  | 13 => ("PatternHouseModel", "depth", "I", false)
  | 14 => ("PatternHouseModel", "total", "I", false)
  | 15 => ("PatternHouseModel", "rowEmpty", "[Z", true)
  | 16 => ("PatternHouseModel", "rowFirst", "[J", true)
  | 17 => ("PatternHouseModel", "rowLast", "[J", true)
  | 18 => ("PatternHouseModel", "partIs", "[Z", true)
  | 19 => ("PatternHouseModel", "partBase", "[I", true)
  | 20 => ("PatternHouseModel", "partEmpty", "[Z", true)
  | 21 => ("PatternHouseModel", "partFirst", "[J", true)
  | 22 => ("PatternHouseModel", "partLast", "[J", true)
  | 23 => ("PatternHouseModel", "choiceEmpty", "[Z", true)
  | 24 => ("PatternHouseModel", "choiceFirst", "[J", true)
  | 25 => ("PatternHouseModel", "choiceLast", "[J", true)
  | 26 => ("PatternHouseModel", "openBase", "[I", true)
  | 27 => ("PatternHouseModel", "spare", "[J", true)
  | 28 => ("PatternHouseModel", "at", "I", false)
  | 29 => ("PatternHouseModel", "fault", "I", false)
  | 30 => ("PatternHouseModel", "states", "[J", true)
  | 31 => ("PatternHouseModel", "ways", "[I", true)
  | 32 => ("PatternHouseModel", "stateCount", "[I", true)
  | 33 => ("PatternHouseModel", "beyond", "[Z", true)
  | 34 => ("PatternHouseModel", "apart", "[Z", true)
  | 35 => ("PatternHouseModel", "pairs", "[I", true)
  | 36 => ("PatternHouseModel", "before", "[I", true)
  | 37 => ("PatternHouseModel", "by", "[I", true)
  | 38 => ("PatternHouseModel", "word", "[I", true)
  | 39 => ("PatternHouseModel", "wordSize", "I", false)
  | 40 => ("PatternHouseModel", "ends", "[I", true)
  | 41 => ("PatternHouseModel", "begins", "[I", true)
  | _ => ("PatternHouseModel", "findCount", "I", false)
def tyX10 : Nat → FieldType := fun k => match k with
  | 0 => .int
  | 1 => .array .int
  | 2 => .int
  | 3 => .array .int
  | 4 => .int
  | 5 => .int
  | 6 => .array .boolean
  | 7 => .array .int
  | 8 => .array .boolean
  | 9 => .array .long
  | 10 => .array .long
  | 11 => .array .long
  | 12 => .array .long
  | 13 => .int
  | 14 => .int
  | 15 => .array .boolean
  | 16 => .array .long
  | 17 => .array .long
  | 18 => .array .boolean
  | 19 => .array .int
  | 20 => .array .boolean
  | 21 => .array .long
  | 22 => .array .long
  | 23 => .array .boolean
  | 24 => .array .long
  | 25 => .array .long
  | 26 => .array .int
  | 27 => .array .long
  | 28 => .int
  | 29 => .int
  | 30 => .array .long
  | 31 => .array .int
  | 32 => .array .int
  | 33 => .array .boolean
  | 34 => .array .boolean
  | 35 => .array .int
  | 36 => .array .int
  | 37 => .array .int
  | 38 => .array .int
  | 39 => .int
  | 40 => .array .int
  | 41 => .array .int
  | _ => .int
abbrev wsX100 : List Cond := u_ws RX10 TX10 43
theorem nmX10 : ∀ a, a < 43 → ∀ b, b < 43 → a ≠ b → (TX10 a).2.1 ≠ (TX10 b).2.1 := by decide +kernel
theorem tyX10_ok : ∀ k, k < 43 → parseFieldDescriptor (TX10 k).2.2.1 = some (tyX10 k) := by decide +kernel
abbrev cX10_init : ByteArray := prog_12_method_1_code
def yX10_init : MethodName := ⟨RX10, "<init>", "()V"⟩
abbrev cX10_thrown : ByteArray := prog_12_method_2_code
def yX10_thrown : MethodName := ⟨RX10, "thrown", "()I"⟩
abbrev cX10_letterOf : ByteArray := prog_12_method_3_code
def yX10_letterOf : MethodName := ⟨RX10, "letterOf", "(I)I"⟩
abbrev cX10_hasBit : ByteArray := prog_12_method_4_code
def yX10_hasBit : MethodName := ⟨RX10, "hasBit", "(JI)Z"⟩
abbrev cX10_type : ByteArray := prog_12_method_5_code
def yX10_type : MethodName := ⟨RX10, "type", "(JI)I"⟩
abbrev cX10_fail : ByteArray := prog_12_method_6_code
def yX10_fail : MethodName := ⟨RX10, "fail", "(II)V"⟩
abbrev cX10_here : ByteArray := prog_12_method_7_code
def yX10_here : MethodName := ⟨RX10, "here", "()I"⟩
abbrev cX10_failHere : ByteArray := prog_12_method_8_code
def yX10_failHere : MethodName := ⟨RX10, "failHere", "()V"⟩
abbrev cX10_beginRow : ByteArray := prog_12_method_9_code
def yX10_beginRow : MethodName := ⟨RX10, "beginRow", "()V"⟩
abbrev cX10_beginChoices : ByteArray := prog_12_method_10_code
def yX10_beginChoices : MethodName := ⟨RX10, "beginChoices", "()V"⟩
abbrev cX10_link : ByteArray := prog_12_method_11_code
def yX10_link : MethodName := ⟨RX10, "link", "(JJ)V"⟩
abbrev cX10_joinPart : ByteArray := prog_12_method_12_code
def yX10_joinPart : MethodName := ⟨RX10, "joinPart", "()V"⟩
abbrev cX10_endRow : ByteArray := prog_12_method_13_code
def yX10_endRow : MethodName := ⟨RX10, "endRow", "()V"⟩
abbrev cX10_setPart : ByteArray := prog_12_method_14_code
def yX10_setPart : MethodName := ⟨RX10, "setPart", "(IZJJ)V"⟩
abbrev cX10_atom : ByteArray := prog_12_method_15_code
def yX10_atom : MethodName := ⟨RX10, "atom", "(JI)V"⟩
abbrev cX10_upTo : ByteArray := prog_12_method_16_code
def yX10_upTo : MethodName := ⟨RX10, "upTo", "(II)J"⟩
abbrev cX10_readSet : ByteArray := prog_12_method_17_code
def yX10_readSet : MethodName := ⟨RX10, "readSet", "()V"⟩
abbrev cX10_digit : ByteArray := prog_12_method_18_code
def yX10_digit : MethodName := ⟨RX10, "digit", "()I"⟩
abbrev cX10_readTimes : ByteArray := prog_12_method_19_code
def yX10_readTimes : MethodName := ⟨RX10, "readTimes", "()V"⟩
abbrev cX10_times : ByteArray := prog_12_method_20_code
def yX10_times : MethodName := ⟨RX10, "times", "(III)V"⟩
abbrev cX10_suffix : ByteArray := prog_12_method_21_code
def yX10_suffix : MethodName := ⟨RX10, "suffix", "(I)V"⟩
abbrev cX10_close : ByteArray := prog_12_method_22_code
def yX10_close : MethodName := ⟨RX10, "close", "()V"⟩
abbrev cX10_readOne : ByteArray := prog_12_method_23_code
def yX10_readOne : MethodName := ⟨RX10, "readOne", "()V"⟩
abbrev cX10_copy : ByteArray := prog_12_method_24_code
def yX10_copy : MethodName := ⟨RX10, "copy", "(II)V"⟩
abbrev cX10_read : ByteArray := prog_12_method_25_code
def yX10_read : MethodName := ⟨RX10, "read", "()I"⟩
abbrev cX10_place : ByteArray := prog_12_method_26_code
def yX10_place : MethodName := ⟨RX10, "place", "()I"⟩
abbrev cX10_none : ByteArray := prog_12_method_27_code
def yX10_none : MethodName := ⟨RX10, "none", "()Z"⟩
abbrev cX10_positions : ByteArray := prog_12_method_28_code
def yX10_positions : MethodName := ⟨RX10, "positions", "()I"⟩
abbrev cX10_empty : ByteArray := prog_12_method_29_code
def yX10_empty : MethodName := ⟨RX10, "empty", "()Z"⟩
abbrev cX10_noPosition : ByteArray := prog_12_method_30_code
def yX10_noPosition : MethodName := ⟨RX10, "noPosition", "(I)Z"⟩
abbrev cX10_is : ByteArray := prog_12_method_31_code
def yX10_is : MethodName := ⟨RX10, "is", "(II)Z"⟩
abbrev cX10_follows : ByteArray := prog_12_method_32_code
def yX10_follows : MethodName := ⟨RX10, "follows", "(II)Z"⟩
abbrev cX10_has : ByteArray := prog_12_method_33_code
def yX10_has : MethodName := ⟨RX10, "has", "(II)Z"⟩
abbrev cX10_feed : ByteArray := prog_12_method_34_code
def yX10_feed : MethodName := ⟨RX10, "feed", "(JI)I"⟩
abbrev cX10_clear : ByteArray := prog_12_method_35_code
def yX10_clear : MethodName := ⟨RX10, "clear", "()I"⟩
abbrev cX10_goOn : ByteArray := prog_12_method_36_code
def yX10_goOn : MethodName := ⟨RX10, "goOn", "(IZJI)J"⟩
abbrev cX10_longest : ByteArray := prog_12_method_37_code
def yX10_longest : MethodName := ⟨RX10, "longest", "(I)I"⟩
abbrev cX10_whole : ByteArray := prog_12_method_38_code
def yX10_whole : MethodName := ⟨RX10, "whole", "()Z"⟩
abbrev cX10_findAll : ByteArray := prog_12_method_39_code
def yX10_findAll : MethodName := ⟨RX10, "findAll", "()V"⟩
abbrev cX10_finds : ByteArray := prog_12_method_40_code
def yX10_finds : MethodName := ⟨RX10, "finds", "()I"⟩
abbrev cX10_find : ByteArray := prog_12_method_41_code
def yX10_find : MethodName := ⟨RX10, "find", "(IZ)I"⟩
abbrev cX10_stateOf : ByteArray := prog_12_method_42_code
def yX10_stateOf : MethodName := ⟨RX10, "stateOf", "(IJ)I"⟩
abbrev cX10_build : ByteArray := prog_12_method_43_code
def yX10_build : MethodName := ⟨RX10, "build", "(I)V"⟩
abbrev cX10_isGood : ByteArray := prog_12_method_44_code
def yX10_isGood : MethodName := ⟨RX10, "isGood", "(II)Z"⟩
abbrev cX10_states : ByteArray := prog_12_method_45_code
def yX10_states : MethodName := ⟨RX10, "states", "()I"⟩
abbrev cX10_noState : ByteArray := prog_12_method_46_code
def yX10_noState : MethodName := ⟨RX10, "noState", "(I)Z"⟩
abbrev cX10_next : ByteArray := prog_12_method_47_code
def yX10_next : MethodName := ⟨RX10, "next", "(II)I"⟩
abbrev cX10_good : ByteArray := prog_12_method_48_code
def yX10_good : MethodName := ⟨RX10, "good", "(I)Z"⟩
abbrev cX10_partMore : ByteArray := prog_12_method_49_code
def yX10_partMore : MethodName := ⟨RX10, "partMore", "(I)Z"⟩
abbrev cX10_nowApart : ByteArray := prog_12_method_50_code
def yX10_nowApart : MethodName := ⟨RX10, "nowApart", "(II)Z"⟩
abbrev cX10_classes : ByteArray := prog_12_method_51_code
def yX10_classes : MethodName := ⟨RX10, "classes", "()I"⟩
abbrev cX10_keep : ByteArray := prog_12_method_52_code
def yX10_keep : MethodName := ⟨RX10, "keep", "()V"⟩
abbrev cX10_spell : ByteArray := prog_12_method_53_code
def yX10_spell : MethodName := ⟨RX10, "spell", "(I)V"⟩
abbrev cX10_differ : ByteArray := prog_12_method_54_code
def yX10_differ : MethodName := ⟨RX10, "differ", "()I"⟩
abbrev cX10_letter : ByteArray := prog_12_method_55_code
def yX10_letter : MethodName := ⟨RX10, "letter", "(I)I"⟩
def RJ10 : String := "java/lang/System"
def TJ10 : u_T := fun k => match k with
  | _ => ("", "", "", false)
def tyJ10 : Nat → FieldType := fun k => match k with
  | _ => .int
theorem nmJ10 : ∀ a, a < 0 → ∀ b, b < 0 → a ≠ b → (TJ10 a).2.1 ≠ (TJ10 b).2.1 := by decide +kernel
theorem tyJ10_ok : ∀ k, k < 0 → parseFieldDescriptor (TJ10 k).2.2.1 = some (tyJ10 k) := by decide +kernel
def RL : String := "PatternHouseLaw"
abbrev cL_type : ByteArray := method_3_code
def yL_type : MethodName := ⟨RL, "type", "(LPatternHouse;JI[J)I"⟩
abbrev cL_positions : ByteArray := method_4_code
def yL_positions : MethodName := ⟨RL, "positions", "(LPatternHouse;[J)I"⟩
abbrev cL_empty : ByteArray := method_5_code
def yL_empty : MethodName := ⟨RL, "empty", "(LPatternHouse;[J)I"⟩
abbrev cL_is : ByteArray := method_6_code
def yL_is : MethodName := ⟨RL, "is", "(LPatternHouse;II[J)I"⟩
abbrev cL_follows : ByteArray := method_7_code
def yL_follows : MethodName := ⟨RL, "follows", "(LPatternHouse;II[J)I"⟩
abbrev cL_has : ByteArray := method_8_code
def yL_has : MethodName := ⟨RL, "has", "(LPatternHouse;II[J)I"⟩
abbrev cL_feed : ByteArray := method_9_code
def yL_feed : MethodName := ⟨RL, "feed", "(LPatternHouse;JI[J)I"⟩
abbrev cL_whole : ByteArray := method_10_code
def yL_whole : MethodName := ⟨RL, "whole", "(LPatternHouse;[J)I"⟩
abbrev cL_finds : ByteArray := method_11_code
def yL_finds : MethodName := ⟨RL, "finds", "(LPatternHouse;[J)I"⟩
abbrev cL_find : ByteArray := method_12_code
def yL_find : MethodName := ⟨RL, "find", "(LPatternHouse;IZ[J)I"⟩
abbrev cL_states : ByteArray := method_13_code
def yL_states : MethodName := ⟨RL, "states", "(LPatternHouse;[J)I"⟩
abbrev cL_next : ByteArray := method_14_code
def yL_next : MethodName := ⟨RL, "next", "(LPatternHouse;II[J)I"⟩
abbrev cL_good : ByteArray := method_15_code
def yL_good : MethodName := ⟨RL, "good", "(LPatternHouse;I[J)I"⟩
abbrev cL_classes : ByteArray := method_16_code
def yL_classes : MethodName := ⟨RL, "classes", "(LPatternHouse;[J)I"⟩
abbrev cL_keep : ByteArray := method_17_code
def yL_keep : MethodName := ⟨RL, "keep", "(LPatternHouse;)I"⟩
abbrev cL_differ : ByteArray := method_18_code
def yL_differ : MethodName := ⟨RL, "differ", "(LPatternHouse;[J)I"⟩
abbrev cL_letter : ByteArray := method_19_code
def yL_letter : MethodName := ⟨RL, "letter", "(LPatternHouse;I[J)I"⟩
abbrev cL_law : ByteArray := code
def yL_law : MethodName := ⟨RL, "law", "([I)Z"⟩
abbrev vwCl : List vw_C := [(RX0, TX0, 6), (RX1, TX1, 9), (RX2, TX2, 2), (RX3, TX3, 7), (RX4, TX4, 8), (RX5, TX5, 4), (RX6, TX6, 13), (RX7, TX7, 4), (RX8, TX8, 6), (RX9, TX9, 8), (RX10, TX10, 43)]
end
section
theorem dX0_init_0 : decode cX0_init 0 = .ok (.aload_n 0, 1) := by decide +kernel
theorem dX0_init_1 : decode cX0_init 1 = .ok (.invokespecial 3, 3) := by decide +kernel
theorem dX0_init_4 : decode cX0_init 4 = .ok (.aload_n 0, 1) := by decide +kernel
theorem dX0_init_5 : decode cX0_init 5 = .ok (.sipush 300, 3) := by decide +kernel
theorem dX0_init_8 : decode cX0_init 8 = .ok (.newarray .boolean, 2) := by decide +kernel
theorem dX0_init_10 : decode cX0_init 10 = .ok (.putfield 9, 3) := by decide +kernel
theorem dX0_init_13 : decode cX0_init 13 = .ok (.aload_n 0, 1) := by decide +kernel
theorem dX0_init_14 : decode cX0_init 14 = .ok (.sipush 10800, 3) := by decide +kernel
theorem dX0_init_17 : decode cX0_init 17 = .ok (.newarray .int, 2) := by decide +kernel
theorem dX0_init_19 : decode cX0_init 19 = .ok (.putfield 15, 3) := by decide +kernel
theorem dX0_init_22 : decode cX0_init 22 = .ok (.return_, 1) := by decide +kernel
theorem dX0_wayFrom_0 : decode cX0_wayFrom 0 = .ok (.aload_n 0, 1) := by decide +kernel
theorem dX0_wayFrom_1 : decode cX0_wayFrom 1 = .ok (.getfield 15, 3) := by decide +kernel
theorem dX0_wayFrom_4 : decode cX0_wayFrom 4 = .ok (.iload_n 1, 1) := by decide +kernel
theorem dX0_wayFrom_5 : decode cX0_wayFrom 5 = .ok (.bipush 36, 2) := by decide +kernel
theorem dX0_wayFrom_7 : decode cX0_wayFrom 7 = .ok (.imul, 1) := by decide +kernel
theorem dX0_wayFrom_8 : decode cX0_wayFrom 8 = .ok (.iload_n 2, 1) := by decide +kernel
theorem dX0_wayFrom_9 : decode cX0_wayFrom 9 = .ok (.iadd, 1) := by decide +kernel
theorem dX0_wayFrom_10 : decode cX0_wayFrom 10 = .ok (.iaload, 1) := by decide +kernel
theorem dX0_wayFrom_11 : decode cX0_wayFrom 11 = .ok (.ireturn, 1) := by decide +kernel
theorem dX0_build_0 : decode cX0_build 0 = .ok (.aload_n 2, 1) := by decide +kernel
theorem dX0_build_1 : decode cX0_build 1 = .ok (.invokevirtual 19, 3) := by decide +kernel
theorem dX0_build_4 : decode cX0_build 4 = .ok (.aload_n 0, 1) := by decide +kernel
theorem dX0_build_5 : decode cX0_build 5 = .ok (.iconst 0, 1) := by decide +kernel
theorem dX0_build_6 : decode cX0_build 6 = .ok (.putfield 24, 3) := by decide +kernel
theorem dX0_build_9 : decode cX0_build 9 = .ok (.aload_n 0, 1) := by decide +kernel
theorem dX0_build_10 : decode cX0_build 10 = .ok (.iconst (-1), 1) := by decide +kernel
theorem dX0_build_11 : decode cX0_build 11 = .ok (.putfield 28, 3) := by decide +kernel
theorem dX0_build_14 : decode cX0_build 14 = .ok (.aload_n 0, 1) := by decide +kernel
theorem dX0_build_15 : decode cX0_build 15 = .ok (.iconst 1, 1) := by decide +kernel
theorem dX0_build_16 : decode cX0_build 16 = .ok (.putfield 32, 3) := by decide +kernel
theorem dX0_build_19 : decode cX0_build 19 = .ok (.aload_n 0, 1) := by decide +kernel
theorem dX0_build_20 : decode cX0_build 20 = .ok (.getfield 9, 3) := by decide +kernel
theorem dX0_build_23 : decode cX0_build 23 = .ok (.iconst 0, 1) := by decide +kernel
theorem dX0_build_24 : decode cX0_build 24 = .ok (.aload_n 1, 1) := by decide +kernel
theorem dX0_build_25 : decode cX0_build 25 = .ok (.getfield 35, 3) := by decide +kernel
theorem dX0_build_28 : decode cX0_build 28 = .ok (.bastore, 1) := by decide +kernel
theorem dX0_build_29 : decode cX0_build 29 = .ok (.aload_n 0, 1) := by decide +kernel
theorem dX0_build_30 : decode cX0_build 30 = .ok (.iconst 0, 1) := by decide +kernel
theorem dX0_build_31 : decode cX0_build 31 = .ok (.aload_n 1, 1) := by decide +kernel
theorem dX0_build_32 : decode cX0_build 32 = .ok (.getfield 40, 3) := by decide +kernel
theorem dX0_build_35 : decode cX0_build 35 = .ok (.aload_n 1, 1) := by decide +kernel
theorem dX0_build_36 : decode cX0_build 36 = .ok (.aload_n 2, 1) := by decide +kernel
theorem dX0_build_37 : decode cX0_build 37 = .ok (.invokevirtual 44, 3) := by decide +kernel
theorem dX0_build_40 : decode cX0_build 40 = .ok (.iconst 1, 1) := by decide +kernel
theorem dX0_build_41 : decode cX0_build 41 = .ok (.istore_n 3, 1) := by decide +kernel
theorem dX0_build_42 : decode cX0_build 42 = .ok (.iload_n 3, 1) := by decide +kernel
theorem dX0_build_43 : decode cX0_build 43 = .ok (.aload_n 0, 1) := by decide +kernel
theorem dX0_build_44 : decode cX0_build 44 = .ok (.getfield 32, 3) := by decide +kernel
theorem dX0_build_47 : decode cX0_build 47 = .ok (.if_icmp .ge 62, 3) := by decide +kernel
theorem dX0_build_50 : decode cX0_build 50 = .ok (.iload_n 3, 1) := by decide +kernel
theorem dX0_build_51 : decode cX0_build 51 = .ok (.sipush 300, 3) := by decide +kernel
theorem dX0_build_54 : decode cX0_build 54 = .ok (.if_icmp .ge 55, 3) := by decide +kernel
theorem dX0_build_57 : decode cX0_build 57 = .ok (.aload_n 2, 1) := by decide +kernel
theorem dX0_build_58 : decode cX0_build 58 = .ok (.getfield 48, 3) := by decide +kernel
theorem dX0_build_61 : decode cX0_build 61 = .ok (.iload_n 3, 1) := by decide +kernel
theorem dX0_build_62 : decode cX0_build 62 = .ok (.iconst 1, 1) := by decide +kernel
theorem dX0_build_63 : decode cX0_build 63 = .ok (.isub, 1) := by decide +kernel
theorem dX0_build_64 : decode cX0_build 64 = .ok (.laload, 1) := by decide +kernel
theorem dX0_build_65 : decode cX0_build 65 = .ok (.lstore 4, 2) := by decide +kernel
theorem dX0_build_67 : decode cX0_build 67 = .ok (.aload_n 0, 1) := by decide +kernel
theorem dX0_build_68 : decode cX0_build 68 = .ok (.getfield 9, 3) := by decide +kernel
theorem dX0_build_71 : decode cX0_build 71 = .ok (.iload_n 3, 1) := by decide +kernel
theorem dX0_build_72 : decode cX0_build 72 = .ok (.lload 4, 2) := by decide +kernel
theorem dX0_build_74 : decode cX0_build 74 = .ok (.aload_n 1, 1) := by decide +kernel
theorem dX0_build_75 : decode cX0_build 75 = .ok (.getfield 52, 3) := by decide +kernel
theorem dX0_build_78 : decode cX0_build 78 = .ok (.land, 1) := by decide +kernel
theorem dX0_build_79 : decode cX0_build 79 = .ok (.lconst 0, 1) := by decide +kernel
theorem dX0_build_80 : decode cX0_build 80 = .ok (.lcmp, 1) := by decide +kernel
theorem dX0_build_81 : decode cX0_build 81 = .ok (.ifCond .eq 7, 3) := by decide +kernel
theorem dX0_build_84 : decode cX0_build 84 = .ok (.iconst 1, 1) := by decide +kernel
theorem dX0_build_85 : decode cX0_build 85 = .ok (.goto 4, 3) := by decide +kernel
theorem dX0_build_88 : decode cX0_build 88 = .ok (.iconst 0, 1) := by decide +kernel
theorem dX0_build_89 : decode cX0_build 89 = .ok (.bastore, 1) := by decide +kernel
theorem dX0_build_90 : decode cX0_build 90 = .ok (.aload_n 0, 1) := by decide +kernel
theorem dX0_build_91 : decode cX0_build 91 = .ok (.iload_n 3, 1) := by decide +kernel
theorem dX0_build_92 : decode cX0_build 92 = .ok (.aload_n 1, 1) := by decide +kernel
theorem dX0_build_93 : decode cX0_build 93 = .ok (.lload 4, 2) := by decide +kernel
theorem dX0_build_95 : decode cX0_build 95 = .ok (.invokevirtual 55, 3) := by decide +kernel
theorem dX0_build_98 : decode cX0_build 98 = .ok (.aload_n 1, 1) := by decide +kernel
theorem dX0_build_99 : decode cX0_build 99 = .ok (.aload_n 2, 1) := by decide +kernel
theorem dX0_build_100 : decode cX0_build 100 = .ok (.invokevirtual 44, 3) := by decide +kernel
theorem dX0_build_103 : decode cX0_build 103 = .ok (.iinc 3 1, 3) := by decide +kernel
theorem dX0_build_106 : decode cX0_build 106 = .ok (.goto (-64), 3) := by decide +kernel
theorem dX0_build_109 : decode cX0_build 109 = .ok (.aload_n 0, 1) := by decide +kernel
theorem dX0_build_110 : decode cX0_build 110 = .ok (.iconst 1, 1) := by decide +kernel
theorem dX0_build_111 : decode cX0_build 111 = .ok (.putfield 59, 3) := by decide +kernel
theorem dX0_build_114 : decode cX0_build 114 = .ok (.return_, 1) := by decide +kernel
theorem dX0_layWays_0 : decode cX0_layWays 0 = .ok (.iconst 0, 1) := by decide +kernel
theorem dX0_layWays_1 : decode cX0_layWays 1 = .ok (.istore 6, 2) := by decide +kernel
theorem dX0_layWays_3 : decode cX0_layWays 3 = .ok (.iload 6, 2) := by decide +kernel
theorem dX0_layWays_5 : decode cX0_layWays 5 = .ok (.bipush 36, 2) := by decide +kernel
theorem dX0_layWays_7 : decode cX0_layWays 7 = .ok (.if_icmp .ge 77, 3) := by decide +kernel
theorem dX0_layWays_10 : decode cX0_layWays 10 = .ok (.aload 5, 2) := by decide +kernel
theorem dX0_layWays_12 : decode cX0_layWays 12 = .ok (.lload_n 2, 1) := by decide +kernel
theorem dX0_layWays_13 : decode cX0_layWays 13 = .ok (.aload 4, 2) := by decide +kernel
theorem dX0_layWays_15 : decode cX0_layWays 15 = .ok (.getfield 62, 3) := by decide +kernel
theorem dX0_layWays_18 : decode cX0_layWays 18 = .ok (.iload 6, 2) := by decide +kernel
theorem dX0_layWays_20 : decode cX0_layWays 20 = .ok (.laload, 1) := by decide +kernel
theorem dX0_layWays_21 : decode cX0_layWays 21 = .ok (.land, 1) := by decide +kernel
theorem dX0_layWays_22 : decode cX0_layWays 22 = .ok (.sipush 299, 3) := by decide +kernel
theorem dX0_layWays_25 : decode cX0_layWays 25 = .ok (.invokevirtual 65, 3) := by decide +kernel
theorem dX0_layWays_28 : decode cX0_layWays 28 = .ok (.istore 7, 2) := by decide +kernel
theorem dX0_layWays_30 : decode cX0_layWays 30 = .ok (.aload_n 0, 1) := by decide +kernel
theorem dX0_layWays_31 : decode cX0_layWays 31 = .ok (.getfield 15, 3) := by decide +kernel
theorem dX0_layWays_34 : decode cX0_layWays 34 = .ok (.iload_n 1, 1) := by decide +kernel
theorem dX0_layWays_35 : decode cX0_layWays 35 = .ok (.bipush 36, 2) := by decide +kernel
theorem dX0_layWays_37 : decode cX0_layWays 37 = .ok (.imul, 1) := by decide +kernel
theorem dX0_layWays_38 : decode cX0_layWays 38 = .ok (.iload 6, 2) := by decide +kernel
theorem dX0_layWays_40 : decode cX0_layWays 40 = .ok (.iadd, 1) := by decide +kernel
theorem dX0_layWays_41 : decode cX0_layWays 41 = .ok (.iload 7, 2) := by decide +kernel
theorem dX0_layWays_43 : decode cX0_layWays 43 = .ok (.iconst (-1), 1) := by decide +kernel
theorem dX0_layWays_44 : decode cX0_layWays 44 = .ok (.if_icmp .ne 7, 3) := by decide +kernel
theorem dX0_layWays_47 : decode cX0_layWays 47 = .ok (.iconst (-1), 1) := by decide +kernel
theorem dX0_layWays_48 : decode cX0_layWays 48 = .ok (.goto 7, 3) := by decide +kernel
theorem dX0_layWays_51 : decode cX0_layWays 51 = .ok (.iload 7, 2) := by decide +kernel
theorem dX0_layWays_53 : decode cX0_layWays 53 = .ok (.iconst 1, 1) := by decide +kernel
theorem dX0_layWays_54 : decode cX0_layWays 54 = .ok (.iadd, 1) := by decide +kernel
theorem dX0_layWays_55 : decode cX0_layWays 55 = .ok (.iastore, 1) := by decide +kernel
theorem dX0_layWays_56 : decode cX0_layWays 56 = .ok (.aload_n 0, 1) := by decide +kernel
theorem dX0_layWays_57 : decode cX0_layWays 57 = .ok (.aload_n 0, 1) := by decide +kernel
theorem dX0_layWays_58 : decode cX0_layWays 58 = .ok (.getfield 24, 3) := by decide +kernel
theorem dX0_layWays_61 : decode cX0_layWays 61 = .ok (.ifCond .ne 9, 3) := by decide +kernel
theorem dX0_layWays_64 : decode cX0_layWays 64 = .ok (.iload 7, 2) := by decide +kernel
theorem dX0_layWays_66 : decode cX0_layWays 66 = .ok (.iconst (-1), 1) := by decide +kernel
theorem dX0_layWays_67 : decode cX0_layWays 67 = .ok (.if_icmp .ne 7, 3) := by decide +kernel
theorem dX0_layWays_70 : decode cX0_layWays 70 = .ok (.iconst 1, 1) := by decide +kernel
theorem dX0_layWays_71 : decode cX0_layWays 71 = .ok (.goto 4, 3) := by decide +kernel
theorem dX0_layWays_74 : decode cX0_layWays 74 = .ok (.iconst 0, 1) := by decide +kernel
theorem dX0_layWays_75 : decode cX0_layWays 75 = .ok (.putfield 24, 3) := by decide +kernel
theorem dX0_layWays_78 : decode cX0_layWays 78 = .ok (.iinc 6 1, 3) := by decide +kernel
theorem dX0_layWays_81 : decode cX0_layWays 81 = .ok (.goto (-78), 3) := by decide +kernel
theorem dX0_layWays_84 : decode cX0_layWays 84 = .ok (.aload_n 0, 1) := by decide +kernel
theorem dX0_layWays_85 : decode cX0_layWays 85 = .ok (.aload 5, 2) := by decide +kernel
theorem dX0_layWays_87 : decode cX0_layWays 87 = .ok (.getfield 69, 3) := by decide +kernel
theorem dX0_layWays_90 : decode cX0_layWays 90 = .ok (.iconst 1, 1) := by decide +kernel
theorem dX0_layWays_91 : decode cX0_layWays 91 = .ok (.iadd, 1) := by decide +kernel
theorem dX0_layWays_92 : decode cX0_layWays 92 = .ok (.putfield 32, 3) := by decide +kernel
theorem dX0_layWays_95 : decode cX0_layWays 95 = .ok (.return_, 1) := by decide +kernel
theorem dX1_init_0 : decode cX1_init 0 = .ok (.aload_n 0, 1) := by decide +kernel
theorem dX1_init_1 : decode cX1_init 1 = .ok (.invokespecial 3, 3) := by decide +kernel
theorem dX1_init_4 : decode cX1_init 4 = .ok (.aload_n 0, 1) := by decide +kernel
theorem dX1_init_5 : decode cX1_init 5 = .ok (.sipush 600, 3) := by decide +kernel
theorem dX1_init_8 : decode cX1_init 8 = .ok (.newarray .int, 2) := by decide +kernel
theorem dX1_init_10 : decode cX1_init 10 = .ok (.putfield 11, 3) := by decide +kernel
theorem dX1_init_13 : decode cX1_init 13 = .ok (.aload_n 0, 1) := by decide +kernel
theorem dX1_init_14 : decode cX1_init 14 = .ok (.sipush 600, 3) := by decide +kernel
theorem dX1_init_17 : decode cX1_init 17 = .ok (.newarray .int, 2) := by decide +kernel
theorem dX1_init_19 : decode cX1_init 19 = .ok (.putfield 15, 3) := by decide +kernel
theorem dX1_init_22 : decode cX1_init 22 = .ok (.aload_n 0, 1) := by decide +kernel
theorem dX1_init_23 : decode cX1_init 23 = .ok (.sipush 600, 3) := by decide +kernel
theorem dX1_init_26 : decode cX1_init 26 = .ok (.newarray .int, 2) := by decide +kernel
theorem dX1_init_28 : decode cX1_init 28 = .ok (.putfield 18, 3) := by decide +kernel
theorem dX1_init_31 : decode cX1_init 31 = .ok (.aload_n 0, 1) := by decide +kernel
theorem dX1_init_32 : decode cX1_init 32 = .ok (.sipush 600, 3) := by decide +kernel
theorem dX1_init_35 : decode cX1_init 35 = .ok (.newarray .int, 2) := by decide +kernel
theorem dX1_init_37 : decode cX1_init 37 = .ok (.putfield 21, 3) := by decide +kernel
theorem dX1_init_40 : decode cX1_init 40 = .ok (.aload_n 0, 1) := by decide +kernel
theorem dX1_init_41 : decode cX1_init 41 = .ok (.sipush 600, 3) := by decide +kernel
theorem dX1_init_44 : decode cX1_init 44 = .ok (.newarray .int, 2) := by decide +kernel
theorem dX1_init_46 : decode cX1_init 46 = .ok (.putfield 24, 3) := by decide +kernel
theorem dX1_init_49 : decode cX1_init 49 = .ok (.aload_n 0, 1) := by decide +kernel
theorem dX1_init_50 : decode cX1_init 50 = .ok (.sipush 600, 3) := by decide +kernel
theorem dX1_init_53 : decode cX1_init 53 = .ok (.newarray .int, 2) := by decide +kernel
theorem dX1_init_55 : decode cX1_init 55 = .ok (.putfield 27, 3) := by decide +kernel
theorem dX1_init_58 : decode cX1_init 58 = .ok (.aload_n 0, 1) := by decide +kernel
theorem dX1_init_59 : decode cX1_init 59 = .ok (.sipush 600, 3) := by decide +kernel
theorem dX1_init_62 : decode cX1_init 62 = .ok (.newarray .int, 2) := by decide +kernel
theorem dX1_init_64 : decode cX1_init 64 = .ok (.putfield 30, 3) := by decide +kernel
theorem dX1_init_67 : decode cX1_init 67 = .ok (.return_, 1) := by decide +kernel
theorem dX1_compare_0 : decode cX1_compare 0 = .ok (.aload_n 0, 1) := by decide +kernel
theorem dX1_compare_1 : decode cX1_compare 1 = .ok (.iconst 0, 1) := by decide +kernel
theorem dX1_compare_2 : decode cX1_compare 2 = .ok (.putfield 33, 3) := by decide +kernel
theorem dX1_compare_5 : decode cX1_compare 5 = .ok (.aload_n 1, 1) := by decide +kernel
theorem dX1_compare_6 : decode cX1_compare 6 = .ok (.getfield 37, 3) := by decide +kernel
theorem dX1_compare_9 : decode cX1_compare 9 = .ok (.ifCond .ne 10, 3) := by decide +kernel
theorem dX1_compare_12 : decode cX1_compare 12 = .ok (.aload_n 2, 1) := by decide +kernel
theorem dX1_compare_13 : decode cX1_compare 13 = .ok (.getfield 37, 3) := by decide +kernel
theorem dX1_compare_16 : decode cX1_compare 16 = .ok (.ifCond .eq 6, 3) := by decide +kernel
theorem dX1_compare_19 : decode cX1_compare 19 = .ok (.bipush (-2), 2) := by decide +kernel
theorem dX1_compare_21 : decode cX1_compare 21 = .ok (.ireturn, 1) := by decide +kernel
theorem dX1_compare_22 : decode cX1_compare 22 = .ok (.aload_n 0, 1) := by decide +kernel
theorem dX1_compare_23 : decode cX1_compare 23 = .ok (.invokevirtual 43, 3) := by decide +kernel
theorem dX1_compare_26 : decode cX1_compare 26 = .ok (.aload_n 1, 1) := by decide +kernel
theorem dX1_compare_27 : decode cX1_compare 27 = .ok (.getfield 46, 3) := by decide +kernel
theorem dX1_compare_30 : decode cX1_compare 30 = .ok (.iconst 0, 1) := by decide +kernel
theorem dX1_compare_31 : decode cX1_compare 31 = .ok (.baload, 1) := by decide +kernel
theorem dX1_compare_32 : decode cX1_compare 32 = .ok (.aload_n 2, 1) := by decide +kernel
theorem dX1_compare_33 : decode cX1_compare 33 = .ok (.getfield 46, 3) := by decide +kernel
theorem dX1_compare_36 : decode cX1_compare 36 = .ok (.iconst 0, 1) := by decide +kernel
theorem dX1_compare_37 : decode cX1_compare 37 = .ok (.baload, 1) := by decide +kernel
theorem dX1_compare_38 : decode cX1_compare 38 = .ok (.if_icmp .eq 5, 3) := by decide +kernel
theorem dX1_compare_41 : decode cX1_compare 41 = .ok (.iconst 0, 1) := by decide +kernel
theorem dX1_compare_42 : decode cX1_compare 42 = .ok (.ireturn, 1) := by decide +kernel
theorem dX1_compare_43 : decode cX1_compare 43 = .ok (.iconst 0, 1) := by decide +kernel
theorem dX1_compare_44 : decode cX1_compare 44 = .ok (.istore_n 3, 1) := by decide +kernel
theorem dX1_compare_45 : decode cX1_compare 45 = .ok (.iload_n 3, 1) := by decide +kernel
theorem dX1_compare_46 : decode cX1_compare 46 = .ok (.aload_n 0, 1) := by decide +kernel
theorem dX1_compare_47 : decode cX1_compare 47 = .ok (.getfield 50, 3) := by decide +kernel
theorem dX1_compare_50 : decode cX1_compare 50 = .ok (.if_icmp .ge 41, 3) := by decide +kernel
theorem dX1_compare_53 : decode cX1_compare 53 = .ok (.iload_n 3, 1) := by decide +kernel
theorem dX1_compare_54 : decode cX1_compare 54 = .ok (.sipush 600, 3) := by decide +kernel
theorem dX1_compare_57 : decode cX1_compare 57 = .ok (.if_icmp .ge 34, 3) := by decide +kernel
theorem dX1_compare_60 : decode cX1_compare 60 = .ok (.aload_n 0, 1) := by decide +kernel
theorem dX1_compare_61 : decode cX1_compare 61 = .ok (.iload_n 3, 1) := by decide +kernel
theorem dX1_compare_62 : decode cX1_compare 62 = .ok (.aload_n 1, 1) := by decide +kernel
theorem dX1_compare_63 : decode cX1_compare 63 = .ok (.aload_n 2, 1) := by decide +kernel
theorem dX1_compare_64 : decode cX1_compare 64 = .ok (.invokevirtual 53, 3) := by decide +kernel
theorem dX1_compare_67 : decode cX1_compare 67 = .ok (.ifCond .eq 18, 3) := by decide +kernel
theorem dX1_compare_70 : decode cX1_compare 70 = .ok (.aload_n 0, 1) := by decide +kernel
theorem dX1_compare_71 : decode cX1_compare 71 = .ok (.aload_n 0, 1) := by decide +kernel
theorem dX1_compare_72 : decode cX1_compare 72 = .ok (.getfield 50, 3) := by decide +kernel
theorem dX1_compare_75 : decode cX1_compare 75 = .ok (.iconst 1, 1) := by decide +kernel
theorem dX1_compare_76 : decode cX1_compare 76 = .ok (.isub, 1) := by decide +kernel
theorem dX1_compare_77 : decode cX1_compare 77 = .ok (.invokevirtual 57, 3) := by decide +kernel
theorem dX1_compare_80 : decode cX1_compare 80 = .ok (.aload_n 0, 1) := by decide +kernel
theorem dX1_compare_81 : decode cX1_compare 81 = .ok (.getfield 33, 3) := by decide +kernel
theorem dX1_compare_84 : decode cX1_compare 84 = .ok (.ireturn, 1) := by decide +kernel
theorem dX1_compare_85 : decode cX1_compare 85 = .ok (.iinc 3 1, 3) := by decide +kernel
theorem dX1_compare_88 : decode cX1_compare 88 = .ok (.goto (-43), 3) := by decide +kernel
theorem dX1_compare_91 : decode cX1_compare 91 = .ok (.iconst (-1), 1) := by decide +kernel
theorem dX1_compare_92 : decode cX1_compare 92 = .ok (.ireturn, 1) := by decide +kernel
theorem dX1_begin_0 : decode cX1_begin 0 = .ok (.iconst 0, 1) := by decide +kernel
theorem dX1_begin_1 : decode cX1_begin 1 = .ok (.istore_n 1, 1) := by decide +kernel
theorem dX1_begin_2 : decode cX1_begin 2 = .ok (.iload_n 1, 1) := by decide +kernel
theorem dX1_begin_3 : decode cX1_begin 3 = .ok (.sipush 600, 3) := by decide +kernel
theorem dX1_begin_6 : decode cX1_begin 6 = .ok (.if_icmp .ge 16, 3) := by decide +kernel
theorem dX1_begin_9 : decode cX1_begin 9 = .ok (.aload_n 0, 1) := by decide +kernel
theorem dX1_begin_10 : decode cX1_begin 10 = .ok (.getfield 15, 3) := by decide +kernel
theorem dX1_begin_13 : decode cX1_begin 13 = .ok (.iload_n 1, 1) := by decide +kernel
theorem dX1_begin_14 : decode cX1_begin 14 = .ok (.iload_n 1, 1) := by decide +kernel
theorem dX1_begin_15 : decode cX1_begin 15 = .ok (.iastore, 1) := by decide +kernel
theorem dX1_begin_16 : decode cX1_begin 16 = .ok (.iinc 1 1, 3) := by decide +kernel
theorem dX1_begin_19 : decode cX1_begin 19 = .ok (.goto (-17), 3) := by decide +kernel
theorem dX1_begin_22 : decode cX1_begin 22 = .ok (.aload_n 0, 1) := by decide +kernel
theorem dX1_begin_23 : decode cX1_begin 23 = .ok (.iconst 0, 1) := by decide +kernel
theorem dX1_begin_24 : decode cX1_begin 24 = .ok (.putfield 50, 3) := by decide +kernel
theorem dX1_begin_27 : decode cX1_begin 27 = .ok (.aload_n 0, 1) := by decide +kernel
theorem dX1_begin_28 : decode cX1_begin 28 = .ok (.iconst 0, 1) := by decide +kernel
theorem dX1_begin_29 : decode cX1_begin 29 = .ok (.iconst 0, 1) := by decide +kernel
theorem dX1_begin_30 : decode cX1_begin 30 = .ok (.invokevirtual 61, 3) := by decide +kernel
theorem dX1_begin_33 : decode cX1_begin 33 = .ok (.aload_n 0, 1) := by decide +kernel
theorem dX1_begin_34 : decode cX1_begin 34 = .ok (.getfield 30, 3) := by decide +kernel
theorem dX1_begin_37 : decode cX1_begin 37 = .ok (.iconst 0, 1) := by decide +kernel
theorem dX1_begin_38 : decode cX1_begin 38 = .ok (.iconst 0, 1) := by decide +kernel
theorem dX1_begin_39 : decode cX1_begin 39 = .ok (.iastore, 1) := by decide +kernel
theorem dX1_begin_40 : decode cX1_begin 40 = .ok (.return_, 1) := by decide +kernel
theorem dX1_tellsApart_0 : decode cX1_tellsApart 0 = .ok (.iconst 0, 1) := by decide +kernel
theorem dX1_tellsApart_1 : decode cX1_tellsApart 1 = .ok (.istore 4, 2) := by decide +kernel
theorem dX1_tellsApart_3 : decode cX1_tellsApart 3 = .ok (.iload 4, 2) := by decide +kernel
theorem dX1_tellsApart_5 : decode cX1_tellsApart 5 = .ok (.bipush 36, 2) := by decide +kernel
theorem dX1_tellsApart_7 : decode cX1_tellsApart 7 = .ok (.if_icmp .ge 133, 3) := by decide +kernel
theorem dX1_tellsApart_10 : decode cX1_tellsApart 10 = .ok (.aload_n 2, 1) := by decide +kernel
theorem dX1_tellsApart_11 : decode cX1_tellsApart 11 = .ok (.aload_n 0, 1) := by decide +kernel
theorem dX1_tellsApart_12 : decode cX1_tellsApart 12 = .ok (.getfield 18, 3) := by decide +kernel
theorem dX1_tellsApart_15 : decode cX1_tellsApart 15 = .ok (.iload_n 1, 1) := by decide +kernel
theorem dX1_tellsApart_16 : decode cX1_tellsApart 16 = .ok (.iaload, 1) := by decide +kernel
theorem dX1_tellsApart_17 : decode cX1_tellsApart 17 = .ok (.iload 4, 2) := by decide +kernel
theorem dX1_tellsApart_19 : decode cX1_tellsApart 19 = .ok (.invokevirtual 65, 3) := by decide +kernel
theorem dX1_tellsApart_22 : decode cX1_tellsApart 22 = .ok (.istore 5, 2) := by decide +kernel
theorem dX1_tellsApart_24 : decode cX1_tellsApart 24 = .ok (.aload_n 3, 1) := by decide +kernel
theorem dX1_tellsApart_25 : decode cX1_tellsApart 25 = .ok (.aload_n 0, 1) := by decide +kernel
theorem dX1_tellsApart_26 : decode cX1_tellsApart 26 = .ok (.getfield 21, 3) := by decide +kernel
theorem dX1_tellsApart_29 : decode cX1_tellsApart 29 = .ok (.iload_n 1, 1) := by decide +kernel
theorem dX1_tellsApart_30 : decode cX1_tellsApart 30 = .ok (.iaload, 1) := by decide +kernel
theorem dX1_tellsApart_31 : decode cX1_tellsApart 31 = .ok (.iload 4, 2) := by decide +kernel
theorem dX1_tellsApart_33 : decode cX1_tellsApart 33 = .ok (.invokevirtual 65, 3) := by decide +kernel
theorem dX1_tellsApart_36 : decode cX1_tellsApart 36 = .ok (.istore 6, 2) := by decide +kernel
theorem dX1_tellsApart_38 : decode cX1_tellsApart 38 = .ok (.aload_n 0, 1) := by decide +kernel
theorem dX1_tellsApart_39 : decode cX1_tellsApart 39 = .ok (.getfield 15, 3) := by decide +kernel
theorem dX1_tellsApart_42 : decode cX1_tellsApart 42 = .ok (.iload 5, 2) := by decide +kernel
theorem dX1_tellsApart_44 : decode cX1_tellsApart 44 = .ok (.iaload, 1) := by decide +kernel
theorem dX1_tellsApart_45 : decode cX1_tellsApart 45 = .ok (.aload_n 0, 1) := by decide +kernel
theorem dX1_tellsApart_46 : decode cX1_tellsApart 46 = .ok (.getfield 15, 3) := by decide +kernel
theorem dX1_tellsApart_49 : decode cX1_tellsApart 49 = .ok (.sipush 300, 3) := by decide +kernel
theorem dX1_tellsApart_52 : decode cX1_tellsApart 52 = .ok (.iload 6, 2) := by decide +kernel
theorem dX1_tellsApart_54 : decode cX1_tellsApart 54 = .ok (.iadd, 1) := by decide +kernel
theorem dX1_tellsApart_55 : decode cX1_tellsApart 55 = .ok (.iaload, 1) := by decide +kernel
theorem dX1_tellsApart_56 : decode cX1_tellsApart 56 = .ok (.if_icmp .eq 78, 3) := by decide +kernel
theorem dX1_tellsApart_59 : decode cX1_tellsApart 59 = .ok (.aload_n 0, 1) := by decide +kernel
theorem dX1_tellsApart_60 : decode cX1_tellsApart 60 = .ok (.getfield 50, 3) := by decide +kernel
theorem dX1_tellsApart_63 : decode cX1_tellsApart 63 = .ok (.sipush 600, 3) := by decide +kernel
theorem dX1_tellsApart_66 : decode cX1_tellsApart 66 = .ok (.if_icmp .ge 68, 3) := by decide +kernel
theorem dX1_tellsApart_69 : decode cX1_tellsApart 69 = .ok (.aload_n 0, 1) := by decide +kernel
theorem dX1_tellsApart_70 : decode cX1_tellsApart 70 = .ok (.getfield 24, 3) := by decide +kernel
theorem dX1_tellsApart_73 : decode cX1_tellsApart 73 = .ok (.aload_n 0, 1) := by decide +kernel
theorem dX1_tellsApart_74 : decode cX1_tellsApart 74 = .ok (.getfield 50, 3) := by decide +kernel
theorem dX1_tellsApart_77 : decode cX1_tellsApart 77 = .ok (.iload_n 1, 1) := by decide +kernel
theorem dX1_tellsApart_78 : decode cX1_tellsApart 78 = .ok (.iastore, 1) := by decide +kernel
theorem dX1_tellsApart_79 : decode cX1_tellsApart 79 = .ok (.aload_n 0, 1) := by decide +kernel
theorem dX1_tellsApart_80 : decode cX1_tellsApart 80 = .ok (.getfield 27, 3) := by decide +kernel
theorem dX1_tellsApart_83 : decode cX1_tellsApart 83 = .ok (.aload_n 0, 1) := by decide +kernel
theorem dX1_tellsApart_84 : decode cX1_tellsApart 84 = .ok (.getfield 50, 3) := by decide +kernel
theorem dX1_tellsApart_87 : decode cX1_tellsApart 87 = .ok (.iload 4, 2) := by decide +kernel
theorem dX1_tellsApart_89 : decode cX1_tellsApart 89 = .ok (.iastore, 1) := by decide +kernel
theorem dX1_tellsApart_90 : decode cX1_tellsApart 90 = .ok (.aload_n 0, 1) := by decide +kernel
theorem dX1_tellsApart_91 : decode cX1_tellsApart 91 = .ok (.getfield 30, 3) := by decide +kernel
theorem dX1_tellsApart_94 : decode cX1_tellsApart 94 = .ok (.aload_n 0, 1) := by decide +kernel
theorem dX1_tellsApart_95 : decode cX1_tellsApart 95 = .ok (.getfield 50, 3) := by decide +kernel
theorem dX1_tellsApart_98 : decode cX1_tellsApart 98 = .ok (.aload_n 0, 1) := by decide +kernel
theorem dX1_tellsApart_99 : decode cX1_tellsApart 99 = .ok (.getfield 30, 3) := by decide +kernel
theorem dX1_tellsApart_102 : decode cX1_tellsApart 102 = .ok (.iload_n 1, 1) := by decide +kernel
theorem dX1_tellsApart_103 : decode cX1_tellsApart 103 = .ok (.iaload, 1) := by decide +kernel
theorem dX1_tellsApart_104 : decode cX1_tellsApart 104 = .ok (.iconst 1, 1) := by decide +kernel
theorem dX1_tellsApart_105 : decode cX1_tellsApart 105 = .ok (.iadd, 1) := by decide +kernel
theorem dX1_tellsApart_106 : decode cX1_tellsApart 106 = .ok (.iastore, 1) := by decide +kernel
theorem dX1_tellsApart_107 : decode cX1_tellsApart 107 = .ok (.aload_n 0, 1) := by decide +kernel
theorem dX1_tellsApart_108 : decode cX1_tellsApart 108 = .ok (.iload 5, 2) := by decide +kernel
theorem dX1_tellsApart_110 : decode cX1_tellsApart 110 = .ok (.iload 6, 2) := by decide +kernel
theorem dX1_tellsApart_112 : decode cX1_tellsApart 112 = .ok (.invokevirtual 61, 3) := by decide +kernel
theorem dX1_tellsApart_115 : decode cX1_tellsApart 115 = .ok (.aload_n 2, 1) := by decide +kernel
theorem dX1_tellsApart_116 : decode cX1_tellsApart 116 = .ok (.getfield 46, 3) := by decide +kernel
theorem dX1_tellsApart_119 : decode cX1_tellsApart 119 = .ok (.iload 5, 2) := by decide +kernel
theorem dX1_tellsApart_121 : decode cX1_tellsApart 121 = .ok (.baload, 1) := by decide +kernel
theorem dX1_tellsApart_122 : decode cX1_tellsApart 122 = .ok (.aload_n 3, 1) := by decide +kernel
theorem dX1_tellsApart_123 : decode cX1_tellsApart 123 = .ok (.getfield 46, 3) := by decide +kernel
theorem dX1_tellsApart_126 : decode cX1_tellsApart 126 = .ok (.iload 6, 2) := by decide +kernel
theorem dX1_tellsApart_128 : decode cX1_tellsApart 128 = .ok (.baload, 1) := by decide +kernel
theorem dX1_tellsApart_129 : decode cX1_tellsApart 129 = .ok (.if_icmp .eq 5, 3) := by decide +kernel
theorem dX1_tellsApart_132 : decode cX1_tellsApart 132 = .ok (.iconst 1, 1) := by decide +kernel
theorem dX1_tellsApart_133 : decode cX1_tellsApart 133 = .ok (.ireturn, 1) := by decide +kernel
theorem dX1_tellsApart_134 : decode cX1_tellsApart 134 = .ok (.iinc 4 1, 3) := by decide +kernel
theorem dX1_tellsApart_137 : decode cX1_tellsApart 137 = .ok (.goto (-134), 3) := by decide +kernel
theorem dX1_tellsApart_140 : decode cX1_tellsApart 140 = .ok (.iconst 0, 1) := by decide +kernel
theorem dX1_tellsApart_141 : decode cX1_tellsApart 141 = .ok (.ireturn, 1) := by decide +kernel
theorem dX1_join_0 : decode cX1_join 0 = .ok (.aload_n 0, 1) := by decide +kernel
theorem dX1_join_1 : decode cX1_join 1 = .ok (.getfield 18, 3) := by decide +kernel
theorem dX1_join_4 : decode cX1_join 4 = .ok (.aload_n 0, 1) := by decide +kernel
theorem dX1_join_5 : decode cX1_join 5 = .ok (.getfield 50, 3) := by decide +kernel
theorem dX1_join_8 : decode cX1_join 8 = .ok (.iload_n 1, 1) := by decide +kernel
theorem dX1_join_9 : decode cX1_join 9 = .ok (.iastore, 1) := by decide +kernel
theorem dX1_join_10 : decode cX1_join 10 = .ok (.aload_n 0, 1) := by decide +kernel
theorem dX1_join_11 : decode cX1_join 11 = .ok (.getfield 21, 3) := by decide +kernel
theorem dX1_join_14 : decode cX1_join 14 = .ok (.aload_n 0, 1) := by decide +kernel
theorem dX1_join_15 : decode cX1_join 15 = .ok (.getfield 50, 3) := by decide +kernel
theorem dX1_join_18 : decode cX1_join 18 = .ok (.iload_n 2, 1) := by decide +kernel
theorem dX1_join_19 : decode cX1_join 19 = .ok (.iastore, 1) := by decide +kernel
theorem dX1_join_20 : decode cX1_join 20 = .ok (.aload_n 0, 1) := by decide +kernel
theorem dX1_join_21 : decode cX1_join 21 = .ok (.dup, 1) := by decide +kernel
theorem dX1_join_22 : decode cX1_join 22 = .ok (.getfield 50, 3) := by decide +kernel
theorem dX1_join_25 : decode cX1_join 25 = .ok (.iconst 1, 1) := by decide +kernel
theorem dX1_join_26 : decode cX1_join 26 = .ok (.iadd, 1) := by decide +kernel
theorem dX1_join_27 : decode cX1_join 27 = .ok (.putfield 50, 3) := by decide +kernel
theorem dX1_join_30 : decode cX1_join 30 = .ok (.aload_n 0, 1) := by decide +kernel
theorem dX1_join_31 : decode cX1_join 31 = .ok (.getfield 15, 3) := by decide +kernel
theorem dX1_join_34 : decode cX1_join 34 = .ok (.sipush 300, 3) := by decide +kernel
theorem dX1_join_37 : decode cX1_join 37 = .ok (.iload_n 2, 1) := by decide +kernel
theorem dX1_join_38 : decode cX1_join 38 = .ok (.iadd, 1) := by decide +kernel
theorem dX1_join_39 : decode cX1_join 39 = .ok (.iaload, 1) := by decide +kernel
theorem dX1_join_40 : decode cX1_join 40 = .ok (.istore_n 3, 1) := by decide +kernel
theorem dX1_join_41 : decode cX1_join 41 = .ok (.aload_n 0, 1) := by decide +kernel
theorem dX1_join_42 : decode cX1_join 42 = .ok (.getfield 15, 3) := by decide +kernel
theorem dX1_join_45 : decode cX1_join 45 = .ok (.iload_n 1, 1) := by decide +kernel
theorem dX1_join_46 : decode cX1_join 46 = .ok (.iaload, 1) := by decide +kernel
theorem dX1_join_47 : decode cX1_join 47 = .ok (.istore 4, 2) := by decide +kernel
theorem dX1_join_49 : decode cX1_join 49 = .ok (.iconst 0, 1) := by decide +kernel
theorem dX1_join_50 : decode cX1_join 50 = .ok (.istore 5, 2) := by decide +kernel
theorem dX1_join_52 : decode cX1_join 52 = .ok (.iload 5, 2) := by decide +kernel
theorem dX1_join_54 : decode cX1_join 54 = .ok (.sipush 600, 3) := by decide +kernel
theorem dX1_join_57 : decode cX1_join 57 = .ok (.if_icmp .ge 29, 3) := by decide +kernel
theorem dX1_join_60 : decode cX1_join 60 = .ok (.aload_n 0, 1) := by decide +kernel
theorem dX1_join_61 : decode cX1_join 61 = .ok (.getfield 15, 3) := by decide +kernel
theorem dX1_join_64 : decode cX1_join 64 = .ok (.iload 5, 2) := by decide +kernel
theorem dX1_join_66 : decode cX1_join 66 = .ok (.iaload, 1) := by decide +kernel
theorem dX1_join_67 : decode cX1_join 67 = .ok (.iload_n 3, 1) := by decide +kernel
theorem dX1_join_68 : decode cX1_join 68 = .ok (.if_icmp .ne 12, 3) := by decide +kernel
theorem dX1_join_71 : decode cX1_join 71 = .ok (.aload_n 0, 1) := by decide +kernel
theorem dX1_join_72 : decode cX1_join 72 = .ok (.getfield 15, 3) := by decide +kernel
theorem dX1_join_75 : decode cX1_join 75 = .ok (.iload 5, 2) := by decide +kernel
theorem dX1_join_77 : decode cX1_join 77 = .ok (.iload 4, 2) := by decide +kernel
theorem dX1_join_79 : decode cX1_join 79 = .ok (.iastore, 1) := by decide +kernel
theorem dX1_join_80 : decode cX1_join 80 = .ok (.iinc 5 1, 3) := by decide +kernel
theorem dX1_join_83 : decode cX1_join 83 = .ok (.goto (-31), 3) := by decide +kernel
theorem dX1_join_86 : decode cX1_join 86 = .ok (.return_, 1) := by decide +kernel
theorem dX1_spell_0 : decode cX1_spell 0 = .ok (.aload_n 0, 1) := by decide +kernel
theorem dX1_spell_1 : decode cX1_spell 1 = .ok (.aload_n 0, 1) := by decide +kernel
theorem dX1_spell_2 : decode cX1_spell 2 = .ok (.getfield 30, 3) := by decide +kernel
theorem dX1_spell_5 : decode cX1_spell 5 = .ok (.iload_n 1, 1) := by decide +kernel
theorem dX1_spell_6 : decode cX1_spell 6 = .ok (.iaload, 1) := by decide +kernel
theorem dX1_spell_7 : decode cX1_spell 7 = .ok (.putfield 33, 3) := by decide +kernel
theorem dX1_spell_10 : decode cX1_spell 10 = .ok (.iload_n 1, 1) := by decide +kernel
theorem dX1_spell_11 : decode cX1_spell 11 = .ok (.istore_n 2, 1) := by decide +kernel
theorem dX1_spell_12 : decode cX1_spell 12 = .ok (.aload_n 0, 1) := by decide +kernel
theorem dX1_spell_13 : decode cX1_spell 13 = .ok (.getfield 33, 3) := by decide +kernel
theorem dX1_spell_16 : decode cX1_spell 16 = .ok (.iconst 1, 1) := by decide +kernel
theorem dX1_spell_17 : decode cX1_spell 17 = .ok (.isub, 1) := by decide +kernel
theorem dX1_spell_18 : decode cX1_spell 18 = .ok (.istore_n 3, 1) := by decide +kernel
theorem dX1_spell_19 : decode cX1_spell 19 = .ok (.iload_n 3, 1) := by decide +kernel
theorem dX1_spell_20 : decode cX1_spell 20 = .ok (.ifCond .lt 28, 3) := by decide +kernel
theorem dX1_spell_23 : decode cX1_spell 23 = .ok (.aload_n 0, 1) := by decide +kernel
theorem dX1_spell_24 : decode cX1_spell 24 = .ok (.getfield 11, 3) := by decide +kernel
theorem dX1_spell_27 : decode cX1_spell 27 = .ok (.iload_n 3, 1) := by decide +kernel
theorem dX1_spell_28 : decode cX1_spell 28 = .ok (.aload_n 0, 1) := by decide +kernel
theorem dX1_spell_29 : decode cX1_spell 29 = .ok (.getfield 27, 3) := by decide +kernel
theorem dX1_spell_32 : decode cX1_spell 32 = .ok (.iload_n 2, 1) := by decide +kernel
theorem dX1_spell_33 : decode cX1_spell 33 = .ok (.iaload, 1) := by decide +kernel
theorem dX1_spell_34 : decode cX1_spell 34 = .ok (.iastore, 1) := by decide +kernel
theorem dX1_spell_35 : decode cX1_spell 35 = .ok (.aload_n 0, 1) := by decide +kernel
theorem dX1_spell_36 : decode cX1_spell 36 = .ok (.getfield 24, 3) := by decide +kernel
theorem dX1_spell_39 : decode cX1_spell 39 = .ok (.iload_n 2, 1) := by decide +kernel
theorem dX1_spell_40 : decode cX1_spell 40 = .ok (.iaload, 1) := by decide +kernel
theorem dX1_spell_41 : decode cX1_spell 41 = .ok (.istore_n 2, 1) := by decide +kernel
theorem dX1_spell_42 : decode cX1_spell 42 = .ok (.iinc 3 (-1), 3) := by decide +kernel
theorem dX1_spell_45 : decode cX1_spell 45 = .ok (.goto (-26), 3) := by decide +kernel
theorem dX1_spell_48 : decode cX1_spell 48 = .ok (.return_, 1) := by decide +kernel
theorem dX2_init_0 : decode cX2_init 0 = .ok (.aload_n 0, 1) := by decide +kernel
theorem dX2_init_1 : decode cX2_init 1 = .ok (.invokespecial 3, 3) := by decide +kernel
theorem dX2_init_4 : decode cX2_init 4 = .ok (.aload_n 0, 1) := by decide +kernel
theorem dX2_init_5 : decode cX2_init 5 = .ok (.sipush 300, 3) := by decide +kernel
theorem dX2_init_8 : decode cX2_init 8 = .ok (.newarray .int, 2) := by decide +kernel
theorem dX2_init_10 : decode cX2_init 10 = .ok (.putfield 9, 3) := by decide +kernel
theorem dX2_init_13 : decode cX2_init 13 = .ok (.aload_n 0, 1) := by decide +kernel
theorem dX2_init_14 : decode cX2_init 14 = .ok (.sipush 300, 3) := by decide +kernel
theorem dX2_init_17 : decode cX2_init 17 = .ok (.newarray .int, 2) := by decide +kernel
theorem dX2_init_19 : decode cX2_init 19 = .ok (.putfield 15, 3) := by decide +kernel
theorem dX2_init_22 : decode cX2_init 22 = .ok (.return_, 1) := by decide +kernel
theorem dX2_countGroups_0 : decode cX2_countGroups 0 = .ok (.aload_n 0, 1) := by decide +kernel
theorem dX2_countGroups_1 : decode cX2_countGroups 1 = .ok (.aload_n 1, 1) := by decide +kernel
theorem dX2_countGroups_2 : decode cX2_countGroups 2 = .ok (.aload_n 2, 1) := by decide +kernel
theorem dX2_countGroups_3 : decode cX2_countGroups 3 = .ok (.invokevirtual 18, 3) := by decide +kernel
theorem dX2_countGroups_6 : decode cX2_countGroups 6 = .ok (.istore_n 3, 1) := by decide +kernel
theorem dX2_countGroups_7 : decode cX2_countGroups 7 = .ok (.iconst 0, 1) := by decide +kernel
theorem dX2_countGroups_8 : decode cX2_countGroups 8 = .ok (.istore 4, 2) := by decide +kernel
theorem dX2_countGroups_10 : decode cX2_countGroups 10 = .ok (.iload 4, 2) := by decide +kernel
theorem dX2_countGroups_12 : decode cX2_countGroups 12 = .ok (.aload_n 1, 1) := by decide +kernel
theorem dX2_countGroups_13 : decode cX2_countGroups 13 = .ok (.getfield 22, 3) := by decide +kernel
theorem dX2_countGroups_16 : decode cX2_countGroups 16 = .ok (.if_icmp .ge 46, 3) := by decide +kernel
theorem dX2_countGroups_19 : decode cX2_countGroups 19 = .ok (.iload_n 3, 1) := by decide +kernel
theorem dX2_countGroups_20 : decode cX2_countGroups 20 = .ok (.istore 5, 2) := by decide +kernel
theorem dX2_countGroups_22 : decode cX2_countGroups 22 = .ok (.iconst 0, 1) := by decide +kernel
theorem dX2_countGroups_23 : decode cX2_countGroups 23 = .ok (.istore 6, 2) := by decide +kernel
theorem dX2_countGroups_25 : decode cX2_countGroups 25 = .ok (.iload 6, 2) := by decide +kernel
theorem dX2_countGroups_27 : decode cX2_countGroups 27 = .ok (.bipush 36, 2) := by decide +kernel
theorem dX2_countGroups_29 : decode cX2_countGroups 29 = .ok (.if_icmp .ge 18, 3) := by decide +kernel
theorem dX2_countGroups_32 : decode cX2_countGroups 32 = .ok (.aload_n 0, 1) := by decide +kernel
theorem dX2_countGroups_33 : decode cX2_countGroups 33 = .ok (.aload_n 1, 1) := by decide +kernel
theorem dX2_countGroups_34 : decode cX2_countGroups 34 = .ok (.iload 6, 2) := by decide +kernel
theorem dX2_countGroups_36 : decode cX2_countGroups 36 = .ok (.aload_n 2, 1) := by decide +kernel
theorem dX2_countGroups_37 : decode cX2_countGroups 37 = .ok (.invokevirtual 28, 3) := by decide +kernel
theorem dX2_countGroups_40 : decode cX2_countGroups 40 = .ok (.istore_n 3, 1) := by decide +kernel
theorem dX2_countGroups_41 : decode cX2_countGroups 41 = .ok (.iinc 6 1, 3) := by decide +kernel
theorem dX2_countGroups_44 : decode cX2_countGroups 44 = .ok (.goto (-19), 3) := by decide +kernel
theorem dX2_countGroups_47 : decode cX2_countGroups 47 = .ok (.iload_n 3, 1) := by decide +kernel
theorem dX2_countGroups_48 : decode cX2_countGroups 48 = .ok (.iload 5, 2) := by decide +kernel
theorem dX2_countGroups_50 : decode cX2_countGroups 50 = .ok (.if_icmp .ne 6, 3) := by decide +kernel
theorem dX2_countGroups_53 : decode cX2_countGroups 53 = .ok (.goto 9, 3) := by decide +kernel
theorem dX2_countGroups_56 : decode cX2_countGroups 56 = .ok (.iinc 4 1, 3) := by decide +kernel
theorem dX2_countGroups_59 : decode cX2_countGroups 59 = .ok (.goto (-49), 3) := by decide +kernel
theorem dX2_countGroups_62 : decode cX2_countGroups 62 = .ok (.iload_n 3, 1) := by decide +kernel
theorem dX2_countGroups_63 : decode cX2_countGroups 63 = .ok (.ireturn, 1) := by decide +kernel
theorem dX2_groupByGood_0 : decode cX2_groupByGood 0 = .ok (.aload_n 2, 1) := by decide +kernel
theorem dX2_groupByGood_1 : decode cX2_groupByGood 1 = .ok (.invokevirtual 32, 3) := by decide +kernel
theorem dX2_groupByGood_4 : decode cX2_groupByGood 4 = .ok (.iconst 0, 1) := by decide +kernel
theorem dX2_groupByGood_5 : decode cX2_groupByGood 5 = .ok (.istore_n 3, 1) := by decide +kernel
theorem dX2_groupByGood_6 : decode cX2_groupByGood 6 = .ok (.iload_n 3, 1) := by decide +kernel
theorem dX2_groupByGood_7 : decode cX2_groupByGood 7 = .ok (.aload_n 1, 1) := by decide +kernel
theorem dX2_groupByGood_8 : decode cX2_groupByGood 8 = .ok (.getfield 22, 3) := by decide +kernel
theorem dX2_groupByGood_11 : decode cX2_groupByGood 11 = .ok (.if_icmp .ge 36, 3) := by decide +kernel
theorem dX2_groupByGood_14 : decode cX2_groupByGood 14 = .ok (.aload_n 0, 1) := by decide +kernel
theorem dX2_groupByGood_15 : decode cX2_groupByGood 15 = .ok (.getfield 9, 3) := by decide +kernel
theorem dX2_groupByGood_18 : decode cX2_groupByGood 18 = .ok (.iload_n 3, 1) := by decide +kernel
theorem dX2_groupByGood_19 : decode cX2_groupByGood 19 = .ok (.aload_n 2, 1) := by decide +kernel
theorem dX2_groupByGood_20 : decode cX2_groupByGood 20 = .ok (.aload_n 1, 1) := by decide +kernel
theorem dX2_groupByGood_21 : decode cX2_groupByGood 21 = .ok (.getfield 37, 3) := by decide +kernel
theorem dX2_groupByGood_24 : decode cX2_groupByGood 24 = .ok (.iload_n 3, 1) := by decide +kernel
theorem dX2_groupByGood_25 : decode cX2_groupByGood 25 = .ok (.baload, 1) := by decide +kernel
theorem dX2_groupByGood_26 : decode cX2_groupByGood 26 = .ok (.ifCond .eq 7, 3) := by decide +kernel
theorem dX2_groupByGood_29 : decode cX2_groupByGood 29 = .ok (.lconst 1, 1) := by decide +kernel
theorem dX2_groupByGood_30 : decode cX2_groupByGood 30 = .ok (.goto 4, 3) := by decide +kernel
theorem dX2_groupByGood_33 : decode cX2_groupByGood 33 = .ok (.lconst 0, 1) := by decide +kernel
theorem dX2_groupByGood_34 : decode cX2_groupByGood 34 = .ok (.sipush 300, 3) := by decide +kernel
theorem dX2_groupByGood_37 : decode cX2_groupByGood 37 = .ok (.invokevirtual 41, 3) := by decide +kernel
theorem dX2_groupByGood_40 : decode cX2_groupByGood 40 = .ok (.iastore, 1) := by decide +kernel
theorem dX2_groupByGood_41 : decode cX2_groupByGood 41 = .ok (.iinc 3 1, 3) := by decide +kernel
theorem dX2_groupByGood_44 : decode cX2_groupByGood 44 = .ok (.goto (-38), 3) := by decide +kernel
theorem dX2_groupByGood_47 : decode cX2_groupByGood 47 = .ok (.aload_n 2, 1) := by decide +kernel
theorem dX2_groupByGood_48 : decode cX2_groupByGood 48 = .ok (.getfield 45, 3) := by decide +kernel
theorem dX2_groupByGood_51 : decode cX2_groupByGood 51 = .ok (.ireturn, 1) := by decide +kernel
theorem dX2_groupByWay_0 : decode cX2_groupByWay 0 = .ok (.aload_n 3, 1) := by decide +kernel
theorem dX2_groupByWay_1 : decode cX2_groupByWay 1 = .ok (.invokevirtual 32, 3) := by decide +kernel
theorem dX2_groupByWay_4 : decode cX2_groupByWay 4 = .ok (.iconst 0, 1) := by decide +kernel
theorem dX2_groupByWay_5 : decode cX2_groupByWay 5 = .ok (.istore 4, 2) := by decide +kernel
theorem dX2_groupByWay_7 : decode cX2_groupByWay 7 = .ok (.iload 4, 2) := by decide +kernel
theorem dX2_groupByWay_9 : decode cX2_groupByWay 9 = .ok (.aload_n 1, 1) := by decide +kernel
theorem dX2_groupByWay_10 : decode cX2_groupByWay 10 = .ok (.getfield 22, 3) := by decide +kernel
theorem dX2_groupByWay_13 : decode cX2_groupByWay 13 = .ok (.if_icmp .ge 53, 3) := by decide +kernel
theorem dX2_groupByWay_16 : decode cX2_groupByWay 16 = .ok (.aload_n 0, 1) := by decide +kernel
theorem dX2_groupByWay_17 : decode cX2_groupByWay 17 = .ok (.getfield 9, 3) := by decide +kernel
theorem dX2_groupByWay_20 : decode cX2_groupByWay 20 = .ok (.aload_n 1, 1) := by decide +kernel
theorem dX2_groupByWay_21 : decode cX2_groupByWay 21 = .ok (.iload 4, 2) := by decide +kernel
theorem dX2_groupByWay_23 : decode cX2_groupByWay 23 = .ok (.iload_n 2, 1) := by decide +kernel
theorem dX2_groupByWay_24 : decode cX2_groupByWay 24 = .ok (.invokevirtual 46, 3) := by decide +kernel
theorem dX2_groupByWay_27 : decode cX2_groupByWay 27 = .ok (.iaload, 1) := by decide +kernel
theorem dX2_groupByWay_28 : decode cX2_groupByWay 28 = .ok (.i2l, 1) := by decide +kernel
theorem dX2_groupByWay_29 : decode cX2_groupByWay 29 = .ok (.lstore 5, 2) := by decide +kernel
theorem dX2_groupByWay_31 : decode cX2_groupByWay 31 = .ok (.aload_n 0, 1) := by decide +kernel
theorem dX2_groupByWay_32 : decode cX2_groupByWay 32 = .ok (.getfield 15, 3) := by decide +kernel
theorem dX2_groupByWay_35 : decode cX2_groupByWay 35 = .ok (.iload 4, 2) := by decide +kernel
theorem dX2_groupByWay_37 : decode cX2_groupByWay 37 = .ok (.aload_n 3, 1) := by decide +kernel
theorem dX2_groupByWay_38 : decode cX2_groupByWay 38 = .ok (.aload_n 0, 1) := by decide +kernel
theorem dX2_groupByWay_39 : decode cX2_groupByWay 39 = .ok (.getfield 9, 3) := by decide +kernel
theorem dX2_groupByWay_42 : decode cX2_groupByWay 42 = .ok (.iload 4, 2) := by decide +kernel
theorem dX2_groupByWay_44 : decode cX2_groupByWay 44 = .ok (.iaload, 1) := by decide +kernel
theorem dX2_groupByWay_45 : decode cX2_groupByWay 45 = .ok (.i2l, 1) := by decide +kernel
theorem dX2_groupByWay_46 : decode cX2_groupByWay 46 = .ok (.ldc2_w 50, 3) := by decide +kernel
theorem dX2_groupByWay_49 : decode cX2_groupByWay 49 = .ok (.lmul, 1) := by decide +kernel
theorem dX2_groupByWay_50 : decode cX2_groupByWay 50 = .ok (.lload 5, 2) := by decide +kernel
theorem dX2_groupByWay_52 : decode cX2_groupByWay 52 = .ok (.ladd, 1) := by decide +kernel
theorem dX2_groupByWay_53 : decode cX2_groupByWay 53 = .ok (.sipush 300, 3) := by decide +kernel
theorem dX2_groupByWay_56 : decode cX2_groupByWay 56 = .ok (.invokevirtual 41, 3) := by decide +kernel
theorem dX2_groupByWay_59 : decode cX2_groupByWay 59 = .ok (.iastore, 1) := by decide +kernel
theorem dX2_groupByWay_60 : decode cX2_groupByWay 60 = .ok (.iinc 4 1, 3) := by decide +kernel
theorem dX2_groupByWay_63 : decode cX2_groupByWay 63 = .ok (.goto (-56), 3) := by decide +kernel
theorem dX2_groupByWay_66 : decode cX2_groupByWay 66 = .ok (.aload_n 0, 1) := by decide +kernel
theorem dX2_groupByWay_67 : decode cX2_groupByWay 67 = .ok (.getfield 15, 3) := by decide +kernel
theorem dX2_groupByWay_70 : decode cX2_groupByWay 70 = .ok (.iconst 0, 1) := by decide +kernel
theorem dX2_groupByWay_71 : decode cX2_groupByWay 71 = .ok (.aload_n 0, 1) := by decide +kernel
theorem dX2_groupByWay_72 : decode cX2_groupByWay 72 = .ok (.getfield 9, 3) := by decide +kernel
theorem dX2_groupByWay_75 : decode cX2_groupByWay 75 = .ok (.iconst 0, 1) := by decide +kernel
theorem dX2_groupByWay_76 : decode cX2_groupByWay 76 = .ok (.aload_n 1, 1) := by decide +kernel
theorem dX2_groupByWay_77 : decode cX2_groupByWay 77 = .ok (.getfield 22, 3) := by decide +kernel
theorem dX2_groupByWay_80 : decode cX2_groupByWay 80 = .ok (.invokestatic 52, 3) := by decide +kernel
theorem dX2_groupByWay_83 : decode cX2_groupByWay 83 = .ok (.aload_n 3, 1) := by decide +kernel
theorem dX2_groupByWay_84 : decode cX2_groupByWay 84 = .ok (.getfield 45, 3) := by decide +kernel
theorem dX2_groupByWay_87 : decode cX2_groupByWay 87 = .ok (.ireturn, 1) := by decide +kernel
theorem dX3_init_0 : decode cX3_init 0 = .ok (.aload_n 0, 1) := by decide +kernel
theorem dX3_init_1 : decode cX3_init 1 = .ok (.invokespecial 3, 3) := by decide +kernel
theorem dX3_init_4 : decode cX3_init 4 = .ok (.aload_n 0, 1) := by decide +kernel
theorem dX3_init_5 : decode cX3_init 5 = .ok (.new 9, 3) := by decide +kernel
theorem dX3_init_8 : decode cX3_init 8 = .ok (.dup, 1) := by decide +kernel
theorem dX3_init_9 : decode cX3_init 9 = .ok (.invokespecial 11, 3) := by decide +kernel
theorem dX3_init_12 : decode cX3_init 12 = .ok (.putfield 12, 3) := by decide +kernel
theorem dX3_init_15 : decode cX3_init 15 = .ok (.aload_n 0, 1) := by decide +kernel
theorem dX3_init_16 : decode cX3_init 16 = .ok (.new 9, 3) := by decide +kernel
theorem dX3_init_19 : decode cX3_init 19 = .ok (.dup, 1) := by decide +kernel
theorem dX3_init_20 : decode cX3_init 20 = .ok (.invokespecial 11, 3) := by decide +kernel
theorem dX3_init_23 : decode cX3_init 23 = .ok (.putfield 18, 3) := by decide +kernel
theorem dX3_init_26 : decode cX3_init 26 = .ok (.aload_n 0, 1) := by decide +kernel
theorem dX3_init_27 : decode cX3_init 27 = .ok (.bipush 9, 2) := by decide +kernel
theorem dX3_init_29 : decode cX3_init 29 = .ok (.anewarray 9, 3) := by decide +kernel
theorem dX3_init_32 : decode cX3_init 32 = .ok (.putfield 21, 3) := by decide +kernel
theorem dX3_init_35 : decode cX3_init 35 = .ok (.aload_n 0, 1) := by decide +kernel
theorem dX3_init_36 : decode cX3_init 36 = .ok (.bipush 9, 2) := by decide +kernel
theorem dX3_init_38 : decode cX3_init 38 = .ok (.anewarray 9, 3) := by decide +kernel
theorem dX3_init_41 : decode cX3_init 41 = .ok (.putfield 25, 3) := by decide +kernel
theorem dX3_init_44 : decode cX3_init 44 = .ok (.iconst 0, 1) := by decide +kernel
theorem dX3_init_45 : decode cX3_init 45 = .ok (.istore_n 1, 1) := by decide +kernel
theorem dX3_init_46 : decode cX3_init 46 = .ok (.iload_n 1, 1) := by decide +kernel
theorem dX3_init_47 : decode cX3_init 47 = .ok (.bipush 8, 2) := by decide +kernel
theorem dX3_init_49 : decode cX3_init 49 = .ok (.if_icmp .gt 35, 3) := by decide +kernel
theorem dX3_init_52 : decode cX3_init 52 = .ok (.aload_n 0, 1) := by decide +kernel
theorem dX3_init_53 : decode cX3_init 53 = .ok (.getfield 21, 3) := by decide +kernel
theorem dX3_init_56 : decode cX3_init 56 = .ok (.iload_n 1, 1) := by decide +kernel
theorem dX3_init_57 : decode cX3_init 57 = .ok (.new 9, 3) := by decide +kernel
theorem dX3_init_60 : decode cX3_init 60 = .ok (.dup, 1) := by decide +kernel
theorem dX3_init_61 : decode cX3_init 61 = .ok (.invokespecial 11, 3) := by decide +kernel
theorem dX3_init_64 : decode cX3_init 64 = .ok (.aastore, 1) := by decide +kernel
theorem dX3_init_65 : decode cX3_init 65 = .ok (.aload_n 0, 1) := by decide +kernel
theorem dX3_init_66 : decode cX3_init 66 = .ok (.getfield 25, 3) := by decide +kernel
theorem dX3_init_69 : decode cX3_init 69 = .ok (.iload_n 1, 1) := by decide +kernel
theorem dX3_init_70 : decode cX3_init 70 = .ok (.new 9, 3) := by decide +kernel
theorem dX3_init_73 : decode cX3_init 73 = .ok (.dup, 1) := by decide +kernel
theorem dX3_init_74 : decode cX3_init 74 = .ok (.invokespecial 11, 3) := by decide +kernel
theorem dX3_init_77 : decode cX3_init 77 = .ok (.aastore, 1) := by decide +kernel
theorem dX3_init_78 : decode cX3_init 78 = .ok (.iinc 1 1, 3) := by decide +kernel
theorem dX3_init_81 : decode cX3_init 81 = .ok (.goto (-35), 3) := by decide +kernel
theorem dX3_init_84 : decode cX3_init 84 = .ok (.return_, 1) := by decide +kernel
theorem dX3_begin_0 : decode cX3_begin 0 = .ok (.aload_n 0, 1) := by decide +kernel
theorem dX3_begin_1 : decode cX3_begin 1 = .ok (.aload_n 1, 1) := by decide +kernel
theorem dX3_begin_2 : decode cX3_begin 2 = .ok (.putfield 28, 3) := by decide +kernel
theorem dX3_begin_5 : decode cX3_begin 5 = .ok (.aload_n 0, 1) := by decide +kernel
theorem dX3_begin_6 : decode cX3_begin 6 = .ok (.getfield 28, 3) := by decide +kernel
theorem dX3_begin_9 : decode cX3_begin 9 = .ok (.invokevirtual 32, 3) := by decide +kernel
theorem dX3_begin_12 : decode cX3_begin 12 = .ok (.aload_n 0, 1) := by decide +kernel
theorem dX3_begin_13 : decode cX3_begin 13 = .ok (.iconst 0, 1) := by decide +kernel
theorem dX3_begin_14 : decode cX3_begin 14 = .ok (.putfield 37, 3) := by decide +kernel
theorem dX3_begin_17 : decode cX3_begin 17 = .ok (.aload_n 0, 1) := by decide +kernel
theorem dX3_begin_18 : decode cX3_begin 18 = .ok (.invokevirtual 41, 3) := by decide +kernel
theorem dX3_begin_21 : decode cX3_begin 21 = .ok (.return_, 1) := by decide +kernel
theorem dX3_beginChoices_0 : decode cX3_beginChoices 0 = .ok (.aload_n 0, 1) := by decide +kernel
theorem dX3_beginChoices_1 : decode cX3_beginChoices 1 = .ok (.getfield 25, 3) := by decide +kernel
theorem dX3_beginChoices_4 : decode cX3_beginChoices 4 = .ok (.aload_n 0, 1) := by decide +kernel
theorem dX3_beginChoices_5 : decode cX3_beginChoices 5 = .ok (.getfield 37, 3) := by decide +kernel
theorem dX3_beginChoices_8 : decode cX3_beginChoices 8 = .ok (.aaload, 1) := by decide +kernel
theorem dX3_beginChoices_9 : decode cX3_beginChoices 9 = .ok (.aload_n 0, 1) := by decide +kernel
theorem dX3_beginChoices_10 : decode cX3_beginChoices 10 = .ok (.getfield 28, 3) := by decide +kernel
theorem dX3_beginChoices_13 : decode cX3_beginChoices 13 = .ok (.getfield 44, 3) := by decide +kernel
theorem dX3_beginChoices_16 : decode cX3_beginChoices 16 = .ok (.iconst 0, 1) := by decide +kernel
theorem dX3_beginChoices_17 : decode cX3_beginChoices 17 = .ok (.lconst 0, 1) := by decide +kernel
theorem dX3_beginChoices_18 : decode cX3_beginChoices 18 = .ok (.lconst 0, 1) := by decide +kernel
theorem dX3_beginChoices_19 : decode cX3_beginChoices 19 = .ok (.invokevirtual 47, 3) := by decide +kernel
theorem dX3_beginChoices_22 : decode cX3_beginChoices 22 = .ok (.aload_n 0, 1) := by decide +kernel
theorem dX3_beginChoices_23 : decode cX3_beginChoices 23 = .ok (.invokevirtual 51, 3) := by decide +kernel
theorem dX3_beginChoices_26 : decode cX3_beginChoices 26 = .ok (.return_, 1) := by decide +kernel
theorem dX3_beginRow_0 : decode cX3_beginRow 0 = .ok (.aload_n 0, 1) := by decide +kernel
theorem dX3_beginRow_1 : decode cX3_beginRow 1 = .ok (.getfield 21, 3) := by decide +kernel
theorem dX3_beginRow_4 : decode cX3_beginRow 4 = .ok (.aload_n 0, 1) := by decide +kernel
theorem dX3_beginRow_5 : decode cX3_beginRow 5 = .ok (.getfield 37, 3) := by decide +kernel
theorem dX3_beginRow_8 : decode cX3_beginRow 8 = .ok (.aaload, 1) := by decide +kernel
theorem dX3_beginRow_9 : decode cX3_beginRow 9 = .ok (.aload_n 0, 1) := by decide +kernel
theorem dX3_beginRow_10 : decode cX3_beginRow 10 = .ok (.getfield 28, 3) := by decide +kernel
theorem dX3_beginRow_13 : decode cX3_beginRow 13 = .ok (.getfield 44, 3) := by decide +kernel
theorem dX3_beginRow_16 : decode cX3_beginRow 16 = .ok (.iconst 1, 1) := by decide +kernel
theorem dX3_beginRow_17 : decode cX3_beginRow 17 = .ok (.lconst 0, 1) := by decide +kernel
theorem dX3_beginRow_18 : decode cX3_beginRow 18 = .ok (.lconst 0, 1) := by decide +kernel
theorem dX3_beginRow_19 : decode cX3_beginRow 19 = .ok (.invokevirtual 47, 3) := by decide +kernel
theorem dX3_beginRow_22 : decode cX3_beginRow 22 = .ok (.aload_n 0, 1) := by decide +kernel
theorem dX3_beginRow_23 : decode cX3_beginRow 23 = .ok (.iconst 0, 1) := by decide +kernel
theorem dX3_beginRow_24 : decode cX3_beginRow 24 = .ok (.putfield 54, 3) := by decide +kernel
theorem dX3_beginRow_27 : decode cX3_beginRow 27 = .ok (.return_, 1) := by decide +kernel
theorem dX3_endPart_0 : decode cX3_endPart 0 = .ok (.aload_n 0, 1) := by decide +kernel
theorem dX3_endPart_1 : decode cX3_endPart 1 = .ok (.getfield 54, 3) := by decide +kernel
theorem dX3_endPart_4 : decode cX3_endPart 4 = .ok (.ifCond .eq 23, 3) := by decide +kernel
theorem dX3_endPart_7 : decode cX3_endPart 7 = .ok (.aload_n 0, 1) := by decide +kernel
theorem dX3_endPart_8 : decode cX3_endPart 8 = .ok (.getfield 21, 3) := by decide +kernel
theorem dX3_endPart_11 : decode cX3_endPart 11 = .ok (.aload_n 0, 1) := by decide +kernel
theorem dX3_endPart_12 : decode cX3_endPart 12 = .ok (.getfield 37, 3) := by decide +kernel
theorem dX3_endPart_15 : decode cX3_endPart 15 = .ok (.aaload, 1) := by decide +kernel
theorem dX3_endPart_16 : decode cX3_endPart 16 = .ok (.aload_n 0, 1) := by decide +kernel
theorem dX3_endPart_17 : decode cX3_endPart 17 = .ok (.getfield 12, 3) := by decide +kernel
theorem dX3_endPart_20 : decode cX3_endPart 20 = .ok (.aload_n 0, 1) := by decide +kernel
theorem dX3_endPart_21 : decode cX3_endPart 21 = .ok (.getfield 28, 3) := by decide +kernel
theorem dX3_endPart_24 : decode cX3_endPart 24 = .ok (.invokevirtual 58, 3) := by decide +kernel
theorem dX3_endPart_27 : decode cX3_endPart 27 = .ok (.return_, 1) := by decide +kernel
theorem dX3_endRow_0 : decode cX3_endRow 0 = .ok (.aload_n 0, 1) := by decide +kernel
theorem dX3_endRow_1 : decode cX3_endRow 1 = .ok (.invokevirtual 62, 3) := by decide +kernel
theorem dX3_endRow_4 : decode cX3_endRow 4 = .ok (.aload_n 0, 1) := by decide +kernel
theorem dX3_endRow_5 : decode cX3_endRow 5 = .ok (.getfield 25, 3) := by decide +kernel
theorem dX3_endRow_8 : decode cX3_endRow 8 = .ok (.aload_n 0, 1) := by decide +kernel
theorem dX3_endRow_9 : decode cX3_endRow 9 = .ok (.getfield 37, 3) := by decide +kernel
theorem dX3_endRow_12 : decode cX3_endRow 12 = .ok (.aaload, 1) := by decide +kernel
theorem dX3_endRow_13 : decode cX3_endRow 13 = .ok (.aload_n 0, 1) := by decide +kernel
theorem dX3_endRow_14 : decode cX3_endRow 14 = .ok (.getfield 21, 3) := by decide +kernel
theorem dX3_endRow_17 : decode cX3_endRow 17 = .ok (.aload_n 0, 1) := by decide +kernel
theorem dX3_endRow_18 : decode cX3_endRow 18 = .ok (.getfield 37, 3) := by decide +kernel
theorem dX3_endRow_21 : decode cX3_endRow 21 = .ok (.aaload, 1) := by decide +kernel
theorem dX3_endRow_22 : decode cX3_endRow 22 = .ok (.invokevirtual 65, 3) := by decide +kernel
theorem dX3_endRow_25 : decode cX3_endRow 25 = .ok (.aload_n 0, 1) := by decide +kernel
theorem dX3_endRow_26 : decode cX3_endRow 26 = .ok (.invokevirtual 51, 3) := by decide +kernel
theorem dX3_endRow_29 : decode cX3_endRow 29 = .ok (.return_, 1) := by decide +kernel
theorem dX3_addAtom_0 : decode cX3_addAtom 0 = .ok (.aload_n 0, 1) := by decide +kernel
theorem dX3_addAtom_1 : decode cX3_addAtom 1 = .ok (.getfield 28, 3) := by decide +kernel
theorem dX3_addAtom_4 : decode cX3_addAtom 4 = .ok (.getfield 44, 3) := by decide +kernel
theorem dX3_addAtom_7 : decode cX3_addAtom 7 = .ok (.bipush 60, 2) := by decide +kernel
theorem dX3_addAtom_9 : decode cX3_addAtom 9 = .ok (.if_icmp .lt 5, 3) := by decide +kernel
theorem dX3_addAtom_12 : decode cX3_addAtom 12 = .ok (.iconst 0, 1) := by decide +kernel
theorem dX3_addAtom_13 : decode cX3_addAtom 13 = .ok (.ireturn, 1) := by decide +kernel
theorem dX3_addAtom_14 : decode cX3_addAtom 14 = .ok (.aload_n 0, 1) := by decide +kernel
theorem dX3_addAtom_15 : decode cX3_addAtom 15 = .ok (.invokevirtual 62, 3) := by decide +kernel
theorem dX3_addAtom_18 : decode cX3_addAtom 18 = .ok (.lconst 1, 1) := by decide +kernel
theorem dX3_addAtom_19 : decode cX3_addAtom 19 = .ok (.aload_n 0, 1) := by decide +kernel
theorem dX3_addAtom_20 : decode cX3_addAtom 20 = .ok (.getfield 28, 3) := by decide +kernel
theorem dX3_addAtom_23 : decode cX3_addAtom 23 = .ok (.getfield 44, 3) := by decide +kernel
theorem dX3_addAtom_26 : decode cX3_addAtom 26 = .ok (.lshl, 1) := by decide +kernel
theorem dX3_addAtom_27 : decode cX3_addAtom 27 = .ok (.lstore_n 3, 1) := by decide +kernel
theorem dX3_addAtom_28 : decode cX3_addAtom 28 = .ok (.aload_n 0, 1) := by decide +kernel
theorem dX3_addAtom_29 : decode cX3_addAtom 29 = .ok (.getfield 12, 3) := by decide +kernel
theorem dX3_addAtom_32 : decode cX3_addAtom 32 = .ok (.aload_n 0, 1) := by decide +kernel
theorem dX3_addAtom_33 : decode cX3_addAtom 33 = .ok (.getfield 28, 3) := by decide +kernel
theorem dX3_addAtom_36 : decode cX3_addAtom 36 = .ok (.getfield 44, 3) := by decide +kernel
theorem dX3_addAtom_39 : decode cX3_addAtom 39 = .ok (.iconst 0, 1) := by decide +kernel
theorem dX3_addAtom_40 : decode cX3_addAtom 40 = .ok (.lload_n 3, 1) := by decide +kernel
theorem dX3_addAtom_41 : decode cX3_addAtom 41 = .ok (.lload_n 3, 1) := by decide +kernel
theorem dX3_addAtom_42 : decode cX3_addAtom 42 = .ok (.invokevirtual 47, 3) := by decide +kernel
theorem dX3_addAtom_45 : decode cX3_addAtom 45 = .ok (.aload_n 0, 1) := by decide +kernel
theorem dX3_addAtom_46 : decode cX3_addAtom 46 = .ok (.getfield 28, 3) := by decide +kernel
theorem dX3_addAtom_49 : decode cX3_addAtom 49 = .ok (.lload_n 1, 1) := by decide +kernel
theorem dX3_addAtom_50 : decode cX3_addAtom 50 = .ok (.invokevirtual 69, 3) := by decide +kernel
theorem dX3_addAtom_53 : decode cX3_addAtom 53 = .ok (.aload_n 0, 1) := by decide +kernel
theorem dX3_addAtom_54 : decode cX3_addAtom 54 = .ok (.iconst 1, 1) := by decide +kernel
theorem dX3_addAtom_55 : decode cX3_addAtom 55 = .ok (.putfield 54, 3) := by decide +kernel
theorem dX3_addAtom_58 : decode cX3_addAtom 58 = .ok (.iconst 1, 1) := by decide +kernel
theorem dX3_addAtom_59 : decode cX3_addAtom 59 = .ok (.ireturn, 1) := by decide +kernel
theorem dX3_openBracket_0 : decode cX3_openBracket 0 = .ok (.aload_n 0, 1) := by decide +kernel
theorem dX3_openBracket_1 : decode cX3_openBracket 1 = .ok (.getfield 37, 3) := by decide +kernel
theorem dX3_openBracket_4 : decode cX3_openBracket 4 = .ok (.bipush 8, 2) := by decide +kernel
theorem dX3_openBracket_6 : decode cX3_openBracket 6 = .ok (.if_icmp .lt 5, 3) := by decide +kernel
theorem dX3_openBracket_9 : decode cX3_openBracket 9 = .ok (.iconst 0, 1) := by decide +kernel
theorem dX3_openBracket_10 : decode cX3_openBracket 10 = .ok (.ireturn, 1) := by decide +kernel
theorem dX3_openBracket_11 : decode cX3_openBracket 11 = .ok (.aload_n 0, 1) := by decide +kernel
theorem dX3_openBracket_12 : decode cX3_openBracket 12 = .ok (.invokevirtual 62, 3) := by decide +kernel
theorem dX3_openBracket_15 : decode cX3_openBracket 15 = .ok (.aload_n 0, 1) := by decide +kernel
theorem dX3_openBracket_16 : decode cX3_openBracket 16 = .ok (.dup, 1) := by decide +kernel
theorem dX3_openBracket_17 : decode cX3_openBracket 17 = .ok (.getfield 37, 3) := by decide +kernel
theorem dX3_openBracket_20 : decode cX3_openBracket 20 = .ok (.iconst 1, 1) := by decide +kernel
theorem dX3_openBracket_21 : decode cX3_openBracket 21 = .ok (.iadd, 1) := by decide +kernel
theorem dX3_openBracket_22 : decode cX3_openBracket 22 = .ok (.putfield 37, 3) := by decide +kernel
theorem dX3_openBracket_25 : decode cX3_openBracket 25 = .ok (.aload_n 0, 1) := by decide +kernel
theorem dX3_openBracket_26 : decode cX3_openBracket 26 = .ok (.invokevirtual 41, 3) := by decide +kernel
theorem dX3_openBracket_29 : decode cX3_openBracket 29 = .ok (.iconst 1, 1) := by decide +kernel
theorem dX3_openBracket_30 : decode cX3_openBracket 30 = .ok (.ireturn, 1) := by decide +kernel
theorem dX3_closeBracket_0 : decode cX3_closeBracket 0 = .ok (.aload_n 0, 1) := by decide +kernel
theorem dX3_closeBracket_1 : decode cX3_closeBracket 1 = .ok (.getfield 25, 3) := by decide +kernel
theorem dX3_closeBracket_4 : decode cX3_closeBracket 4 = .ok (.aload_n 0, 1) := by decide +kernel
theorem dX3_closeBracket_5 : decode cX3_closeBracket 5 = .ok (.getfield 37, 3) := by decide +kernel
theorem dX3_closeBracket_8 : decode cX3_closeBracket 8 = .ok (.aaload, 1) := by decide +kernel
theorem dX3_closeBracket_9 : decode cX3_closeBracket 9 = .ok (.astore_n 1, 1) := by decide +kernel
theorem dX3_closeBracket_10 : decode cX3_closeBracket 10 = .ok (.aload_n 0, 1) := by decide +kernel
theorem dX3_closeBracket_11 : decode cX3_closeBracket 11 = .ok (.getfield 12, 3) := by decide +kernel
theorem dX3_closeBracket_14 : decode cX3_closeBracket 14 = .ok (.aload_n 1, 1) := by decide +kernel
theorem dX3_closeBracket_15 : decode cX3_closeBracket 15 = .ok (.getfield 73, 3) := by decide +kernel
theorem dX3_closeBracket_18 : decode cX3_closeBracket 18 = .ok (.aload_n 1, 1) := by decide +kernel
theorem dX3_closeBracket_19 : decode cX3_closeBracket 19 = .ok (.getfield 76, 3) := by decide +kernel
theorem dX3_closeBracket_22 : decode cX3_closeBracket 22 = .ok (.aload_n 1, 1) := by decide +kernel
theorem dX3_closeBracket_23 : decode cX3_closeBracket 23 = .ok (.getfield 79, 3) := by decide +kernel
theorem dX3_closeBracket_26 : decode cX3_closeBracket 26 = .ok (.aload_n 1, 1) := by decide +kernel
theorem dX3_closeBracket_27 : decode cX3_closeBracket 27 = .ok (.getfield 83, 3) := by decide +kernel
theorem dX3_closeBracket_30 : decode cX3_closeBracket 30 = .ok (.invokevirtual 47, 3) := by decide +kernel
theorem dX3_closeBracket_33 : decode cX3_closeBracket 33 = .ok (.aload_n 0, 1) := by decide +kernel
theorem dX3_closeBracket_34 : decode cX3_closeBracket 34 = .ok (.dup, 1) := by decide +kernel
theorem dX3_closeBracket_35 : decode cX3_closeBracket 35 = .ok (.getfield 37, 3) := by decide +kernel
theorem dX3_closeBracket_38 : decode cX3_closeBracket 38 = .ok (.iconst 1, 1) := by decide +kernel
theorem dX3_closeBracket_39 : decode cX3_closeBracket 39 = .ok (.isub, 1) := by decide +kernel
theorem dX3_closeBracket_40 : decode cX3_closeBracket 40 = .ok (.putfield 37, 3) := by decide +kernel
theorem dX3_closeBracket_43 : decode cX3_closeBracket 43 = .ok (.aload_n 0, 1) := by decide +kernel
theorem dX3_closeBracket_44 : decode cX3_closeBracket 44 = .ok (.iconst 1, 1) := by decide +kernel
theorem dX3_closeBracket_45 : decode cX3_closeBracket 45 = .ok (.putfield 54, 3) := by decide +kernel
theorem dX3_closeBracket_48 : decode cX3_closeBracket 48 = .ok (.return_, 1) := by decide +kernel
theorem dX3_allowMore_0 : decode cX3_allowMore 0 = .ok (.aload_n 0, 1) := by decide +kernel
theorem dX3_allowMore_1 : decode cX3_allowMore 1 = .ok (.getfield 28, 3) := by decide +kernel
theorem dX3_allowMore_4 : decode cX3_allowMore 4 = .ok (.aload_n 0, 1) := by decide +kernel
theorem dX3_allowMore_5 : decode cX3_allowMore 5 = .ok (.getfield 12, 3) := by decide +kernel
theorem dX3_allowMore_8 : decode cX3_allowMore 8 = .ok (.getfield 83, 3) := by decide +kernel
theorem dX3_allowMore_11 : decode cX3_allowMore 11 = .ok (.aload_n 0, 1) := by decide +kernel
theorem dX3_allowMore_12 : decode cX3_allowMore 12 = .ok (.getfield 12, 3) := by decide +kernel
theorem dX3_allowMore_15 : decode cX3_allowMore 15 = .ok (.getfield 79, 3) := by decide +kernel
theorem dX3_allowMore_18 : decode cX3_allowMore 18 = .ok (.invokevirtual 86, 3) := by decide +kernel
theorem dX3_allowMore_21 : decode cX3_allowMore 21 = .ok (.return_, 1) := by decide +kernel
theorem dX3_allowNone_0 : decode cX3_allowNone 0 = .ok (.aload_n 0, 1) := by decide +kernel
theorem dX3_allowNone_1 : decode cX3_allowNone 1 = .ok (.getfield 12, 3) := by decide +kernel
theorem dX3_allowNone_4 : decode cX3_allowNone 4 = .ok (.iconst 1, 1) := by decide +kernel
theorem dX3_allowNone_5 : decode cX3_allowNone 5 = .ok (.putfield 76, 3) := by decide +kernel
theorem dX3_allowNone_8 : decode cX3_allowNone 8 = .ok (.return_, 1) := by decide +kernel
theorem dX3_repeat_0 : decode cX3_repeat 0 = .ok (.aload_n 0, 1) := by decide +kernel
theorem dX3_repeat_1 : decode cX3_repeat 1 = .ok (.getfield 28, 3) := by decide +kernel
theorem dX3_repeat_4 : decode cX3_repeat 4 = .ok (.getfield 44, 3) := by decide +kernel
theorem dX3_repeat_7 : decode cX3_repeat 7 = .ok (.aload_n 0, 1) := by decide +kernel
theorem dX3_repeat_8 : decode cX3_repeat 8 = .ok (.getfield 12, 3) := by decide +kernel
theorem dX3_repeat_11 : decode cX3_repeat 11 = .ok (.getfield 73, 3) := by decide +kernel
theorem dX3_repeat_14 : decode cX3_repeat 14 = .ok (.isub, 1) := by decide +kernel
theorem dX3_repeat_15 : decode cX3_repeat 15 = .ok (.istore_n 3, 1) := by decide +kernel
theorem dX3_repeat_16 : decode cX3_repeat 16 = .ok (.aload_n 0, 1) := by decide +kernel
theorem dX3_repeat_17 : decode cX3_repeat 17 = .ok (.getfield 12, 3) := by decide +kernel
theorem dX3_repeat_20 : decode cX3_repeat 20 = .ok (.getfield 73, 3) := by decide +kernel
theorem dX3_repeat_23 : decode cX3_repeat 23 = .ok (.iload_n 3, 1) := by decide +kernel
theorem dX3_repeat_24 : decode cX3_repeat 24 = .ok (.iload_n 2, 1) := by decide +kernel
theorem dX3_repeat_25 : decode cX3_repeat 25 = .ok (.imul, 1) := by decide +kernel
theorem dX3_repeat_26 : decode cX3_repeat 26 = .ok (.iadd, 1) := by decide +kernel
theorem dX3_repeat_27 : decode cX3_repeat 27 = .ok (.bipush 60, 2) := by decide +kernel
theorem dX3_repeat_29 : decode cX3_repeat 29 = .ok (.if_icmp .le 5, 3) := by decide +kernel
theorem dX3_repeat_32 : decode cX3_repeat 32 = .ok (.iconst 0, 1) := by decide +kernel
theorem dX3_repeat_33 : decode cX3_repeat 33 = .ok (.ireturn, 1) := by decide +kernel
theorem dX3_repeat_34 : decode cX3_repeat 34 = .ok (.aload_n 0, 1) := by decide +kernel
theorem dX3_repeat_35 : decode cX3_repeat 35 = .ok (.getfield 12, 3) := by decide +kernel
theorem dX3_repeat_38 : decode cX3_repeat 38 = .ok (.getfield 76, 3) := by decide +kernel
theorem dX3_repeat_41 : decode cX3_repeat 41 = .ok (.istore 4, 2) := by decide +kernel
theorem dX3_repeat_43 : decode cX3_repeat 43 = .ok (.aload_n 0, 1) := by decide +kernel
theorem dX3_repeat_44 : decode cX3_repeat 44 = .ok (.getfield 12, 3) := by decide +kernel
theorem dX3_repeat_47 : decode cX3_repeat 47 = .ok (.getfield 79, 3) := by decide +kernel
theorem dX3_repeat_50 : decode cX3_repeat 50 = .ok (.lstore 5, 2) := by decide +kernel
theorem dX3_repeat_52 : decode cX3_repeat 52 = .ok (.aload_n 0, 1) := by decide +kernel
theorem dX3_repeat_53 : decode cX3_repeat 53 = .ok (.getfield 12, 3) := by decide +kernel
theorem dX3_repeat_56 : decode cX3_repeat 56 = .ok (.getfield 83, 3) := by decide +kernel
theorem dX3_repeat_59 : decode cX3_repeat 59 = .ok (.lstore 7, 2) := by decide +kernel
theorem dX3_repeat_61 : decode cX3_repeat 61 = .ok (.aload_n 0, 1) := by decide +kernel
theorem dX3_repeat_62 : decode cX3_repeat 62 = .ok (.getfield 28, 3) := by decide +kernel
theorem dX3_repeat_65 : decode cX3_repeat 65 = .ok (.aload_n 0, 1) := by decide +kernel
theorem dX3_repeat_66 : decode cX3_repeat 66 = .ok (.getfield 12, 3) := by decide +kernel
theorem dX3_repeat_69 : decode cX3_repeat 69 = .ok (.getfield 73, 3) := by decide +kernel
theorem dX3_repeat_72 : decode cX3_repeat 72 = .ok (.iload_n 2, 1) := by decide +kernel
theorem dX3_repeat_73 : decode cX3_repeat 73 = .ok (.invokevirtual 90, 3) := by decide +kernel
theorem dX3_repeat_76 : decode cX3_repeat 76 = .ok (.aload_n 0, 1) := by decide +kernel
theorem dX3_repeat_77 : decode cX3_repeat 77 = .ok (.getfield 12, 3) := by decide +kernel
theorem dX3_repeat_80 : decode cX3_repeat 80 = .ok (.iload 4, 2) := by decide +kernel
theorem dX3_repeat_82 : decode cX3_repeat 82 = .ok (.ifCond .ne 7, 3) := by decide +kernel
theorem dX3_repeat_85 : decode cX3_repeat 85 = .ok (.iload_n 1, 1) := by decide +kernel
theorem dX3_repeat_86 : decode cX3_repeat 86 = .ok (.ifCond .ne 7, 3) := by decide +kernel
theorem dX3_repeat_89 : decode cX3_repeat 89 = .ok (.iconst 1, 1) := by decide +kernel
theorem dX3_repeat_90 : decode cX3_repeat 90 = .ok (.goto 4, 3) := by decide +kernel
theorem dX3_repeat_93 : decode cX3_repeat 93 = .ok (.iconst 0, 1) := by decide +kernel
theorem dX3_repeat_94 : decode cX3_repeat 94 = .ok (.putfield 76, 3) := by decide +kernel
theorem dX3_repeat_97 : decode cX3_repeat 97 = .ok (.iconst 1, 1) := by decide +kernel
theorem dX3_repeat_98 : decode cX3_repeat 98 = .ok (.istore 9, 2) := by decide +kernel
theorem dX3_repeat_100 : decode cX3_repeat 100 = .ok (.iload 9, 2) := by decide +kernel
theorem dX3_repeat_102 : decode cX3_repeat 102 = .ok (.iload_n 2, 1) := by decide +kernel
theorem dX3_repeat_103 : decode cX3_repeat 103 = .ok (.if_icmp .ge 73, 3) := by decide +kernel
theorem dX3_repeat_106 : decode cX3_repeat 106 = .ok (.iload 9, 2) := by decide +kernel
theorem dX3_repeat_108 : decode cX3_repeat 108 = .ok (.iload_n 3, 1) := by decide +kernel
theorem dX3_repeat_109 : decode cX3_repeat 109 = .ok (.imul, 1) := by decide +kernel
theorem dX3_repeat_110 : decode cX3_repeat 110 = .ok (.istore 10, 2) := by decide +kernel
theorem dX3_repeat_112 : decode cX3_repeat 112 = .ok (.aload_n 0, 1) := by decide +kernel
theorem dX3_repeat_113 : decode cX3_repeat 113 = .ok (.getfield 18, 3) := by decide +kernel
theorem dX3_repeat_116 : decode cX3_repeat 116 = .ok (.aload_n 0, 1) := by decide +kernel
theorem dX3_repeat_117 : decode cX3_repeat 117 = .ok (.getfield 12, 3) := by decide +kernel
theorem dX3_repeat_120 : decode cX3_repeat 120 = .ok (.getfield 73, 3) := by decide +kernel
theorem dX3_repeat_123 : decode cX3_repeat 123 = .ok (.iload 10, 2) := by decide +kernel
theorem dX3_repeat_125 : decode cX3_repeat 125 = .ok (.iadd, 1) := by decide +kernel
theorem dX3_repeat_126 : decode cX3_repeat 126 = .ok (.iload 4, 2) := by decide +kernel
theorem dX3_repeat_128 : decode cX3_repeat 128 = .ok (.ifCond .ne 9, 3) := by decide +kernel
theorem dX3_repeat_131 : decode cX3_repeat 131 = .ok (.iload 9, 2) := by decide +kernel
theorem dX3_repeat_133 : decode cX3_repeat 133 = .ok (.iload_n 1, 1) := by decide +kernel
theorem dX3_repeat_134 : decode cX3_repeat 134 = .ok (.if_icmp .lt 7, 3) := by decide +kernel
theorem dX3_repeat_137 : decode cX3_repeat 137 = .ok (.iconst 1, 1) := by decide +kernel
theorem dX3_repeat_138 : decode cX3_repeat 138 = .ok (.goto 4, 3) := by decide +kernel
theorem dX3_repeat_141 : decode cX3_repeat 141 = .ok (.iconst 0, 1) := by decide +kernel
theorem dX3_repeat_142 : decode cX3_repeat 142 = .ok (.lload 5, 2) := by decide +kernel
theorem dX3_repeat_144 : decode cX3_repeat 144 = .ok (.iload 10, 2) := by decide +kernel
theorem dX3_repeat_146 : decode cX3_repeat 146 = .ok (.lshl, 1) := by decide +kernel
theorem dX3_repeat_147 : decode cX3_repeat 147 = .ok (.lload 7, 2) := by decide +kernel
theorem dX3_repeat_149 : decode cX3_repeat 149 = .ok (.iload 10, 2) := by decide +kernel
theorem dX3_repeat_151 : decode cX3_repeat 151 = .ok (.lshl, 1) := by decide +kernel
theorem dX3_repeat_152 : decode cX3_repeat 152 = .ok (.invokevirtual 47, 3) := by decide +kernel
theorem dX3_repeat_155 : decode cX3_repeat 155 = .ok (.aload_n 0, 1) := by decide +kernel
theorem dX3_repeat_156 : decode cX3_repeat 156 = .ok (.getfield 12, 3) := by decide +kernel
theorem dX3_repeat_159 : decode cX3_repeat 159 = .ok (.aload_n 0, 1) := by decide +kernel
theorem dX3_repeat_160 : decode cX3_repeat 160 = .ok (.getfield 18, 3) := by decide +kernel
theorem dX3_repeat_163 : decode cX3_repeat 163 = .ok (.aload_n 0, 1) := by decide +kernel
theorem dX3_repeat_164 : decode cX3_repeat 164 = .ok (.getfield 28, 3) := by decide +kernel
theorem dX3_repeat_167 : decode cX3_repeat 167 = .ok (.invokevirtual 58, 3) := by decide +kernel
theorem dX3_repeat_170 : decode cX3_repeat 170 = .ok (.iinc 9 1, 3) := by decide +kernel
theorem dX3_repeat_173 : decode cX3_repeat 173 = .ok (.goto (-73), 3) := by decide +kernel
theorem dX3_repeat_176 : decode cX3_repeat 176 = .ok (.iconst 1, 1) := by decide +kernel
theorem dX3_repeat_177 : decode cX3_repeat 177 = .ok (.ireturn, 1) := by decide +kernel
theorem dX3_finish_0 : decode cX3_finish 0 = .ok (.aload_n 0, 1) := by decide +kernel
theorem dX3_finish_1 : decode cX3_finish 1 = .ok (.invokevirtual 94, 3) := by decide +kernel
theorem dX3_finish_4 : decode cX3_finish 4 = .ok (.aload_n 0, 1) := by decide +kernel
theorem dX3_finish_5 : decode cX3_finish 5 = .ok (.getfield 28, 3) := by decide +kernel
theorem dX3_finish_8 : decode cX3_finish 8 = .ok (.aload_n 0, 1) := by decide +kernel
theorem dX3_finish_9 : decode cX3_finish 9 = .ok (.getfield 25, 3) := by decide +kernel
theorem dX3_finish_12 : decode cX3_finish 12 = .ok (.iconst 0, 1) := by decide +kernel
theorem dX3_finish_13 : decode cX3_finish 13 = .ok (.aaload, 1) := by decide +kernel
theorem dX3_finish_14 : decode cX3_finish 14 = .ok (.invokevirtual 97, 3) := by decide +kernel
theorem dX3_finish_17 : decode cX3_finish 17 = .ok (.return_, 1) := by decide +kernel
theorem dX4_init_0 : decode cX4_init 0 = .ok (.aload_n 0, 1) := by decide +kernel
theorem dX4_init_1 : decode cX4_init 1 = .ok (.invokespecial 3, 3) := by decide +kernel
theorem dX4_init_4 : decode cX4_init 4 = .ok (.aload_n 0, 1) := by decide +kernel
theorem dX4_init_5 : decode cX4_init 5 = .ok (.bipush 60, 2) := by decide +kernel
theorem dX4_init_7 : decode cX4_init 7 = .ok (.newarray .long, 2) := by decide +kernel
theorem dX4_init_9 : decode cX4_init 9 = .ok (.putfield 9, 3) := by decide +kernel
theorem dX4_init_12 : decode cX4_init 12 = .ok (.aload_n 0, 1) := by decide +kernel
theorem dX4_init_13 : decode cX4_init 13 = .ok (.bipush 60, 2) := by decide +kernel
theorem dX4_init_15 : decode cX4_init 15 = .ok (.newarray .long, 2) := by decide +kernel
theorem dX4_init_17 : decode cX4_init 17 = .ok (.putfield 15, 3) := by decide +kernel
theorem dX4_init_20 : decode cX4_init 20 = .ok (.aload_n 0, 1) := by decide +kernel
theorem dX4_init_21 : decode cX4_init 21 = .ok (.bipush 36, 2) := by decide +kernel
theorem dX4_init_23 : decode cX4_init 23 = .ok (.newarray .long, 2) := by decide +kernel
theorem dX4_init_25 : decode cX4_init 25 = .ok (.putfield 18, 3) := by decide +kernel
theorem dX4_init_28 : decode cX4_init 28 = .ok (.aload_n 0, 1) := by decide +kernel
theorem dX4_init_29 : decode cX4_init 29 = .ok (.new 21, 3) := by decide +kernel
theorem dX4_init_32 : decode cX4_init 32 = .ok (.dup, 1) := by decide +kernel
theorem dX4_init_33 : decode cX4_init 33 = .ok (.invokespecial 23, 3) := by decide +kernel
theorem dX4_init_36 : decode cX4_init 36 = .ok (.putfield 24, 3) := by decide +kernel
theorem dX4_init_39 : decode cX4_init 39 = .ok (.return_, 1) := by decide +kernel
theorem dX4_wipe_0 : decode cX4_wipe 0 = .ok (.aload_n 0, 1) := by decide +kernel
theorem dX4_wipe_1 : decode cX4_wipe 1 = .ok (.iconst 0, 1) := by decide +kernel
theorem dX4_wipe_2 : decode cX4_wipe 2 = .ok (.putfield 28, 3) := by decide +kernel
theorem dX4_wipe_5 : decode cX4_wipe 5 = .ok (.aload_n 0, 1) := by decide +kernel
theorem dX4_wipe_6 : decode cX4_wipe 6 = .ok (.getfield 24, 3) := by decide +kernel
theorem dX4_wipe_9 : decode cX4_wipe 9 = .ok (.iconst 0, 1) := by decide +kernel
theorem dX4_wipe_10 : decode cX4_wipe 10 = .ok (.putfield 32, 3) := by decide +kernel
theorem dX4_wipe_13 : decode cX4_wipe 13 = .ok (.return_, 1) := by decide +kernel
theorem dX4_addPosition_0 : decode cX4_addPosition 0 = .ok (.aload_n 0, 1) := by decide +kernel
theorem dX4_addPosition_1 : decode cX4_addPosition 1 = .ok (.getfield 15, 3) := by decide +kernel
theorem dX4_addPosition_4 : decode cX4_addPosition 4 = .ok (.aload_n 0, 1) := by decide +kernel
theorem dX4_addPosition_5 : decode cX4_addPosition 5 = .ok (.getfield 28, 3) := by decide +kernel
theorem dX4_addPosition_8 : decode cX4_addPosition 8 = .ok (.lload_n 1, 1) := by decide +kernel
theorem dX4_addPosition_9 : decode cX4_addPosition 9 = .ok (.lastore, 1) := by decide +kernel
theorem dX4_addPosition_10 : decode cX4_addPosition 10 = .ok (.aload_n 0, 1) := by decide +kernel
theorem dX4_addPosition_11 : decode cX4_addPosition 11 = .ok (.getfield 9, 3) := by decide +kernel
theorem dX4_addPosition_14 : decode cX4_addPosition 14 = .ok (.aload_n 0, 1) := by decide +kernel
theorem dX4_addPosition_15 : decode cX4_addPosition 15 = .ok (.getfield 28, 3) := by decide +kernel
theorem dX4_addPosition_18 : decode cX4_addPosition 18 = .ok (.lconst 0, 1) := by decide +kernel
theorem dX4_addPosition_19 : decode cX4_addPosition 19 = .ok (.lastore, 1) := by decide +kernel
theorem dX4_addPosition_20 : decode cX4_addPosition 20 = .ok (.aload_n 0, 1) := by decide +kernel
theorem dX4_addPosition_21 : decode cX4_addPosition 21 = .ok (.dup, 1) := by decide +kernel
theorem dX4_addPosition_22 : decode cX4_addPosition 22 = .ok (.getfield 28, 3) := by decide +kernel
theorem dX4_addPosition_25 : decode cX4_addPosition 25 = .ok (.iconst 1, 1) := by decide +kernel
theorem dX4_addPosition_26 : decode cX4_addPosition 26 = .ok (.iadd, 1) := by decide +kernel
theorem dX4_addPosition_27 : decode cX4_addPosition 27 = .ok (.putfield 28, 3) := by decide +kernel
theorem dX4_addPosition_30 : decode cX4_addPosition 30 = .ok (.return_, 1) := by decide +kernel
theorem dX4_copyPositions_0 : decode cX4_copyPositions 0 = .ok (.aload_n 0, 1) := by decide +kernel
theorem dX4_copyPositions_1 : decode cX4_copyPositions 1 = .ok (.getfield 28, 3) := by decide +kernel
theorem dX4_copyPositions_4 : decode cX4_copyPositions 4 = .ok (.iload_n 1, 1) := by decide +kernel
theorem dX4_copyPositions_5 : decode cX4_copyPositions 5 = .ok (.isub, 1) := by decide +kernel
theorem dX4_copyPositions_6 : decode cX4_copyPositions 6 = .ok (.istore_n 3, 1) := by decide +kernel
theorem dX4_copyPositions_7 : decode cX4_copyPositions 7 = .ok (.iconst 1, 1) := by decide +kernel
theorem dX4_copyPositions_8 : decode cX4_copyPositions 8 = .ok (.istore 4, 2) := by decide +kernel
theorem dX4_copyPositions_10 : decode cX4_copyPositions 10 = .ok (.iload 4, 2) := by decide +kernel
theorem dX4_copyPositions_12 : decode cX4_copyPositions 12 = .ok (.iload_n 2, 1) := by decide +kernel
theorem dX4_copyPositions_13 : decode cX4_copyPositions 13 = .ok (.if_icmp .ge 69, 3) := by decide +kernel
theorem dX4_copyPositions_16 : decode cX4_copyPositions 16 = .ok (.iload_n 1, 1) := by decide +kernel
theorem dX4_copyPositions_17 : decode cX4_copyPositions 17 = .ok (.istore 5, 2) := by decide +kernel
theorem dX4_copyPositions_19 : decode cX4_copyPositions 19 = .ok (.iload 5, 2) := by decide +kernel
theorem dX4_copyPositions_21 : decode cX4_copyPositions 21 = .ok (.iload_n 1, 1) := by decide +kernel
theorem dX4_copyPositions_22 : decode cX4_copyPositions 22 = .ok (.iload_n 3, 1) := by decide +kernel
theorem dX4_copyPositions_23 : decode cX4_copyPositions 23 = .ok (.iadd, 1) := by decide +kernel
theorem dX4_copyPositions_24 : decode cX4_copyPositions 24 = .ok (.if_icmp .ge 52, 3) := by decide +kernel
theorem dX4_copyPositions_27 : decode cX4_copyPositions 27 = .ok (.aload_n 0, 1) := by decide +kernel
theorem dX4_copyPositions_28 : decode cX4_copyPositions 28 = .ok (.getfield 15, 3) := by decide +kernel
theorem dX4_copyPositions_31 : decode cX4_copyPositions 31 = .ok (.iload 5, 2) := by decide +kernel
theorem dX4_copyPositions_33 : decode cX4_copyPositions 33 = .ok (.iload 4, 2) := by decide +kernel
theorem dX4_copyPositions_35 : decode cX4_copyPositions 35 = .ok (.iload_n 3, 1) := by decide +kernel
theorem dX4_copyPositions_36 : decode cX4_copyPositions 36 = .ok (.imul, 1) := by decide +kernel
theorem dX4_copyPositions_37 : decode cX4_copyPositions 37 = .ok (.iadd, 1) := by decide +kernel
theorem dX4_copyPositions_38 : decode cX4_copyPositions 38 = .ok (.aload_n 0, 1) := by decide +kernel
theorem dX4_copyPositions_39 : decode cX4_copyPositions 39 = .ok (.getfield 15, 3) := by decide +kernel
theorem dX4_copyPositions_42 : decode cX4_copyPositions 42 = .ok (.iload 5, 2) := by decide +kernel
theorem dX4_copyPositions_44 : decode cX4_copyPositions 44 = .ok (.laload, 1) := by decide +kernel
theorem dX4_copyPositions_45 : decode cX4_copyPositions 45 = .ok (.lastore, 1) := by decide +kernel
theorem dX4_copyPositions_46 : decode cX4_copyPositions 46 = .ok (.aload_n 0, 1) := by decide +kernel
theorem dX4_copyPositions_47 : decode cX4_copyPositions 47 = .ok (.getfield 9, 3) := by decide +kernel
theorem dX4_copyPositions_50 : decode cX4_copyPositions 50 = .ok (.iload 5, 2) := by decide +kernel
theorem dX4_copyPositions_52 : decode cX4_copyPositions 52 = .ok (.iload 4, 2) := by decide +kernel
theorem dX4_copyPositions_54 : decode cX4_copyPositions 54 = .ok (.iload_n 3, 1) := by decide +kernel
theorem dX4_copyPositions_55 : decode cX4_copyPositions 55 = .ok (.imul, 1) := by decide +kernel
theorem dX4_copyPositions_56 : decode cX4_copyPositions 56 = .ok (.iadd, 1) := by decide +kernel
theorem dX4_copyPositions_57 : decode cX4_copyPositions 57 = .ok (.aload_n 0, 1) := by decide +kernel
theorem dX4_copyPositions_58 : decode cX4_copyPositions 58 = .ok (.getfield 9, 3) := by decide +kernel
theorem dX4_copyPositions_61 : decode cX4_copyPositions 61 = .ok (.iload 5, 2) := by decide +kernel
theorem dX4_copyPositions_63 : decode cX4_copyPositions 63 = .ok (.laload, 1) := by decide +kernel
theorem dX4_copyPositions_64 : decode cX4_copyPositions 64 = .ok (.iload 4, 2) := by decide +kernel
theorem dX4_copyPositions_66 : decode cX4_copyPositions 66 = .ok (.iload_n 3, 1) := by decide +kernel
theorem dX4_copyPositions_67 : decode cX4_copyPositions 67 = .ok (.imul, 1) := by decide +kernel
theorem dX4_copyPositions_68 : decode cX4_copyPositions 68 = .ok (.lshl, 1) := by decide +kernel
theorem dX4_copyPositions_69 : decode cX4_copyPositions 69 = .ok (.lastore, 1) := by decide +kernel
theorem dX4_copyPositions_70 : decode cX4_copyPositions 70 = .ok (.iinc 5 1, 3) := by decide +kernel
theorem dX4_copyPositions_73 : decode cX4_copyPositions 73 = .ok (.goto (-54), 3) := by decide +kernel
theorem dX4_copyPositions_76 : decode cX4_copyPositions 76 = .ok (.iinc 4 1, 3) := by decide +kernel
theorem dX4_copyPositions_79 : decode cX4_copyPositions 79 = .ok (.goto (-69), 3) := by decide +kernel
theorem dX4_copyPositions_82 : decode cX4_copyPositions 82 = .ok (.aload_n 0, 1) := by decide +kernel
theorem dX4_copyPositions_83 : decode cX4_copyPositions 83 = .ok (.iload_n 1, 1) := by decide +kernel
theorem dX4_copyPositions_84 : decode cX4_copyPositions 84 = .ok (.iload_n 3, 1) := by decide +kernel
theorem dX4_copyPositions_85 : decode cX4_copyPositions 85 = .ok (.iload_n 2, 1) := by decide +kernel
theorem dX4_copyPositions_86 : decode cX4_copyPositions 86 = .ok (.imul, 1) := by decide +kernel
theorem dX4_copyPositions_87 : decode cX4_copyPositions 87 = .ok (.iadd, 1) := by decide +kernel
theorem dX4_copyPositions_88 : decode cX4_copyPositions 88 = .ok (.putfield 28, 3) := by decide +kernel
theorem dX4_copyPositions_91 : decode cX4_copyPositions 91 = .ok (.return_, 1) := by decide +kernel
theorem dX4_connect_0 : decode cX4_connect 0 = .ok (.iconst 0, 1) := by decide +kernel
theorem dX4_connect_1 : decode cX4_connect 1 = .ok (.istore 5, 2) := by decide +kernel
theorem dX4_connect_3 : decode cX4_connect 3 = .ok (.iload 5, 2) := by decide +kernel
theorem dX4_connect_5 : decode cX4_connect 5 = .ok (.aload_n 0, 1) := by decide +kernel
theorem dX4_connect_6 : decode cX4_connect 6 = .ok (.getfield 28, 3) := by decide +kernel
theorem dX4_connect_9 : decode cX4_connect 9 = .ok (.if_icmp .ge 31, 3) := by decide +kernel
theorem dX4_connect_12 : decode cX4_connect 12 = .ok (.lload_n 1, 1) := by decide +kernel
theorem dX4_connect_13 : decode cX4_connect 13 = .ok (.iload 5, 2) := by decide +kernel
theorem dX4_connect_15 : decode cX4_connect 15 = .ok (.lushr, 1) := by decide +kernel
theorem dX4_connect_16 : decode cX4_connect 16 = .ok (.lconst 1, 1) := by decide +kernel
theorem dX4_connect_17 : decode cX4_connect 17 = .ok (.land, 1) := by decide +kernel
theorem dX4_connect_18 : decode cX4_connect 18 = .ok (.lconst 0, 1) := by decide +kernel
theorem dX4_connect_19 : decode cX4_connect 19 = .ok (.lcmp, 1) := by decide +kernel
theorem dX4_connect_20 : decode cX4_connect 20 = .ok (.ifCond .eq 14, 3) := by decide +kernel
theorem dX4_connect_23 : decode cX4_connect 23 = .ok (.aload_n 0, 1) := by decide +kernel
theorem dX4_connect_24 : decode cX4_connect 24 = .ok (.getfield 9, 3) := by decide +kernel
theorem dX4_connect_27 : decode cX4_connect 27 = .ok (.iload 5, 2) := by decide +kernel
theorem dX4_connect_29 : decode cX4_connect 29 = .ok (.dup2, 1) := by decide +kernel
theorem dX4_connect_30 : decode cX4_connect 30 = .ok (.laload, 1) := by decide +kernel
theorem dX4_connect_31 : decode cX4_connect 31 = .ok (.lload_n 3, 1) := by decide +kernel
theorem dX4_connect_32 : decode cX4_connect 32 = .ok (.lor, 1) := by decide +kernel
theorem dX4_connect_33 : decode cX4_connect 33 = .ok (.lastore, 1) := by decide +kernel
theorem dX4_connect_34 : decode cX4_connect 34 = .ok (.iinc 5 1, 3) := by decide +kernel
theorem dX4_connect_37 : decode cX4_connect 37 = .ok (.goto (-34), 3) := by decide +kernel
theorem dX4_connect_40 : decode cX4_connect 40 = .ok (.return_, 1) := by decide +kernel
theorem dX4_complete_0 : decode cX4_complete 0 = .ok (.aload_n 0, 1) := by decide +kernel
theorem dX4_complete_1 : decode cX4_complete 1 = .ok (.aload_n 1, 1) := by decide +kernel
theorem dX4_complete_2 : decode cX4_complete 2 = .ok (.getfield 36, 3) := by decide +kernel
theorem dX4_complete_5 : decode cX4_complete 5 = .ok (.putfield 41, 3) := by decide +kernel
theorem dX4_complete_8 : decode cX4_complete 8 = .ok (.aload_n 0, 1) := by decide +kernel
theorem dX4_complete_9 : decode cX4_complete 9 = .ok (.aload_n 1, 1) := by decide +kernel
theorem dX4_complete_10 : decode cX4_complete 10 = .ok (.getfield 42, 3) := by decide +kernel
theorem dX4_complete_13 : decode cX4_complete 13 = .ok (.putfield 46, 3) := by decide +kernel
theorem dX4_complete_16 : decode cX4_complete 16 = .ok (.aload_n 0, 1) := by decide +kernel
theorem dX4_complete_17 : decode cX4_complete 17 = .ok (.aload_n 1, 1) := by decide +kernel
theorem dX4_complete_18 : decode cX4_complete 18 = .ok (.getfield 47, 3) := by decide +kernel
theorem dX4_complete_21 : decode cX4_complete 21 = .ok (.putfield 50, 3) := by decide +kernel
theorem dX4_complete_24 : decode cX4_complete 24 = .ok (.iconst 0, 1) := by decide +kernel
theorem dX4_complete_25 : decode cX4_complete 25 = .ok (.istore_n 2, 1) := by decide +kernel
theorem dX4_complete_26 : decode cX4_complete 26 = .ok (.iload_n 2, 1) := by decide +kernel
theorem dX4_complete_27 : decode cX4_complete 27 = .ok (.bipush 36, 2) := by decide +kernel
theorem dX4_complete_29 : decode cX4_complete 29 = .ok (.if_icmp .ge 20, 3) := by decide +kernel
theorem dX4_complete_32 : decode cX4_complete 32 = .ok (.aload_n 0, 1) := by decide +kernel
theorem dX4_complete_33 : decode cX4_complete 33 = .ok (.getfield 18, 3) := by decide +kernel
theorem dX4_complete_36 : decode cX4_complete 36 = .ok (.iload_n 2, 1) := by decide +kernel
theorem dX4_complete_37 : decode cX4_complete 37 = .ok (.aload_n 0, 1) := by decide +kernel
theorem dX4_complete_38 : decode cX4_complete 38 = .ok (.iload_n 2, 1) := by decide +kernel
theorem dX4_complete_39 : decode cX4_complete 39 = .ok (.invokevirtual 51, 3) := by decide +kernel
theorem dX4_complete_42 : decode cX4_complete 42 = .ok (.lastore, 1) := by decide +kernel
theorem dX4_complete_43 : decode cX4_complete 43 = .ok (.iinc 2 1, 3) := by decide +kernel
theorem dX4_complete_46 : decode cX4_complete 46 = .ok (.goto (-20), 3) := by decide +kernel
theorem dX4_complete_49 : decode cX4_complete 49 = .ok (.return_, 1) := by decide +kernel
theorem dX4_haversOf_0 : decode cX4_haversOf 0 = .ok (.lconst 0, 1) := by decide +kernel
theorem dX4_haversOf_1 : decode cX4_haversOf 1 = .ok (.lstore_n 2, 1) := by decide +kernel
theorem dX4_haversOf_2 : decode cX4_haversOf 2 = .ok (.iconst 0, 1) := by decide +kernel
theorem dX4_haversOf_3 : decode cX4_haversOf 3 = .ok (.istore 4, 2) := by decide +kernel
theorem dX4_haversOf_5 : decode cX4_haversOf 5 = .ok (.iload 4, 2) := by decide +kernel
theorem dX4_haversOf_7 : decode cX4_haversOf 7 = .ok (.aload_n 0, 1) := by decide +kernel
theorem dX4_haversOf_8 : decode cX4_haversOf 8 = .ok (.getfield 28, 3) := by decide +kernel
theorem dX4_haversOf_11 : decode cX4_haversOf 11 = .ok (.if_icmp .ge 30, 3) := by decide +kernel
theorem dX4_haversOf_14 : decode cX4_haversOf 14 = .ok (.aload_n 0, 1) := by decide +kernel
theorem dX4_haversOf_15 : decode cX4_haversOf 15 = .ok (.getfield 15, 3) := by decide +kernel
theorem dX4_haversOf_18 : decode cX4_haversOf 18 = .ok (.iload 4, 2) := by decide +kernel
theorem dX4_haversOf_20 : decode cX4_haversOf 20 = .ok (.laload, 1) := by decide +kernel
theorem dX4_haversOf_21 : decode cX4_haversOf 21 = .ok (.iload_n 1, 1) := by decide +kernel
theorem dX4_haversOf_22 : decode cX4_haversOf 22 = .ok (.invokestatic 55, 3) := by decide +kernel
theorem dX4_haversOf_25 : decode cX4_haversOf 25 = .ok (.ifCond .eq 10, 3) := by decide +kernel
theorem dX4_haversOf_28 : decode cX4_haversOf 28 = .ok (.lload_n 2, 1) := by decide +kernel
theorem dX4_haversOf_29 : decode cX4_haversOf 29 = .ok (.lconst 1, 1) := by decide +kernel
theorem dX4_haversOf_30 : decode cX4_haversOf 30 = .ok (.iload 4, 2) := by decide +kernel
theorem dX4_haversOf_32 : decode cX4_haversOf 32 = .ok (.lshl, 1) := by decide +kernel
theorem dX4_haversOf_33 : decode cX4_haversOf 33 = .ok (.lor, 1) := by decide +kernel
theorem dX4_haversOf_34 : decode cX4_haversOf 34 = .ok (.lstore_n 2, 1) := by decide +kernel
theorem dX4_haversOf_35 : decode cX4_haversOf 35 = .ok (.iinc 4 1, 3) := by decide +kernel
theorem dX4_haversOf_38 : decode cX4_haversOf 38 = .ok (.goto (-33), 3) := by decide +kernel
theorem dX4_haversOf_41 : decode cX4_haversOf 41 = .ok (.lload_n 2, 1) := by decide +kernel
theorem dX4_haversOf_42 : decode cX4_haversOf 42 = .ok (.lreturn, 1) := by decide +kernel
theorem dX4_behindAny_0 : decode cX4_behindAny 0 = .ok (.lconst 0, 1) := by decide +kernel
theorem dX4_behindAny_1 : decode cX4_behindAny 1 = .ok (.lstore_n 3, 1) := by decide +kernel
theorem dX4_behindAny_2 : decode cX4_behindAny 2 = .ok (.iconst 0, 1) := by decide +kernel
theorem dX4_behindAny_3 : decode cX4_behindAny 3 = .ok (.istore 5, 2) := by decide +kernel
theorem dX4_behindAny_5 : decode cX4_behindAny 5 = .ok (.iload 5, 2) := by decide +kernel
theorem dX4_behindAny_7 : decode cX4_behindAny 7 = .ok (.aload_n 0, 1) := by decide +kernel
theorem dX4_behindAny_8 : decode cX4_behindAny 8 = .ok (.getfield 28, 3) := by decide +kernel
theorem dX4_behindAny_11 : decode cX4_behindAny 11 = .ok (.if_icmp .ge 28, 3) := by decide +kernel
theorem dX4_behindAny_14 : decode cX4_behindAny 14 = .ok (.lload_n 1, 1) := by decide +kernel
theorem dX4_behindAny_15 : decode cX4_behindAny 15 = .ok (.iload 5, 2) := by decide +kernel
theorem dX4_behindAny_17 : decode cX4_behindAny 17 = .ok (.invokestatic 55, 3) := by decide +kernel
theorem dX4_behindAny_20 : decode cX4_behindAny 20 = .ok (.ifCond .eq 13, 3) := by decide +kernel
theorem dX4_behindAny_23 : decode cX4_behindAny 23 = .ok (.lload_n 3, 1) := by decide +kernel
theorem dX4_behindAny_24 : decode cX4_behindAny 24 = .ok (.aload_n 0, 1) := by decide +kernel
theorem dX4_behindAny_25 : decode cX4_behindAny 25 = .ok (.getfield 9, 3) := by decide +kernel
theorem dX4_behindAny_28 : decode cX4_behindAny 28 = .ok (.iload 5, 2) := by decide +kernel
theorem dX4_behindAny_30 : decode cX4_behindAny 30 = .ok (.laload, 1) := by decide +kernel
theorem dX4_behindAny_31 : decode cX4_behindAny 31 = .ok (.lor, 1) := by decide +kernel
theorem dX4_behindAny_32 : decode cX4_behindAny 32 = .ok (.lstore_n 3, 1) := by decide +kernel
theorem dX4_behindAny_33 : decode cX4_behindAny 33 = .ok (.iinc 5 1, 3) := by decide +kernel
theorem dX4_behindAny_36 : decode cX4_behindAny 36 = .ok (.goto (-31), 3) := by decide +kernel
theorem dX4_behindAny_39 : decode cX4_behindAny 39 = .ok (.lload_n 3, 1) := by decide +kernel
theorem dX4_behindAny_40 : decode cX4_behindAny 40 = .ok (.lreturn, 1) := by decide +kernel
theorem dX5_init_0 : decode cX5_init 0 = .ok (.aload_n 0, 1) := by decide +kernel
theorem dX5_init_1 : decode cX5_init 1 = .ok (.invokespecial 1, 3) := by decide +kernel
theorem dX5_init_4 : decode cX5_init 4 = .ok (.return_, 1) := by decide +kernel
theorem dX5_set_0 : decode cX5_set 0 = .ok (.aload_n 0, 1) := by decide +kernel
theorem dX5_set_1 : decode cX5_set 1 = .ok (.iload_n 1, 1) := by decide +kernel
theorem dX5_set_2 : decode cX5_set 2 = .ok (.putfield 7, 3) := by decide +kernel
theorem dX5_set_5 : decode cX5_set 5 = .ok (.aload_n 0, 1) := by decide +kernel
theorem dX5_set_6 : decode cX5_set 6 = .ok (.iload_n 2, 1) := by decide +kernel
theorem dX5_set_7 : decode cX5_set 7 = .ok (.putfield 13, 3) := by decide +kernel
theorem dX5_set_10 : decode cX5_set 10 = .ok (.aload_n 0, 1) := by decide +kernel
theorem dX5_set_11 : decode cX5_set 11 = .ok (.lload_n 3, 1) := by decide +kernel
theorem dX5_set_12 : decode cX5_set 12 = .ok (.putfield 17, 3) := by decide +kernel
theorem dX5_set_15 : decode cX5_set 15 = .ok (.aload_n 0, 1) := by decide +kernel
theorem dX5_set_16 : decode cX5_set 16 = .ok (.lload 5, 2) := by decide +kernel
theorem dX5_set_18 : decode cX5_set 18 = .ok (.putfield 21, 3) := by decide +kernel
theorem dX5_set_21 : decode cX5_set 21 = .ok (.return_, 1) := by decide +kernel
theorem dX5_append_0 : decode cX5_append 0 = .ok (.aload_n 2, 1) := by decide +kernel
theorem dX5_append_1 : decode cX5_append 1 = .ok (.aload_n 0, 1) := by decide +kernel
theorem dX5_append_2 : decode cX5_append 2 = .ok (.getfield 21, 3) := by decide +kernel
theorem dX5_append_5 : decode cX5_append 5 = .ok (.aload_n 1, 1) := by decide +kernel
theorem dX5_append_6 : decode cX5_append 6 = .ok (.getfield 17, 3) := by decide +kernel
theorem dX5_append_9 : decode cX5_append 9 = .ok (.invokevirtual 24, 3) := by decide +kernel
theorem dX5_append_12 : decode cX5_append 12 = .ok (.aload_n 0, 1) := by decide +kernel
theorem dX5_append_13 : decode cX5_append 13 = .ok (.aload_n 0, 1) := by decide +kernel
theorem dX5_append_14 : decode cX5_append 14 = .ok (.getfield 13, 3) := by decide +kernel
theorem dX5_append_17 : decode cX5_append 17 = .ok (.ifCond .eq 15, 3) := by decide +kernel
theorem dX5_append_20 : decode cX5_append 20 = .ok (.aload_n 0, 1) := by decide +kernel
theorem dX5_append_21 : decode cX5_append 21 = .ok (.getfield 17, 3) := by decide +kernel
theorem dX5_append_24 : decode cX5_append 24 = .ok (.aload_n 1, 1) := by decide +kernel
theorem dX5_append_25 : decode cX5_append 25 = .ok (.getfield 17, 3) := by decide +kernel
theorem dX5_append_28 : decode cX5_append 28 = .ok (.lor, 1) := by decide +kernel
theorem dX5_append_29 : decode cX5_append 29 = .ok (.goto 7, 3) := by decide +kernel
theorem dX5_append_32 : decode cX5_append 32 = .ok (.aload_n 0, 1) := by decide +kernel
theorem dX5_append_33 : decode cX5_append 33 = .ok (.getfield 17, 3) := by decide +kernel
theorem dX5_append_36 : decode cX5_append 36 = .ok (.putfield 17, 3) := by decide +kernel
theorem dX5_append_39 : decode cX5_append 39 = .ok (.aload_n 0, 1) := by decide +kernel
theorem dX5_append_40 : decode cX5_append 40 = .ok (.aload_n 1, 1) := by decide +kernel
theorem dX5_append_41 : decode cX5_append 41 = .ok (.getfield 13, 3) := by decide +kernel
theorem dX5_append_44 : decode cX5_append 44 = .ok (.ifCond .eq 15, 3) := by decide +kernel
theorem dX5_append_47 : decode cX5_append 47 = .ok (.aload_n 0, 1) := by decide +kernel
theorem dX5_append_48 : decode cX5_append 48 = .ok (.getfield 21, 3) := by decide +kernel
theorem dX5_append_51 : decode cX5_append 51 = .ok (.aload_n 1, 1) := by decide +kernel
theorem dX5_append_52 : decode cX5_append 52 = .ok (.getfield 21, 3) := by decide +kernel
theorem dX5_append_55 : decode cX5_append 55 = .ok (.lor, 1) := by decide +kernel
theorem dX5_append_56 : decode cX5_append 56 = .ok (.goto 7, 3) := by decide +kernel
theorem dX5_append_59 : decode cX5_append 59 = .ok (.aload_n 1, 1) := by decide +kernel
theorem dX5_append_60 : decode cX5_append 60 = .ok (.getfield 21, 3) := by decide +kernel
theorem dX5_append_63 : decode cX5_append 63 = .ok (.putfield 21, 3) := by decide +kernel
theorem dX5_append_66 : decode cX5_append 66 = .ok (.aload_n 0, 1) := by decide +kernel
theorem dX5_append_67 : decode cX5_append 67 = .ok (.aload_n 0, 1) := by decide +kernel
theorem dX5_append_68 : decode cX5_append 68 = .ok (.getfield 13, 3) := by decide +kernel
theorem dX5_append_71 : decode cX5_append 71 = .ok (.ifCond .eq 14, 3) := by decide +kernel
theorem dX5_append_74 : decode cX5_append 74 = .ok (.aload_n 1, 1) := by decide +kernel
theorem dX5_append_75 : decode cX5_append 75 = .ok (.getfield 13, 3) := by decide +kernel
theorem dX5_append_78 : decode cX5_append 78 = .ok (.ifCond .eq 7, 3) := by decide +kernel
theorem dX5_append_81 : decode cX5_append 81 = .ok (.iconst 1, 1) := by decide +kernel
theorem dX5_append_82 : decode cX5_append 82 = .ok (.goto 4, 3) := by decide +kernel
theorem dX5_append_85 : decode cX5_append 85 = .ok (.iconst 0, 1) := by decide +kernel
theorem dX5_append_86 : decode cX5_append 86 = .ok (.putfield 13, 3) := by decide +kernel
theorem dX5_append_89 : decode cX5_append 89 = .ok (.return_, 1) := by decide +kernel
theorem dX5_orElse_0 : decode cX5_orElse 0 = .ok (.aload_n 0, 1) := by decide +kernel
theorem dX5_orElse_1 : decode cX5_orElse 1 = .ok (.dup, 1) := by decide +kernel
theorem dX5_orElse_2 : decode cX5_orElse 2 = .ok (.getfield 17, 3) := by decide +kernel
theorem dX5_orElse_5 : decode cX5_orElse 5 = .ok (.aload_n 1, 1) := by decide +kernel
theorem dX5_orElse_6 : decode cX5_orElse 6 = .ok (.getfield 17, 3) := by decide +kernel
theorem dX5_orElse_9 : decode cX5_orElse 9 = .ok (.lor, 1) := by decide +kernel
theorem dX5_orElse_10 : decode cX5_orElse 10 = .ok (.putfield 17, 3) := by decide +kernel
theorem dX5_orElse_13 : decode cX5_orElse 13 = .ok (.aload_n 0, 1) := by decide +kernel
theorem dX5_orElse_14 : decode cX5_orElse 14 = .ok (.dup, 1) := by decide +kernel
theorem dX5_orElse_15 : decode cX5_orElse 15 = .ok (.getfield 21, 3) := by decide +kernel
theorem dX5_orElse_18 : decode cX5_orElse 18 = .ok (.aload_n 1, 1) := by decide +kernel
theorem dX5_orElse_19 : decode cX5_orElse 19 = .ok (.getfield 21, 3) := by decide +kernel
theorem dX5_orElse_22 : decode cX5_orElse 22 = .ok (.lor, 1) := by decide +kernel
theorem dX5_orElse_23 : decode cX5_orElse 23 = .ok (.putfield 21, 3) := by decide +kernel
theorem dX5_orElse_26 : decode cX5_orElse 26 = .ok (.aload_n 0, 1) := by decide +kernel
theorem dX5_orElse_27 : decode cX5_orElse 27 = .ok (.aload_n 0, 1) := by decide +kernel
theorem dX5_orElse_28 : decode cX5_orElse 28 = .ok (.getfield 13, 3) := by decide +kernel
theorem dX5_orElse_31 : decode cX5_orElse 31 = .ok (.ifCond .ne 10, 3) := by decide +kernel
theorem dX5_orElse_34 : decode cX5_orElse 34 = .ok (.aload_n 1, 1) := by decide +kernel
theorem dX5_orElse_35 : decode cX5_orElse 35 = .ok (.getfield 13, 3) := by decide +kernel
theorem dX5_orElse_38 : decode cX5_orElse 38 = .ok (.ifCond .eq 7, 3) := by decide +kernel
theorem dX5_orElse_41 : decode cX5_orElse 41 = .ok (.iconst 1, 1) := by decide +kernel
theorem dX5_orElse_42 : decode cX5_orElse 42 = .ok (.goto 4, 3) := by decide +kernel
theorem dX5_orElse_45 : decode cX5_orElse 45 = .ok (.iconst 0, 1) := by decide +kernel
theorem dX5_orElse_46 : decode cX5_orElse 46 = .ok (.putfield 13, 3) := by decide +kernel
theorem dX5_orElse_49 : decode cX5_orElse 49 = .ok (.return_, 1) := by decide +kernel
theorem dX6_init_0 : decode cX6_init 0 = .ok (.aload_n 0, 1) := by decide +kernel
theorem dX6_init_1 : decode cX6_init 1 = .ok (.invokespecial 3, 3) := by decide +kernel
theorem dX6_init_4 : decode cX6_init 4 = .ok (.aload_n 0, 1) := by decide +kernel
theorem dX6_init_5 : decode cX6_init 5 = .ok (.iconst (-1), 1) := by decide +kernel
theorem dX6_init_6 : decode cX6_init 6 = .ok (.putfield 9, 3) := by decide +kernel
theorem dX6_init_9 : decode cX6_init 9 = .ok (.aload_n 0, 1) := by decide +kernel
theorem dX6_init_10 : decode cX6_init 10 = .ok (.sipush 200, 3) := by decide +kernel
theorem dX6_init_13 : decode cX6_init 13 = .ok (.newarray .int, 2) := by decide +kernel
theorem dX6_init_15 : decode cX6_init 15 = .ok (.putfield 15, 3) := by decide +kernel
theorem dX6_init_18 : decode cX6_init 18 = .ok (.aload_n 0, 1) := by decide +kernel
theorem dX6_init_19 : decode cX6_init 19 = .ok (.new 19, 3) := by decide +kernel
theorem dX6_init_22 : decode cX6_init 22 = .ok (.dup, 1) := by decide +kernel
theorem dX6_init_23 : decode cX6_init 23 = .ok (.invokespecial 21, 3) := by decide +kernel
theorem dX6_init_26 : decode cX6_init 26 = .ok (.putfield 22, 3) := by decide +kernel
theorem dX6_init_29 : decode cX6_init 29 = .ok (.return_, 1) := by decide +kernel
theorem dX6_append_0 : decode cX6_append 0 = .ok (.iconst 0, 1) := by decide +kernel
theorem dX6_append_1 : decode cX6_append 1 = .ok (.istore 4, 2) := by decide +kernel
theorem dX6_append_3 : decode cX6_append 3 = .ok (.iload 4, 2) := by decide +kernel
theorem dX6_append_5 : decode cX6_append 5 = .ok (.iload_n 3, 1) := by decide +kernel
theorem dX6_append_6 : decode cX6_append 6 = .ok (.if_icmp .ge 44, 3) := by decide +kernel
theorem dX6_append_9 : decode cX6_append 9 = .ok (.aload_n 0, 1) := by decide +kernel
theorem dX6_append_10 : decode cX6_append 10 = .ok (.getfield 26, 3) := by decide +kernel
theorem dX6_append_13 : decode cX6_append 13 = .ok (.sipush 200, 3) := by decide +kernel
theorem dX6_append_16 : decode cX6_append 16 = .ok (.if_icmp .ge 34, 3) := by decide +kernel
theorem dX6_append_19 : decode cX6_append 19 = .ok (.aload_n 0, 1) := by decide +kernel
theorem dX6_append_20 : decode cX6_append 20 = .ok (.getfield 15, 3) := by decide +kernel
theorem dX6_append_23 : decode cX6_append 23 = .ok (.aload_n 0, 1) := by decide +kernel
theorem dX6_append_24 : decode cX6_append 24 = .ok (.getfield 26, 3) := by decide +kernel
theorem dX6_append_27 : decode cX6_append 27 = .ok (.lload_n 1, 1) := by decide +kernel
theorem dX6_append_28 : decode cX6_append 28 = .ok (.iload 4, 2) := by decide +kernel
theorem dX6_append_30 : decode cX6_append 30 = .ok (.invokestatic 29, 3) := by decide +kernel
theorem dX6_append_33 : decode cX6_append 33 = .ok (.iastore, 1) := by decide +kernel
theorem dX6_append_34 : decode cX6_append 34 = .ok (.aload_n 0, 1) := by decide +kernel
theorem dX6_append_35 : decode cX6_append 35 = .ok (.dup, 1) := by decide +kernel
theorem dX6_append_36 : decode cX6_append 36 = .ok (.getfield 26, 3) := by decide +kernel
theorem dX6_append_39 : decode cX6_append 39 = .ok (.iconst 1, 1) := by decide +kernel
theorem dX6_append_40 : decode cX6_append 40 = .ok (.iadd, 1) := by decide +kernel
theorem dX6_append_41 : decode cX6_append 41 = .ok (.putfield 26, 3) := by decide +kernel
theorem dX6_append_44 : decode cX6_append 44 = .ok (.iinc 4 1, 3) := by decide +kernel
theorem dX6_append_47 : decode cX6_append 47 = .ok (.goto (-44), 3) := by decide +kernel
theorem dX6_append_50 : decode cX6_append 50 = .ok (.return_, 1) := by decide +kernel
theorem dX6_layOut_0 : decode cX6_layOut 0 = .ok (.aload_n 0, 1) := by decide +kernel
theorem dX6_layOut_1 : decode cX6_layOut 1 = .ok (.iconst 0, 1) := by decide +kernel
theorem dX6_layOut_2 : decode cX6_layOut 2 = .ok (.putfield 33, 3) := by decide +kernel
theorem dX6_layOut_5 : decode cX6_layOut 5 = .ok (.aload_n 0, 1) := by decide +kernel
theorem dX6_layOut_6 : decode cX6_layOut 6 = .ok (.iconst (-1), 1) := by decide +kernel
theorem dX6_layOut_7 : decode cX6_layOut 7 = .ok (.putfield 9, 3) := by decide +kernel
theorem dX6_layOut_10 : decode cX6_layOut 10 = .ok (.aload_n 0, 1) := by decide +kernel
theorem dX6_layOut_11 : decode cX6_layOut 11 = .ok (.iconst 0, 1) := by decide +kernel
theorem dX6_layOut_12 : decode cX6_layOut 12 = .ok (.putfield 36, 3) := by decide +kernel
theorem dX6_layOut_15 : decode cX6_layOut 15 = .ok (.aload_n 0, 1) := by decide +kernel
theorem dX6_layOut_16 : decode cX6_layOut 16 = .ok (.getfield 22, 3) := by decide +kernel
theorem dX6_layOut_19 : decode cX6_layOut 19 = .ok (.aload_n 1, 1) := by decide +kernel
theorem dX6_layOut_20 : decode cX6_layOut 20 = .ok (.invokevirtual 39, 3) := by decide +kernel
theorem dX6_layOut_23 : decode cX6_layOut 23 = .ok (.iconst 0, 1) := by decide +kernel
theorem dX6_layOut_24 : decode cX6_layOut 24 = .ok (.istore_n 2, 1) := by decide +kernel
theorem dX6_layOut_25 : decode cX6_layOut 25 = .ok (.iload_n 2, 1) := by decide +kernel
theorem dX6_layOut_26 : decode cX6_layOut 26 = .ok (.aload_n 0, 1) := by decide +kernel
theorem dX6_layOut_27 : decode cX6_layOut 27 = .ok (.getfield 26, 3) := by decide +kernel
theorem dX6_layOut_30 : decode cX6_layOut 30 = .ok (.if_icmp .ge 62, 3) := by decide +kernel
theorem dX6_layOut_33 : decode cX6_layOut 33 = .ok (.aload_n 0, 1) := by decide +kernel
theorem dX6_layOut_34 : decode cX6_layOut 34 = .ok (.getfield 33, 3) := by decide +kernel
theorem dX6_layOut_37 : decode cX6_layOut 37 = .ok (.ifCond .ne 55, 3) := by decide +kernel
theorem dX6_layOut_40 : decode cX6_layOut 40 = .ok (.aload_n 0, 1) := by decide +kernel
theorem dX6_layOut_41 : decode cX6_layOut 41 = .ok (.getfield 15, 3) := by decide +kernel
theorem dX6_layOut_44 : decode cX6_layOut 44 = .ok (.iload_n 2, 1) := by decide +kernel
theorem dX6_layOut_45 : decode cX6_layOut 45 = .ok (.iaload, 1) := by decide +kernel
theorem dX6_layOut_46 : decode cX6_layOut 46 = .ok (.istore_n 3, 1) := by decide +kernel
theorem dX6_layOut_47 : decode cX6_layOut 47 = .ok (.aload_n 0, 1) := by decide +kernel
theorem dX6_layOut_48 : decode cX6_layOut 48 = .ok (.getfield 36, 3) := by decide +kernel
theorem dX6_layOut_51 : decode cX6_layOut 51 = .ok (.ifCond .ne 12, 3) := by decide +kernel
theorem dX6_layOut_54 : decode cX6_layOut 54 = .ok (.aload_n 0, 1) := by decide +kernel
theorem dX6_layOut_55 : decode cX6_layOut 55 = .ok (.iload_n 2, 1) := by decide +kernel
theorem dX6_layOut_56 : decode cX6_layOut 56 = .ok (.iload_n 3, 1) := by decide +kernel
theorem dX6_layOut_57 : decode cX6_layOut 57 = .ok (.invokevirtual 43, 3) := by decide +kernel
theorem dX6_layOut_60 : decode cX6_layOut 60 = .ok (.goto 26, 3) := by decide +kernel
theorem dX6_layOut_63 : decode cX6_layOut 63 = .ok (.aload_n 0, 1) := by decide +kernel
theorem dX6_layOut_64 : decode cX6_layOut 64 = .ok (.getfield 36, 3) := by decide +kernel
theorem dX6_layOut_67 : decode cX6_layOut 67 = .ok (.iconst 5, 1) := by decide +kernel
theorem dX6_layOut_68 : decode cX6_layOut 68 = .ok (.if_icmp .gt 12, 3) := by decide +kernel
theorem dX6_layOut_71 : decode cX6_layOut 71 = .ok (.aload_n 0, 1) := by decide +kernel
theorem dX6_layOut_72 : decode cX6_layOut 72 = .ok (.iload_n 2, 1) := by decide +kernel
theorem dX6_layOut_73 : decode cX6_layOut 73 = .ok (.iload_n 3, 1) := by decide +kernel
theorem dX6_layOut_74 : decode cX6_layOut 74 = .ok (.invokevirtual 47, 3) := by decide +kernel
theorem dX6_layOut_77 : decode cX6_layOut 77 = .ok (.goto 9, 3) := by decide +kernel
theorem dX6_layOut_80 : decode cX6_layOut 80 = .ok (.aload_n 0, 1) := by decide +kernel
theorem dX6_layOut_81 : decode cX6_layOut 81 = .ok (.iload_n 2, 1) := by decide +kernel
theorem dX6_layOut_82 : decode cX6_layOut 82 = .ok (.iload_n 3, 1) := by decide +kernel
theorem dX6_layOut_83 : decode cX6_layOut 83 = .ok (.invokevirtual 50, 3) := by decide +kernel
theorem dX6_layOut_86 : decode cX6_layOut 86 = .ok (.iinc 2 1, 3) := by decide +kernel
theorem dX6_layOut_89 : decode cX6_layOut 89 = .ok (.goto (-64), 3) := by decide +kernel
theorem dX6_layOut_92 : decode cX6_layOut 92 = .ok (.aload_n 0, 1) := by decide +kernel
theorem dX6_layOut_93 : decode cX6_layOut 93 = .ok (.getfield 33, 3) := by decide +kernel
theorem dX6_layOut_96 : decode cX6_layOut 96 = .ok (.ifCond .ne 29, 3) := by decide +kernel
theorem dX6_layOut_99 : decode cX6_layOut 99 = .ok (.aload_n 0, 1) := by decide +kernel
theorem dX6_layOut_100 : decode cX6_layOut 100 = .ok (.getfield 36, 3) := by decide +kernel
theorem dX6_layOut_103 : decode cX6_layOut 103 = .ok (.ifCond .ne 13, 3) := by decide +kernel
theorem dX6_layOut_106 : decode cX6_layOut 106 = .ok (.aload_n 0, 1) := by decide +kernel
theorem dX6_layOut_107 : decode cX6_layOut 107 = .ok (.getfield 22, 3) := by decide +kernel
theorem dX6_layOut_110 : decode cX6_layOut 110 = .ok (.getfield 53, 3) := by decide +kernel
theorem dX6_layOut_113 : decode cX6_layOut 113 = .ok (.ifCond .le 12, 3) := by decide +kernel
theorem dX6_layOut_116 : decode cX6_layOut 116 = .ok (.aload_n 0, 1) := by decide +kernel
theorem dX6_layOut_117 : decode cX6_layOut 117 = .ok (.iconst 2, 1) := by decide +kernel
theorem dX6_layOut_118 : decode cX6_layOut 118 = .ok (.aload_n 0, 1) := by decide +kernel
theorem dX6_layOut_119 : decode cX6_layOut 119 = .ok (.getfield 26, 3) := by decide +kernel
theorem dX6_layOut_122 : decode cX6_layOut 122 = .ok (.invokevirtual 56, 3) := by decide +kernel
theorem dX6_layOut_125 : decode cX6_layOut 125 = .ok (.aload_n 0, 1) := by decide +kernel
theorem dX6_layOut_126 : decode cX6_layOut 126 = .ok (.getfield 33, 3) := by decide +kernel
theorem dX6_layOut_129 : decode cX6_layOut 129 = .ok (.ifCond .ne 10, 3) := by decide +kernel
theorem dX6_layOut_132 : decode cX6_layOut 132 = .ok (.aload_n 0, 1) := by decide +kernel
theorem dX6_layOut_133 : decode cX6_layOut 133 = .ok (.getfield 22, 3) := by decide +kernel
theorem dX6_layOut_136 : decode cX6_layOut 136 = .ok (.invokevirtual 59, 3) := by decide +kernel
theorem dX6_layOut_139 : decode cX6_layOut 139 = .ok (.aload_n 0, 1) := by decide +kernel
theorem dX6_layOut_140 : decode cX6_layOut 140 = .ok (.iconst 0, 1) := by decide +kernel
theorem dX6_layOut_141 : decode cX6_layOut 141 = .ok (.putfield 26, 3) := by decide +kernel
theorem dX6_layOut_144 : decode cX6_layOut 144 = .ok (.aload_n 0, 1) := by decide +kernel
theorem dX6_layOut_145 : decode cX6_layOut 145 = .ok (.getfield 33, 3) := by decide +kernel
theorem dX6_layOut_148 : decode cX6_layOut 148 = .ok (.ireturn, 1) := by decide +kernel
theorem dX6_fail_0 : decode cX6_fail 0 = .ok (.aload_n 0, 1) := by decide +kernel
theorem dX6_fail_1 : decode cX6_fail 1 = .ok (.iload_n 1, 1) := by decide +kernel
theorem dX6_fail_2 : decode cX6_fail 2 = .ok (.putfield 33, 3) := by decide +kernel
theorem dX6_fail_5 : decode cX6_fail 5 = .ok (.aload_n 0, 1) := by decide +kernel
theorem dX6_fail_6 : decode cX6_fail 6 = .ok (.iload_n 2, 1) := by decide +kernel
theorem dX6_fail_7 : decode cX6_fail 7 = .ok (.putfield 9, 3) := by decide +kernel
theorem dX6_fail_10 : decode cX6_fail 10 = .ok (.return_, 1) := by decide +kernel
theorem dX6_failUnless_0 : decode cX6_failUnless 0 = .ok (.iload_n 1, 1) := by decide +kernel
theorem dX6_failUnless_1 : decode cX6_failUnless 1 = .ok (.ifCond .ne 9, 3) := by decide +kernel
theorem dX6_failUnless_4 : decode cX6_failUnless 4 = .ok (.aload_n 0, 1) := by decide +kernel
theorem dX6_failUnless_5 : decode cX6_failUnless 5 = .ok (.iload_n 2, 1) := by decide +kernel
theorem dX6_failUnless_6 : decode cX6_failUnless 6 = .ok (.iload_n 3, 1) := by decide +kernel
theorem dX6_failUnless_7 : decode cX6_failUnless 7 = .ok (.invokevirtual 56, 3) := by decide +kernel
theorem dX6_failUnless_10 : decode cX6_failUnless 10 = .ok (.return_, 1) := by decide +kernel
theorem dX6_takeInRow_0 : decode cX6_takeInRow 0 = .ok (.iload_n 2, 1) := by decide +kernel
theorem dX6_takeInRow_1 : decode cX6_takeInRow 1 = .ok (.invokestatic 62, 3) := by decide +kernel
theorem dX6_takeInRow_4 : decode cX6_takeInRow 4 = .ok (.istore_n 3, 1) := by decide +kernel
theorem dX6_takeInRow_5 : decode cX6_takeInRow 5 = .ok (.iload_n 3, 1) := by decide +kernel
theorem dX6_takeInRow_6 : decode cX6_takeInRow 6 = .ok (.iconst (-1), 1) := by decide +kernel
theorem dX6_takeInRow_7 : decode cX6_takeInRow 7 = .ok (.if_icmp .eq 22, 3) := by decide +kernel
theorem dX6_takeInRow_10 : decode cX6_takeInRow 10 = .ok (.aload_n 0, 1) := by decide +kernel
theorem dX6_takeInRow_11 : decode cX6_takeInRow 11 = .ok (.aload_n 0, 1) := by decide +kernel
theorem dX6_takeInRow_12 : decode cX6_takeInRow 12 = .ok (.getfield 22, 3) := by decide +kernel
theorem dX6_takeInRow_15 : decode cX6_takeInRow 15 = .ok (.lconst 1, 1) := by decide +kernel
theorem dX6_takeInRow_16 : decode cX6_takeInRow 16 = .ok (.iload_n 3, 1) := by decide +kernel
theorem dX6_takeInRow_17 : decode cX6_takeInRow 17 = .ok (.lshl, 1) := by decide +kernel
theorem dX6_takeInRow_18 : decode cX6_takeInRow 18 = .ok (.invokevirtual 66, 3) := by decide +kernel
theorem dX6_takeInRow_21 : decode cX6_takeInRow 21 = .ok (.iconst 4, 1) := by decide +kernel
theorem dX6_takeInRow_22 : decode cX6_takeInRow 22 = .ok (.iload_n 1, 1) := by decide +kernel
theorem dX6_takeInRow_23 : decode cX6_takeInRow 23 = .ok (.invokevirtual 70, 3) := by decide +kernel
theorem dX6_takeInRow_26 : decode cX6_takeInRow 26 = .ok (.goto 138, 3) := by decide +kernel
theorem dX6_takeInRow_29 : decode cX6_takeInRow 29 = .ok (.iload_n 2, 1) := by decide +kernel
theorem dX6_takeInRow_30 : decode cX6_takeInRow 30 = .ok (.bipush 46, 2) := by decide +kernel
theorem dX6_takeInRow_32 : decode cX6_takeInRow 32 = .ok (.if_icmp .ne 22, 3) := by decide +kernel
theorem dX6_takeInRow_35 : decode cX6_takeInRow 35 = .ok (.aload_n 0, 1) := by decide +kernel
theorem dX6_takeInRow_36 : decode cX6_takeInRow 36 = .ok (.aload_n 0, 1) := by decide +kernel
theorem dX6_takeInRow_37 : decode cX6_takeInRow 37 = .ok (.getfield 22, 3) := by decide +kernel
theorem dX6_takeInRow_40 : decode cX6_takeInRow 40 = .ok (.ldc2_w 74, 3) := by decide +kernel
theorem dX6_takeInRow_43 : decode cX6_takeInRow 43 = .ok (.invokevirtual 66, 3) := by decide +kernel
theorem dX6_takeInRow_46 : decode cX6_takeInRow 46 = .ok (.iconst 4, 1) := by decide +kernel
theorem dX6_takeInRow_47 : decode cX6_takeInRow 47 = .ok (.iload_n 1, 1) := by decide +kernel
theorem dX6_takeInRow_48 : decode cX6_takeInRow 48 = .ok (.invokevirtual 70, 3) := by decide +kernel
theorem dX6_takeInRow_51 : decode cX6_takeInRow 51 = .ok (.goto 113, 3) := by decide +kernel
theorem dX6_takeInRow_54 : decode cX6_takeInRow 54 = .ok (.iload_n 2, 1) := by decide +kernel
theorem dX6_takeInRow_55 : decode cX6_takeInRow 55 = .ok (.bipush 91, 2) := by decide +kernel
theorem dX6_takeInRow_57 : decode cX6_takeInRow 57 = .ok (.if_icmp .ne 11, 3) := by decide +kernel
theorem dX6_takeInRow_60 : decode cX6_takeInRow 60 = .ok (.aload_n 0, 1) := by decide +kernel
theorem dX6_takeInRow_61 : decode cX6_takeInRow 61 = .ok (.iload_n 1, 1) := by decide +kernel
theorem dX6_takeInRow_62 : decode cX6_takeInRow 62 = .ok (.invokevirtual 76, 3) := by decide +kernel
theorem dX6_takeInRow_65 : decode cX6_takeInRow 65 = .ok (.goto 99, 3) := by decide +kernel
theorem dX6_takeInRow_68 : decode cX6_takeInRow 68 = .ok (.iload_n 2, 1) := by decide +kernel
theorem dX6_takeInRow_69 : decode cX6_takeInRow 69 = .ok (.bipush 40, 2) := by decide +kernel
theorem dX6_takeInRow_71 : decode cX6_takeInRow 71 = .ok (.if_icmp .ne 19, 3) := by decide +kernel
theorem dX6_takeInRow_74 : decode cX6_takeInRow 74 = .ok (.aload_n 0, 1) := by decide +kernel
theorem dX6_takeInRow_75 : decode cX6_takeInRow 75 = .ok (.aload_n 0, 1) := by decide +kernel
theorem dX6_takeInRow_76 : decode cX6_takeInRow 76 = .ok (.getfield 22, 3) := by decide +kernel
theorem dX6_takeInRow_79 : decode cX6_takeInRow 79 = .ok (.invokevirtual 80, 3) := by decide +kernel
theorem dX6_takeInRow_82 : decode cX6_takeInRow 82 = .ok (.iconst 5, 1) := by decide +kernel
theorem dX6_takeInRow_83 : decode cX6_takeInRow 83 = .ok (.iload_n 1, 1) := by decide +kernel
theorem dX6_takeInRow_84 : decode cX6_takeInRow 84 = .ok (.invokevirtual 70, 3) := by decide +kernel
theorem dX6_takeInRow_87 : decode cX6_takeInRow 87 = .ok (.goto 77, 3) := by decide +kernel
theorem dX6_takeInRow_90 : decode cX6_takeInRow 90 = .ok (.iload_n 2, 1) := by decide +kernel
theorem dX6_takeInRow_91 : decode cX6_takeInRow 91 = .ok (.bipush 124, 2) := by decide +kernel
theorem dX6_takeInRow_93 : decode cX6_takeInRow 93 = .ok (.if_icmp .ne 13, 3) := by decide +kernel
theorem dX6_takeInRow_96 : decode cX6_takeInRow 96 = .ok (.aload_n 0, 1) := by decide +kernel
theorem dX6_takeInRow_97 : decode cX6_takeInRow 97 = .ok (.getfield 22, 3) := by decide +kernel
theorem dX6_takeInRow_100 : decode cX6_takeInRow 100 = .ok (.invokevirtual 84, 3) := by decide +kernel
theorem dX6_takeInRow_103 : decode cX6_takeInRow 103 = .ok (.goto 61, 3) := by decide +kernel
theorem dX6_takeInRow_106 : decode cX6_takeInRow 106 = .ok (.iload_n 2, 1) := by decide +kernel
theorem dX6_takeInRow_107 : decode cX6_takeInRow 107 = .ok (.bipush 41, 2) := by decide +kernel
theorem dX6_takeInRow_109 : decode cX6_takeInRow 109 = .ok (.if_icmp .ne 30, 3) := by decide +kernel
theorem dX6_takeInRow_112 : decode cX6_takeInRow 112 = .ok (.aload_n 0, 1) := by decide +kernel
theorem dX6_takeInRow_113 : decode cX6_takeInRow 113 = .ok (.getfield 22, 3) := by decide +kernel
theorem dX6_takeInRow_116 : decode cX6_takeInRow 116 = .ok (.getfield 53, 3) := by decide +kernel
theorem dX6_takeInRow_119 : decode cX6_takeInRow 119 = .ok (.ifCond .le 20, 3) := by decide +kernel
theorem dX6_takeInRow_122 : decode cX6_takeInRow 122 = .ok (.aload_n 0, 1) := by decide +kernel
theorem dX6_takeInRow_123 : decode cX6_takeInRow 123 = .ok (.getfield 22, 3) := by decide +kernel
theorem dX6_takeInRow_126 : decode cX6_takeInRow 126 = .ok (.invokevirtual 84, 3) := by decide +kernel
theorem dX6_takeInRow_129 : decode cX6_takeInRow 129 = .ok (.aload_n 0, 1) := by decide +kernel
theorem dX6_takeInRow_130 : decode cX6_takeInRow 130 = .ok (.getfield 22, 3) := by decide +kernel
theorem dX6_takeInRow_133 : decode cX6_takeInRow 133 = .ok (.invokevirtual 87, 3) := by decide +kernel
theorem dX6_takeInRow_136 : decode cX6_takeInRow 136 = .ok (.goto 28, 3) := by decide +kernel
theorem dX6_takeInRow_139 : decode cX6_takeInRow 139 = .ok (.aload_n 0, 1) := by decide +kernel
theorem dX6_takeInRow_140 : decode cX6_takeInRow 140 = .ok (.getfield 22, 3) := by decide +kernel
theorem dX6_takeInRow_143 : decode cX6_takeInRow 143 = .ok (.getfield 90, 3) := by decide +kernel
theorem dX6_takeInRow_146 : decode cX6_takeInRow 146 = .ok (.ifCond .eq 12, 3) := by decide +kernel
theorem dX6_takeInRow_149 : decode cX6_takeInRow 149 = .ok (.aload_n 0, 1) := by decide +kernel
theorem dX6_takeInRow_150 : decode cX6_takeInRow 150 = .ok (.iload_n 1, 1) := by decide +kernel
theorem dX6_takeInRow_151 : decode cX6_takeInRow 151 = .ok (.iload_n 2, 1) := by decide +kernel
theorem dX6_takeInRow_152 : decode cX6_takeInRow 152 = .ok (.invokevirtual 94, 3) := by decide +kernel
theorem dX6_takeInRow_155 : decode cX6_takeInRow 155 = .ok (.goto 9, 3) := by decide +kernel
theorem dX6_takeInRow_158 : decode cX6_takeInRow 158 = .ok (.aload_n 0, 1) := by decide +kernel
theorem dX6_takeInRow_159 : decode cX6_takeInRow 159 = .ok (.iconst 1, 1) := by decide +kernel
theorem dX6_takeInRow_160 : decode cX6_takeInRow 160 = .ok (.iload_n 1, 1) := by decide +kernel
theorem dX6_takeInRow_161 : decode cX6_takeInRow 161 = .ok (.invokevirtual 56, 3) := by decide +kernel
theorem dX6_takeInRow_164 : decode cX6_takeInRow 164 = .ok (.return_, 1) := by decide +kernel
theorem dX6_takeSuffix_0 : decode cX6_takeSuffix 0 = .ok (.iload_n 2, 1) := by decide +kernel
theorem dX6_takeSuffix_1 : decode cX6_takeSuffix 1 = .ok (.lookupswitch 94 #[(42, 43), (43, 60), (63, 70), (123, 80)], 43) := by decide +kernel
theorem dX6_takeSuffix_44 : decode cX6_takeSuffix 44 = .ok (.aload_n 0, 1) := by decide +kernel
theorem dX6_takeSuffix_45 : decode cX6_takeSuffix 45 = .ok (.getfield 22, 3) := by decide +kernel
theorem dX6_takeSuffix_48 : decode cX6_takeSuffix 48 = .ok (.invokevirtual 97, 3) := by decide +kernel
theorem dX6_takeSuffix_51 : decode cX6_takeSuffix 51 = .ok (.aload_n 0, 1) := by decide +kernel
theorem dX6_takeSuffix_52 : decode cX6_takeSuffix 52 = .ok (.getfield 22, 3) := by decide +kernel
theorem dX6_takeSuffix_55 : decode cX6_takeSuffix 55 = .ok (.invokevirtual 100, 3) := by decide +kernel
theorem dX6_takeSuffix_58 : decode cX6_takeSuffix 58 = .ok (.goto 43, 3) := by decide +kernel
theorem dX6_takeSuffix_61 : decode cX6_takeSuffix 61 = .ok (.aload_n 0, 1) := by decide +kernel
theorem dX6_takeSuffix_62 : decode cX6_takeSuffix 62 = .ok (.getfield 22, 3) := by decide +kernel
theorem dX6_takeSuffix_65 : decode cX6_takeSuffix 65 = .ok (.invokevirtual 97, 3) := by decide +kernel
theorem dX6_takeSuffix_68 : decode cX6_takeSuffix 68 = .ok (.goto 33, 3) := by decide +kernel
theorem dX6_takeSuffix_71 : decode cX6_takeSuffix 71 = .ok (.aload_n 0, 1) := by decide +kernel
theorem dX6_takeSuffix_72 : decode cX6_takeSuffix 72 = .ok (.getfield 22, 3) := by decide +kernel
theorem dX6_takeSuffix_75 : decode cX6_takeSuffix 75 = .ok (.invokevirtual 100, 3) := by decide +kernel
theorem dX6_takeSuffix_78 : decode cX6_takeSuffix 78 = .ok (.goto 23, 3) := by decide +kernel
theorem dX6_takeSuffix_81 : decode cX6_takeSuffix 81 = .ok (.aload_n 0, 1) := by decide +kernel
theorem dX6_takeSuffix_82 : decode cX6_takeSuffix 82 = .ok (.iload_n 1, 1) := by decide +kernel
theorem dX6_takeSuffix_83 : decode cX6_takeSuffix 83 = .ok (.putfield 103, 3) := by decide +kernel
theorem dX6_takeSuffix_86 : decode cX6_takeSuffix 86 = .ok (.aload_n 0, 1) := by decide +kernel
theorem dX6_takeSuffix_87 : decode cX6_takeSuffix 87 = .ok (.bipush 6, 2) := by decide +kernel
theorem dX6_takeSuffix_89 : decode cX6_takeSuffix 89 = .ok (.putfield 36, 3) := by decide +kernel
theorem dX6_takeSuffix_92 : decode cX6_takeSuffix 92 = .ok (.goto 9, 3) := by decide +kernel
theorem dX6_takeSuffix_95 : decode cX6_takeSuffix 95 = .ok (.aload_n 0, 1) := by decide +kernel
theorem dX6_takeSuffix_96 : decode cX6_takeSuffix 96 = .ok (.iconst 1, 1) := by decide +kernel
theorem dX6_takeSuffix_97 : decode cX6_takeSuffix 97 = .ok (.iload_n 1, 1) := by decide +kernel
theorem dX6_takeSuffix_98 : decode cX6_takeSuffix 98 = .ok (.invokevirtual 56, 3) := by decide +kernel
theorem dX6_takeSuffix_101 : decode cX6_takeSuffix 101 = .ok (.return_, 1) := by decide +kernel
theorem dX6_openSet_0 : decode cX6_openSet 0 = .ok (.aload_n 0, 1) := by decide +kernel
theorem dX6_openSet_1 : decode cX6_openSet 1 = .ok (.iload_n 1, 1) := by decide +kernel
theorem dX6_openSet_2 : decode cX6_openSet 2 = .ok (.putfield 103, 3) := by decide +kernel
theorem dX6_openSet_5 : decode cX6_openSet 5 = .ok (.aload_n 0, 1) := by decide +kernel
theorem dX6_openSet_6 : decode cX6_openSet 6 = .ok (.lconst 0, 1) := by decide +kernel
theorem dX6_openSet_7 : decode cX6_openSet 7 = .ok (.putfield 106, 3) := by decide +kernel
theorem dX6_openSet_10 : decode cX6_openSet 10 = .ok (.aload_n 0, 1) := by decide +kernel
theorem dX6_openSet_11 : decode cX6_openSet 11 = .ok (.iconst 0, 1) := by decide +kernel
theorem dX6_openSet_12 : decode cX6_openSet 12 = .ok (.putfield 110, 3) := by decide +kernel
theorem dX6_openSet_15 : decode cX6_openSet 15 = .ok (.aload_n 0, 1) := by decide +kernel
theorem dX6_openSet_16 : decode cX6_openSet 16 = .ok (.iconst 1, 1) := by decide +kernel
theorem dX6_openSet_17 : decode cX6_openSet 17 = .ok (.putfield 36, 3) := by decide +kernel
theorem dX6_openSet_20 : decode cX6_openSet 20 = .ok (.return_, 1) := by decide +kernel
theorem dX6_takeInSet_0 : decode cX6_takeInSet 0 = .ok (.iload_n 2, 1) := by decide +kernel
theorem dX6_takeInSet_1 : decode cX6_takeInSet 1 = .ok (.invokestatic 62, 3) := by decide +kernel
theorem dX6_takeInSet_4 : decode cX6_takeInSet 4 = .ok (.istore_n 3, 1) := by decide +kernel
theorem dX6_takeInSet_5 : decode cX6_takeInSet 5 = .ok (.iload_n 3, 1) := by decide +kernel
theorem dX6_takeInSet_6 : decode cX6_takeInSet 6 = .ok (.iconst (-1), 1) := by decide +kernel
theorem dX6_takeInSet_7 : decode cX6_takeInSet 7 = .ok (.if_icmp .eq 12, 3) := by decide +kernel
theorem dX6_takeInSet_10 : decode cX6_takeInSet 10 = .ok (.aload_n 0, 1) := by decide +kernel
theorem dX6_takeInSet_11 : decode cX6_takeInSet 11 = .ok (.iload_n 1, 1) := by decide +kernel
theorem dX6_takeInSet_12 : decode cX6_takeInSet 12 = .ok (.iload_n 3, 1) := by decide +kernel
theorem dX6_takeInSet_13 : decode cX6_takeInSet 13 = .ok (.invokevirtual 113, 3) := by decide +kernel
theorem dX6_takeInSet_16 : decode cX6_takeInSet 16 = .ok (.goto 130, 3) := by decide +kernel
theorem dX6_takeInSet_19 : decode cX6_takeInSet 19 = .ok (.iload_n 2, 1) := by decide +kernel
theorem dX6_takeInSet_20 : decode cX6_takeInSet 20 = .ok (.bipush 94, 2) := by decide +kernel
theorem dX6_takeInSet_22 : decode cX6_takeInSet 22 = .ok (.if_icmp .ne 24, 3) := by decide +kernel
theorem dX6_takeInSet_25 : decode cX6_takeInSet 25 = .ok (.aload_n 0, 1) := by decide +kernel
theorem dX6_takeInSet_26 : decode cX6_takeInSet 26 = .ok (.getfield 36, 3) := by decide +kernel
theorem dX6_takeInSet_29 : decode cX6_takeInSet 29 = .ok (.iconst 1, 1) := by decide +kernel
theorem dX6_takeInSet_30 : decode cX6_takeInSet 30 = .ok (.if_icmp .ne 16, 3) := by decide +kernel
theorem dX6_takeInSet_33 : decode cX6_takeInSet 33 = .ok (.aload_n 0, 1) := by decide +kernel
theorem dX6_takeInSet_34 : decode cX6_takeInSet 34 = .ok (.iconst 1, 1) := by decide +kernel
theorem dX6_takeInSet_35 : decode cX6_takeInSet 35 = .ok (.putfield 110, 3) := by decide +kernel
theorem dX6_takeInSet_38 : decode cX6_takeInSet 38 = .ok (.aload_n 0, 1) := by decide +kernel
theorem dX6_takeInSet_39 : decode cX6_takeInSet 39 = .ok (.iconst 2, 1) := by decide +kernel
theorem dX6_takeInSet_40 : decode cX6_takeInSet 40 = .ok (.putfield 36, 3) := by decide +kernel
theorem dX6_takeInSet_43 : decode cX6_takeInSet 43 = .ok (.goto 103, 3) := by decide +kernel
theorem dX6_takeInSet_46 : decode cX6_takeInSet 46 = .ok (.iload_n 2, 1) := by decide +kernel
theorem dX6_takeInSet_47 : decode cX6_takeInSet 47 = .ok (.bipush 45, 2) := by decide +kernel
theorem dX6_takeInSet_49 : decode cX6_takeInSet 49 = .ok (.if_icmp .ne 19, 3) := by decide +kernel
theorem dX6_takeInSet_52 : decode cX6_takeInSet 52 = .ok (.aload_n 0, 1) := by decide +kernel
theorem dX6_takeInSet_53 : decode cX6_takeInSet 53 = .ok (.getfield 36, 3) := by decide +kernel
theorem dX6_takeInSet_56 : decode cX6_takeInSet 56 = .ok (.iconst 3, 1) := by decide +kernel
theorem dX6_takeInSet_57 : decode cX6_takeInSet 57 = .ok (.if_icmp .ne 11, 3) := by decide +kernel
theorem dX6_takeInSet_60 : decode cX6_takeInSet 60 = .ok (.aload_n 0, 1) := by decide +kernel
theorem dX6_takeInSet_61 : decode cX6_takeInSet 61 = .ok (.iconst 4, 1) := by decide +kernel
theorem dX6_takeInSet_62 : decode cX6_takeInSet 62 = .ok (.putfield 36, 3) := by decide +kernel
theorem dX6_takeInSet_65 : decode cX6_takeInSet 65 = .ok (.goto 81, 3) := by decide +kernel
theorem dX6_takeInSet_68 : decode cX6_takeInSet 68 = .ok (.iload_n 2, 1) := by decide +kernel
theorem dX6_takeInSet_69 : decode cX6_takeInSet 69 = .ok (.bipush 93, 2) := by decide +kernel
theorem dX6_takeInSet_71 : decode cX6_takeInSet 71 = .ok (.if_icmp .ne 69, 3) := by decide +kernel
theorem dX6_takeInSet_74 : decode cX6_takeInSet 74 = .ok (.aload_n 0, 1) := by decide +kernel
theorem dX6_takeInSet_75 : decode cX6_takeInSet 75 = .ok (.getfield 36, 3) := by decide +kernel
theorem dX6_takeInSet_78 : decode cX6_takeInSet 78 = .ok (.iconst 3, 1) := by decide +kernel
theorem dX6_takeInSet_79 : decode cX6_takeInSet 79 = .ok (.if_icmp .eq 11, 3) := by decide +kernel
theorem dX6_takeInSet_82 : decode cX6_takeInSet 82 = .ok (.aload_n 0, 1) := by decide +kernel
theorem dX6_takeInSet_83 : decode cX6_takeInSet 83 = .ok (.getfield 36, 3) := by decide +kernel
theorem dX6_takeInSet_86 : decode cX6_takeInSet 86 = .ok (.iconst 5, 1) := by decide +kernel
theorem dX6_takeInSet_87 : decode cX6_takeInSet 87 = .ok (.if_icmp .ne 53, 3) := by decide +kernel
theorem dX6_takeInSet_90 : decode cX6_takeInSet 90 = .ok (.aload_n 0, 1) := by decide +kernel
theorem dX6_takeInSet_91 : decode cX6_takeInSet 91 = .ok (.iconst 0, 1) := by decide +kernel
theorem dX6_takeInSet_92 : decode cX6_takeInSet 92 = .ok (.putfield 36, 3) := by decide +kernel
theorem dX6_takeInSet_95 : decode cX6_takeInSet 95 = .ok (.aload_n 0, 1) := by decide +kernel
theorem dX6_takeInSet_96 : decode cX6_takeInSet 96 = .ok (.aload_n 0, 1) := by decide +kernel
theorem dX6_takeInSet_97 : decode cX6_takeInSet 97 = .ok (.getfield 22, 3) := by decide +kernel
theorem dX6_takeInSet_100 : decode cX6_takeInSet 100 = .ok (.aload_n 0, 1) := by decide +kernel
theorem dX6_takeInSet_101 : decode cX6_takeInSet 101 = .ok (.getfield 110, 3) := by decide +kernel
theorem dX6_takeInSet_104 : decode cX6_takeInSet 104 = .ok (.ifCond .eq 18, 3) := by decide +kernel
theorem dX6_takeInSet_107 : decode cX6_takeInSet 107 = .ok (.ldc2_w 74, 3) := by decide +kernel
theorem dX6_takeInSet_110 : decode cX6_takeInSet 110 = .ok (.aload_n 0, 1) := by decide +kernel
theorem dX6_takeInSet_111 : decode cX6_takeInSet 111 = .ok (.getfield 106, 3) := by decide +kernel
theorem dX6_takeInSet_114 : decode cX6_takeInSet 114 = .ok (.ldc2_w 116, 3) := by decide +kernel
theorem dX6_takeInSet_117 : decode cX6_takeInSet 117 = .ok (.lxor, 1) := by decide +kernel
theorem dX6_takeInSet_118 : decode cX6_takeInSet 118 = .ok (.land, 1) := by decide +kernel
theorem dX6_takeInSet_119 : decode cX6_takeInSet 119 = .ok (.goto 7, 3) := by decide +kernel
theorem dX6_takeInSet_122 : decode cX6_takeInSet 122 = .ok (.aload_n 0, 1) := by decide +kernel
theorem dX6_takeInSet_123 : decode cX6_takeInSet 123 = .ok (.getfield 106, 3) := by decide +kernel
theorem dX6_takeInSet_126 : decode cX6_takeInSet 126 = .ok (.invokevirtual 66, 3) := by decide +kernel
theorem dX6_takeInSet_129 : decode cX6_takeInSet 129 = .ok (.iconst 4, 1) := by decide +kernel
theorem dX6_takeInSet_130 : decode cX6_takeInSet 130 = .ok (.aload_n 0, 1) := by decide +kernel
theorem dX6_takeInSet_131 : decode cX6_takeInSet 131 = .ok (.getfield 103, 3) := by decide +kernel
theorem dX6_takeInSet_134 : decode cX6_takeInSet 134 = .ok (.invokevirtual 70, 3) := by decide +kernel
theorem dX6_takeInSet_137 : decode cX6_takeInSet 137 = .ok (.goto 9, 3) := by decide +kernel
theorem dX6_takeInSet_140 : decode cX6_takeInSet 140 = .ok (.aload_n 0, 1) := by decide +kernel
theorem dX6_takeInSet_141 : decode cX6_takeInSet 141 = .ok (.iconst 1, 1) := by decide +kernel
theorem dX6_takeInSet_142 : decode cX6_takeInSet 142 = .ok (.iload_n 1, 1) := by decide +kernel
theorem dX6_takeInSet_143 : decode cX6_takeInSet 143 = .ok (.invokevirtual 56, 3) := by decide +kernel
theorem dX6_takeInSet_146 : decode cX6_takeInSet 146 = .ok (.return_, 1) := by decide +kernel
theorem dX6_takeSetLetter_0 : decode cX6_takeSetLetter 0 = .ok (.aload_n 0, 1) := by decide +kernel
theorem dX6_takeSetLetter_1 : decode cX6_takeSetLetter 1 = .ok (.getfield 36, 3) := by decide +kernel
theorem dX6_takeSetLetter_4 : decode cX6_takeSetLetter 4 = .ok (.iconst 4, 1) := by decide +kernel
theorem dX6_takeSetLetter_5 : decode cX6_takeSetLetter 5 = .ok (.if_icmp .eq 33, 3) := by decide +kernel
theorem dX6_takeSetLetter_8 : decode cX6_takeSetLetter 8 = .ok (.aload_n 0, 1) := by decide +kernel
theorem dX6_takeSetLetter_9 : decode cX6_takeSetLetter 9 = .ok (.dup, 1) := by decide +kernel
theorem dX6_takeSetLetter_10 : decode cX6_takeSetLetter 10 = .ok (.getfield 106, 3) := by decide +kernel
theorem dX6_takeSetLetter_13 : decode cX6_takeSetLetter 13 = .ok (.lconst 1, 1) := by decide +kernel
theorem dX6_takeSetLetter_14 : decode cX6_takeSetLetter 14 = .ok (.iload_n 2, 1) := by decide +kernel
theorem dX6_takeSetLetter_15 : decode cX6_takeSetLetter 15 = .ok (.lshl, 1) := by decide +kernel
theorem dX6_takeSetLetter_16 : decode cX6_takeSetLetter 16 = .ok (.lor, 1) := by decide +kernel
theorem dX6_takeSetLetter_17 : decode cX6_takeSetLetter 17 = .ok (.putfield 106, 3) := by decide +kernel
theorem dX6_takeSetLetter_20 : decode cX6_takeSetLetter 20 = .ok (.aload_n 0, 1) := by decide +kernel
theorem dX6_takeSetLetter_21 : decode cX6_takeSetLetter 21 = .ok (.iload_n 2, 1) := by decide +kernel
theorem dX6_takeSetLetter_22 : decode cX6_takeSetLetter 22 = .ok (.putfield 118, 3) := by decide +kernel
theorem dX6_takeSetLetter_25 : decode cX6_takeSetLetter 25 = .ok (.aload_n 0, 1) := by decide +kernel
theorem dX6_takeSetLetter_26 : decode cX6_takeSetLetter 26 = .ok (.iload_n 1, 1) := by decide +kernel
theorem dX6_takeSetLetter_27 : decode cX6_takeSetLetter 27 = .ok (.putfield 121, 3) := by decide +kernel
theorem dX6_takeSetLetter_30 : decode cX6_takeSetLetter 30 = .ok (.aload_n 0, 1) := by decide +kernel
theorem dX6_takeSetLetter_31 : decode cX6_takeSetLetter 31 = .ok (.iconst 3, 1) := by decide +kernel
theorem dX6_takeSetLetter_32 : decode cX6_takeSetLetter 32 = .ok (.putfield 36, 3) := by decide +kernel
theorem dX6_takeSetLetter_35 : decode cX6_takeSetLetter 35 = .ok (.goto 50, 3) := by decide +kernel
theorem dX6_takeSetLetter_38 : decode cX6_takeSetLetter 38 = .ok (.aload_n 0, 1) := by decide +kernel
theorem dX6_takeSetLetter_39 : decode cX6_takeSetLetter 39 = .ok (.getfield 118, 3) := by decide +kernel
theorem dX6_takeSetLetter_42 : decode cX6_takeSetLetter 42 = .ok (.iload_n 2, 1) := by decide +kernel
theorem dX6_takeSetLetter_43 : decode cX6_takeSetLetter 43 = .ok (.if_icmp .le 16, 3) := by decide +kernel
theorem dX6_takeSetLetter_46 : decode cX6_takeSetLetter 46 = .ok (.aload_n 0, 1) := by decide +kernel
theorem dX6_takeSetLetter_47 : decode cX6_takeSetLetter 47 = .ok (.bipush 6, 2) := by decide +kernel
theorem dX6_takeSetLetter_49 : decode cX6_takeSetLetter 49 = .ok (.aload_n 0, 1) := by decide +kernel
theorem dX6_takeSetLetter_50 : decode cX6_takeSetLetter 50 = .ok (.getfield 121, 3) := by decide +kernel
theorem dX6_takeSetLetter_53 : decode cX6_takeSetLetter 53 = .ok (.invokevirtual 56, 3) := by decide +kernel
theorem dX6_takeSetLetter_56 : decode cX6_takeSetLetter 56 = .ok (.goto 29, 3) := by decide +kernel
theorem dX6_takeSetLetter_59 : decode cX6_takeSetLetter 59 = .ok (.aload_n 0, 1) := by decide +kernel
theorem dX6_takeSetLetter_60 : decode cX6_takeSetLetter 60 = .ok (.dup, 1) := by decide +kernel
theorem dX6_takeSetLetter_61 : decode cX6_takeSetLetter 61 = .ok (.getfield 106, 3) := by decide +kernel
theorem dX6_takeSetLetter_64 : decode cX6_takeSetLetter 64 = .ok (.ldc2_w 124, 3) := by decide +kernel
theorem dX6_takeSetLetter_67 : decode cX6_takeSetLetter 67 = .ok (.iload_n 2, 1) := by decide +kernel
theorem dX6_takeSetLetter_68 : decode cX6_takeSetLetter 68 = .ok (.lshl, 1) := by decide +kernel
theorem dX6_takeSetLetter_69 : decode cX6_takeSetLetter 69 = .ok (.lconst 1, 1) := by decide +kernel
theorem dX6_takeSetLetter_70 : decode cX6_takeSetLetter 70 = .ok (.aload_n 0, 1) := by decide +kernel
theorem dX6_takeSetLetter_71 : decode cX6_takeSetLetter 71 = .ok (.getfield 118, 3) := by decide +kernel
theorem dX6_takeSetLetter_74 : decode cX6_takeSetLetter 74 = .ok (.lshl, 1) := by decide +kernel
theorem dX6_takeSetLetter_75 : decode cX6_takeSetLetter 75 = .ok (.lsub, 1) := by decide +kernel
theorem dX6_takeSetLetter_76 : decode cX6_takeSetLetter 76 = .ok (.lor, 1) := by decide +kernel
theorem dX6_takeSetLetter_77 : decode cX6_takeSetLetter 77 = .ok (.putfield 106, 3) := by decide +kernel
theorem dX6_takeSetLetter_80 : decode cX6_takeSetLetter 80 = .ok (.aload_n 0, 1) := by decide +kernel
theorem dX6_takeSetLetter_81 : decode cX6_takeSetLetter 81 = .ok (.iconst 5, 1) := by decide +kernel
theorem dX6_takeSetLetter_82 : decode cX6_takeSetLetter 82 = .ok (.putfield 36, 3) := by decide +kernel
theorem dX6_takeSetLetter_85 : decode cX6_takeSetLetter 85 = .ok (.return_, 1) := by decide +kernel
theorem dX6_takeInTimes_0 : decode cX6_takeInTimes 0 = .ok (.iload_n 2, 1) := by decide +kernel
theorem dX6_takeInTimes_1 : decode cX6_takeInTimes 1 = .ok (.bipush 48, 2) := by decide +kernel
theorem dX6_takeInTimes_3 : decode cX6_takeInTimes 3 = .ok (.if_icmp .lt 13, 3) := by decide +kernel
theorem dX6_takeInTimes_6 : decode cX6_takeInTimes 6 = .ok (.iload_n 2, 1) := by decide +kernel
theorem dX6_takeInTimes_7 : decode cX6_takeInTimes 7 = .ok (.bipush 57, 2) := by decide +kernel
theorem dX6_takeInTimes_9 : decode cX6_takeInTimes 9 = .ok (.if_icmp .gt 7, 3) := by decide +kernel
theorem dX6_takeInTimes_12 : decode cX6_takeInTimes 12 = .ok (.iconst 1, 1) := by decide +kernel
theorem dX6_takeInTimes_13 : decode cX6_takeInTimes 13 = .ok (.goto 4, 3) := by decide +kernel
theorem dX6_takeInTimes_16 : decode cX6_takeInTimes 16 = .ok (.iconst 0, 1) := by decide +kernel
theorem dX6_takeInTimes_17 : decode cX6_takeInTimes 17 = .ok (.istore_n 3, 1) := by decide +kernel
theorem dX6_takeInTimes_18 : decode cX6_takeInTimes 18 = .ok (.iload_n 3, 1) := by decide +kernel
theorem dX6_takeInTimes_19 : decode cX6_takeInTimes 19 = .ok (.ifCond .eq 37, 3) := by decide +kernel
theorem dX6_takeInTimes_22 : decode cX6_takeInTimes 22 = .ok (.aload_n 0, 1) := by decide +kernel
theorem dX6_takeInTimes_23 : decode cX6_takeInTimes 23 = .ok (.getfield 36, 3) := by decide +kernel
theorem dX6_takeInTimes_26 : decode cX6_takeInTimes 26 = .ok (.bipush 6, 2) := by decide +kernel
theorem dX6_takeInTimes_28 : decode cX6_takeInTimes 28 = .ok (.if_icmp .ne 28, 3) := by decide +kernel
theorem dX6_takeInTimes_31 : decode cX6_takeInTimes 31 = .ok (.aload_n 0, 1) := by decide +kernel
theorem dX6_takeInTimes_32 : decode cX6_takeInTimes 32 = .ok (.iload_n 2, 1) := by decide +kernel
theorem dX6_takeInTimes_33 : decode cX6_takeInTimes 33 = .ok (.bipush 48, 2) := by decide +kernel
theorem dX6_takeInTimes_35 : decode cX6_takeInTimes 35 = .ok (.isub, 1) := by decide +kernel
theorem dX6_takeInTimes_36 : decode cX6_takeInTimes 36 = .ok (.putfield 126, 3) := by decide +kernel
theorem dX6_takeInTimes_39 : decode cX6_takeInTimes 39 = .ok (.aload_n 0, 1) := by decide +kernel
theorem dX6_takeInTimes_40 : decode cX6_takeInTimes 40 = .ok (.aload_n 0, 1) := by decide +kernel
theorem dX6_takeInTimes_41 : decode cX6_takeInTimes 41 = .ok (.getfield 126, 3) := by decide +kernel
theorem dX6_takeInTimes_44 : decode cX6_takeInTimes 44 = .ok (.putfield 129, 3) := by decide +kernel
theorem dX6_takeInTimes_47 : decode cX6_takeInTimes 47 = .ok (.aload_n 0, 1) := by decide +kernel
theorem dX6_takeInTimes_48 : decode cX6_takeInTimes 48 = .ok (.bipush 7, 2) := by decide +kernel
theorem dX6_takeInTimes_50 : decode cX6_takeInTimes 50 = .ok (.putfield 36, 3) := by decide +kernel
theorem dX6_takeInTimes_53 : decode cX6_takeInTimes 53 = .ok (.goto 99, 3) := by decide +kernel
theorem dX6_takeInTimes_56 : decode cX6_takeInTimes 56 = .ok (.iload_n 2, 1) := by decide +kernel
theorem dX6_takeInTimes_57 : decode cX6_takeInTimes 57 = .ok (.bipush 44, 2) := by decide +kernel
theorem dX6_takeInTimes_59 : decode cX6_takeInTimes 59 = .ok (.if_icmp .ne 21, 3) := by decide +kernel
theorem dX6_takeInTimes_62 : decode cX6_takeInTimes 62 = .ok (.aload_n 0, 1) := by decide +kernel
theorem dX6_takeInTimes_63 : decode cX6_takeInTimes 63 = .ok (.getfield 36, 3) := by decide +kernel
theorem dX6_takeInTimes_66 : decode cX6_takeInTimes 66 = .ok (.bipush 7, 2) := by decide +kernel
theorem dX6_takeInTimes_68 : decode cX6_takeInTimes 68 = .ok (.if_icmp .ne 12, 3) := by decide +kernel
theorem dX6_takeInTimes_71 : decode cX6_takeInTimes 71 = .ok (.aload_n 0, 1) := by decide +kernel
theorem dX6_takeInTimes_72 : decode cX6_takeInTimes 72 = .ok (.bipush 8, 2) := by decide +kernel
theorem dX6_takeInTimes_74 : decode cX6_takeInTimes 74 = .ok (.putfield 36, 3) := by decide +kernel
theorem dX6_takeInTimes_77 : decode cX6_takeInTimes 77 = .ok (.goto 75, 3) := by decide +kernel
theorem dX6_takeInTimes_80 : decode cX6_takeInTimes 80 = .ok (.iload_n 3, 1) := by decide +kernel
theorem dX6_takeInTimes_81 : decode cX6_takeInTimes 81 = .ok (.ifCond .eq 29, 3) := by decide +kernel
theorem dX6_takeInTimes_84 : decode cX6_takeInTimes 84 = .ok (.aload_n 0, 1) := by decide +kernel
theorem dX6_takeInTimes_85 : decode cX6_takeInTimes 85 = .ok (.getfield 36, 3) := by decide +kernel
theorem dX6_takeInTimes_88 : decode cX6_takeInTimes 88 = .ok (.bipush 8, 2) := by decide +kernel
theorem dX6_takeInTimes_90 : decode cX6_takeInTimes 90 = .ok (.if_icmp .ne 20, 3) := by decide +kernel
theorem dX6_takeInTimes_93 : decode cX6_takeInTimes 93 = .ok (.aload_n 0, 1) := by decide +kernel
theorem dX6_takeInTimes_94 : decode cX6_takeInTimes 94 = .ok (.iload_n 2, 1) := by decide +kernel
theorem dX6_takeInTimes_95 : decode cX6_takeInTimes 95 = .ok (.bipush 48, 2) := by decide +kernel
theorem dX6_takeInTimes_97 : decode cX6_takeInTimes 97 = .ok (.isub, 1) := by decide +kernel
theorem dX6_takeInTimes_98 : decode cX6_takeInTimes 98 = .ok (.putfield 129, 3) := by decide +kernel
theorem dX6_takeInTimes_101 : decode cX6_takeInTimes 101 = .ok (.aload_n 0, 1) := by decide +kernel
theorem dX6_takeInTimes_102 : decode cX6_takeInTimes 102 = .ok (.bipush 9, 2) := by decide +kernel
theorem dX6_takeInTimes_104 : decode cX6_takeInTimes 104 = .ok (.putfield 36, 3) := by decide +kernel
theorem dX6_takeInTimes_107 : decode cX6_takeInTimes 107 = .ok (.goto 45, 3) := by decide +kernel
theorem dX6_takeInTimes_110 : decode cX6_takeInTimes 110 = .ok (.iload_n 2, 1) := by decide +kernel
theorem dX6_takeInTimes_111 : decode cX6_takeInTimes 111 = .ok (.bipush 125, 2) := by decide +kernel
theorem dX6_takeInTimes_113 : decode cX6_takeInTimes 113 = .ok (.if_icmp .ne 33, 3) := by decide +kernel
theorem dX6_takeInTimes_116 : decode cX6_takeInTimes 116 = .ok (.aload_n 0, 1) := by decide +kernel
theorem dX6_takeInTimes_117 : decode cX6_takeInTimes 117 = .ok (.getfield 36, 3) := by decide +kernel
theorem dX6_takeInTimes_120 : decode cX6_takeInTimes 120 = .ok (.bipush 7, 2) := by decide +kernel
theorem dX6_takeInTimes_122 : decode cX6_takeInTimes 122 = .ok (.if_icmp .eq 12, 3) := by decide +kernel
theorem dX6_takeInTimes_125 : decode cX6_takeInTimes 125 = .ok (.aload_n 0, 1) := by decide +kernel
theorem dX6_takeInTimes_126 : decode cX6_takeInTimes 126 = .ok (.getfield 36, 3) := by decide +kernel
theorem dX6_takeInTimes_129 : decode cX6_takeInTimes 129 = .ok (.bipush 9, 2) := by decide +kernel
theorem dX6_takeInTimes_131 : decode cX6_takeInTimes 131 = .ok (.if_icmp .ne 15, 3) := by decide +kernel
theorem dX6_takeInTimes_134 : decode cX6_takeInTimes 134 = .ok (.aload_n 0, 1) := by decide +kernel
theorem dX6_takeInTimes_135 : decode cX6_takeInTimes 135 = .ok (.iconst 0, 1) := by decide +kernel
theorem dX6_takeInTimes_136 : decode cX6_takeInTimes 136 = .ok (.putfield 36, 3) := by decide +kernel
theorem dX6_takeInTimes_139 : decode cX6_takeInTimes 139 = .ok (.aload_n 0, 1) := by decide +kernel
theorem dX6_takeInTimes_140 : decode cX6_takeInTimes 140 = .ok (.invokevirtual 132, 3) := by decide +kernel
theorem dX6_takeInTimes_143 : decode cX6_takeInTimes 143 = .ok (.goto 9, 3) := by decide +kernel
theorem dX6_takeInTimes_146 : decode cX6_takeInTimes 146 = .ok (.aload_n 0, 1) := by decide +kernel
theorem dX6_takeInTimes_147 : decode cX6_takeInTimes 147 = .ok (.iconst 1, 1) := by decide +kernel
theorem dX6_takeInTimes_148 : decode cX6_takeInTimes 148 = .ok (.iload_n 1, 1) := by decide +kernel
theorem dX6_takeInTimes_149 : decode cX6_takeInTimes 149 = .ok (.invokevirtual 56, 3) := by decide +kernel
theorem dX6_takeInTimes_152 : decode cX6_takeInTimes 152 = .ok (.return_, 1) := by decide +kernel
theorem dX6_closeTimes_0 : decode cX6_closeTimes 0 = .ok (.aload_n 0, 1) := by decide +kernel
theorem dX6_closeTimes_1 : decode cX6_closeTimes 1 = .ok (.getfield 126, 3) := by decide +kernel
theorem dX6_closeTimes_4 : decode cX6_closeTimes 4 = .ok (.aload_n 0, 1) := by decide +kernel
theorem dX6_closeTimes_5 : decode cX6_closeTimes 5 = .ok (.getfield 129, 3) := by decide +kernel
theorem dX6_closeTimes_8 : decode cX6_closeTimes 8 = .ok (.if_icmp .gt 18, 3) := by decide +kernel
theorem dX6_closeTimes_11 : decode cX6_closeTimes 11 = .ok (.aload_n 0, 1) := by decide +kernel
theorem dX6_closeTimes_12 : decode cX6_closeTimes 12 = .ok (.getfield 129, 3) := by decide +kernel
theorem dX6_closeTimes_15 : decode cX6_closeTimes 15 = .ok (.iconst 5, 1) := by decide +kernel
theorem dX6_closeTimes_16 : decode cX6_closeTimes 16 = .ok (.if_icmp .gt 10, 3) := by decide +kernel
theorem dX6_closeTimes_19 : decode cX6_closeTimes 19 = .ok (.aload_n 0, 1) := by decide +kernel
theorem dX6_closeTimes_20 : decode cX6_closeTimes 20 = .ok (.getfield 129, 3) := by decide +kernel
theorem dX6_closeTimes_23 : decode cX6_closeTimes 23 = .ok (.ifCond .ne 15, 3) := by decide +kernel
theorem dX6_closeTimes_26 : decode cX6_closeTimes 26 = .ok (.aload_n 0, 1) := by decide +kernel
theorem dX6_closeTimes_27 : decode cX6_closeTimes 27 = .ok (.iconst 3, 1) := by decide +kernel
theorem dX6_closeTimes_28 : decode cX6_closeTimes 28 = .ok (.aload_n 0, 1) := by decide +kernel
theorem dX6_closeTimes_29 : decode cX6_closeTimes 29 = .ok (.getfield 103, 3) := by decide +kernel
theorem dX6_closeTimes_32 : decode cX6_closeTimes 32 = .ok (.invokevirtual 56, 3) := by decide +kernel
theorem dX6_closeTimes_35 : decode cX6_closeTimes 35 = .ok (.goto 27, 3) := by decide +kernel
theorem dX6_closeTimes_38 : decode cX6_closeTimes 38 = .ok (.aload_n 0, 1) := by decide +kernel
theorem dX6_closeTimes_39 : decode cX6_closeTimes 39 = .ok (.aload_n 0, 1) := by decide +kernel
theorem dX6_closeTimes_40 : decode cX6_closeTimes 40 = .ok (.getfield 22, 3) := by decide +kernel
theorem dX6_closeTimes_43 : decode cX6_closeTimes 43 = .ok (.aload_n 0, 1) := by decide +kernel
theorem dX6_closeTimes_44 : decode cX6_closeTimes 44 = .ok (.getfield 126, 3) := by decide +kernel
theorem dX6_closeTimes_47 : decode cX6_closeTimes 47 = .ok (.aload_n 0, 1) := by decide +kernel
theorem dX6_closeTimes_48 : decode cX6_closeTimes 48 = .ok (.getfield 129, 3) := by decide +kernel
theorem dX6_closeTimes_51 : decode cX6_closeTimes 51 = .ok (.invokevirtual 135, 3) := by decide +kernel
theorem dX6_closeTimes_54 : decode cX6_closeTimes 54 = .ok (.iconst 4, 1) := by decide +kernel
theorem dX6_closeTimes_55 : decode cX6_closeTimes 55 = .ok (.aload_n 0, 1) := by decide +kernel
theorem dX6_closeTimes_56 : decode cX6_closeTimes 56 = .ok (.getfield 103, 3) := by decide +kernel
theorem dX6_closeTimes_59 : decode cX6_closeTimes 59 = .ok (.invokevirtual 70, 3) := by decide +kernel
theorem dX6_closeTimes_62 : decode cX6_closeTimes 62 = .ok (.return_, 1) := by decide +kernel
theorem dX7_init_0 : decode cX7_init 0 = .ok (.aload_n 0, 1) := by decide +kernel
theorem dX7_init_1 : decode cX7_init 1 = .ok (.invokespecial 3, 3) := by decide +kernel
theorem dX7_init_4 : decode cX7_init 4 = .ok (.aload_n 0, 1) := by decide +kernel
theorem dX7_init_5 : decode cX7_init 5 = .ok (.sipush 300, 3) := by decide +kernel
theorem dX7_init_8 : decode cX7_init 8 = .ok (.newarray .long, 2) := by decide +kernel
theorem dX7_init_10 : decode cX7_init 10 = .ok (.putfield 9, 3) := by decide +kernel
theorem dX7_init_13 : decode cX7_init 13 = .ok (.aload_n 0, 1) := by decide +kernel
theorem dX7_init_14 : decode cX7_init 14 = .ok (.sipush 300, 3) := by decide +kernel
theorem dX7_init_17 : decode cX7_init 17 = .ok (.newarray .int, 2) := by decide +kernel
theorem dX7_init_19 : decode cX7_init 19 = .ok (.putfield 15, 3) := by decide +kernel
theorem dX7_init_22 : decode cX7_init 22 = .ok (.aload_n 0, 1) := by decide +kernel
theorem dX7_init_23 : decode cX7_init 23 = .ok (.sipush 1024, 3) := by decide +kernel
theorem dX7_init_26 : decode cX7_init 26 = .ok (.newarray .int, 2) := by decide +kernel
theorem dX7_init_28 : decode cX7_init 28 = .ok (.putfield 19, 3) := by decide +kernel
theorem dX7_init_31 : decode cX7_init 31 = .ok (.return_, 1) := by decide +kernel
theorem dX7_forgetAll_0 : decode cX7_forgetAll 0 = .ok (.iconst 0, 1) := by decide +kernel
theorem dX7_forgetAll_1 : decode cX7_forgetAll 1 = .ok (.istore_n 1, 1) := by decide +kernel
theorem dX7_forgetAll_2 : decode cX7_forgetAll 2 = .ok (.iload_n 1, 1) := by decide +kernel
theorem dX7_forgetAll_3 : decode cX7_forgetAll 3 = .ok (.aload_n 0, 1) := by decide +kernel
theorem dX7_forgetAll_4 : decode cX7_forgetAll 4 = .ok (.getfield 22, 3) := by decide +kernel
theorem dX7_forgetAll_7 : decode cX7_forgetAll 7 = .ok (.if_icmp .ge 21, 3) := by decide +kernel
theorem dX7_forgetAll_10 : decode cX7_forgetAll 10 = .ok (.aload_n 0, 1) := by decide +kernel
theorem dX7_forgetAll_11 : decode cX7_forgetAll 11 = .ok (.getfield 19, 3) := by decide +kernel
theorem dX7_forgetAll_14 : decode cX7_forgetAll 14 = .ok (.aload_n 0, 1) := by decide +kernel
theorem dX7_forgetAll_15 : decode cX7_forgetAll 15 = .ok (.getfield 15, 3) := by decide +kernel
theorem dX7_forgetAll_18 : decode cX7_forgetAll 18 = .ok (.iload_n 1, 1) := by decide +kernel
theorem dX7_forgetAll_19 : decode cX7_forgetAll 19 = .ok (.iaload, 1) := by decide +kernel
theorem dX7_forgetAll_20 : decode cX7_forgetAll 20 = .ok (.iconst 0, 1) := by decide +kernel
theorem dX7_forgetAll_21 : decode cX7_forgetAll 21 = .ok (.iastore, 1) := by decide +kernel
theorem dX7_forgetAll_22 : decode cX7_forgetAll 22 = .ok (.iinc 1 1, 3) := by decide +kernel
theorem dX7_forgetAll_25 : decode cX7_forgetAll 25 = .ok (.goto (-23), 3) := by decide +kernel
theorem dX7_forgetAll_28 : decode cX7_forgetAll 28 = .ok (.aload_n 0, 1) := by decide +kernel
theorem dX7_forgetAll_29 : decode cX7_forgetAll 29 = .ok (.iconst 0, 1) := by decide +kernel
theorem dX7_forgetAll_30 : decode cX7_forgetAll 30 = .ok (.putfield 22, 3) := by decide +kernel
theorem dX7_forgetAll_33 : decode cX7_forgetAll 33 = .ok (.return_, 1) := by decide +kernel
theorem dX7_numberOf_0 : decode cX7_numberOf 0 = .ok (.lload_n 1, 1) := by decide +kernel
theorem dX7_numberOf_1 : decode cX7_numberOf 1 = .ok (.invokestatic 26, 3) := by decide +kernel
theorem dX7_numberOf_4 : decode cX7_numberOf 4 = .ok (.istore 4, 2) := by decide +kernel
theorem dX7_numberOf_6 : decode cX7_numberOf 6 = .ok (.iconst 0, 1) := by decide +kernel
theorem dX7_numberOf_7 : decode cX7_numberOf 7 = .ok (.istore 5, 2) := by decide +kernel
theorem dX7_numberOf_9 : decode cX7_numberOf 9 = .ok (.iload 5, 2) := by decide +kernel
theorem dX7_numberOf_11 : decode cX7_numberOf 11 = .ok (.sipush 1024, 3) := by decide +kernel
theorem dX7_numberOf_14 : decode cX7_numberOf 14 = .ok (.if_icmp .ge 81, 3) := by decide +kernel
theorem dX7_numberOf_17 : decode cX7_numberOf 17 = .ok (.iload 4, 2) := by decide +kernel
theorem dX7_numberOf_19 : decode cX7_numberOf 19 = .ok (.iload 5, 2) := by decide +kernel
theorem dX7_numberOf_21 : decode cX7_numberOf 21 = .ok (.iadd, 1) := by decide +kernel
theorem dX7_numberOf_22 : decode cX7_numberOf 22 = .ok (.sipush 1023, 3) := by decide +kernel
theorem dX7_numberOf_25 : decode cX7_numberOf 25 = .ok (.iand, 1) := by decide +kernel
theorem dX7_numberOf_26 : decode cX7_numberOf 26 = .ok (.istore 6, 2) := by decide +kernel
theorem dX7_numberOf_28 : decode cX7_numberOf 28 = .ok (.aload_n 0, 1) := by decide +kernel
theorem dX7_numberOf_29 : decode cX7_numberOf 29 = .ok (.getfield 19, 3) := by decide +kernel
theorem dX7_numberOf_32 : decode cX7_numberOf 32 = .ok (.iload 6, 2) := by decide +kernel
theorem dX7_numberOf_34 : decode cX7_numberOf 34 = .ok (.iaload, 1) := by decide +kernel
theorem dX7_numberOf_35 : decode cX7_numberOf 35 = .ok (.iconst 1, 1) := by decide +kernel
theorem dX7_numberOf_36 : decode cX7_numberOf 36 = .ok (.isub, 1) := by decide +kernel
theorem dX7_numberOf_37 : decode cX7_numberOf 37 = .ok (.istore 7, 2) := by decide +kernel
theorem dX7_numberOf_39 : decode cX7_numberOf 39 = .ok (.iload 7, 2) := by decide +kernel
theorem dX7_numberOf_41 : decode cX7_numberOf 41 = .ok (.ifCond .ge 33, 3) := by decide +kernel
theorem dX7_numberOf_44 : decode cX7_numberOf 44 = .ok (.aload_n 0, 1) := by decide +kernel
theorem dX7_numberOf_45 : decode cX7_numberOf 45 = .ok (.getfield 22, 3) := by decide +kernel
theorem dX7_numberOf_48 : decode cX7_numberOf 48 = .ok (.iload_n 3, 1) := by decide +kernel
theorem dX7_numberOf_49 : decode cX7_numberOf 49 = .ok (.if_icmp .ge 23, 3) := by decide +kernel
theorem dX7_numberOf_52 : decode cX7_numberOf 52 = .ok (.aload_n 0, 1) := by decide +kernel
theorem dX7_numberOf_53 : decode cX7_numberOf 53 = .ok (.getfield 22, 3) := by decide +kernel
theorem dX7_numberOf_56 : decode cX7_numberOf 56 = .ok (.sipush 300, 3) := by decide +kernel
theorem dX7_numberOf_59 : decode cX7_numberOf 59 = .ok (.if_icmp .ge 13, 3) := by decide +kernel
theorem dX7_numberOf_62 : decode cX7_numberOf 62 = .ok (.aload_n 0, 1) := by decide +kernel
theorem dX7_numberOf_63 : decode cX7_numberOf 63 = .ok (.lload_n 1, 1) := by decide +kernel
theorem dX7_numberOf_64 : decode cX7_numberOf 64 = .ok (.iload 6, 2) := by decide +kernel
theorem dX7_numberOf_66 : decode cX7_numberOf 66 = .ok (.invokevirtual 30, 3) := by decide +kernel
theorem dX7_numberOf_69 : decode cX7_numberOf 69 = .ok (.goto 4, 3) := by decide +kernel
theorem dX7_numberOf_72 : decode cX7_numberOf 72 = .ok (.iconst (-1), 1) := by decide +kernel
theorem dX7_numberOf_73 : decode cX7_numberOf 73 = .ok (.ireturn, 1) := by decide +kernel
theorem dX7_numberOf_74 : decode cX7_numberOf 74 = .ok (.aload_n 0, 1) := by decide +kernel
theorem dX7_numberOf_75 : decode cX7_numberOf 75 = .ok (.getfield 9, 3) := by decide +kernel
theorem dX7_numberOf_78 : decode cX7_numberOf 78 = .ok (.iload 7, 2) := by decide +kernel
theorem dX7_numberOf_80 : decode cX7_numberOf 80 = .ok (.laload, 1) := by decide +kernel
theorem dX7_numberOf_81 : decode cX7_numberOf 81 = .ok (.lload_n 1, 1) := by decide +kernel
theorem dX7_numberOf_82 : decode cX7_numberOf 82 = .ok (.lcmp, 1) := by decide +kernel
theorem dX7_numberOf_83 : decode cX7_numberOf 83 = .ok (.ifCond .ne 6, 3) := by decide +kernel
theorem dX7_numberOf_86 : decode cX7_numberOf 86 = .ok (.iload 7, 2) := by decide +kernel
theorem dX7_numberOf_88 : decode cX7_numberOf 88 = .ok (.ireturn, 1) := by decide +kernel
theorem dX7_numberOf_89 : decode cX7_numberOf 89 = .ok (.iinc 5 1, 3) := by decide +kernel
theorem dX7_numberOf_92 : decode cX7_numberOf 92 = .ok (.goto (-83), 3) := by decide +kernel
theorem dX7_numberOf_95 : decode cX7_numberOf 95 = .ok (.iconst (-1), 1) := by decide +kernel
theorem dX7_numberOf_96 : decode cX7_numberOf 96 = .ok (.ireturn, 1) := by decide +kernel
theorem dX7_enter_0 : decode cX7_enter 0 = .ok (.aload_n 0, 1) := by decide +kernel
theorem dX7_enter_1 : decode cX7_enter 1 = .ok (.getfield 22, 3) := by decide +kernel
theorem dX7_enter_4 : decode cX7_enter 4 = .ok (.istore 4, 2) := by decide +kernel
theorem dX7_enter_6 : decode cX7_enter 6 = .ok (.aload_n 0, 1) := by decide +kernel
theorem dX7_enter_7 : decode cX7_enter 7 = .ok (.getfield 9, 3) := by decide +kernel
theorem dX7_enter_10 : decode cX7_enter 10 = .ok (.iload 4, 2) := by decide +kernel
theorem dX7_enter_12 : decode cX7_enter 12 = .ok (.lload_n 1, 1) := by decide +kernel
theorem dX7_enter_13 : decode cX7_enter 13 = .ok (.lastore, 1) := by decide +kernel
theorem dX7_enter_14 : decode cX7_enter 14 = .ok (.aload_n 0, 1) := by decide +kernel
theorem dX7_enter_15 : decode cX7_enter 15 = .ok (.getfield 15, 3) := by decide +kernel
theorem dX7_enter_18 : decode cX7_enter 18 = .ok (.iload 4, 2) := by decide +kernel
theorem dX7_enter_20 : decode cX7_enter 20 = .ok (.iload_n 3, 1) := by decide +kernel
theorem dX7_enter_21 : decode cX7_enter 21 = .ok (.iastore, 1) := by decide +kernel
theorem dX7_enter_22 : decode cX7_enter 22 = .ok (.aload_n 0, 1) := by decide +kernel
theorem dX7_enter_23 : decode cX7_enter 23 = .ok (.getfield 19, 3) := by decide +kernel
theorem dX7_enter_26 : decode cX7_enter 26 = .ok (.iload_n 3, 1) := by decide +kernel
theorem dX7_enter_27 : decode cX7_enter 27 = .ok (.iload 4, 2) := by decide +kernel
theorem dX7_enter_29 : decode cX7_enter 29 = .ok (.iconst 1, 1) := by decide +kernel
theorem dX7_enter_30 : decode cX7_enter 30 = .ok (.iadd, 1) := by decide +kernel
theorem dX7_enter_31 : decode cX7_enter 31 = .ok (.iastore, 1) := by decide +kernel
theorem dX7_enter_32 : decode cX7_enter 32 = .ok (.aload_n 0, 1) := by decide +kernel
theorem dX7_enter_33 : decode cX7_enter 33 = .ok (.dup, 1) := by decide +kernel
theorem dX7_enter_34 : decode cX7_enter 34 = .ok (.getfield 22, 3) := by decide +kernel
theorem dX7_enter_37 : decode cX7_enter 37 = .ok (.iconst 1, 1) := by decide +kernel
theorem dX7_enter_38 : decode cX7_enter 38 = .ok (.iadd, 1) := by decide +kernel
theorem dX7_enter_39 : decode cX7_enter 39 = .ok (.putfield 22, 3) := by decide +kernel
theorem dX7_enter_42 : decode cX7_enter 42 = .ok (.iload 4, 2) := by decide +kernel
theorem dX7_enter_44 : decode cX7_enter 44 = .ok (.ireturn, 1) := by decide +kernel
theorem dX7_homeOf_0 : decode cX7_homeOf 0 = .ok (.lload_n 0, 1) := by decide +kernel
theorem dX7_homeOf_1 : decode cX7_homeOf 1 = .ok (.ldc2_w 34, 3) := by decide +kernel
theorem dX7_homeOf_4 : decode cX7_homeOf 4 = .ok (.lmul, 1) := by decide +kernel
theorem dX7_homeOf_5 : decode cX7_homeOf 5 = .ok (.lstore_n 2, 1) := by decide +kernel
theorem dX7_homeOf_6 : decode cX7_homeOf 6 = .ok (.lload_n 2, 1) := by decide +kernel
theorem dX7_homeOf_7 : decode cX7_homeOf 7 = .ok (.bipush 54, 2) := by decide +kernel
theorem dX7_homeOf_9 : decode cX7_homeOf 9 = .ok (.lushr, 1) := by decide +kernel
theorem dX7_homeOf_10 : decode cX7_homeOf 10 = .ok (.l2i, 1) := by decide +kernel
theorem dX7_homeOf_11 : decode cX7_homeOf 11 = .ok (.ireturn, 1) := by decide +kernel
theorem dX8_init_0 : decode cX8_init 0 = .ok (.aload_n 0, 1) := by decide +kernel
theorem dX8_init_1 : decode cX8_init 1 = .ok (.invokespecial 3, 3) := by decide +kernel
theorem dX8_init_4 : decode cX8_init 4 = .ok (.aload_n 0, 1) := by decide +kernel
theorem dX8_init_5 : decode cX8_init 5 = .ok (.sipush 200, 3) := by decide +kernel
theorem dX8_init_8 : decode cX8_init 8 = .ok (.newarray .int, 2) := by decide +kernel
theorem dX8_init_10 : decode cX8_init 10 = .ok (.putfield 9, 3) := by decide +kernel
theorem dX8_init_13 : decode cX8_init 13 = .ok (.aload_n 0, 1) := by decide +kernel
theorem dX8_init_14 : decode cX8_init 14 = .ok (.sipush 200, 3) := by decide +kernel
theorem dX8_init_17 : decode cX8_init 17 = .ok (.newarray .int, 2) := by decide +kernel
theorem dX8_init_19 : decode cX8_init 19 = .ok (.putfield 15, 3) := by decide +kernel
theorem dX8_init_22 : decode cX8_init 22 = .ok (.aload_n 0, 1) := by decide +kernel
theorem dX8_init_23 : decode cX8_init 23 = .ok (.sipush 200, 3) := by decide +kernel
theorem dX8_init_26 : decode cX8_init 26 = .ok (.newarray .int, 2) := by decide +kernel
theorem dX8_init_28 : decode cX8_init 28 = .ok (.putfield 18, 3) := by decide +kernel
theorem dX8_init_31 : decode cX8_init 31 = .ok (.return_, 1) := by decide +kernel
theorem dX8_append_0 : decode cX8_append 0 = .ok (.iconst 0, 1) := by decide +kernel
theorem dX8_append_1 : decode cX8_append 1 = .ok (.istore 4, 2) := by decide +kernel
theorem dX8_append_3 : decode cX8_append 3 = .ok (.iload 4, 2) := by decide +kernel
theorem dX8_append_5 : decode cX8_append 5 = .ok (.iload_n 3, 1) := by decide +kernel
theorem dX8_append_6 : decode cX8_append 6 = .ok (.if_icmp .ge 47, 3) := by decide +kernel
theorem dX8_append_9 : decode cX8_append 9 = .ok (.aload_n 0, 1) := by decide +kernel
theorem dX8_append_10 : decode cX8_append 10 = .ok (.getfield 21, 3) := by decide +kernel
theorem dX8_append_13 : decode cX8_append 13 = .ok (.sipush 200, 3) := by decide +kernel
theorem dX8_append_16 : decode cX8_append 16 = .ok (.if_icmp .ge 37, 3) := by decide +kernel
theorem dX8_append_19 : decode cX8_append 19 = .ok (.aload_n 0, 1) := by decide +kernel
theorem dX8_append_20 : decode cX8_append 20 = .ok (.getfield 18, 3) := by decide +kernel
theorem dX8_append_23 : decode cX8_append 23 = .ok (.aload_n 0, 1) := by decide +kernel
theorem dX8_append_24 : decode cX8_append 24 = .ok (.getfield 21, 3) := by decide +kernel
theorem dX8_append_27 : decode cX8_append 27 = .ok (.lload_n 1, 1) := by decide +kernel
theorem dX8_append_28 : decode cX8_append 28 = .ok (.iload 4, 2) := by decide +kernel
theorem dX8_append_30 : decode cX8_append 30 = .ok (.invokestatic 25, 3) := by decide +kernel
theorem dX8_append_33 : decode cX8_append 33 = .ok (.invokestatic 29, 3) := by decide +kernel
theorem dX8_append_36 : decode cX8_append 36 = .ok (.iastore, 1) := by decide +kernel
theorem dX8_append_37 : decode cX8_append 37 = .ok (.aload_n 0, 1) := by decide +kernel
theorem dX8_append_38 : decode cX8_append 38 = .ok (.dup, 1) := by decide +kernel
theorem dX8_append_39 : decode cX8_append 39 = .ok (.getfield 21, 3) := by decide +kernel
theorem dX8_append_42 : decode cX8_append 42 = .ok (.iconst 1, 1) := by decide +kernel
theorem dX8_append_43 : decode cX8_append 43 = .ok (.iadd, 1) := by decide +kernel
theorem dX8_append_44 : decode cX8_append 44 = .ok (.putfield 21, 3) := by decide +kernel
theorem dX8_append_47 : decode cX8_append 47 = .ok (.iinc 4 1, 3) := by decide +kernel
theorem dX8_append_50 : decode cX8_append 50 = .ok (.goto (-47), 3) := by decide +kernel
theorem dX8_append_53 : decode cX8_append 53 = .ok (.aload_n 0, 1) := by decide +kernel
theorem dX8_append_54 : decode cX8_append 54 = .ok (.iconst 0, 1) := by decide +kernel
theorem dX8_append_55 : decode cX8_append 55 = .ok (.putfield 33, 3) := by decide +kernel
theorem dX8_append_58 : decode cX8_append 58 = .ok (.return_, 1) := by decide +kernel
theorem dX8_cutOff_0 : decode cX8_cutOff 0 = .ok (.aload_n 0, 1) := by decide +kernel
theorem dX8_cutOff_1 : decode cX8_cutOff 1 = .ok (.iconst 0, 1) := by decide +kernel
theorem dX8_cutOff_2 : decode cX8_cutOff 2 = .ok (.putfield 21, 3) := by decide +kernel
theorem dX8_cutOff_5 : decode cX8_cutOff 5 = .ok (.aload_n 0, 1) := by decide +kernel
theorem dX8_cutOff_6 : decode cX8_cutOff 6 = .ok (.iconst 0, 1) := by decide +kernel
theorem dX8_cutOff_7 : decode cX8_cutOff 7 = .ok (.putfield 33, 3) := by decide +kernel
theorem dX8_cutOff_10 : decode cX8_cutOff 10 = .ok (.return_, 1) := by decide +kernel
theorem dX8_forgetFinds_0 : decode cX8_forgetFinds 0 = .ok (.aload_n 0, 1) := by decide +kernel
theorem dX8_forgetFinds_1 : decode cX8_forgetFinds 1 = .ok (.iconst 0, 1) := by decide +kernel
theorem dX8_forgetFinds_2 : decode cX8_forgetFinds 2 = .ok (.putfield 33, 3) := by decide +kernel
theorem dX8_forgetFinds_5 : decode cX8_forgetFinds 5 = .ok (.return_, 1) := by decide +kernel
theorem dX8_isWordOf_0 : decode cX8_isWordOf 0 = .ok (.aload_n 1, 1) := by decide +kernel
theorem dX8_isWordOf_1 : decode cX8_isWordOf 1 = .ok (.getfield 37, 3) := by decide +kernel
theorem dX8_isWordOf_4 : decode cX8_isWordOf 4 = .ok (.istore_n 2, 1) := by decide +kernel
theorem dX8_isWordOf_5 : decode cX8_isWordOf 5 = .ok (.aload_n 1, 1) := by decide +kernel
theorem dX8_isWordOf_6 : decode cX8_isWordOf 6 = .ok (.getfield 42, 3) := by decide +kernel
theorem dX8_isWordOf_9 : decode cX8_isWordOf 9 = .ok (.lstore_n 3, 1) := by decide +kernel
theorem dX8_isWordOf_10 : decode cX8_isWordOf 10 = .ok (.iconst 0, 1) := by decide +kernel
theorem dX8_isWordOf_11 : decode cX8_isWordOf 11 = .ok (.istore 5, 2) := by decide +kernel
theorem dX8_isWordOf_13 : decode cX8_isWordOf 13 = .ok (.iload 5, 2) := by decide +kernel
theorem dX8_isWordOf_15 : decode cX8_isWordOf 15 = .ok (.aload_n 0, 1) := by decide +kernel
theorem dX8_isWordOf_16 : decode cX8_isWordOf 16 = .ok (.getfield 21, 3) := by decide +kernel
theorem dX8_isWordOf_19 : decode cX8_isWordOf 19 = .ok (.if_icmp .ge 50, 3) := by decide +kernel
theorem dX8_isWordOf_22 : decode cX8_isWordOf 22 = .ok (.lload_n 3, 1) := by decide +kernel
theorem dX8_isWordOf_23 : decode cX8_isWordOf 23 = .ok (.aload_n 1, 1) := by decide +kernel
theorem dX8_isWordOf_24 : decode cX8_isWordOf 24 = .ok (.getfield 46, 3) := by decide +kernel
theorem dX8_isWordOf_27 : decode cX8_isWordOf 27 = .ok (.aload_n 0, 1) := by decide +kernel
theorem dX8_isWordOf_28 : decode cX8_isWordOf 28 = .ok (.getfield 18, 3) := by decide +kernel
theorem dX8_isWordOf_31 : decode cX8_isWordOf 31 = .ok (.iload 5, 2) := by decide +kernel
theorem dX8_isWordOf_33 : decode cX8_isWordOf 33 = .ok (.iaload, 1) := by decide +kernel
theorem dX8_isWordOf_34 : decode cX8_isWordOf 34 = .ok (.laload, 1) := by decide +kernel
theorem dX8_isWordOf_35 : decode cX8_isWordOf 35 = .ok (.land, 1) := by decide +kernel
theorem dX8_isWordOf_36 : decode cX8_isWordOf 36 = .ok (.lstore 6, 2) := by decide +kernel
theorem dX8_isWordOf_38 : decode cX8_isWordOf 38 = .ok (.lload 6, 2) := by decide +kernel
theorem dX8_isWordOf_40 : decode cX8_isWordOf 40 = .ok (.aload_n 1, 1) := by decide +kernel
theorem dX8_isWordOf_41 : decode cX8_isWordOf 41 = .ok (.getfield 50, 3) := by decide +kernel
theorem dX8_isWordOf_44 : decode cX8_isWordOf 44 = .ok (.land, 1) := by decide +kernel
theorem dX8_isWordOf_45 : decode cX8_isWordOf 45 = .ok (.lconst 0, 1) := by decide +kernel
theorem dX8_isWordOf_46 : decode cX8_isWordOf 46 = .ok (.lcmp, 1) := by decide +kernel
theorem dX8_isWordOf_47 : decode cX8_isWordOf 47 = .ok (.ifCond .eq 7, 3) := by decide +kernel
theorem dX8_isWordOf_50 : decode cX8_isWordOf 50 = .ok (.iconst 1, 1) := by decide +kernel
theorem dX8_isWordOf_51 : decode cX8_isWordOf 51 = .ok (.goto 4, 3) := by decide +kernel
theorem dX8_isWordOf_54 : decode cX8_isWordOf 54 = .ok (.iconst 0, 1) := by decide +kernel
theorem dX8_isWordOf_55 : decode cX8_isWordOf 55 = .ok (.istore_n 2, 1) := by decide +kernel
theorem dX8_isWordOf_56 : decode cX8_isWordOf 56 = .ok (.aload_n 1, 1) := by decide +kernel
theorem dX8_isWordOf_57 : decode cX8_isWordOf 57 = .ok (.lload 6, 2) := by decide +kernel
theorem dX8_isWordOf_59 : decode cX8_isWordOf 59 = .ok (.invokevirtual 53, 3) := by decide +kernel
theorem dX8_isWordOf_62 : decode cX8_isWordOf 62 = .ok (.lstore_n 3, 1) := by decide +kernel
theorem dX8_isWordOf_63 : decode cX8_isWordOf 63 = .ok (.iinc 5 1, 3) := by decide +kernel
theorem dX8_isWordOf_66 : decode cX8_isWordOf 66 = .ok (.goto (-53), 3) := by decide +kernel
theorem dX8_isWordOf_69 : decode cX8_isWordOf 69 = .ok (.iload_n 2, 1) := by decide +kernel
theorem dX8_isWordOf_70 : decode cX8_isWordOf 70 = .ok (.ireturn, 1) := by decide +kernel
theorem dX8_lookFor_0 : decode cX8_lookFor 0 = .ok (.aload_n 0, 1) := by decide +kernel
theorem dX8_lookFor_1 : decode cX8_lookFor 1 = .ok (.getfield 33, 3) := by decide +kernel
theorem dX8_lookFor_4 : decode cX8_lookFor 4 = .ok (.ifCond .eq 4, 3) := by decide +kernel
theorem dX8_lookFor_7 : decode cX8_lookFor 7 = .ok (.return_, 1) := by decide +kernel
theorem dX8_lookFor_8 : decode cX8_lookFor 8 = .ok (.aload_n 0, 1) := by decide +kernel
theorem dX8_lookFor_9 : decode cX8_lookFor 9 = .ok (.iconst 0, 1) := by decide +kernel
theorem dX8_lookFor_10 : decode cX8_lookFor 10 = .ok (.putfield 57, 3) := by decide +kernel
theorem dX8_lookFor_13 : decode cX8_lookFor 13 = .ok (.iconst 0, 1) := by decide +kernel
theorem dX8_lookFor_14 : decode cX8_lookFor 14 = .ok (.istore_n 2, 1) := by decide +kernel
theorem dX8_lookFor_15 : decode cX8_lookFor 15 = .ok (.iconst 0, 1) := by decide +kernel
theorem dX8_lookFor_16 : decode cX8_lookFor 16 = .ok (.istore_n 3, 1) := by decide +kernel
theorem dX8_lookFor_17 : decode cX8_lookFor 17 = .ok (.iload_n 3, 1) := by decide +kernel
theorem dX8_lookFor_18 : decode cX8_lookFor 18 = .ok (.aload_n 0, 1) := by decide +kernel
theorem dX8_lookFor_19 : decode cX8_lookFor 19 = .ok (.getfield 21, 3) := by decide +kernel
theorem dX8_lookFor_22 : decode cX8_lookFor 22 = .ok (.if_icmp .ge 66, 3) := by decide +kernel
theorem dX8_lookFor_25 : decode cX8_lookFor 25 = .ok (.iload_n 3, 1) := by decide +kernel
theorem dX8_lookFor_26 : decode cX8_lookFor 26 = .ok (.iload_n 2, 1) := by decide +kernel
theorem dX8_lookFor_27 : decode cX8_lookFor 27 = .ok (.if_icmp .ge 7, 3) := by decide +kernel
theorem dX8_lookFor_30 : decode cX8_lookFor 30 = .ok (.iconst (-1), 1) := by decide +kernel
theorem dX8_lookFor_31 : decode cX8_lookFor 31 = .ok (.goto 9, 3) := by decide +kernel
theorem dX8_lookFor_34 : decode cX8_lookFor 34 = .ok (.aload_n 0, 1) := by decide +kernel
theorem dX8_lookFor_35 : decode cX8_lookFor 35 = .ok (.aload_n 1, 1) := by decide +kernel
theorem dX8_lookFor_36 : decode cX8_lookFor 36 = .ok (.iload_n 3, 1) := by decide +kernel
theorem dX8_lookFor_37 : decode cX8_lookFor 37 = .ok (.invokevirtual 60, 3) := by decide +kernel
theorem dX8_lookFor_40 : decode cX8_lookFor 40 = .ok (.istore 4, 2) := by decide +kernel
theorem dX8_lookFor_42 : decode cX8_lookFor 42 = .ok (.iload 4, 2) := by decide +kernel
theorem dX8_lookFor_44 : decode cX8_lookFor 44 = .ok (.iconst (-1), 1) := by decide +kernel
theorem dX8_lookFor_45 : decode cX8_lookFor 45 = .ok (.if_icmp .eq 37, 3) := by decide +kernel
theorem dX8_lookFor_48 : decode cX8_lookFor 48 = .ok (.aload_n 0, 1) := by decide +kernel
theorem dX8_lookFor_49 : decode cX8_lookFor 49 = .ok (.getfield 9, 3) := by decide +kernel
theorem dX8_lookFor_52 : decode cX8_lookFor 52 = .ok (.aload_n 0, 1) := by decide +kernel
theorem dX8_lookFor_53 : decode cX8_lookFor 53 = .ok (.getfield 57, 3) := by decide +kernel
theorem dX8_lookFor_56 : decode cX8_lookFor 56 = .ok (.iload_n 3, 1) := by decide +kernel
theorem dX8_lookFor_57 : decode cX8_lookFor 57 = .ok (.iastore, 1) := by decide +kernel
theorem dX8_lookFor_58 : decode cX8_lookFor 58 = .ok (.aload_n 0, 1) := by decide +kernel
theorem dX8_lookFor_59 : decode cX8_lookFor 59 = .ok (.getfield 15, 3) := by decide +kernel
theorem dX8_lookFor_62 : decode cX8_lookFor 62 = .ok (.aload_n 0, 1) := by decide +kernel
theorem dX8_lookFor_63 : decode cX8_lookFor 63 = .ok (.getfield 57, 3) := by decide +kernel
theorem dX8_lookFor_66 : decode cX8_lookFor 66 = .ok (.iload 4, 2) := by decide +kernel
theorem dX8_lookFor_68 : decode cX8_lookFor 68 = .ok (.iastore, 1) := by decide +kernel
theorem dX8_lookFor_69 : decode cX8_lookFor 69 = .ok (.aload_n 0, 1) := by decide +kernel
theorem dX8_lookFor_70 : decode cX8_lookFor 70 = .ok (.dup, 1) := by decide +kernel
theorem dX8_lookFor_71 : decode cX8_lookFor 71 = .ok (.getfield 57, 3) := by decide +kernel
theorem dX8_lookFor_74 : decode cX8_lookFor 74 = .ok (.iconst 1, 1) := by decide +kernel
theorem dX8_lookFor_75 : decode cX8_lookFor 75 = .ok (.iadd, 1) := by decide +kernel
theorem dX8_lookFor_76 : decode cX8_lookFor 76 = .ok (.putfield 57, 3) := by decide +kernel
theorem dX8_lookFor_79 : decode cX8_lookFor 79 = .ok (.iload 4, 2) := by decide +kernel
theorem dX8_lookFor_81 : decode cX8_lookFor 81 = .ok (.istore_n 2, 1) := by decide +kernel
theorem dX8_lookFor_82 : decode cX8_lookFor 82 = .ok (.iinc 3 1, 3) := by decide +kernel
theorem dX8_lookFor_85 : decode cX8_lookFor 85 = .ok (.goto (-68), 3) := by decide +kernel
theorem dX8_lookFor_88 : decode cX8_lookFor 88 = .ok (.aload_n 0, 1) := by decide +kernel
theorem dX8_lookFor_89 : decode cX8_lookFor 89 = .ok (.iconst 1, 1) := by decide +kernel
theorem dX8_lookFor_90 : decode cX8_lookFor 90 = .ok (.putfield 33, 3) := by decide +kernel
theorem dX8_lookFor_93 : decode cX8_lookFor 93 = .ok (.return_, 1) := by decide +kernel
theorem dX8_longestEnd_0 : decode cX8_longestEnd 0 = .ok (.iconst (-1), 1) := by decide +kernel
theorem dX8_longestEnd_1 : decode cX8_longestEnd 1 = .ok (.istore_n 3, 1) := by decide +kernel
theorem dX8_longestEnd_2 : decode cX8_longestEnd 2 = .ok (.aload_n 1, 1) := by decide +kernel
theorem dX8_longestEnd_3 : decode cX8_longestEnd 3 = .ok (.getfield 42, 3) := by decide +kernel
theorem dX8_longestEnd_6 : decode cX8_longestEnd 6 = .ok (.lstore 4, 2) := by decide +kernel
theorem dX8_longestEnd_8 : decode cX8_longestEnd 8 = .ok (.iload_n 2, 1) := by decide +kernel
theorem dX8_longestEnd_9 : decode cX8_longestEnd 9 = .ok (.istore 6, 2) := by decide +kernel
theorem dX8_longestEnd_11 : decode cX8_longestEnd 11 = .ok (.iload 6, 2) := by decide +kernel
theorem dX8_longestEnd_13 : decode cX8_longestEnd 13 = .ok (.aload_n 0, 1) := by decide +kernel
theorem dX8_longestEnd_14 : decode cX8_longestEnd 14 = .ok (.getfield 21, 3) := by decide +kernel
theorem dX8_longestEnd_17 : decode cX8_longestEnd 17 = .ok (.if_icmp .ge 58, 3) := by decide +kernel
theorem dX8_longestEnd_20 : decode cX8_longestEnd 20 = .ok (.lload 4, 2) := by decide +kernel
theorem dX8_longestEnd_22 : decode cX8_longestEnd 22 = .ok (.lconst 0, 1) := by decide +kernel
theorem dX8_longestEnd_23 : decode cX8_longestEnd 23 = .ok (.lcmp, 1) := by decide +kernel
theorem dX8_longestEnd_24 : decode cX8_longestEnd 24 = .ok (.ifCond .eq 51, 3) := by decide +kernel
theorem dX8_longestEnd_27 : decode cX8_longestEnd 27 = .ok (.lload 4, 2) := by decide +kernel
theorem dX8_longestEnd_29 : decode cX8_longestEnd 29 = .ok (.aload_n 1, 1) := by decide +kernel
theorem dX8_longestEnd_30 : decode cX8_longestEnd 30 = .ok (.getfield 46, 3) := by decide +kernel
theorem dX8_longestEnd_33 : decode cX8_longestEnd 33 = .ok (.aload_n 0, 1) := by decide +kernel
theorem dX8_longestEnd_34 : decode cX8_longestEnd 34 = .ok (.getfield 18, 3) := by decide +kernel
theorem dX8_longestEnd_37 : decode cX8_longestEnd 37 = .ok (.iload 6, 2) := by decide +kernel
theorem dX8_longestEnd_39 : decode cX8_longestEnd 39 = .ok (.iaload, 1) := by decide +kernel
theorem dX8_longestEnd_40 : decode cX8_longestEnd 40 = .ok (.laload, 1) := by decide +kernel
theorem dX8_longestEnd_41 : decode cX8_longestEnd 41 = .ok (.land, 1) := by decide +kernel
theorem dX8_longestEnd_42 : decode cX8_longestEnd 42 = .ok (.lstore 7, 2) := by decide +kernel
theorem dX8_longestEnd_44 : decode cX8_longestEnd 44 = .ok (.lload 7, 2) := by decide +kernel
theorem dX8_longestEnd_46 : decode cX8_longestEnd 46 = .ok (.aload_n 1, 1) := by decide +kernel
theorem dX8_longestEnd_47 : decode cX8_longestEnd 47 = .ok (.getfield 50, 3) := by decide +kernel
theorem dX8_longestEnd_50 : decode cX8_longestEnd 50 = .ok (.land, 1) := by decide +kernel
theorem dX8_longestEnd_51 : decode cX8_longestEnd 51 = .ok (.lconst 0, 1) := by decide +kernel
theorem dX8_longestEnd_52 : decode cX8_longestEnd 52 = .ok (.lcmp, 1) := by decide +kernel
theorem dX8_longestEnd_53 : decode cX8_longestEnd 53 = .ok (.ifCond .eq 8, 3) := by decide +kernel
theorem dX8_longestEnd_56 : decode cX8_longestEnd 56 = .ok (.iload 6, 2) := by decide +kernel
theorem dX8_longestEnd_58 : decode cX8_longestEnd 58 = .ok (.iconst 1, 1) := by decide +kernel
theorem dX8_longestEnd_59 : decode cX8_longestEnd 59 = .ok (.iadd, 1) := by decide +kernel
theorem dX8_longestEnd_60 : decode cX8_longestEnd 60 = .ok (.istore_n 3, 1) := by decide +kernel
theorem dX8_longestEnd_61 : decode cX8_longestEnd 61 = .ok (.aload_n 1, 1) := by decide +kernel
theorem dX8_longestEnd_62 : decode cX8_longestEnd 62 = .ok (.lload 7, 2) := by decide +kernel
theorem dX8_longestEnd_64 : decode cX8_longestEnd 64 = .ok (.invokevirtual 53, 3) := by decide +kernel
theorem dX8_longestEnd_67 : decode cX8_longestEnd 67 = .ok (.lstore 4, 2) := by decide +kernel
theorem dX8_longestEnd_69 : decode cX8_longestEnd 69 = .ok (.iinc 6 1, 3) := by decide +kernel
theorem dX8_longestEnd_72 : decode cX8_longestEnd 72 = .ok (.goto (-61), 3) := by decide +kernel
theorem dX8_longestEnd_75 : decode cX8_longestEnd 75 = .ok (.iload_n 3, 1) := by decide +kernel
theorem dX8_longestEnd_76 : decode cX8_longestEnd 76 = .ok (.ireturn, 1) := by decide +kernel
theorem dX9_init_0 : decode cX9_init 0 = .ok (.aload_n 0, 1) := by decide +kernel
theorem dX9_init_1 : decode cX9_init 1 = .ok (.invokespecial 1, 3) := by decide +kernel
theorem dX9_init_4 : decode cX9_init 4 = .ok (.aload_n 0, 1) := by decide +kernel
theorem dX9_init_5 : decode cX9_init 5 = .ok (.new 7, 3) := by decide +kernel
theorem dX9_init_8 : decode cX9_init 8 = .ok (.dup, 1) := by decide +kernel
theorem dX9_init_9 : decode cX9_init 9 = .ok (.invokespecial 9, 3) := by decide +kernel
theorem dX9_init_12 : decode cX9_init 12 = .ok (.putfield 10, 3) := by decide +kernel
theorem dX9_init_15 : decode cX9_init 15 = .ok (.aload_n 0, 1) := by decide +kernel
theorem dX9_init_16 : decode cX9_init 16 = .ok (.new 16, 3) := by decide +kernel
theorem dX9_init_19 : decode cX9_init 19 = .ok (.dup, 1) := by decide +kernel
theorem dX9_init_20 : decode cX9_init 20 = .ok (.invokespecial 18, 3) := by decide +kernel
theorem dX9_init_23 : decode cX9_init 23 = .ok (.putfield 19, 3) := by decide +kernel
theorem dX9_init_26 : decode cX9_init 26 = .ok (.aload_n 0, 1) := by decide +kernel
theorem dX9_init_27 : decode cX9_init 27 = .ok (.new 23, 3) := by decide +kernel
theorem dX9_init_30 : decode cX9_init 30 = .ok (.dup, 1) := by decide +kernel
theorem dX9_init_31 : decode cX9_init 31 = .ok (.invokespecial 25, 3) := by decide +kernel
theorem dX9_init_34 : decode cX9_init 34 = .ok (.putfield 26, 3) := by decide +kernel
theorem dX9_init_37 : decode cX9_init 37 = .ok (.aload_n 0, 1) := by decide +kernel
theorem dX9_init_38 : decode cX9_init 38 = .ok (.new 30, 3) := by decide +kernel
theorem dX9_init_41 : decode cX9_init 41 = .ok (.dup, 1) := by decide +kernel
theorem dX9_init_42 : decode cX9_init 42 = .ok (.invokespecial 32, 3) := by decide +kernel
theorem dX9_init_45 : decode cX9_init 45 = .ok (.putfield 33, 3) := by decide +kernel
theorem dX9_init_48 : decode cX9_init 48 = .ok (.aload_n 0, 1) := by decide +kernel
theorem dX9_init_49 : decode cX9_init 49 = .ok (.new 37, 3) := by decide +kernel
theorem dX9_init_52 : decode cX9_init 52 = .ok (.dup, 1) := by decide +kernel
theorem dX9_init_53 : decode cX9_init 53 = .ok (.invokespecial 39, 3) := by decide +kernel
theorem dX9_init_56 : decode cX9_init 56 = .ok (.putfield 40, 3) := by decide +kernel
theorem dX9_init_59 : decode cX9_init 59 = .ok (.aload_n 0, 1) := by decide +kernel
theorem dX9_init_60 : decode cX9_init 60 = .ok (.iconst 3, 1) := by decide +kernel
theorem dX9_init_61 : decode cX9_init 61 = .ok (.anewarray 44, 3) := by decide +kernel
theorem dX9_init_64 : decode cX9_init 64 = .ok (.dup, 1) := by decide +kernel
theorem dX9_init_65 : decode cX9_init 65 = .ok (.iconst 0, 1) := by decide +kernel
theorem dX9_init_66 : decode cX9_init 66 = .ok (.new 44, 3) := by decide +kernel
theorem dX9_init_69 : decode cX9_init 69 = .ok (.dup, 1) := by decide +kernel
theorem dX9_init_70 : decode cX9_init 70 = .ok (.invokespecial 46, 3) := by decide +kernel
theorem dX9_init_73 : decode cX9_init 73 = .ok (.aastore, 1) := by decide +kernel
theorem dX9_init_74 : decode cX9_init 74 = .ok (.dup, 1) := by decide +kernel
theorem dX9_init_75 : decode cX9_init 75 = .ok (.iconst 1, 1) := by decide +kernel
theorem dX9_init_76 : decode cX9_init 76 = .ok (.new 44, 3) := by decide +kernel
theorem dX9_init_79 : decode cX9_init 79 = .ok (.dup, 1) := by decide +kernel
theorem dX9_init_80 : decode cX9_init 80 = .ok (.invokespecial 46, 3) := by decide +kernel
theorem dX9_init_83 : decode cX9_init 83 = .ok (.aastore, 1) := by decide +kernel
theorem dX9_init_84 : decode cX9_init 84 = .ok (.dup, 1) := by decide +kernel
theorem dX9_init_85 : decode cX9_init 85 = .ok (.iconst 2, 1) := by decide +kernel
theorem dX9_init_86 : decode cX9_init 86 = .ok (.new 44, 3) := by decide +kernel
theorem dX9_init_89 : decode cX9_init 89 = .ok (.dup, 1) := by decide +kernel
theorem dX9_init_90 : decode cX9_init 90 = .ok (.invokespecial 46, 3) := by decide +kernel
theorem dX9_init_93 : decode cX9_init 93 = .ok (.aastore, 1) := by decide +kernel
theorem dX9_init_94 : decode cX9_init 94 = .ok (.putfield 47, 3) := by decide +kernel
theorem dX9_init_97 : decode cX9_init 97 = .ok (.return_, 1) := by decide +kernel
theorem dX9_type_0 : decode cX9_type 0 = .ok (.iload_n 3, 1) := by decide +kernel
theorem dX9_type_1 : decode cX9_type 1 = .ok (.iconst 1, 1) := by decide +kernel
theorem dX9_type_2 : decode cX9_type 2 = .ok (.if_icmp .lt 9, 3) := by decide +kernel
theorem dX9_type_5 : decode cX9_type 5 = .ok (.iload_n 3, 1) := by decide +kernel
theorem dX9_type_6 : decode cX9_type 6 = .ok (.bipush 8, 2) := by decide +kernel
theorem dX9_type_8 : decode cX9_type 8 = .ok (.if_icmp .le 11, 3) := by decide +kernel
theorem dX9_type_11 : decode cX9_type 11 = .ok (.new 51, 3) := by decide +kernel
theorem dX9_type_14 : decode cX9_type 14 = .ok (.dup, 1) := by decide +kernel
theorem dX9_type_15 : decode cX9_type 15 = .ok (.invokespecial 53, 3) := by decide +kernel
theorem dX9_type_18 : decode cX9_type 18 = .ok (.athrow, 1) := by decide +kernel
theorem dX9_type_19 : decode cX9_type 19 = .ok (.aload_n 0, 1) := by decide +kernel
theorem dX9_type_20 : decode cX9_type 20 = .ok (.getfield 10, 3) := by decide +kernel
theorem dX9_type_23 : decode cX9_type 23 = .ok (.getfield 54, 3) := by decide +kernel
theorem dX9_type_26 : decode cX9_type 26 = .ok (.iload_n 3, 1) := by decide +kernel
theorem dX9_type_27 : decode cX9_type 27 = .ok (.iadd, 1) := by decide +kernel
theorem dX9_type_28 : decode cX9_type 28 = .ok (.sipush 200, 3) := by decide +kernel
theorem dX9_type_31 : decode cX9_type 31 = .ok (.if_icmp .le 11, 3) := by decide +kernel
theorem dX9_type_34 : decode cX9_type 34 = .ok (.new 58, 3) := by decide +kernel
theorem dX9_type_37 : decode cX9_type 37 = .ok (.dup, 1) := by decide +kernel
theorem dX9_type_38 : decode cX9_type 38 = .ok (.invokespecial 60, 3) := by decide +kernel
theorem dX9_type_41 : decode cX9_type 41 = .ok (.athrow, 1) := by decide +kernel
theorem dX9_type_42 : decode cX9_type 42 = .ok (.aload_n 0, 1) := by decide +kernel
theorem dX9_type_43 : decode cX9_type 43 = .ok (.getfield 10, 3) := by decide +kernel
theorem dX9_type_46 : decode cX9_type 46 = .ok (.lload_n 1, 1) := by decide +kernel
theorem dX9_type_47 : decode cX9_type 47 = .ok (.iload_n 3, 1) := by decide +kernel
theorem dX9_type_48 : decode cX9_type 48 = .ok (.invokevirtual 61, 3) := by decide +kernel
theorem dX9_type_51 : decode cX9_type 51 = .ok (.aload_n 0, 1) := by decide +kernel
theorem dX9_type_52 : decode cX9_type 52 = .ok (.getfield 10, 3) := by decide +kernel
theorem dX9_type_55 : decode cX9_type 55 = .ok (.getfield 54, 3) := by decide +kernel
theorem dX9_type_58 : decode cX9_type 58 = .ok (.ireturn, 1) := by decide +kernel
theorem dX9_read_0 : decode cX9_read 0 = .ok (.aload_n 0, 1) := by decide +kernel
theorem dX9_read_1 : decode cX9_read 1 = .ok (.invokevirtual 65, 3) := by decide +kernel
theorem dX9_read_4 : decode cX9_read 4 = .ok (.astore_n 1, 1) := by decide +kernel
theorem dX9_read_5 : decode cX9_read 5 = .ok (.aload_n 0, 1) := by decide +kernel
theorem dX9_read_6 : decode cX9_read 6 = .ok (.getfield 10, 3) := by decide +kernel
theorem dX9_read_9 : decode cX9_read 9 = .ok (.aload_n 1, 1) := by decide +kernel
theorem dX9_read_10 : decode cX9_read 10 = .ok (.invokevirtual 69, 3) := by decide +kernel
theorem dX9_read_13 : decode cX9_read 13 = .ok (.istore_n 2, 1) := by decide +kernel
theorem dX9_read_14 : decode cX9_read 14 = .ok (.iload_n 2, 1) := by decide +kernel
theorem dX9_read_15 : decode cX9_read 15 = .ok (.ifCond .ne 15, 3) := by decide +kernel
theorem dX9_read_18 : decode cX9_read 18 = .ok (.aload_n 0, 1) := by decide +kernel
theorem dX9_read_19 : decode cX9_read 19 = .ok (.aload_n 1, 1) := by decide +kernel
theorem dX9_read_20 : decode cX9_read 20 = .ok (.putfield 73, 3) := by decide +kernel
theorem dX9_read_23 : decode cX9_read 23 = .ok (.aload_n 0, 1) := by decide +kernel
theorem dX9_read_24 : decode cX9_read 24 = .ok (.getfield 19, 3) := by decide +kernel
theorem dX9_read_27 : decode cX9_read 27 = .ok (.invokevirtual 77, 3) := by decide +kernel
theorem dX9_read_30 : decode cX9_read 30 = .ok (.iload_n 2, 1) := by decide +kernel
theorem dX9_read_31 : decode cX9_read 31 = .ok (.ireturn, 1) := by decide +kernel
theorem dX9_place_0 : decode cX9_place 0 = .ok (.aload_n 0, 1) := by decide +kernel
theorem dX9_place_1 : decode cX9_place 1 = .ok (.getfield 10, 3) := by decide +kernel
theorem dX9_place_4 : decode cX9_place 4 = .ok (.getfield 80, 3) := by decide +kernel
theorem dX9_place_7 : decode cX9_place 7 = .ok (.ireturn, 1) := by decide +kernel
theorem dX9_positions_0 : decode cX9_positions 0 = .ok (.aload_n 0, 1) := by decide +kernel
theorem dX9_positions_1 : decode cX9_positions 1 = .ok (.invokevirtual 83, 3) := by decide +kernel
theorem dX9_positions_4 : decode cX9_positions 4 = .ok (.getfield 86, 3) := by decide +kernel
theorem dX9_positions_7 : decode cX9_positions 7 = .ok (.ireturn, 1) := by decide +kernel
theorem dX9_empty_0 : decode cX9_empty 0 = .ok (.aload_n 0, 1) := by decide +kernel
theorem dX9_empty_1 : decode cX9_empty 1 = .ok (.invokevirtual 83, 3) := by decide +kernel
theorem dX9_empty_4 : decode cX9_empty 4 = .ok (.getfield 89, 3) := by decide +kernel
theorem dX9_empty_7 : decode cX9_empty 7 = .ok (.ireturn, 1) := by decide +kernel
theorem dX9_is_0 : decode cX9_is 0 = .ok (.aload_n 0, 1) := by decide +kernel
theorem dX9_is_1 : decode cX9_is 1 = .ok (.invokevirtual 83, 3) := by decide +kernel
theorem dX9_is_4 : decode cX9_is 4 = .ok (.astore_n 3, 1) := by decide +kernel
theorem dX9_is_5 : decode cX9_is 5 = .ok (.iload_n 1, 1) := by decide +kernel
theorem dX9_is_6 : decode cX9_is 6 = .ok (.ifCond .lt 11, 3) := by decide +kernel
theorem dX9_is_9 : decode cX9_is 9 = .ok (.iload_n 1, 1) := by decide +kernel
theorem dX9_is_10 : decode cX9_is 10 = .ok (.aload_n 3, 1) := by decide +kernel
theorem dX9_is_11 : decode cX9_is 11 = .ok (.getfield 86, 3) := by decide +kernel
theorem dX9_is_14 : decode cX9_is 14 = .ok (.if_icmp .lt 11, 3) := by decide +kernel
theorem dX9_is_17 : decode cX9_is 17 = .ok (.new 93, 3) := by decide +kernel
theorem dX9_is_20 : decode cX9_is 20 = .ok (.dup, 1) := by decide +kernel
theorem dX9_is_21 : decode cX9_is 21 = .ok (.invokespecial 95, 3) := by decide +kernel
theorem dX9_is_24 : decode cX9_is 24 = .ok (.athrow, 1) := by decide +kernel
theorem dX9_is_25 : decode cX9_is 25 = .ok (.iload_n 2, 1) := by decide +kernel
theorem dX9_is_26 : decode cX9_is 26 = .ok (.ifCond .eq 16, 3) := by decide +kernel
theorem dX9_is_29 : decode cX9_is 29 = .ok (.iload_n 2, 1) := by decide +kernel
theorem dX9_is_30 : decode cX9_is 30 = .ok (.iconst 1, 1) := by decide +kernel
theorem dX9_is_31 : decode cX9_is 31 = .ok (.if_icmp .eq 11, 3) := by decide +kernel
theorem dX9_is_34 : decode cX9_is 34 = .ok (.new 51, 3) := by decide +kernel
theorem dX9_is_37 : decode cX9_is 37 = .ok (.dup, 1) := by decide +kernel
theorem dX9_is_38 : decode cX9_is 38 = .ok (.invokespecial 53, 3) := by decide +kernel
theorem dX9_is_41 : decode cX9_is 41 = .ok (.athrow, 1) := by decide +kernel
theorem dX9_is_42 : decode cX9_is 42 = .ok (.iload_n 2, 1) := by decide +kernel
theorem dX9_is_43 : decode cX9_is 43 = .ok (.ifCond .ne 10, 3) := by decide +kernel
theorem dX9_is_46 : decode cX9_is 46 = .ok (.aload_n 3, 1) := by decide +kernel
theorem dX9_is_47 : decode cX9_is 47 = .ok (.getfield 96, 3) := by decide +kernel
theorem dX9_is_50 : decode cX9_is 50 = .ok (.goto 7, 3) := by decide +kernel
theorem dX9_is_53 : decode cX9_is 53 = .ok (.aload_n 3, 1) := by decide +kernel
theorem dX9_is_54 : decode cX9_is 54 = .ok (.getfield 100, 3) := by decide +kernel
theorem dX9_is_57 : decode cX9_is 57 = .ok (.iload_n 1, 1) := by decide +kernel
theorem dX9_is_58 : decode cX9_is 58 = .ok (.invokestatic 103, 3) := by decide +kernel
theorem dX9_is_61 : decode cX9_is 61 = .ok (.ireturn, 1) := by decide +kernel
theorem dX9_follows_0 : decode cX9_follows 0 = .ok (.aload_n 0, 1) := by decide +kernel
theorem dX9_follows_1 : decode cX9_follows 1 = .ok (.invokevirtual 83, 3) := by decide +kernel
theorem dX9_follows_4 : decode cX9_follows 4 = .ok (.astore_n 3, 1) := by decide +kernel
theorem dX9_follows_5 : decode cX9_follows 5 = .ok (.iload_n 1, 1) := by decide +kernel
theorem dX9_follows_6 : decode cX9_follows 6 = .ok (.ifCond .lt 23, 3) := by decide +kernel
theorem dX9_follows_9 : decode cX9_follows 9 = .ok (.iload_n 1, 1) := by decide +kernel
theorem dX9_follows_10 : decode cX9_follows 10 = .ok (.aload_n 3, 1) := by decide +kernel
theorem dX9_follows_11 : decode cX9_follows 11 = .ok (.getfield 86, 3) := by decide +kernel
theorem dX9_follows_14 : decode cX9_follows 14 = .ok (.if_icmp .ge 15, 3) := by decide +kernel
theorem dX9_follows_17 : decode cX9_follows 17 = .ok (.iload_n 2, 1) := by decide +kernel
theorem dX9_follows_18 : decode cX9_follows 18 = .ok (.ifCond .lt 11, 3) := by decide +kernel
theorem dX9_follows_21 : decode cX9_follows 21 = .ok (.iload_n 2, 1) := by decide +kernel
theorem dX9_follows_22 : decode cX9_follows 22 = .ok (.aload_n 3, 1) := by decide +kernel
theorem dX9_follows_23 : decode cX9_follows 23 = .ok (.getfield 86, 3) := by decide +kernel
theorem dX9_follows_26 : decode cX9_follows 26 = .ok (.if_icmp .lt 11, 3) := by decide +kernel
theorem dX9_follows_29 : decode cX9_follows 29 = .ok (.new 93, 3) := by decide +kernel
theorem dX9_follows_32 : decode cX9_follows 32 = .ok (.dup, 1) := by decide +kernel
theorem dX9_follows_33 : decode cX9_follows 33 = .ok (.invokespecial 95, 3) := by decide +kernel
theorem dX9_follows_36 : decode cX9_follows 36 = .ok (.athrow, 1) := by decide +kernel
theorem dX9_follows_37 : decode cX9_follows 37 = .ok (.aload_n 3, 1) := by decide +kernel
theorem dX9_follows_38 : decode cX9_follows 38 = .ok (.getfield 107, 3) := by decide +kernel
theorem dX9_follows_41 : decode cX9_follows 41 = .ok (.iload_n 1, 1) := by decide +kernel
theorem dX9_follows_42 : decode cX9_follows 42 = .ok (.laload, 1) := by decide +kernel
theorem dX9_follows_43 : decode cX9_follows 43 = .ok (.iload_n 2, 1) := by decide +kernel
theorem dX9_follows_44 : decode cX9_follows 44 = .ok (.invokestatic 103, 3) := by decide +kernel
theorem dX9_follows_47 : decode cX9_follows 47 = .ok (.ireturn, 1) := by decide +kernel
theorem dX9_has_0 : decode cX9_has 0 = .ok (.aload_n 0, 1) := by decide +kernel
theorem dX9_has_1 : decode cX9_has 1 = .ok (.invokevirtual 83, 3) := by decide +kernel
theorem dX9_has_4 : decode cX9_has 4 = .ok (.astore_n 3, 1) := by decide +kernel
theorem dX9_has_5 : decode cX9_has 5 = .ok (.iload_n 1, 1) := by decide +kernel
theorem dX9_has_6 : decode cX9_has 6 = .ok (.ifCond .lt 21, 3) := by decide +kernel
theorem dX9_has_9 : decode cX9_has 9 = .ok (.iload_n 1, 1) := by decide +kernel
theorem dX9_has_10 : decode cX9_has 10 = .ok (.aload_n 3, 1) := by decide +kernel
theorem dX9_has_11 : decode cX9_has 11 = .ok (.getfield 86, 3) := by decide +kernel
theorem dX9_has_14 : decode cX9_has 14 = .ok (.if_icmp .ge 13, 3) := by decide +kernel
theorem dX9_has_17 : decode cX9_has 17 = .ok (.iload_n 2, 1) := by decide +kernel
theorem dX9_has_18 : decode cX9_has 18 = .ok (.ifCond .lt 9, 3) := by decide +kernel
theorem dX9_has_21 : decode cX9_has 21 = .ok (.iload_n 2, 1) := by decide +kernel
theorem dX9_has_22 : decode cX9_has 22 = .ok (.bipush 36, 2) := by decide +kernel
theorem dX9_has_24 : decode cX9_has 24 = .ok (.if_icmp .lt 11, 3) := by decide +kernel
theorem dX9_has_27 : decode cX9_has 27 = .ok (.new 93, 3) := by decide +kernel
theorem dX9_has_30 : decode cX9_has 30 = .ok (.dup, 1) := by decide +kernel
theorem dX9_has_31 : decode cX9_has 31 = .ok (.invokespecial 95, 3) := by decide +kernel
theorem dX9_has_34 : decode cX9_has 34 = .ok (.athrow, 1) := by decide +kernel
theorem dX9_has_35 : decode cX9_has 35 = .ok (.aload_n 3, 1) := by decide +kernel
theorem dX9_has_36 : decode cX9_has 36 = .ok (.getfield 111, 3) := by decide +kernel
theorem dX9_has_39 : decode cX9_has 39 = .ok (.iload_n 1, 1) := by decide +kernel
theorem dX9_has_40 : decode cX9_has 40 = .ok (.laload, 1) := by decide +kernel
theorem dX9_has_41 : decode cX9_has 41 = .ok (.iload_n 2, 1) := by decide +kernel
theorem dX9_has_42 : decode cX9_has 42 = .ok (.invokestatic 103, 3) := by decide +kernel
theorem dX9_has_45 : decode cX9_has 45 = .ok (.ireturn, 1) := by decide +kernel
theorem dX9_feed_0 : decode cX9_feed 0 = .ok (.iload_n 3, 1) := by decide +kernel
theorem dX9_feed_1 : decode cX9_feed 1 = .ok (.iconst 1, 1) := by decide +kernel
theorem dX9_feed_2 : decode cX9_feed 2 = .ok (.if_icmp .lt 17, 3) := by decide +kernel
theorem dX9_feed_5 : decode cX9_feed 5 = .ok (.iload_n 3, 1) := by decide +kernel
theorem dX9_feed_6 : decode cX9_feed 6 = .ok (.bipush 8, 2) := by decide +kernel
theorem dX9_feed_8 : decode cX9_feed 8 = .ok (.if_icmp .gt 11, 3) := by decide +kernel
theorem dX9_feed_11 : decode cX9_feed 11 = .ok (.lload_n 1, 1) := by decide +kernel
theorem dX9_feed_12 : decode cX9_feed 12 = .ok (.iload_n 3, 1) := by decide +kernel
theorem dX9_feed_13 : decode cX9_feed 13 = .ok (.invokestatic 114, 3) := by decide +kernel
theorem dX9_feed_16 : decode cX9_feed 16 = .ok (.ifCond .ne 11, 3) := by decide +kernel
theorem dX9_feed_19 : decode cX9_feed 19 = .ok (.new 51, 3) := by decide +kernel
theorem dX9_feed_22 : decode cX9_feed 22 = .ok (.dup, 1) := by decide +kernel
theorem dX9_feed_23 : decode cX9_feed 23 = .ok (.invokespecial 53, 3) := by decide +kernel
theorem dX9_feed_26 : decode cX9_feed 26 = .ok (.athrow, 1) := by decide +kernel
theorem dX9_feed_27 : decode cX9_feed 27 = .ok (.aload_n 0, 1) := by decide +kernel
theorem dX9_feed_28 : decode cX9_feed 28 = .ok (.getfield 19, 3) := by decide +kernel
theorem dX9_feed_31 : decode cX9_feed 31 = .ok (.getfield 117, 3) := by decide +kernel
theorem dX9_feed_34 : decode cX9_feed 34 = .ok (.iload_n 3, 1) := by decide +kernel
theorem dX9_feed_35 : decode cX9_feed 35 = .ok (.iadd, 1) := by decide +kernel
theorem dX9_feed_36 : decode cX9_feed 36 = .ok (.sipush 200, 3) := by decide +kernel
theorem dX9_feed_39 : decode cX9_feed 39 = .ok (.if_icmp .le 11, 3) := by decide +kernel
theorem dX9_feed_42 : decode cX9_feed 42 = .ok (.new 58, 3) := by decide +kernel
theorem dX9_feed_45 : decode cX9_feed 45 = .ok (.dup, 1) := by decide +kernel
theorem dX9_feed_46 : decode cX9_feed 46 = .ok (.invokespecial 60, 3) := by decide +kernel
theorem dX9_feed_49 : decode cX9_feed 49 = .ok (.athrow, 1) := by decide +kernel
theorem dX9_feed_50 : decode cX9_feed 50 = .ok (.aload_n 0, 1) := by decide +kernel
theorem dX9_feed_51 : decode cX9_feed 51 = .ok (.getfield 19, 3) := by decide +kernel
theorem dX9_feed_54 : decode cX9_feed 54 = .ok (.lload_n 1, 1) := by decide +kernel
theorem dX9_feed_55 : decode cX9_feed 55 = .ok (.iload_n 3, 1) := by decide +kernel
theorem dX9_feed_56 : decode cX9_feed 56 = .ok (.invokevirtual 118, 3) := by decide +kernel
theorem dX9_feed_59 : decode cX9_feed 59 = .ok (.aload_n 0, 1) := by decide +kernel
theorem dX9_feed_60 : decode cX9_feed 60 = .ok (.getfield 19, 3) := by decide +kernel
theorem dX9_feed_63 : decode cX9_feed 63 = .ok (.getfield 117, 3) := by decide +kernel
theorem dX9_feed_66 : decode cX9_feed 66 = .ok (.ireturn, 1) := by decide +kernel
theorem dX9_clear_0 : decode cX9_clear 0 = .ok (.aload_n 0, 1) := by decide +kernel
theorem dX9_clear_1 : decode cX9_clear 1 = .ok (.getfield 19, 3) := by decide +kernel
theorem dX9_clear_4 : decode cX9_clear 4 = .ok (.getfield 117, 3) := by decide +kernel
theorem dX9_clear_7 : decode cX9_clear 7 = .ok (.istore_n 1, 1) := by decide +kernel
theorem dX9_clear_8 : decode cX9_clear 8 = .ok (.aload_n 0, 1) := by decide +kernel
theorem dX9_clear_9 : decode cX9_clear 9 = .ok (.getfield 19, 3) := by decide +kernel
theorem dX9_clear_12 : decode cX9_clear 12 = .ok (.invokevirtual 119, 3) := by decide +kernel
theorem dX9_clear_15 : decode cX9_clear 15 = .ok (.iload_n 1, 1) := by decide +kernel
theorem dX9_clear_16 : decode cX9_clear 16 = .ok (.ireturn, 1) := by decide +kernel
theorem dX9_whole_0 : decode cX9_whole 0 = .ok (.aload_n 0, 1) := by decide +kernel
theorem dX9_whole_1 : decode cX9_whole 1 = .ok (.getfield 19, 3) := by decide +kernel
theorem dX9_whole_4 : decode cX9_whole 4 = .ok (.aload_n 0, 1) := by decide +kernel
theorem dX9_whole_5 : decode cX9_whole 5 = .ok (.invokevirtual 83, 3) := by decide +kernel
theorem dX9_whole_8 : decode cX9_whole 8 = .ok (.invokevirtual 122, 3) := by decide +kernel
theorem dX9_whole_11 : decode cX9_whole 11 = .ok (.ireturn, 1) := by decide +kernel
theorem dX9_finds_0 : decode cX9_finds 0 = .ok (.aload_n 0, 1) := by decide +kernel
theorem dX9_finds_1 : decode cX9_finds 1 = .ok (.getfield 19, 3) := by decide +kernel
theorem dX9_finds_4 : decode cX9_finds 4 = .ok (.aload_n 0, 1) := by decide +kernel
theorem dX9_finds_5 : decode cX9_finds 5 = .ok (.invokevirtual 83, 3) := by decide +kernel
theorem dX9_finds_8 : decode cX9_finds 8 = .ok (.invokevirtual 126, 3) := by decide +kernel
theorem dX9_finds_11 : decode cX9_finds 11 = .ok (.aload_n 0, 1) := by decide +kernel
theorem dX9_finds_12 : decode cX9_finds 12 = .ok (.getfield 19, 3) := by decide +kernel
theorem dX9_finds_15 : decode cX9_finds 15 = .ok (.getfield 130, 3) := by decide +kernel
theorem dX9_finds_18 : decode cX9_finds 18 = .ok (.ireturn, 1) := by decide +kernel
theorem dX9_find_0 : decode cX9_find 0 = .ok (.aload_n 0, 1) := by decide +kernel
theorem dX9_find_1 : decode cX9_find 1 = .ok (.getfield 19, 3) := by decide +kernel
theorem dX9_find_4 : decode cX9_find 4 = .ok (.aload_n 0, 1) := by decide +kernel
theorem dX9_find_5 : decode cX9_find 5 = .ok (.invokevirtual 83, 3) := by decide +kernel
theorem dX9_find_8 : decode cX9_find 8 = .ok (.invokevirtual 126, 3) := by decide +kernel
theorem dX9_find_11 : decode cX9_find 11 = .ok (.iload_n 1, 1) := by decide +kernel
theorem dX9_find_12 : decode cX9_find 12 = .ok (.ifCond .lt 14, 3) := by decide +kernel
theorem dX9_find_15 : decode cX9_find 15 = .ok (.iload_n 1, 1) := by decide +kernel
theorem dX9_find_16 : decode cX9_find 16 = .ok (.aload_n 0, 1) := by decide +kernel
theorem dX9_find_17 : decode cX9_find 17 = .ok (.getfield 19, 3) := by decide +kernel
theorem dX9_find_20 : decode cX9_find 20 = .ok (.getfield 130, 3) := by decide +kernel
theorem dX9_find_23 : decode cX9_find 23 = .ok (.if_icmp .lt 11, 3) := by decide +kernel
theorem dX9_find_26 : decode cX9_find 26 = .ok (.new 93, 3) := by decide +kernel
theorem dX9_find_29 : decode cX9_find 29 = .ok (.dup, 1) := by decide +kernel
theorem dX9_find_30 : decode cX9_find 30 = .ok (.invokespecial 95, 3) := by decide +kernel
theorem dX9_find_33 : decode cX9_find 33 = .ok (.athrow, 1) := by decide +kernel
theorem dX9_find_34 : decode cX9_find 34 = .ok (.iload_n 2, 1) := by decide +kernel
theorem dX9_find_35 : decode cX9_find 35 = .ok (.ifCond .eq 15, 3) := by decide +kernel
theorem dX9_find_38 : decode cX9_find 38 = .ok (.aload_n 0, 1) := by decide +kernel
theorem dX9_find_39 : decode cX9_find 39 = .ok (.getfield 19, 3) := by decide +kernel
theorem dX9_find_42 : decode cX9_find 42 = .ok (.getfield 133, 3) := by decide +kernel
theorem dX9_find_45 : decode cX9_find 45 = .ok (.iload_n 1, 1) := by decide +kernel
theorem dX9_find_46 : decode cX9_find 46 = .ok (.iaload, 1) := by decide +kernel
theorem dX9_find_47 : decode cX9_find 47 = .ok (.goto 12, 3) := by decide +kernel
theorem dX9_find_50 : decode cX9_find 50 = .ok (.aload_n 0, 1) := by decide +kernel
theorem dX9_find_51 : decode cX9_find 51 = .ok (.getfield 19, 3) := by decide +kernel
theorem dX9_find_54 : decode cX9_find 54 = .ok (.getfield 137, 3) := by decide +kernel
theorem dX9_find_57 : decode cX9_find 57 = .ok (.iload_n 1, 1) := by decide +kernel
theorem dX9_find_58 : decode cX9_find 58 = .ok (.iaload, 1) := by decide +kernel
theorem dX9_find_59 : decode cX9_find 59 = .ok (.ireturn, 1) := by decide +kernel
theorem dX9_states_0 : decode cX9_states 0 = .ok (.aload_n 0, 1) := by decide +kernel
theorem dX9_states_1 : decode cX9_states 1 = .ok (.aload_n 0, 1) := by decide +kernel
theorem dX9_states_2 : decode cX9_states 2 = .ok (.invokevirtual 83, 3) := by decide +kernel
theorem dX9_states_5 : decode cX9_states 5 = .ok (.invokevirtual 140, 3) := by decide +kernel
theorem dX9_states_8 : decode cX9_states 8 = .ok (.getfield 144, 3) := by decide +kernel
theorem dX9_states_11 : decode cX9_states 11 = .ok (.ireturn, 1) := by decide +kernel
theorem dX9_next_0 : decode cX9_next 0 = .ok (.aload_n 0, 1) := by decide +kernel
theorem dX9_next_1 : decode cX9_next 1 = .ok (.aload_n 0, 1) := by decide +kernel
theorem dX9_next_2 : decode cX9_next 2 = .ok (.invokevirtual 83, 3) := by decide +kernel
theorem dX9_next_5 : decode cX9_next 5 = .ok (.invokevirtual 140, 3) := by decide +kernel
theorem dX9_next_8 : decode cX9_next 8 = .ok (.astore_n 3, 1) := by decide +kernel
theorem dX9_next_9 : decode cX9_next 9 = .ok (.iload_n 1, 1) := by decide +kernel
theorem dX9_next_10 : decode cX9_next 10 = .ok (.ifCond .lt 21, 3) := by decide +kernel
theorem dX9_next_13 : decode cX9_next 13 = .ok (.iload_n 1, 1) := by decide +kernel
theorem dX9_next_14 : decode cX9_next 14 = .ok (.aload_n 3, 1) := by decide +kernel
theorem dX9_next_15 : decode cX9_next 15 = .ok (.getfield 144, 3) := by decide +kernel
theorem dX9_next_18 : decode cX9_next 18 = .ok (.if_icmp .ge 13, 3) := by decide +kernel
theorem dX9_next_21 : decode cX9_next 21 = .ok (.iload_n 2, 1) := by decide +kernel
theorem dX9_next_22 : decode cX9_next 22 = .ok (.ifCond .lt 9, 3) := by decide +kernel
theorem dX9_next_25 : decode cX9_next 25 = .ok (.iload_n 2, 1) := by decide +kernel
theorem dX9_next_26 : decode cX9_next 26 = .ok (.bipush 36, 2) := by decide +kernel
theorem dX9_next_28 : decode cX9_next 28 = .ok (.if_icmp .lt 11, 3) := by decide +kernel
theorem dX9_next_31 : decode cX9_next 31 = .ok (.new 93, 3) := by decide +kernel
theorem dX9_next_34 : decode cX9_next 34 = .ok (.dup, 1) := by decide +kernel
theorem dX9_next_35 : decode cX9_next 35 = .ok (.invokespecial 95, 3) := by decide +kernel
theorem dX9_next_38 : decode cX9_next 38 = .ok (.athrow, 1) := by decide +kernel
theorem dX9_next_39 : decode cX9_next 39 = .ok (.aload_n 3, 1) := by decide +kernel
theorem dX9_next_40 : decode cX9_next 40 = .ok (.iload_n 1, 1) := by decide +kernel
theorem dX9_next_41 : decode cX9_next 41 = .ok (.iload_n 2, 1) := by decide +kernel
theorem dX9_next_42 : decode cX9_next 42 = .ok (.invokevirtual 147, 3) := by decide +kernel
theorem dX9_next_45 : decode cX9_next 45 = .ok (.ireturn, 1) := by decide +kernel
theorem dX9_good_0 : decode cX9_good 0 = .ok (.aload_n 0, 1) := by decide +kernel
theorem dX9_good_1 : decode cX9_good 1 = .ok (.aload_n 0, 1) := by decide +kernel
theorem dX9_good_2 : decode cX9_good 2 = .ok (.invokevirtual 83, 3) := by decide +kernel
theorem dX9_good_5 : decode cX9_good 5 = .ok (.invokevirtual 140, 3) := by decide +kernel
theorem dX9_good_8 : decode cX9_good 8 = .ok (.astore_n 2, 1) := by decide +kernel
theorem dX9_good_9 : decode cX9_good 9 = .ok (.iload_n 1, 1) := by decide +kernel
theorem dX9_good_10 : decode cX9_good 10 = .ok (.ifCond .lt 11, 3) := by decide +kernel
theorem dX9_good_13 : decode cX9_good 13 = .ok (.iload_n 1, 1) := by decide +kernel
theorem dX9_good_14 : decode cX9_good 14 = .ok (.aload_n 2, 1) := by decide +kernel
theorem dX9_good_15 : decode cX9_good 15 = .ok (.getfield 144, 3) := by decide +kernel
theorem dX9_good_18 : decode cX9_good 18 = .ok (.if_icmp .lt 11, 3) := by decide +kernel
theorem dX9_good_21 : decode cX9_good 21 = .ok (.new 93, 3) := by decide +kernel
theorem dX9_good_24 : decode cX9_good 24 = .ok (.dup, 1) := by decide +kernel
theorem dX9_good_25 : decode cX9_good 25 = .ok (.invokespecial 95, 3) := by decide +kernel
theorem dX9_good_28 : decode cX9_good 28 = .ok (.athrow, 1) := by decide +kernel
theorem dX9_good_29 : decode cX9_good 29 = .ok (.aload_n 2, 1) := by decide +kernel
theorem dX9_good_30 : decode cX9_good 30 = .ok (.getfield 151, 3) := by decide +kernel
theorem dX9_good_33 : decode cX9_good 33 = .ok (.iload_n 1, 1) := by decide +kernel
theorem dX9_good_34 : decode cX9_good 34 = .ok (.baload, 1) := by decide +kernel
theorem dX9_good_35 : decode cX9_good 35 = .ok (.ireturn, 1) := by decide +kernel
theorem dX9_classes_0 : decode cX9_classes 0 = .ok (.aload_n 0, 1) := by decide +kernel
theorem dX9_classes_1 : decode cX9_classes 1 = .ok (.aload_n 0, 1) := by decide +kernel
theorem dX9_classes_2 : decode cX9_classes 2 = .ok (.invokevirtual 83, 3) := by decide +kernel
theorem dX9_classes_5 : decode cX9_classes 5 = .ok (.invokevirtual 140, 3) := by decide +kernel
theorem dX9_classes_8 : decode cX9_classes 8 = .ok (.astore_n 1, 1) := by decide +kernel
theorem dX9_classes_9 : decode cX9_classes 9 = .ok (.aload_n 1, 1) := by decide +kernel
theorem dX9_classes_10 : decode cX9_classes 10 = .ok (.getfield 155, 3) := by decide +kernel
theorem dX9_classes_13 : decode cX9_classes 13 = .ok (.ifCond .eq 5, 3) := by decide +kernel
theorem dX9_classes_16 : decode cX9_classes 16 = .ok (.iconst (-1), 1) := by decide +kernel
theorem dX9_classes_17 : decode cX9_classes 17 = .ok (.ireturn, 1) := by decide +kernel
theorem dX9_classes_18 : decode cX9_classes 18 = .ok (.aload_n 1, 1) := by decide +kernel
theorem dX9_classes_19 : decode cX9_classes 19 = .ok (.getfield 158, 3) := by decide +kernel
theorem dX9_classes_22 : decode cX9_classes 22 = .ok (.iconst (-1), 1) := by decide +kernel
theorem dX9_classes_23 : decode cX9_classes 23 = .ok (.if_icmp .ne 19, 3) := by decide +kernel
theorem dX9_classes_26 : decode cX9_classes 26 = .ok (.aload_n 1, 1) := by decide +kernel
theorem dX9_classes_27 : decode cX9_classes 27 = .ok (.aload_n 0, 1) := by decide +kernel
theorem dX9_classes_28 : decode cX9_classes 28 = .ok (.getfield 33, 3) := by decide +kernel
theorem dX9_classes_31 : decode cX9_classes 31 = .ok (.aload_n 1, 1) := by decide +kernel
theorem dX9_classes_32 : decode cX9_classes 32 = .ok (.aload_n 0, 1) := by decide +kernel
theorem dX9_classes_33 : decode cX9_classes 33 = .ok (.getfield 26, 3) := by decide +kernel
theorem dX9_classes_36 : decode cX9_classes 36 = .ok (.invokevirtual 161, 3) := by decide +kernel
theorem dX9_classes_39 : decode cX9_classes 39 = .ok (.putfield 158, 3) := by decide +kernel
theorem dX9_classes_42 : decode cX9_classes 42 = .ok (.aload_n 1, 1) := by decide +kernel
theorem dX9_classes_43 : decode cX9_classes 43 = .ok (.getfield 158, 3) := by decide +kernel
theorem dX9_classes_46 : decode cX9_classes 46 = .ok (.ireturn, 1) := by decide +kernel
theorem dX9_keep_0 : decode cX9_keep 0 = .ok (.aload_n 0, 1) := by decide +kernel
theorem dX9_keep_1 : decode cX9_keep 1 = .ok (.aload_n 0, 1) := by decide +kernel
theorem dX9_keep_2 : decode cX9_keep 2 = .ok (.invokevirtual 83, 3) := by decide +kernel
theorem dX9_keep_5 : decode cX9_keep 5 = .ok (.putfield 165, 3) := by decide +kernel
theorem dX9_keep_8 : decode cX9_keep 8 = .ok (.return_, 1) := by decide +kernel
theorem dX9_differ_0 : decode cX9_differ 0 = .ok (.aload_n 0, 1) := by decide +kernel
theorem dX9_differ_1 : decode cX9_differ 1 = .ok (.invokevirtual 83, 3) := by decide +kernel
theorem dX9_differ_4 : decode cX9_differ 4 = .ok (.astore_n 1, 1) := by decide +kernel
theorem dX9_differ_5 : decode cX9_differ 5 = .ok (.aload_n 0, 1) := by decide +kernel
theorem dX9_differ_6 : decode cX9_differ 6 = .ok (.getfield 165, 3) := by decide +kernel
theorem dX9_differ_9 : decode cX9_differ 9 = .ok (.ifnonnull 11, 3) := by decide +kernel
theorem dX9_differ_12 : decode cX9_differ 12 = .ok (.new 58, 3) := by decide +kernel
theorem dX9_differ_15 : decode cX9_differ 15 = .ok (.dup, 1) := by decide +kernel
theorem dX9_differ_16 : decode cX9_differ 16 = .ok (.invokespecial 60, 3) := by decide +kernel
theorem dX9_differ_19 : decode cX9_differ 19 = .ok (.athrow, 1) := by decide +kernel
theorem dX9_differ_20 : decode cX9_differ 20 = .ok (.aload_n 0, 1) := by decide +kernel
theorem dX9_differ_21 : decode cX9_differ 21 = .ok (.getfield 40, 3) := by decide +kernel
theorem dX9_differ_24 : decode cX9_differ 24 = .ok (.aload_n 0, 1) := by decide +kernel
theorem dX9_differ_25 : decode cX9_differ 25 = .ok (.aload_n 1, 1) := by decide +kernel
theorem dX9_differ_26 : decode cX9_differ 26 = .ok (.invokevirtual 140, 3) := by decide +kernel
theorem dX9_differ_29 : decode cX9_differ 29 = .ok (.aload_n 0, 1) := by decide +kernel
theorem dX9_differ_30 : decode cX9_differ 30 = .ok (.aload_n 0, 1) := by decide +kernel
theorem dX9_differ_31 : decode cX9_differ 31 = .ok (.getfield 165, 3) := by decide +kernel
theorem dX9_differ_34 : decode cX9_differ 34 = .ok (.invokevirtual 140, 3) := by decide +kernel
theorem dX9_differ_37 : decode cX9_differ 37 = .ok (.invokevirtual 168, 3) := by decide +kernel
theorem dX9_differ_40 : decode cX9_differ 40 = .ok (.ireturn, 1) := by decide +kernel
theorem dX9_letter_0 : decode cX9_letter 0 = .ok (.iload_n 1, 1) := by decide +kernel
theorem dX9_letter_1 : decode cX9_letter 1 = .ok (.ifCond .lt 14, 3) := by decide +kernel
theorem dX9_letter_4 : decode cX9_letter 4 = .ok (.iload_n 1, 1) := by decide +kernel
theorem dX9_letter_5 : decode cX9_letter 5 = .ok (.aload_n 0, 1) := by decide +kernel
theorem dX9_letter_6 : decode cX9_letter 6 = .ok (.getfield 40, 3) := by decide +kernel
theorem dX9_letter_9 : decode cX9_letter 9 = .ok (.getfield 172, 3) := by decide +kernel
theorem dX9_letter_12 : decode cX9_letter 12 = .ok (.if_icmp .lt 11, 3) := by decide +kernel
theorem dX9_letter_15 : decode cX9_letter 15 = .ok (.new 93, 3) := by decide +kernel
theorem dX9_letter_18 : decode cX9_letter 18 = .ok (.dup, 1) := by decide +kernel
theorem dX9_letter_19 : decode cX9_letter 19 = .ok (.invokespecial 95, 3) := by decide +kernel
theorem dX9_letter_22 : decode cX9_letter 22 = .ok (.athrow, 1) := by decide +kernel
theorem dX9_letter_23 : decode cX9_letter 23 = .ok (.aload_n 0, 1) := by decide +kernel
theorem dX9_letter_24 : decode cX9_letter 24 = .ok (.getfield 40, 3) := by decide +kernel
theorem dX9_letter_27 : decode cX9_letter 27 = .ok (.getfield 175, 3) := by decide +kernel
theorem dX9_letter_30 : decode cX9_letter 30 = .ok (.iload_n 1, 1) := by decide +kernel
theorem dX9_letter_31 : decode cX9_letter 31 = .ok (.iaload, 1) := by decide +kernel
theorem dX9_letter_32 : decode cX9_letter 32 = .ok (.ireturn, 1) := by decide +kernel
theorem dX9_thePattern_0 : decode cX9_thePattern 0 = .ok (.aload_n 0, 1) := by decide +kernel
theorem dX9_thePattern_1 : decode cX9_thePattern 1 = .ok (.getfield 73, 3) := by decide +kernel
theorem dX9_thePattern_4 : decode cX9_thePattern 4 = .ok (.ifnonnull 11, 3) := by decide +kernel
theorem dX9_thePattern_7 : decode cX9_thePattern 7 = .ok (.new 58, 3) := by decide +kernel
theorem dX9_thePattern_10 : decode cX9_thePattern 10 = .ok (.dup, 1) := by decide +kernel
theorem dX9_thePattern_11 : decode cX9_thePattern 11 = .ok (.invokespecial 60, 3) := by decide +kernel
theorem dX9_thePattern_14 : decode cX9_thePattern 14 = .ok (.athrow, 1) := by decide +kernel
theorem dX9_thePattern_15 : decode cX9_thePattern 15 = .ok (.aload_n 0, 1) := by decide +kernel
theorem dX9_thePattern_16 : decode cX9_thePattern 16 = .ok (.getfield 73, 3) := by decide +kernel
theorem dX9_thePattern_19 : decode cX9_thePattern 19 = .ok (.areturn, 1) := by decide +kernel
theorem dX9_freePattern_0 : decode cX9_freePattern 0 = .ok (.iconst 0, 1) := by decide +kernel
theorem dX9_freePattern_1 : decode cX9_freePattern 1 = .ok (.istore_n 1, 1) := by decide +kernel
theorem dX9_freePattern_2 : decode cX9_freePattern 2 = .ok (.iconst 0, 1) := by decide +kernel
theorem dX9_freePattern_3 : decode cX9_freePattern 3 = .ok (.istore_n 2, 1) := by decide +kernel
theorem dX9_freePattern_4 : decode cX9_freePattern 4 = .ok (.iload_n 2, 1) := by decide +kernel
theorem dX9_freePattern_5 : decode cX9_freePattern 5 = .ok (.aload_n 0, 1) := by decide +kernel
theorem dX9_freePattern_6 : decode cX9_freePattern 6 = .ok (.getfield 47, 3) := by decide +kernel
theorem dX9_freePattern_9 : decode cX9_freePattern 9 = .ok (.arraylength, 1) := by decide +kernel
theorem dX9_freePattern_10 : decode cX9_freePattern 10 = .ok (.if_icmp .ge 37, 3) := by decide +kernel
theorem dX9_freePattern_13 : decode cX9_freePattern 13 = .ok (.aload_n 0, 1) := by decide +kernel
theorem dX9_freePattern_14 : decode cX9_freePattern 14 = .ok (.getfield 47, 3) := by decide +kernel
theorem dX9_freePattern_17 : decode cX9_freePattern 17 = .ok (.iload_n 2, 1) := by decide +kernel
theorem dX9_freePattern_18 : decode cX9_freePattern 18 = .ok (.aaload, 1) := by decide +kernel
theorem dX9_freePattern_19 : decode cX9_freePattern 19 = .ok (.aload_n 0, 1) := by decide +kernel
theorem dX9_freePattern_20 : decode cX9_freePattern 20 = .ok (.getfield 73, 3) := by decide +kernel
theorem dX9_freePattern_23 : decode cX9_freePattern 23 = .ok (.if_acmp .eq 18, 3) := by decide +kernel
theorem dX9_freePattern_26 : decode cX9_freePattern 26 = .ok (.aload_n 0, 1) := by decide +kernel
theorem dX9_freePattern_27 : decode cX9_freePattern 27 = .ok (.getfield 47, 3) := by decide +kernel
theorem dX9_freePattern_30 : decode cX9_freePattern 30 = .ok (.iload_n 2, 1) := by decide +kernel
theorem dX9_freePattern_31 : decode cX9_freePattern 31 = .ok (.aaload, 1) := by decide +kernel
theorem dX9_freePattern_32 : decode cX9_freePattern 32 = .ok (.aload_n 0, 1) := by decide +kernel
theorem dX9_freePattern_33 : decode cX9_freePattern 33 = .ok (.getfield 165, 3) := by decide +kernel
theorem dX9_freePattern_36 : decode cX9_freePattern 36 = .ok (.if_acmp .eq 5, 3) := by decide +kernel
theorem dX9_freePattern_39 : decode cX9_freePattern 39 = .ok (.iload_n 2, 1) := by decide +kernel
theorem dX9_freePattern_40 : decode cX9_freePattern 40 = .ok (.istore_n 1, 1) := by decide +kernel
theorem dX9_freePattern_41 : decode cX9_freePattern 41 = .ok (.iinc 2 1, 3) := by decide +kernel
theorem dX9_freePattern_44 : decode cX9_freePattern 44 = .ok (.goto (-40), 3) := by decide +kernel
theorem dX9_freePattern_47 : decode cX9_freePattern 47 = .ok (.aload_n 0, 1) := by decide +kernel
theorem dX9_freePattern_48 : decode cX9_freePattern 48 = .ok (.getfield 47, 3) := by decide +kernel
theorem dX9_freePattern_51 : decode cX9_freePattern 51 = .ok (.iload_n 1, 1) := by decide +kernel
theorem dX9_freePattern_52 : decode cX9_freePattern 52 = .ok (.aaload, 1) := by decide +kernel
theorem dX9_freePattern_53 : decode cX9_freePattern 53 = .ok (.areturn, 1) := by decide +kernel
theorem dX9_automatonOf_0 : decode cX9_automatonOf 0 = .ok (.aload_n 1, 1) := by decide +kernel
theorem dX9_automatonOf_1 : decode cX9_automatonOf 1 = .ok (.getfield 178, 3) := by decide +kernel
theorem dX9_automatonOf_4 : decode cX9_automatonOf 4 = .ok (.astore_n 2, 1) := by decide +kernel
theorem dX9_automatonOf_5 : decode cX9_automatonOf 5 = .ok (.aload_n 2, 1) := by decide +kernel
theorem dX9_automatonOf_6 : decode cX9_automatonOf 6 = .ok (.getfield 182, 3) := by decide +kernel
theorem dX9_automatonOf_9 : decode cX9_automatonOf 9 = .ok (.ifCond .ne 12, 3) := by decide +kernel
theorem dX9_automatonOf_12 : decode cX9_automatonOf 12 = .ok (.aload_n 2, 1) := by decide +kernel
theorem dX9_automatonOf_13 : decode cX9_automatonOf 13 = .ok (.aload_n 1, 1) := by decide +kernel
theorem dX9_automatonOf_14 : decode cX9_automatonOf 14 = .ok (.aload_n 0, 1) := by decide +kernel
theorem dX9_automatonOf_15 : decode cX9_automatonOf 15 = .ok (.getfield 26, 3) := by decide +kernel
theorem dX9_automatonOf_18 : decode cX9_automatonOf 18 = .ok (.invokevirtual 185, 3) := by decide +kernel
theorem dX9_automatonOf_21 : decode cX9_automatonOf 21 = .ok (.aload_n 2, 1) := by decide +kernel
theorem dX9_automatonOf_22 : decode cX9_automatonOf 22 = .ok (.areturn, 1) := by decide +kernel
theorem dX9_byteOf_0 : decode cX9_byteOf 0 = .ok (.lload_n 0, 1) := by decide +kernel
theorem dX9_byteOf_1 : decode cX9_byteOf 1 = .ok (.bipush 8, 2) := by decide +kernel
theorem dX9_byteOf_3 : decode cX9_byteOf 3 = .ok (.iload_n 2, 1) := by decide +kernel
theorem dX9_byteOf_4 : decode cX9_byteOf 4 = .ok (.imul, 1) := by decide +kernel
theorem dX9_byteOf_5 : decode cX9_byteOf 5 = .ok (.lushr, 1) := by decide +kernel
theorem dX9_byteOf_6 : decode cX9_byteOf 6 = .ok (.l2i, 1) := by decide +kernel
theorem dX9_byteOf_7 : decode cX9_byteOf 7 = .ok (.sipush 255, 3) := by decide +kernel
theorem dX9_byteOf_10 : decode cX9_byteOf 10 = .ok (.iand, 1) := by decide +kernel
theorem dX9_byteOf_11 : decode cX9_byteOf 11 = .ok (.ireturn, 1) := by decide +kernel
theorem dX9_letterOf_0 : decode cX9_letterOf 0 = .ok (.iload_n 0, 1) := by decide +kernel
theorem dX9_letterOf_1 : decode cX9_letterOf 1 = .ok (.bipush 97, 2) := by decide +kernel
theorem dX9_letterOf_3 : decode cX9_letterOf 3 = .ok (.if_icmp .lt 14, 3) := by decide +kernel
theorem dX9_letterOf_6 : decode cX9_letterOf 6 = .ok (.iload_n 0, 1) := by decide +kernel
theorem dX9_letterOf_7 : decode cX9_letterOf 7 = .ok (.bipush 122, 2) := by decide +kernel
theorem dX9_letterOf_9 : decode cX9_letterOf 9 = .ok (.if_icmp .gt 8, 3) := by decide +kernel
theorem dX9_letterOf_12 : decode cX9_letterOf 12 = .ok (.iload_n 0, 1) := by decide +kernel
theorem dX9_letterOf_13 : decode cX9_letterOf 13 = .ok (.bipush 97, 2) := by decide +kernel
theorem dX9_letterOf_15 : decode cX9_letterOf 15 = .ok (.isub, 1) := by decide +kernel
theorem dX9_letterOf_16 : decode cX9_letterOf 16 = .ok (.ireturn, 1) := by decide +kernel
theorem dX9_letterOf_17 : decode cX9_letterOf 17 = .ok (.iload_n 0, 1) := by decide +kernel
theorem dX9_letterOf_18 : decode cX9_letterOf 18 = .ok (.bipush 48, 2) := by decide +kernel
theorem dX9_letterOf_20 : decode cX9_letterOf 20 = .ok (.if_icmp .lt 17, 3) := by decide +kernel
theorem dX9_letterOf_23 : decode cX9_letterOf 23 = .ok (.iload_n 0, 1) := by decide +kernel
theorem dX9_letterOf_24 : decode cX9_letterOf 24 = .ok (.bipush 57, 2) := by decide +kernel
theorem dX9_letterOf_26 : decode cX9_letterOf 26 = .ok (.if_icmp .gt 11, 3) := by decide +kernel
theorem dX9_letterOf_29 : decode cX9_letterOf 29 = .ok (.iload_n 0, 1) := by decide +kernel
theorem dX9_letterOf_30 : decode cX9_letterOf 30 = .ok (.bipush 48, 2) := by decide +kernel
theorem dX9_letterOf_32 : decode cX9_letterOf 32 = .ok (.isub, 1) := by decide +kernel
theorem dX9_letterOf_33 : decode cX9_letterOf 33 = .ok (.bipush 26, 2) := by decide +kernel
theorem dX9_letterOf_35 : decode cX9_letterOf 35 = .ok (.iadd, 1) := by decide +kernel
theorem dX9_letterOf_36 : decode cX9_letterOf 36 = .ok (.ireturn, 1) := by decide +kernel
theorem dX9_letterOf_37 : decode cX9_letterOf 37 = .ok (.iconst (-1), 1) := by decide +kernel
theorem dX9_letterOf_38 : decode cX9_letterOf 38 = .ok (.ireturn, 1) := by decide +kernel
theorem dX9_allLetters_0 : decode cX9_allLetters 0 = .ok (.iconst 0, 1) := by decide +kernel
theorem dX9_allLetters_1 : decode cX9_allLetters 1 = .ok (.istore_n 3, 1) := by decide +kernel
theorem dX9_allLetters_2 : decode cX9_allLetters 2 = .ok (.iload_n 3, 1) := by decide +kernel
theorem dX9_allLetters_3 : decode cX9_allLetters 3 = .ok (.iload_n 2, 1) := by decide +kernel
theorem dX9_allLetters_4 : decode cX9_allLetters 4 = .ok (.if_icmp .ge 23, 3) := by decide +kernel
theorem dX9_allLetters_7 : decode cX9_allLetters 7 = .ok (.lload_n 0, 1) := by decide +kernel
theorem dX9_allLetters_8 : decode cX9_allLetters 8 = .ok (.iload_n 3, 1) := by decide +kernel
theorem dX9_allLetters_9 : decode cX9_allLetters 9 = .ok (.invokestatic 189, 3) := by decide +kernel
theorem dX9_allLetters_12 : decode cX9_allLetters 12 = .ok (.invokestatic 193, 3) := by decide +kernel
theorem dX9_allLetters_15 : decode cX9_allLetters 15 = .ok (.iconst (-1), 1) := by decide +kernel
theorem dX9_allLetters_16 : decode cX9_allLetters 16 = .ok (.if_icmp .ne 5, 3) := by decide +kernel
theorem dX9_allLetters_19 : decode cX9_allLetters 19 = .ok (.iconst 0, 1) := by decide +kernel
theorem dX9_allLetters_20 : decode cX9_allLetters 20 = .ok (.ireturn, 1) := by decide +kernel
theorem dX9_allLetters_21 : decode cX9_allLetters 21 = .ok (.iinc 3 1, 3) := by decide +kernel
theorem dX9_allLetters_24 : decode cX9_allLetters 24 = .ok (.goto (-22), 3) := by decide +kernel
theorem dX9_allLetters_27 : decode cX9_allLetters 27 = .ok (.iconst 1, 1) := by decide +kernel
theorem dX9_allLetters_28 : decode cX9_allLetters 28 = .ok (.ireturn, 1) := by decide +kernel
theorem dX9_holds_0 : decode cX9_holds 0 = .ok (.lload_n 0, 1) := by decide +kernel
theorem dX9_holds_1 : decode cX9_holds 1 = .ok (.iload_n 2, 1) := by decide +kernel
theorem dX9_holds_2 : decode cX9_holds 2 = .ok (.lushr, 1) := by decide +kernel
theorem dX9_holds_3 : decode cX9_holds 3 = .ok (.lconst 1, 1) := by decide +kernel
theorem dX9_holds_4 : decode cX9_holds 4 = .ok (.land, 1) := by decide +kernel
theorem dX9_holds_5 : decode cX9_holds 5 = .ok (.lconst 0, 1) := by decide +kernel
theorem dX9_holds_6 : decode cX9_holds 6 = .ok (.lcmp, 1) := by decide +kernel
theorem dX9_holds_7 : decode cX9_holds 7 = .ok (.ifCond .eq 7, 3) := by decide +kernel
theorem dX9_holds_10 : decode cX9_holds 10 = .ok (.iconst 1, 1) := by decide +kernel
theorem dX9_holds_11 : decode cX9_holds 11 = .ok (.goto 4, 3) := by decide +kernel
theorem dX9_holds_14 : decode cX9_holds 14 = .ok (.iconst 0, 1) := by decide +kernel
theorem dX9_holds_15 : decode cX9_holds 15 = .ok (.ireturn, 1) := by decide +kernel
theorem dX10_init_0 : decode cX10_init 0 = .ok (.aload_n 0, 1) := by decide +kernel
theorem dX10_init_1 : decode cX10_init 1 = .ok (.invokespecial 1, 3) := by decide +kernel
theorem dX10_init_4 : decode cX10_init 4 = .ok (.aload_n 0, 1) := by decide +kernel
theorem dX10_init_5 : decode cX10_init 5 = .ok (.sipush 200, 3) := by decide +kernel
theorem dX10_init_8 : decode cX10_init 8 = .ok (.newarray .int, 2) := by decide +kernel
theorem dX10_init_10 : decode cX10_init 10 = .ok (.putfield 7, 3) := by decide +kernel
theorem dX10_init_13 : decode cX10_init 13 = .ok (.aload_n 0, 1) := by decide +kernel
theorem dX10_init_14 : decode cX10_init 14 = .ok (.sipush 200, 3) := by decide +kernel
theorem dX10_init_17 : decode cX10_init 17 = .ok (.newarray .int, 2) := by decide +kernel
theorem dX10_init_19 : decode cX10_init 19 = .ok (.putfield 13, 3) := by decide +kernel
theorem dX10_init_22 : decode cX10_init 22 = .ok (.aload_n 0, 1) := by decide +kernel
theorem dX10_init_23 : decode cX10_init 23 = .ok (.iconst (-1), 1) := by decide +kernel
theorem dX10_init_24 : decode cX10_init 24 = .ok (.putfield 16, 3) := by decide +kernel
theorem dX10_init_27 : decode cX10_init 27 = .ok (.aload_n 0, 1) := by decide +kernel
theorem dX10_init_28 : decode cX10_init 28 = .ok (.iconst 3, 1) := by decide +kernel
theorem dX10_init_29 : decode cX10_init 29 = .ok (.newarray .boolean, 2) := by decide +kernel
theorem dX10_init_31 : decode cX10_init 31 = .ok (.putfield 20, 3) := by decide +kernel
theorem dX10_init_34 : decode cX10_init 34 = .ok (.aload_n 0, 1) := by decide +kernel
theorem dX10_init_35 : decode cX10_init 35 = .ok (.iconst 3, 1) := by decide +kernel
theorem dX10_init_36 : decode cX10_init 36 = .ok (.newarray .int, 2) := by decide +kernel
theorem dX10_init_38 : decode cX10_init 38 = .ok (.putfield 24, 3) := by decide +kernel
theorem dX10_init_41 : decode cX10_init 41 = .ok (.aload_n 0, 1) := by decide +kernel
theorem dX10_init_42 : decode cX10_init 42 = .ok (.iconst 3, 1) := by decide +kernel
theorem dX10_init_43 : decode cX10_init 43 = .ok (.newarray .boolean, 2) := by decide +kernel
theorem dX10_init_45 : decode cX10_init 45 = .ok (.putfield 27, 3) := by decide +kernel
theorem dX10_init_48 : decode cX10_init 48 = .ok (.aload_n 0, 1) := by decide +kernel
theorem dX10_init_49 : decode cX10_init 49 = .ok (.iconst 3, 1) := by decide +kernel
theorem dX10_init_50 : decode cX10_init 50 = .ok (.newarray .long, 2) := by decide +kernel
theorem dX10_init_52 : decode cX10_init 52 = .ok (.putfield 30, 3) := by decide +kernel
theorem dX10_init_55 : decode cX10_init 55 = .ok (.aload_n 0, 1) := by decide +kernel
theorem dX10_init_56 : decode cX10_init 56 = .ok (.iconst 3, 1) := by decide +kernel
theorem dX10_init_57 : decode cX10_init 57 = .ok (.newarray .long, 2) := by decide +kernel
theorem dX10_init_59 : decode cX10_init 59 = .ok (.putfield 34, 3) := by decide +kernel
theorem dX10_init_62 : decode cX10_init 62 = .ok (.aload_n 0, 1) := by decide +kernel
theorem dX10_init_63 : decode cX10_init 63 = .ok (.sipush 180, 3) := by decide +kernel
theorem dX10_init_66 : decode cX10_init 66 = .ok (.newarray .long, 2) := by decide +kernel
theorem dX10_init_68 : decode cX10_init 68 = .ok (.putfield 37, 3) := by decide +kernel
theorem dX10_init_71 : decode cX10_init 71 = .ok (.aload_n 0, 1) := by decide +kernel
theorem dX10_init_72 : decode cX10_init 72 = .ok (.sipush 180, 3) := by decide +kernel
theorem dX10_init_75 : decode cX10_init 75 = .ok (.newarray .long, 2) := by decide +kernel
theorem dX10_init_77 : decode cX10_init 77 = .ok (.putfield 40, 3) := by decide +kernel
theorem dX10_init_80 : decode cX10_init 80 = .ok (.aload_n 0, 1) := by decide +kernel
theorem dX10_init_81 : decode cX10_init 81 = .ok (.bipush 10, 2) := by decide +kernel
theorem dX10_init_83 : decode cX10_init 83 = .ok (.newarray .boolean, 2) := by decide +kernel
theorem dX10_init_85 : decode cX10_init 85 = .ok (.putfield 43, 3) := by decide +kernel
theorem dX10_init_88 : decode cX10_init 88 = .ok (.aload_n 0, 1) := by decide +kernel
theorem dX10_init_89 : decode cX10_init 89 = .ok (.bipush 10, 2) := by decide +kernel
theorem dX10_init_91 : decode cX10_init 91 = .ok (.newarray .long, 2) := by decide +kernel
theorem dX10_init_93 : decode cX10_init 93 = .ok (.putfield 46, 3) := by decide +kernel
theorem dX10_init_96 : decode cX10_init 96 = .ok (.aload_n 0, 1) := by decide +kernel
theorem dX10_init_97 : decode cX10_init 97 = .ok (.bipush 10, 2) := by decide +kernel
theorem dX10_init_99 : decode cX10_init 99 = .ok (.newarray .long, 2) := by decide +kernel
theorem dX10_init_101 : decode cX10_init 101 = .ok (.putfield 49, 3) := by decide +kernel
theorem dX10_init_104 : decode cX10_init 104 = .ok (.aload_n 0, 1) := by decide +kernel
theorem dX10_init_105 : decode cX10_init 105 = .ok (.bipush 10, 2) := by decide +kernel
theorem dX10_init_107 : decode cX10_init 107 = .ok (.newarray .boolean, 2) := by decide +kernel
theorem dX10_init_109 : decode cX10_init 109 = .ok (.putfield 52, 3) := by decide +kernel
theorem dX10_init_112 : decode cX10_init 112 = .ok (.aload_n 0, 1) := by decide +kernel
theorem dX10_init_113 : decode cX10_init 113 = .ok (.bipush 10, 2) := by decide +kernel
theorem dX10_init_115 : decode cX10_init 115 = .ok (.newarray .int, 2) := by decide +kernel
theorem dX10_init_117 : decode cX10_init 117 = .ok (.putfield 55, 3) := by decide +kernel
theorem dX10_init_120 : decode cX10_init 120 = .ok (.aload_n 0, 1) := by decide +kernel
theorem dX10_init_121 : decode cX10_init 121 = .ok (.bipush 10, 2) := by decide +kernel
theorem dX10_init_123 : decode cX10_init 123 = .ok (.newarray .boolean, 2) := by decide +kernel
theorem dX10_init_125 : decode cX10_init 125 = .ok (.putfield 58, 3) := by decide +kernel
theorem dX10_init_128 : decode cX10_init 128 = .ok (.aload_n 0, 1) := by decide +kernel
theorem dX10_init_129 : decode cX10_init 129 = .ok (.bipush 10, 2) := by decide +kernel
theorem dX10_init_131 : decode cX10_init 131 = .ok (.newarray .long, 2) := by decide +kernel
theorem dX10_init_133 : decode cX10_init 133 = .ok (.putfield 61, 3) := by decide +kernel
theorem dX10_init_136 : decode cX10_init 136 = .ok (.aload_n 0, 1) := by decide +kernel
theorem dX10_init_137 : decode cX10_init 137 = .ok (.bipush 10, 2) := by decide +kernel
theorem dX10_init_139 : decode cX10_init 139 = .ok (.newarray .long, 2) := by decide +kernel
theorem dX10_init_141 : decode cX10_init 141 = .ok (.putfield 64, 3) := by decide +kernel
theorem dX10_init_144 : decode cX10_init 144 = .ok (.aload_n 0, 1) := by decide +kernel
theorem dX10_init_145 : decode cX10_init 145 = .ok (.bipush 10, 2) := by decide +kernel
theorem dX10_init_147 : decode cX10_init 147 = .ok (.newarray .boolean, 2) := by decide +kernel
theorem dX10_init_149 : decode cX10_init 149 = .ok (.putfield 67, 3) := by decide +kernel
theorem dX10_init_152 : decode cX10_init 152 = .ok (.aload_n 0, 1) := by decide +kernel
theorem dX10_init_153 : decode cX10_init 153 = .ok (.bipush 10, 2) := by decide +kernel
theorem dX10_init_155 : decode cX10_init 155 = .ok (.newarray .long, 2) := by decide +kernel
theorem dX10_init_157 : decode cX10_init 157 = .ok (.putfield 70, 3) := by decide +kernel
theorem dX10_init_160 : decode cX10_init 160 = .ok (.aload_n 0, 1) := by decide +kernel
theorem dX10_init_161 : decode cX10_init 161 = .ok (.bipush 10, 2) := by decide +kernel
theorem dX10_init_163 : decode cX10_init 163 = .ok (.newarray .long, 2) := by decide +kernel
theorem dX10_init_165 : decode cX10_init 165 = .ok (.putfield 73, 3) := by decide +kernel
theorem dX10_init_168 : decode cX10_init 168 = .ok (.aload_n 0, 1) := by decide +kernel
theorem dX10_init_169 : decode cX10_init 169 = .ok (.bipush 10, 2) := by decide +kernel
theorem dX10_init_171 : decode cX10_init 171 = .ok (.newarray .int, 2) := by decide +kernel
theorem dX10_init_173 : decode cX10_init 173 = .ok (.putfield 76, 3) := by decide +kernel
theorem dX10_init_176 : decode cX10_init 176 = .ok (.aload_n 0, 1) := by decide +kernel
theorem dX10_init_177 : decode cX10_init 177 = .ok (.bipush 60, 2) := by decide +kernel
theorem dX10_init_179 : decode cX10_init 179 = .ok (.newarray .long, 2) := by decide +kernel
theorem dX10_init_181 : decode cX10_init 181 = .ok (.putfield 79, 3) := by decide +kernel
theorem dX10_init_184 : decode cX10_init 184 = .ok (.aload_n 0, 1) := by decide +kernel
theorem dX10_init_185 : decode cX10_init 185 = .ok (.sipush 600, 3) := by decide +kernel
theorem dX10_init_188 : decode cX10_init 188 = .ok (.newarray .long, 2) := by decide +kernel
theorem dX10_init_190 : decode cX10_init 190 = .ok (.putfield 82, 3) := by decide +kernel
theorem dX10_init_193 : decode cX10_init 193 = .ok (.aload_n 0, 1) := by decide +kernel
theorem dX10_init_194 : decode cX10_init 194 = .ok (.sipush 21600, 3) := by decide +kernel
theorem dX10_init_197 : decode cX10_init 197 = .ok (.newarray .int, 2) := by decide +kernel
theorem dX10_init_199 : decode cX10_init 199 = .ok (.putfield 85, 3) := by decide +kernel
theorem dX10_init_202 : decode cX10_init 202 = .ok (.aload_n 0, 1) := by decide +kernel
theorem dX10_init_203 : decode cX10_init 203 = .ok (.iconst 2, 1) := by decide +kernel
theorem dX10_init_204 : decode cX10_init 204 = .ok (.newarray .int, 2) := by decide +kernel
theorem dX10_init_206 : decode cX10_init 206 = .ok (.putfield 88, 3) := by decide +kernel
theorem dX10_init_209 : decode cX10_init 209 = .ok (.aload_n 0, 1) := by decide +kernel
theorem dX10_init_210 : decode cX10_init 210 = .ok (.iconst 2, 1) := by decide +kernel
theorem dX10_init_211 : decode cX10_init 211 = .ok (.newarray .boolean, 2) := by decide +kernel
theorem dX10_init_213 : decode cX10_init 213 = .ok (.putfield 91, 3) := by decide +kernel
theorem dX10_init_216 : decode cX10_init 216 = .ok (.aload_n 0, 1) := by decide +kernel
theorem dX10_init_217 : decode cX10_init 217 = .ok (.ldc 94, 2) := by decide +kernel
theorem dX10_init_219 : decode cX10_init 219 = .ok (.newarray .boolean, 2) := by decide +kernel
theorem dX10_init_221 : decode cX10_init 221 = .ok (.putfield 95, 3) := by decide +kernel
theorem dX10_init_224 : decode cX10_init 224 = .ok (.aload_n 0, 1) := by decide +kernel
theorem dX10_init_225 : decode cX10_init 225 = .ok (.ldc 94, 2) := by decide +kernel
theorem dX10_init_227 : decode cX10_init 227 = .ok (.newarray .int, 2) := by decide +kernel
theorem dX10_init_229 : decode cX10_init 229 = .ok (.putfield 98, 3) := by decide +kernel
theorem dX10_init_232 : decode cX10_init 232 = .ok (.aload_n 0, 1) := by decide +kernel
theorem dX10_init_233 : decode cX10_init 233 = .ok (.ldc 94, 2) := by decide +kernel
theorem dX10_init_235 : decode cX10_init 235 = .ok (.newarray .int, 2) := by decide +kernel
theorem dX10_init_237 : decode cX10_init 237 = .ok (.putfield 101, 3) := by decide +kernel
theorem dX10_init_240 : decode cX10_init 240 = .ok (.aload_n 0, 1) := by decide +kernel
theorem dX10_init_241 : decode cX10_init 241 = .ok (.ldc 94, 2) := by decide +kernel
theorem dX10_init_243 : decode cX10_init 243 = .ok (.newarray .int, 2) := by decide +kernel
theorem dX10_init_245 : decode cX10_init 245 = .ok (.putfield 104, 3) := by decide +kernel
theorem dX10_init_248 : decode cX10_init 248 = .ok (.aload_n 0, 1) := by decide +kernel
theorem dX10_init_249 : decode cX10_init 249 = .ok (.ldc 94, 2) := by decide +kernel
theorem dX10_init_251 : decode cX10_init 251 = .ok (.newarray .int, 2) := by decide +kernel
theorem dX10_init_253 : decode cX10_init 253 = .ok (.putfield 107, 3) := by decide +kernel
theorem dX10_init_256 : decode cX10_init 256 = .ok (.aload_n 0, 1) := by decide +kernel
theorem dX10_init_257 : decode cX10_init 257 = .ok (.sipush 200, 3) := by decide +kernel
theorem dX10_init_260 : decode cX10_init 260 = .ok (.newarray .int, 2) := by decide +kernel
theorem dX10_init_262 : decode cX10_init 262 = .ok (.putfield 110, 3) := by decide +kernel
theorem dX10_init_265 : decode cX10_init 265 = .ok (.aload_n 0, 1) := by decide +kernel
theorem dX10_init_266 : decode cX10_init 266 = .ok (.sipush 200, 3) := by decide +kernel
theorem dX10_init_269 : decode cX10_init 269 = .ok (.newarray .int, 2) := by decide +kernel
theorem dX10_init_271 : decode cX10_init 271 = .ok (.putfield 113, 3) := by decide +kernel
theorem dX10_init_274 : decode cX10_init 274 = .ok (.return_, 1) := by decide +kernel
theorem dX10_thrown_0 : decode cX10_thrown 0 = .ok (.aload_n 0, 1) := by decide +kernel
theorem dX10_thrown_1 : decode cX10_thrown 1 = .ok (.getfield 116, 3) := by decide +kernel
theorem dX10_thrown_4 : decode cX10_thrown 4 = .ok (.ireturn, 1) := by decide +kernel
theorem dX10_letterOf_0 : decode cX10_letterOf 0 = .ok (.iload_n 0, 1) := by decide +kernel
theorem dX10_letterOf_1 : decode cX10_letterOf 1 = .ok (.bipush 97, 2) := by decide +kernel
theorem dX10_letterOf_3 : decode cX10_letterOf 3 = .ok (.if_icmp .lt 16, 3) := by decide +kernel
theorem dX10_letterOf_6 : decode cX10_letterOf 6 = .ok (.iload_n 0, 1) := by decide +kernel
theorem dX10_letterOf_7 : decode cX10_letterOf 7 = .ok (.bipush 122, 2) := by decide +kernel
theorem dX10_letterOf_9 : decode cX10_letterOf 9 = .ok (.if_icmp .gt 10, 3) := by decide +kernel
theorem dX10_letterOf_12 : decode cX10_letterOf 12 = .ok (.iload_n 0, 1) := by decide +kernel
theorem dX10_letterOf_13 : decode cX10_letterOf 13 = .ok (.bipush 97, 2) := by decide +kernel
theorem dX10_letterOf_15 : decode cX10_letterOf 15 = .ok (.isub, 1) := by decide +kernel
theorem dX10_letterOf_16 : decode cX10_letterOf 16 = .ok (.goto 26, 3) := by decide +kernel
theorem dX10_letterOf_19 : decode cX10_letterOf 19 = .ok (.iload_n 0, 1) := by decide +kernel
theorem dX10_letterOf_20 : decode cX10_letterOf 20 = .ok (.bipush 48, 2) := by decide +kernel
theorem dX10_letterOf_22 : decode cX10_letterOf 22 = .ok (.if_icmp .lt 19, 3) := by decide +kernel
theorem dX10_letterOf_25 : decode cX10_letterOf 25 = .ok (.iload_n 0, 1) := by decide +kernel
theorem dX10_letterOf_26 : decode cX10_letterOf 26 = .ok (.bipush 57, 2) := by decide +kernel
theorem dX10_letterOf_28 : decode cX10_letterOf 28 = .ok (.if_icmp .gt 13, 3) := by decide +kernel
theorem dX10_letterOf_31 : decode cX10_letterOf 31 = .ok (.iload_n 0, 1) := by decide +kernel
theorem dX10_letterOf_32 : decode cX10_letterOf 32 = .ok (.bipush 48, 2) := by decide +kernel
theorem dX10_letterOf_34 : decode cX10_letterOf 34 = .ok (.isub, 1) := by decide +kernel
theorem dX10_letterOf_35 : decode cX10_letterOf 35 = .ok (.bipush 26, 2) := by decide +kernel
theorem dX10_letterOf_37 : decode cX10_letterOf 37 = .ok (.iadd, 1) := by decide +kernel
theorem dX10_letterOf_38 : decode cX10_letterOf 38 = .ok (.goto 4, 3) := by decide +kernel
theorem dX10_letterOf_41 : decode cX10_letterOf 41 = .ok (.iconst (-1), 1) := by decide +kernel
theorem dX10_letterOf_42 : decode cX10_letterOf 42 = .ok (.ireturn, 1) := by decide +kernel
theorem dX10_hasBit_0 : decode cX10_hasBit 0 = .ok (.lload_n 0, 1) := by decide +kernel
theorem dX10_hasBit_1 : decode cX10_hasBit 1 = .ok (.iload_n 2, 1) := by decide +kernel
theorem dX10_hasBit_2 : decode cX10_hasBit 2 = .ok (.lshr, 1) := by decide +kernel
theorem dX10_hasBit_3 : decode cX10_hasBit 3 = .ok (.lconst 1, 1) := by decide +kernel
theorem dX10_hasBit_4 : decode cX10_hasBit 4 = .ok (.land, 1) := by decide +kernel
theorem dX10_hasBit_5 : decode cX10_hasBit 5 = .ok (.lconst 1, 1) := by decide +kernel
theorem dX10_hasBit_6 : decode cX10_hasBit 6 = .ok (.lcmp, 1) := by decide +kernel
theorem dX10_hasBit_7 : decode cX10_hasBit 7 = .ok (.ifCond .ne 7, 3) := by decide +kernel
theorem dX10_hasBit_10 : decode cX10_hasBit 10 = .ok (.iconst 1, 1) := by decide +kernel
theorem dX10_hasBit_11 : decode cX10_hasBit 11 = .ok (.goto 4, 3) := by decide +kernel
theorem dX10_hasBit_14 : decode cX10_hasBit 14 = .ok (.iconst 0, 1) := by decide +kernel
theorem dX10_hasBit_15 : decode cX10_hasBit 15 = .ok (.ireturn, 1) := by decide +kernel
theorem dX10_type_0 : decode cX10_type 0 = .ok (.aload_n 0, 1) := by decide +kernel
theorem dX10_type_1 : decode cX10_type 1 = .ok (.iload_n 3, 1) := by decide +kernel
theorem dX10_type_2 : decode cX10_type 2 = .ok (.iconst 1, 1) := by decide +kernel
theorem dX10_type_3 : decode cX10_type 3 = .ok (.if_icmp .lt 9, 3) := by decide +kernel
theorem dX10_type_6 : decode cX10_type 6 = .ok (.iload_n 3, 1) := by decide +kernel
theorem dX10_type_7 : decode cX10_type 7 = .ok (.bipush 8, 2) := by decide +kernel
theorem dX10_type_9 : decode cX10_type 9 = .ok (.if_icmp .le 7, 3) := by decide +kernel
theorem dX10_type_12 : decode cX10_type 12 = .ok (.iconst 1, 1) := by decide +kernel
theorem dX10_type_13 : decode cX10_type 13 = .ok (.goto 20, 3) := by decide +kernel
theorem dX10_type_16 : decode cX10_type 16 = .ok (.aload_n 0, 1) := by decide +kernel
theorem dX10_type_17 : decode cX10_type 17 = .ok (.getfield 119, 3) := by decide +kernel
theorem dX10_type_20 : decode cX10_type 20 = .ok (.iload_n 3, 1) := by decide +kernel
theorem dX10_type_21 : decode cX10_type 21 = .ok (.iadd, 1) := by decide +kernel
theorem dX10_type_22 : decode cX10_type 22 = .ok (.sipush 200, 3) := by decide +kernel
theorem dX10_type_25 : decode cX10_type 25 = .ok (.if_icmp .le 7, 3) := by decide +kernel
theorem dX10_type_28 : decode cX10_type 28 = .ok (.iconst 2, 1) := by decide +kernel
theorem dX10_type_29 : decode cX10_type 29 = .ok (.goto 4, 3) := by decide +kernel
theorem dX10_type_32 : decode cX10_type 32 = .ok (.iconst 0, 1) := by decide +kernel
theorem dX10_type_33 : decode cX10_type 33 = .ok (.putfield 116, 3) := by decide +kernel
theorem dX10_type_36 : decode cX10_type 36 = .ok (.aload_n 0, 1) := by decide +kernel
theorem dX10_type_37 : decode cX10_type 37 = .ok (.getfield 116, 3) := by decide +kernel
theorem dX10_type_40 : decode cX10_type 40 = .ok (.ifCond .le 5, 3) := by decide +kernel
theorem dX10_type_43 : decode cX10_type 43 = .ok (.iconst 0, 1) := by decide +kernel
theorem dX10_type_44 : decode cX10_type 44 = .ok (.ireturn, 1) := by decide +kernel
theorem dX10_type_45 : decode cX10_type 45 = .ok (.iconst 0, 1) := by decide +kernel
theorem dX10_type_46 : decode cX10_type 46 = .ok (.istore 4, 2) := by decide +kernel
theorem dX10_type_48 : decode cX10_type 48 = .ok (.iload 4, 2) := by decide +kernel
theorem dX10_type_50 : decode cX10_type 50 = .ok (.iload_n 3, 1) := by decide +kernel
theorem dX10_type_51 : decode cX10_type 51 = .ok (.if_icmp .ge 40, 3) := by decide +kernel
theorem dX10_type_54 : decode cX10_type 54 = .ok (.aload_n 0, 1) := by decide +kernel
theorem dX10_type_55 : decode cX10_type 55 = .ok (.getfield 7, 3) := by decide +kernel
theorem dX10_type_58 : decode cX10_type 58 = .ok (.aload_n 0, 1) := by decide +kernel
theorem dX10_type_59 : decode cX10_type 59 = .ok (.getfield 119, 3) := by decide +kernel
theorem dX10_type_62 : decode cX10_type 62 = .ok (.lload_n 1, 1) := by decide +kernel
theorem dX10_type_63 : decode cX10_type 63 = .ok (.bipush 8, 2) := by decide +kernel
theorem dX10_type_65 : decode cX10_type 65 = .ok (.iload 4, 2) := by decide +kernel
theorem dX10_type_67 : decode cX10_type 67 = .ok (.imul, 1) := by decide +kernel
theorem dX10_type_68 : decode cX10_type 68 = .ok (.lshr, 1) := by decide +kernel
theorem dX10_type_69 : decode cX10_type 69 = .ok (.ldc2_w 122, 3) := by decide +kernel
theorem dX10_type_72 : decode cX10_type 72 = .ok (.land, 1) := by decide +kernel
theorem dX10_type_73 : decode cX10_type 73 = .ok (.l2i, 1) := by decide +kernel
theorem dX10_type_74 : decode cX10_type 74 = .ok (.iastore, 1) := by decide +kernel
theorem dX10_type_75 : decode cX10_type 75 = .ok (.aload_n 0, 1) := by decide +kernel
theorem dX10_type_76 : decode cX10_type 76 = .ok (.dup, 1) := by decide +kernel
theorem dX10_type_77 : decode cX10_type 77 = .ok (.getfield 119, 3) := by decide +kernel
theorem dX10_type_80 : decode cX10_type 80 = .ok (.iconst 1, 1) := by decide +kernel
theorem dX10_type_81 : decode cX10_type 81 = .ok (.iadd, 1) := by decide +kernel
theorem dX10_type_82 : decode cX10_type 82 = .ok (.putfield 119, 3) := by decide +kernel
theorem dX10_type_85 : decode cX10_type 85 = .ok (.iinc 4 1, 3) := by decide +kernel
theorem dX10_type_88 : decode cX10_type 88 = .ok (.goto (-40), 3) := by decide +kernel
theorem dX10_type_91 : decode cX10_type 91 = .ok (.aload_n 0, 1) := by decide +kernel
theorem dX10_type_92 : decode cX10_type 92 = .ok (.getfield 119, 3) := by decide +kernel
theorem dX10_type_95 : decode cX10_type 95 = .ok (.ireturn, 1) := by decide +kernel
theorem dX10_fail_0 : decode cX10_fail 0 = .ok (.aload_n 0, 1) := by decide +kernel
theorem dX10_fail_1 : decode cX10_fail 1 = .ok (.getfield 124, 3) := by decide +kernel
theorem dX10_fail_4 : decode cX10_fail 4 = .ok (.ifCond .ne 13, 3) := by decide +kernel
theorem dX10_fail_7 : decode cX10_fail 7 = .ok (.aload_n 0, 1) := by decide +kernel
theorem dX10_fail_8 : decode cX10_fail 8 = .ok (.iload_n 1, 1) := by decide +kernel
theorem dX10_fail_9 : decode cX10_fail 9 = .ok (.putfield 124, 3) := by decide +kernel
theorem dX10_fail_12 : decode cX10_fail 12 = .ok (.aload_n 0, 1) := by decide +kernel
theorem dX10_fail_13 : decode cX10_fail 13 = .ok (.iload_n 2, 1) := by decide +kernel
theorem dX10_fail_14 : decode cX10_fail 14 = .ok (.putfield 16, 3) := by decide +kernel
theorem dX10_fail_17 : decode cX10_fail 17 = .ok (.return_, 1) := by decide +kernel
theorem dX10_here_0 : decode cX10_here 0 = .ok (.aload_n 0, 1) := by decide +kernel
theorem dX10_here_1 : decode cX10_here 1 = .ok (.getfield 127, 3) := by decide +kernel
theorem dX10_here_4 : decode cX10_here 4 = .ok (.aload_n 0, 1) := by decide +kernel
theorem dX10_here_5 : decode cX10_here 5 = .ok (.getfield 119, 3) := by decide +kernel
theorem dX10_here_8 : decode cX10_here 8 = .ok (.if_icmp .ge 15, 3) := by decide +kernel
theorem dX10_here_11 : decode cX10_here 11 = .ok (.aload_n 0, 1) := by decide +kernel
theorem dX10_here_12 : decode cX10_here 12 = .ok (.getfield 7, 3) := by decide +kernel
theorem dX10_here_15 : decode cX10_here 15 = .ok (.aload_n 0, 1) := by decide +kernel
theorem dX10_here_16 : decode cX10_here 16 = .ok (.getfield 127, 3) := by decide +kernel
theorem dX10_here_19 : decode cX10_here 19 = .ok (.iaload, 1) := by decide +kernel
theorem dX10_here_20 : decode cX10_here 20 = .ok (.goto 4, 3) := by decide +kernel
theorem dX10_here_23 : decode cX10_here 23 = .ok (.iconst (-1), 1) := by decide +kernel
theorem dX10_here_24 : decode cX10_here 24 = .ok (.ireturn, 1) := by decide +kernel
theorem dX10_failHere_0 : decode cX10_failHere 0 = .ok (.aload_n 0, 1) := by decide +kernel
theorem dX10_failHere_1 : decode cX10_failHere 1 = .ok (.aload_n 0, 1) := by decide +kernel
theorem dX10_failHere_2 : decode cX10_failHere 2 = .ok (.getfield 127, 3) := by decide +kernel
theorem dX10_failHere_5 : decode cX10_failHere 5 = .ok (.aload_n 0, 1) := by decide +kernel
theorem dX10_failHere_6 : decode cX10_failHere 6 = .ok (.getfield 119, 3) := by decide +kernel
theorem dX10_failHere_9 : decode cX10_failHere 9 = .ok (.if_icmp .ge 7, 3) := by decide +kernel
theorem dX10_failHere_12 : decode cX10_failHere 12 = .ok (.iconst 1, 1) := by decide +kernel
theorem dX10_failHere_13 : decode cX10_failHere 13 = .ok (.goto 4, 3) := by decide +kernel
theorem dX10_failHere_16 : decode cX10_failHere 16 = .ok (.iconst 2, 1) := by decide +kernel
theorem dX10_failHere_17 : decode cX10_failHere 17 = .ok (.aload_n 0, 1) := by decide +kernel
theorem dX10_failHere_18 : decode cX10_failHere 18 = .ok (.getfield 127, 3) := by decide +kernel
theorem dX10_failHere_21 : decode cX10_failHere 21 = .ok (.invokevirtual 130, 3) := by decide +kernel
theorem dX10_failHere_24 : decode cX10_failHere 24 = .ok (.return_, 1) := by decide +kernel
theorem dX10_beginRow_0 : decode cX10_beginRow 0 = .ok (.aload_n 0, 1) := by decide +kernel
theorem dX10_beginRow_1 : decode cX10_beginRow 1 = .ok (.getfield 43, 3) := by decide +kernel
theorem dX10_beginRow_4 : decode cX10_beginRow 4 = .ok (.aload_n 0, 1) := by decide +kernel
theorem dX10_beginRow_5 : decode cX10_beginRow 5 = .ok (.getfield 134, 3) := by decide +kernel
theorem dX10_beginRow_8 : decode cX10_beginRow 8 = .ok (.iconst 1, 1) := by decide +kernel
theorem dX10_beginRow_9 : decode cX10_beginRow 9 = .ok (.bastore, 1) := by decide +kernel
theorem dX10_beginRow_10 : decode cX10_beginRow 10 = .ok (.aload_n 0, 1) := by decide +kernel
theorem dX10_beginRow_11 : decode cX10_beginRow 11 = .ok (.getfield 46, 3) := by decide +kernel
theorem dX10_beginRow_14 : decode cX10_beginRow 14 = .ok (.aload_n 0, 1) := by decide +kernel
theorem dX10_beginRow_15 : decode cX10_beginRow 15 = .ok (.getfield 134, 3) := by decide +kernel
theorem dX10_beginRow_18 : decode cX10_beginRow 18 = .ok (.lconst 0, 1) := by decide +kernel
theorem dX10_beginRow_19 : decode cX10_beginRow 19 = .ok (.lastore, 1) := by decide +kernel
theorem dX10_beginRow_20 : decode cX10_beginRow 20 = .ok (.aload_n 0, 1) := by decide +kernel
theorem dX10_beginRow_21 : decode cX10_beginRow 21 = .ok (.getfield 49, 3) := by decide +kernel
theorem dX10_beginRow_24 : decode cX10_beginRow 24 = .ok (.aload_n 0, 1) := by decide +kernel
theorem dX10_beginRow_25 : decode cX10_beginRow 25 = .ok (.getfield 134, 3) := by decide +kernel
theorem dX10_beginRow_28 : decode cX10_beginRow 28 = .ok (.lconst 0, 1) := by decide +kernel
theorem dX10_beginRow_29 : decode cX10_beginRow 29 = .ok (.lastore, 1) := by decide +kernel
theorem dX10_beginRow_30 : decode cX10_beginRow 30 = .ok (.aload_n 0, 1) := by decide +kernel
theorem dX10_beginRow_31 : decode cX10_beginRow 31 = .ok (.getfield 52, 3) := by decide +kernel
theorem dX10_beginRow_34 : decode cX10_beginRow 34 = .ok (.aload_n 0, 1) := by decide +kernel
theorem dX10_beginRow_35 : decode cX10_beginRow 35 = .ok (.getfield 134, 3) := by decide +kernel
theorem dX10_beginRow_38 : decode cX10_beginRow 38 = .ok (.iconst 0, 1) := by decide +kernel
theorem dX10_beginRow_39 : decode cX10_beginRow 39 = .ok (.bastore, 1) := by decide +kernel
theorem dX10_beginRow_40 : decode cX10_beginRow 40 = .ok (.return_, 1) := by decide +kernel
theorem dX10_beginChoices_0 : decode cX10_beginChoices 0 = .ok (.aload_n 0, 1) := by decide +kernel
theorem dX10_beginChoices_1 : decode cX10_beginChoices 1 = .ok (.getfield 67, 3) := by decide +kernel
theorem dX10_beginChoices_4 : decode cX10_beginChoices 4 = .ok (.aload_n 0, 1) := by decide +kernel
theorem dX10_beginChoices_5 : decode cX10_beginChoices 5 = .ok (.getfield 134, 3) := by decide +kernel
theorem dX10_beginChoices_8 : decode cX10_beginChoices 8 = .ok (.iconst 0, 1) := by decide +kernel
theorem dX10_beginChoices_9 : decode cX10_beginChoices 9 = .ok (.bastore, 1) := by decide +kernel
theorem dX10_beginChoices_10 : decode cX10_beginChoices 10 = .ok (.aload_n 0, 1) := by decide +kernel
theorem dX10_beginChoices_11 : decode cX10_beginChoices 11 = .ok (.getfield 70, 3) := by decide +kernel
theorem dX10_beginChoices_14 : decode cX10_beginChoices 14 = .ok (.aload_n 0, 1) := by decide +kernel
theorem dX10_beginChoices_15 : decode cX10_beginChoices 15 = .ok (.getfield 134, 3) := by decide +kernel
theorem dX10_beginChoices_18 : decode cX10_beginChoices 18 = .ok (.lconst 0, 1) := by decide +kernel
theorem dX10_beginChoices_19 : decode cX10_beginChoices 19 = .ok (.lastore, 1) := by decide +kernel
theorem dX10_beginChoices_20 : decode cX10_beginChoices 20 = .ok (.aload_n 0, 1) := by decide +kernel
theorem dX10_beginChoices_21 : decode cX10_beginChoices 21 = .ok (.getfield 73, 3) := by decide +kernel
theorem dX10_beginChoices_24 : decode cX10_beginChoices 24 = .ok (.aload_n 0, 1) := by decide +kernel
theorem dX10_beginChoices_25 : decode cX10_beginChoices 25 = .ok (.getfield 134, 3) := by decide +kernel
theorem dX10_beginChoices_28 : decode cX10_beginChoices 28 = .ok (.lconst 0, 1) := by decide +kernel
theorem dX10_beginChoices_29 : decode cX10_beginChoices 29 = .ok (.lastore, 1) := by decide +kernel
theorem dX10_beginChoices_30 : decode cX10_beginChoices 30 = .ok (.aload_n 0, 1) := by decide +kernel
theorem dX10_beginChoices_31 : decode cX10_beginChoices 31 = .ok (.getfield 76, 3) := by decide +kernel
theorem dX10_beginChoices_34 : decode cX10_beginChoices 34 = .ok (.aload_n 0, 1) := by decide +kernel
theorem dX10_beginChoices_35 : decode cX10_beginChoices 35 = .ok (.getfield 134, 3) := by decide +kernel
theorem dX10_beginChoices_38 : decode cX10_beginChoices 38 = .ok (.aload_n 0, 1) := by decide +kernel
theorem dX10_beginChoices_39 : decode cX10_beginChoices 39 = .ok (.getfield 137, 3) := by decide +kernel
theorem dX10_beginChoices_42 : decode cX10_beginChoices 42 = .ok (.iastore, 1) := by decide +kernel
theorem dX10_beginChoices_43 : decode cX10_beginChoices 43 = .ok (.aload_n 0, 1) := by decide +kernel
theorem dX10_beginChoices_44 : decode cX10_beginChoices 44 = .ok (.invokevirtual 140, 3) := by decide +kernel
theorem dX10_beginChoices_47 : decode cX10_beginChoices 47 = .ok (.return_, 1) := by decide +kernel
theorem dX10_link_0 : decode cX10_link 0 = .ok (.iconst 0, 1) := by decide +kernel
theorem dX10_link_1 : decode cX10_link 1 = .ok (.istore 5, 2) := by decide +kernel
theorem dX10_link_3 : decode cX10_link 3 = .ok (.iload 5, 2) := by decide +kernel
theorem dX10_link_5 : decode cX10_link 5 = .ok (.aload_n 0, 1) := by decide +kernel
theorem dX10_link_6 : decode cX10_link 6 = .ok (.getfield 137, 3) := by decide +kernel
theorem dX10_link_9 : decode cX10_link 9 = .ok (.if_icmp .ge 40, 3) := by decide +kernel
theorem dX10_link_12 : decode cX10_link 12 = .ok (.lload_n 1, 1) := by decide +kernel
theorem dX10_link_13 : decode cX10_link 13 = .ok (.iload 5, 2) := by decide +kernel
theorem dX10_link_15 : decode cX10_link 15 = .ok (.invokestatic 143, 3) := by decide +kernel
theorem dX10_link_18 : decode cX10_link 18 = .ok (.ifCond .eq 25, 3) := by decide +kernel
theorem dX10_link_21 : decode cX10_link 21 = .ok (.aload_n 0, 1) := by decide +kernel
theorem dX10_link_22 : decode cX10_link 22 = .ok (.getfield 37, 3) := by decide +kernel
theorem dX10_link_25 : decode cX10_link 25 = .ok (.bipush 120, 2) := by decide +kernel
theorem dX10_link_27 : decode cX10_link 27 = .ok (.iload 5, 2) := by decide +kernel
theorem dX10_link_29 : decode cX10_link 29 = .ok (.iadd, 1) := by decide +kernel
theorem dX10_link_30 : decode cX10_link 30 = .ok (.aload_n 0, 1) := by decide +kernel
theorem dX10_link_31 : decode cX10_link 31 = .ok (.getfield 37, 3) := by decide +kernel
theorem dX10_link_34 : decode cX10_link 34 = .ok (.bipush 120, 2) := by decide +kernel
theorem dX10_link_36 : decode cX10_link 36 = .ok (.iload 5, 2) := by decide +kernel
theorem dX10_link_38 : decode cX10_link 38 = .ok (.iadd, 1) := by decide +kernel
theorem dX10_link_39 : decode cX10_link 39 = .ok (.laload, 1) := by decide +kernel
theorem dX10_link_40 : decode cX10_link 40 = .ok (.lload_n 3, 1) := by decide +kernel
theorem dX10_link_41 : decode cX10_link 41 = .ok (.lor, 1) := by decide +kernel
theorem dX10_link_42 : decode cX10_link 42 = .ok (.lastore, 1) := by decide +kernel
theorem dX10_link_43 : decode cX10_link 43 = .ok (.iinc 5 1, 3) := by decide +kernel
theorem dX10_link_46 : decode cX10_link 46 = .ok (.goto (-43), 3) := by decide +kernel
theorem dX10_link_49 : decode cX10_link 49 = .ok (.return_, 1) := by decide +kernel
theorem dX10_joinPart_0 : decode cX10_joinPart 0 = .ok (.aload_n 0, 1) := by decide +kernel
theorem dX10_joinPart_1 : decode cX10_joinPart 1 = .ok (.getfield 134, 3) := by decide +kernel
theorem dX10_joinPart_4 : decode cX10_joinPart 4 = .ok (.istore_n 1, 1) := by decide +kernel
theorem dX10_joinPart_5 : decode cX10_joinPart 5 = .ok (.aload_n 0, 1) := by decide +kernel
theorem dX10_joinPart_6 : decode cX10_joinPart 6 = .ok (.getfield 52, 3) := by decide +kernel
theorem dX10_joinPart_9 : decode cX10_joinPart 9 = .ok (.iload_n 1, 1) := by decide +kernel
theorem dX10_joinPart_10 : decode cX10_joinPart 10 = .ok (.baload, 1) := by decide +kernel
theorem dX10_joinPart_11 : decode cX10_joinPart 11 = .ok (.ifCond .ne 4, 3) := by decide +kernel
theorem dX10_joinPart_14 : decode cX10_joinPart 14 = .ok (.return_, 1) := by decide +kernel
theorem dX10_joinPart_15 : decode cX10_joinPart 15 = .ok (.aload_n 0, 1) := by decide +kernel
theorem dX10_joinPart_16 : decode cX10_joinPart 16 = .ok (.aload_n 0, 1) := by decide +kernel
theorem dX10_joinPart_17 : decode cX10_joinPart 17 = .ok (.getfield 49, 3) := by decide +kernel
theorem dX10_joinPart_20 : decode cX10_joinPart 20 = .ok (.iload_n 1, 1) := by decide +kernel
theorem dX10_joinPart_21 : decode cX10_joinPart 21 = .ok (.laload, 1) := by decide +kernel
theorem dX10_joinPart_22 : decode cX10_joinPart 22 = .ok (.aload_n 0, 1) := by decide +kernel
theorem dX10_joinPart_23 : decode cX10_joinPart 23 = .ok (.getfield 61, 3) := by decide +kernel
theorem dX10_joinPart_26 : decode cX10_joinPart 26 = .ok (.iload_n 1, 1) := by decide +kernel
theorem dX10_joinPart_27 : decode cX10_joinPart 27 = .ok (.laload, 1) := by decide +kernel
theorem dX10_joinPart_28 : decode cX10_joinPart 28 = .ok (.invokevirtual 147, 3) := by decide +kernel
theorem dX10_joinPart_31 : decode cX10_joinPart 31 = .ok (.aload_n 0, 1) := by decide +kernel
theorem dX10_joinPart_32 : decode cX10_joinPart 32 = .ok (.getfield 46, 3) := by decide +kernel
theorem dX10_joinPart_35 : decode cX10_joinPart 35 = .ok (.iload_n 1, 1) := by decide +kernel
theorem dX10_joinPart_36 : decode cX10_joinPart 36 = .ok (.aload_n 0, 1) := by decide +kernel
theorem dX10_joinPart_37 : decode cX10_joinPart 37 = .ok (.getfield 43, 3) := by decide +kernel
theorem dX10_joinPart_40 : decode cX10_joinPart 40 = .ok (.iload_n 1, 1) := by decide +kernel
theorem dX10_joinPart_41 : decode cX10_joinPart 41 = .ok (.baload, 1) := by decide +kernel
theorem dX10_joinPart_42 : decode cX10_joinPart 42 = .ok (.ifCond .eq 19, 3) := by decide +kernel
theorem dX10_joinPart_45 : decode cX10_joinPart 45 = .ok (.aload_n 0, 1) := by decide +kernel
theorem dX10_joinPart_46 : decode cX10_joinPart 46 = .ok (.getfield 46, 3) := by decide +kernel
theorem dX10_joinPart_49 : decode cX10_joinPart 49 = .ok (.iload_n 1, 1) := by decide +kernel
theorem dX10_joinPart_50 : decode cX10_joinPart 50 = .ok (.laload, 1) := by decide +kernel
theorem dX10_joinPart_51 : decode cX10_joinPart 51 = .ok (.aload_n 0, 1) := by decide +kernel
theorem dX10_joinPart_52 : decode cX10_joinPart 52 = .ok (.getfield 61, 3) := by decide +kernel
theorem dX10_joinPart_55 : decode cX10_joinPart 55 = .ok (.iload_n 1, 1) := by decide +kernel
theorem dX10_joinPart_56 : decode cX10_joinPart 56 = .ok (.laload, 1) := by decide +kernel
theorem dX10_joinPart_57 : decode cX10_joinPart 57 = .ok (.lor, 1) := by decide +kernel
theorem dX10_joinPart_58 : decode cX10_joinPart 58 = .ok (.goto 9, 3) := by decide +kernel
theorem dX10_joinPart_61 : decode cX10_joinPart 61 = .ok (.aload_n 0, 1) := by decide +kernel
theorem dX10_joinPart_62 : decode cX10_joinPart 62 = .ok (.getfield 46, 3) := by decide +kernel
theorem dX10_joinPart_65 : decode cX10_joinPart 65 = .ok (.iload_n 1, 1) := by decide +kernel
theorem dX10_joinPart_66 : decode cX10_joinPart 66 = .ok (.laload, 1) := by decide +kernel
theorem dX10_joinPart_67 : decode cX10_joinPart 67 = .ok (.lastore, 1) := by decide +kernel
theorem dX10_joinPart_68 : decode cX10_joinPart 68 = .ok (.aload_n 0, 1) := by decide +kernel
theorem dX10_joinPart_69 : decode cX10_joinPart 69 = .ok (.getfield 49, 3) := by decide +kernel
theorem dX10_joinPart_72 : decode cX10_joinPart 72 = .ok (.iload_n 1, 1) := by decide +kernel
theorem dX10_joinPart_73 : decode cX10_joinPart 73 = .ok (.aload_n 0, 1) := by decide +kernel
theorem dX10_joinPart_74 : decode cX10_joinPart 74 = .ok (.getfield 58, 3) := by decide +kernel
theorem dX10_joinPart_77 : decode cX10_joinPart 77 = .ok (.iload_n 1, 1) := by decide +kernel
theorem dX10_joinPart_78 : decode cX10_joinPart 78 = .ok (.baload, 1) := by decide +kernel
theorem dX10_joinPart_79 : decode cX10_joinPart 79 = .ok (.ifCond .eq 19, 3) := by decide +kernel
theorem dX10_joinPart_82 : decode cX10_joinPart 82 = .ok (.aload_n 0, 1) := by decide +kernel
theorem dX10_joinPart_83 : decode cX10_joinPart 83 = .ok (.getfield 49, 3) := by decide +kernel
theorem dX10_joinPart_86 : decode cX10_joinPart 86 = .ok (.iload_n 1, 1) := by decide +kernel
theorem dX10_joinPart_87 : decode cX10_joinPart 87 = .ok (.laload, 1) := by decide +kernel
theorem dX10_joinPart_88 : decode cX10_joinPart 88 = .ok (.aload_n 0, 1) := by decide +kernel
theorem dX10_joinPart_89 : decode cX10_joinPart 89 = .ok (.getfield 64, 3) := by decide +kernel
theorem dX10_joinPart_92 : decode cX10_joinPart 92 = .ok (.iload_n 1, 1) := by decide +kernel
theorem dX10_joinPart_93 : decode cX10_joinPart 93 = .ok (.laload, 1) := by decide +kernel
theorem dX10_joinPart_94 : decode cX10_joinPart 94 = .ok (.lor, 1) := by decide +kernel
theorem dX10_joinPart_95 : decode cX10_joinPart 95 = .ok (.goto 9, 3) := by decide +kernel
theorem dX10_joinPart_98 : decode cX10_joinPart 98 = .ok (.aload_n 0, 1) := by decide +kernel
theorem dX10_joinPart_99 : decode cX10_joinPart 99 = .ok (.getfield 64, 3) := by decide +kernel
theorem dX10_joinPart_102 : decode cX10_joinPart 102 = .ok (.iload_n 1, 1) := by decide +kernel
theorem dX10_joinPart_103 : decode cX10_joinPart 103 = .ok (.laload, 1) := by decide +kernel
theorem dX10_joinPart_104 : decode cX10_joinPart 104 = .ok (.lastore, 1) := by decide +kernel
theorem dX10_joinPart_105 : decode cX10_joinPart 105 = .ok (.aload_n 0, 1) := by decide +kernel
theorem dX10_joinPart_106 : decode cX10_joinPart 106 = .ok (.getfield 43, 3) := by decide +kernel
theorem dX10_joinPart_109 : decode cX10_joinPart 109 = .ok (.iload_n 1, 1) := by decide +kernel
theorem dX10_joinPart_110 : decode cX10_joinPart 110 = .ok (.aload_n 0, 1) := by decide +kernel
theorem dX10_joinPart_111 : decode cX10_joinPart 111 = .ok (.getfield 43, 3) := by decide +kernel
theorem dX10_joinPart_114 : decode cX10_joinPart 114 = .ok (.iload_n 1, 1) := by decide +kernel
theorem dX10_joinPart_115 : decode cX10_joinPart 115 = .ok (.baload, 1) := by decide +kernel
theorem dX10_joinPart_116 : decode cX10_joinPart 116 = .ok (.ifCond .eq 16, 3) := by decide +kernel
theorem dX10_joinPart_119 : decode cX10_joinPart 119 = .ok (.aload_n 0, 1) := by decide +kernel
theorem dX10_joinPart_120 : decode cX10_joinPart 120 = .ok (.getfield 58, 3) := by decide +kernel
theorem dX10_joinPart_123 : decode cX10_joinPart 123 = .ok (.iload_n 1, 1) := by decide +kernel
theorem dX10_joinPart_124 : decode cX10_joinPart 124 = .ok (.baload, 1) := by decide +kernel
theorem dX10_joinPart_125 : decode cX10_joinPart 125 = .ok (.ifCond .eq 7, 3) := by decide +kernel
theorem dX10_joinPart_128 : decode cX10_joinPart 128 = .ok (.iconst 1, 1) := by decide +kernel
theorem dX10_joinPart_129 : decode cX10_joinPart 129 = .ok (.goto 4, 3) := by decide +kernel
theorem dX10_joinPart_132 : decode cX10_joinPart 132 = .ok (.iconst 0, 1) := by decide +kernel
theorem dX10_joinPart_133 : decode cX10_joinPart 133 = .ok (.bastore, 1) := by decide +kernel
theorem dX10_joinPart_134 : decode cX10_joinPart 134 = .ok (.aload_n 0, 1) := by decide +kernel
theorem dX10_joinPart_135 : decode cX10_joinPart 135 = .ok (.getfield 52, 3) := by decide +kernel
theorem dX10_joinPart_138 : decode cX10_joinPart 138 = .ok (.iload_n 1, 1) := by decide +kernel
theorem dX10_joinPart_139 : decode cX10_joinPart 139 = .ok (.iconst 0, 1) := by decide +kernel
theorem dX10_joinPart_140 : decode cX10_joinPart 140 = .ok (.bastore, 1) := by decide +kernel
theorem dX10_joinPart_141 : decode cX10_joinPart 141 = .ok (.return_, 1) := by decide +kernel
theorem dX10_endRow_0 : decode cX10_endRow 0 = .ok (.aload_n 0, 1) := by decide +kernel
theorem dX10_endRow_1 : decode cX10_endRow 1 = .ok (.invokevirtual 151, 3) := by decide +kernel
theorem dX10_endRow_4 : decode cX10_endRow 4 = .ok (.aload_n 0, 1) := by decide +kernel
theorem dX10_endRow_5 : decode cX10_endRow 5 = .ok (.getfield 67, 3) := by decide +kernel
theorem dX10_endRow_8 : decode cX10_endRow 8 = .ok (.aload_n 0, 1) := by decide +kernel
theorem dX10_endRow_9 : decode cX10_endRow 9 = .ok (.getfield 134, 3) := by decide +kernel
theorem dX10_endRow_12 : decode cX10_endRow 12 = .ok (.aload_n 0, 1) := by decide +kernel
theorem dX10_endRow_13 : decode cX10_endRow 13 = .ok (.getfield 67, 3) := by decide +kernel
theorem dX10_endRow_16 : decode cX10_endRow 16 = .ok (.aload_n 0, 1) := by decide +kernel
theorem dX10_endRow_17 : decode cX10_endRow 17 = .ok (.getfield 134, 3) := by decide +kernel
theorem dX10_endRow_20 : decode cX10_endRow 20 = .ok (.baload, 1) := by decide +kernel
theorem dX10_endRow_21 : decode cX10_endRow 21 = .ok (.ifCond .ne 15, 3) := by decide +kernel
theorem dX10_endRow_24 : decode cX10_endRow 24 = .ok (.aload_n 0, 1) := by decide +kernel
theorem dX10_endRow_25 : decode cX10_endRow 25 = .ok (.getfield 43, 3) := by decide +kernel
theorem dX10_endRow_28 : decode cX10_endRow 28 = .ok (.aload_n 0, 1) := by decide +kernel
theorem dX10_endRow_29 : decode cX10_endRow 29 = .ok (.getfield 134, 3) := by decide +kernel
theorem dX10_endRow_32 : decode cX10_endRow 32 = .ok (.baload, 1) := by decide +kernel
theorem dX10_endRow_33 : decode cX10_endRow 33 = .ok (.ifCond .eq 7, 3) := by decide +kernel
theorem dX10_endRow_36 : decode cX10_endRow 36 = .ok (.iconst 1, 1) := by decide +kernel
theorem dX10_endRow_37 : decode cX10_endRow 37 = .ok (.goto 4, 3) := by decide +kernel
theorem dX10_endRow_40 : decode cX10_endRow 40 = .ok (.iconst 0, 1) := by decide +kernel
theorem dX10_endRow_41 : decode cX10_endRow 41 = .ok (.bastore, 1) := by decide +kernel
theorem dX10_endRow_42 : decode cX10_endRow 42 = .ok (.aload_n 0, 1) := by decide +kernel
theorem dX10_endRow_43 : decode cX10_endRow 43 = .ok (.getfield 70, 3) := by decide +kernel
theorem dX10_endRow_46 : decode cX10_endRow 46 = .ok (.aload_n 0, 1) := by decide +kernel
theorem dX10_endRow_47 : decode cX10_endRow 47 = .ok (.getfield 134, 3) := by decide +kernel
theorem dX10_endRow_50 : decode cX10_endRow 50 = .ok (.aload_n 0, 1) := by decide +kernel
theorem dX10_endRow_51 : decode cX10_endRow 51 = .ok (.getfield 70, 3) := by decide +kernel
theorem dX10_endRow_54 : decode cX10_endRow 54 = .ok (.aload_n 0, 1) := by decide +kernel
theorem dX10_endRow_55 : decode cX10_endRow 55 = .ok (.getfield 134, 3) := by decide +kernel
theorem dX10_endRow_58 : decode cX10_endRow 58 = .ok (.laload, 1) := by decide +kernel
theorem dX10_endRow_59 : decode cX10_endRow 59 = .ok (.aload_n 0, 1) := by decide +kernel
theorem dX10_endRow_60 : decode cX10_endRow 60 = .ok (.getfield 46, 3) := by decide +kernel
theorem dX10_endRow_63 : decode cX10_endRow 63 = .ok (.aload_n 0, 1) := by decide +kernel
theorem dX10_endRow_64 : decode cX10_endRow 64 = .ok (.getfield 134, 3) := by decide +kernel
theorem dX10_endRow_67 : decode cX10_endRow 67 = .ok (.laload, 1) := by decide +kernel
theorem dX10_endRow_68 : decode cX10_endRow 68 = .ok (.lor, 1) := by decide +kernel
theorem dX10_endRow_69 : decode cX10_endRow 69 = .ok (.lastore, 1) := by decide +kernel
theorem dX10_endRow_70 : decode cX10_endRow 70 = .ok (.aload_n 0, 1) := by decide +kernel
theorem dX10_endRow_71 : decode cX10_endRow 71 = .ok (.getfield 73, 3) := by decide +kernel
theorem dX10_endRow_74 : decode cX10_endRow 74 = .ok (.aload_n 0, 1) := by decide +kernel
theorem dX10_endRow_75 : decode cX10_endRow 75 = .ok (.getfield 134, 3) := by decide +kernel
theorem dX10_endRow_78 : decode cX10_endRow 78 = .ok (.aload_n 0, 1) := by decide +kernel
theorem dX10_endRow_79 : decode cX10_endRow 79 = .ok (.getfield 73, 3) := by decide +kernel
theorem dX10_endRow_82 : decode cX10_endRow 82 = .ok (.aload_n 0, 1) := by decide +kernel
theorem dX10_endRow_83 : decode cX10_endRow 83 = .ok (.getfield 134, 3) := by decide +kernel
theorem dX10_endRow_86 : decode cX10_endRow 86 = .ok (.laload, 1) := by decide +kernel
theorem dX10_endRow_87 : decode cX10_endRow 87 = .ok (.aload_n 0, 1) := by decide +kernel
theorem dX10_endRow_88 : decode cX10_endRow 88 = .ok (.getfield 49, 3) := by decide +kernel
theorem dX10_endRow_91 : decode cX10_endRow 91 = .ok (.aload_n 0, 1) := by decide +kernel
theorem dX10_endRow_92 : decode cX10_endRow 92 = .ok (.getfield 134, 3) := by decide +kernel
theorem dX10_endRow_95 : decode cX10_endRow 95 = .ok (.laload, 1) := by decide +kernel
theorem dX10_endRow_96 : decode cX10_endRow 96 = .ok (.lor, 1) := by decide +kernel
theorem dX10_endRow_97 : decode cX10_endRow 97 = .ok (.lastore, 1) := by decide +kernel
theorem dX10_endRow_98 : decode cX10_endRow 98 = .ok (.return_, 1) := by decide +kernel
theorem dX10_setPart_0 : decode cX10_setPart 0 = .ok (.aload_n 0, 1) := by decide +kernel
theorem dX10_setPart_1 : decode cX10_setPart 1 = .ok (.getfield 52, 3) := by decide +kernel
theorem dX10_setPart_4 : decode cX10_setPart 4 = .ok (.aload_n 0, 1) := by decide +kernel
theorem dX10_setPart_5 : decode cX10_setPart 5 = .ok (.getfield 134, 3) := by decide +kernel
theorem dX10_setPart_8 : decode cX10_setPart 8 = .ok (.iconst 1, 1) := by decide +kernel
theorem dX10_setPart_9 : decode cX10_setPart 9 = .ok (.bastore, 1) := by decide +kernel
theorem dX10_setPart_10 : decode cX10_setPart 10 = .ok (.aload_n 0, 1) := by decide +kernel
theorem dX10_setPart_11 : decode cX10_setPart 11 = .ok (.getfield 55, 3) := by decide +kernel
theorem dX10_setPart_14 : decode cX10_setPart 14 = .ok (.aload_n 0, 1) := by decide +kernel
theorem dX10_setPart_15 : decode cX10_setPart 15 = .ok (.getfield 134, 3) := by decide +kernel
theorem dX10_setPart_18 : decode cX10_setPart 18 = .ok (.iload_n 1, 1) := by decide +kernel
theorem dX10_setPart_19 : decode cX10_setPart 19 = .ok (.iastore, 1) := by decide +kernel
theorem dX10_setPart_20 : decode cX10_setPart 20 = .ok (.aload_n 0, 1) := by decide +kernel
theorem dX10_setPart_21 : decode cX10_setPart 21 = .ok (.getfield 58, 3) := by decide +kernel
theorem dX10_setPart_24 : decode cX10_setPart 24 = .ok (.aload_n 0, 1) := by decide +kernel
theorem dX10_setPart_25 : decode cX10_setPart 25 = .ok (.getfield 134, 3) := by decide +kernel
theorem dX10_setPart_28 : decode cX10_setPart 28 = .ok (.iload_n 2, 1) := by decide +kernel
theorem dX10_setPart_29 : decode cX10_setPart 29 = .ok (.bastore, 1) := by decide +kernel
theorem dX10_setPart_30 : decode cX10_setPart 30 = .ok (.aload_n 0, 1) := by decide +kernel
theorem dX10_setPart_31 : decode cX10_setPart 31 = .ok (.getfield 61, 3) := by decide +kernel
theorem dX10_setPart_34 : decode cX10_setPart 34 = .ok (.aload_n 0, 1) := by decide +kernel
theorem dX10_setPart_35 : decode cX10_setPart 35 = .ok (.getfield 134, 3) := by decide +kernel
theorem dX10_setPart_38 : decode cX10_setPart 38 = .ok (.lload_n 3, 1) := by decide +kernel
theorem dX10_setPart_39 : decode cX10_setPart 39 = .ok (.lastore, 1) := by decide +kernel
theorem dX10_setPart_40 : decode cX10_setPart 40 = .ok (.aload_n 0, 1) := by decide +kernel
theorem dX10_setPart_41 : decode cX10_setPart 41 = .ok (.getfield 64, 3) := by decide +kernel
theorem dX10_setPart_44 : decode cX10_setPart 44 = .ok (.aload_n 0, 1) := by decide +kernel
theorem dX10_setPart_45 : decode cX10_setPart 45 = .ok (.getfield 134, 3) := by decide +kernel
theorem dX10_setPart_48 : decode cX10_setPart 48 = .ok (.lload 5, 2) := by decide +kernel
theorem dX10_setPart_50 : decode cX10_setPart 50 = .ok (.lastore, 1) := by decide +kernel
theorem dX10_setPart_51 : decode cX10_setPart 51 = .ok (.return_, 1) := by decide +kernel
theorem dX10_atom_0 : decode cX10_atom 0 = .ok (.aload_n 0, 1) := by decide +kernel
theorem dX10_atom_1 : decode cX10_atom 1 = .ok (.getfield 137, 3) := by decide +kernel
theorem dX10_atom_4 : decode cX10_atom 4 = .ok (.bipush 60, 2) := by decide +kernel
theorem dX10_atom_6 : decode cX10_atom 6 = .ok (.if_icmp .ne 10, 3) := by decide +kernel
theorem dX10_atom_9 : decode cX10_atom 9 = .ok (.aload_n 0, 1) := by decide +kernel
theorem dX10_atom_10 : decode cX10_atom 10 = .ok (.iconst 4, 1) := by decide +kernel
theorem dX10_atom_11 : decode cX10_atom 11 = .ok (.iload_n 3, 1) := by decide +kernel
theorem dX10_atom_12 : decode cX10_atom 12 = .ok (.invokevirtual 130, 3) := by decide +kernel
theorem dX10_atom_15 : decode cX10_atom 15 = .ok (.return_, 1) := by decide +kernel
theorem dX10_atom_16 : decode cX10_atom 16 = .ok (.aload_n 0, 1) := by decide +kernel
theorem dX10_atom_17 : decode cX10_atom 17 = .ok (.invokevirtual 151, 3) := by decide +kernel
theorem dX10_atom_20 : decode cX10_atom 20 = .ok (.aload_n 0, 1) := by decide +kernel
theorem dX10_atom_21 : decode cX10_atom 21 = .ok (.getfield 40, 3) := by decide +kernel
theorem dX10_atom_24 : decode cX10_atom 24 = .ok (.bipush 120, 2) := by decide +kernel
theorem dX10_atom_26 : decode cX10_atom 26 = .ok (.aload_n 0, 1) := by decide +kernel
theorem dX10_atom_27 : decode cX10_atom 27 = .ok (.getfield 137, 3) := by decide +kernel
theorem dX10_atom_30 : decode cX10_atom 30 = .ok (.iadd, 1) := by decide +kernel
theorem dX10_atom_31 : decode cX10_atom 31 = .ok (.lload_n 1, 1) := by decide +kernel
theorem dX10_atom_32 : decode cX10_atom 32 = .ok (.lastore, 1) := by decide +kernel
theorem dX10_atom_33 : decode cX10_atom 33 = .ok (.aload_n 0, 1) := by decide +kernel
theorem dX10_atom_34 : decode cX10_atom 34 = .ok (.getfield 37, 3) := by decide +kernel
theorem dX10_atom_37 : decode cX10_atom 37 = .ok (.bipush 120, 2) := by decide +kernel
theorem dX10_atom_39 : decode cX10_atom 39 = .ok (.aload_n 0, 1) := by decide +kernel
theorem dX10_atom_40 : decode cX10_atom 40 = .ok (.getfield 137, 3) := by decide +kernel
theorem dX10_atom_43 : decode cX10_atom 43 = .ok (.iadd, 1) := by decide +kernel
theorem dX10_atom_44 : decode cX10_atom 44 = .ok (.lconst 0, 1) := by decide +kernel
theorem dX10_atom_45 : decode cX10_atom 45 = .ok (.lastore, 1) := by decide +kernel
theorem dX10_atom_46 : decode cX10_atom 46 = .ok (.aload_n 0, 1) := by decide +kernel
theorem dX10_atom_47 : decode cX10_atom 47 = .ok (.dup, 1) := by decide +kernel
theorem dX10_atom_48 : decode cX10_atom 48 = .ok (.getfield 137, 3) := by decide +kernel
theorem dX10_atom_51 : decode cX10_atom 51 = .ok (.iconst 1, 1) := by decide +kernel
theorem dX10_atom_52 : decode cX10_atom 52 = .ok (.iadd, 1) := by decide +kernel
theorem dX10_atom_53 : decode cX10_atom 53 = .ok (.putfield 137, 3) := by decide +kernel
theorem dX10_atom_56 : decode cX10_atom 56 = .ok (.aload_n 0, 1) := by decide +kernel
theorem dX10_atom_57 : decode cX10_atom 57 = .ok (.aload_n 0, 1) := by decide +kernel
theorem dX10_atom_58 : decode cX10_atom 58 = .ok (.getfield 137, 3) := by decide +kernel
theorem dX10_atom_61 : decode cX10_atom 61 = .ok (.iconst 1, 1) := by decide +kernel
theorem dX10_atom_62 : decode cX10_atom 62 = .ok (.isub, 1) := by decide +kernel
theorem dX10_atom_63 : decode cX10_atom 63 = .ok (.iconst 0, 1) := by decide +kernel
theorem dX10_atom_64 : decode cX10_atom 64 = .ok (.lconst 1, 1) := by decide +kernel
theorem dX10_atom_65 : decode cX10_atom 65 = .ok (.aload_n 0, 1) := by decide +kernel
theorem dX10_atom_66 : decode cX10_atom 66 = .ok (.getfield 137, 3) := by decide +kernel
theorem dX10_atom_69 : decode cX10_atom 69 = .ok (.iconst 1, 1) := by decide +kernel
theorem dX10_atom_70 : decode cX10_atom 70 = .ok (.isub, 1) := by decide +kernel
theorem dX10_atom_71 : decode cX10_atom 71 = .ok (.lshl, 1) := by decide +kernel
theorem dX10_atom_72 : decode cX10_atom 72 = .ok (.lconst 1, 1) := by decide +kernel
theorem dX10_atom_73 : decode cX10_atom 73 = .ok (.aload_n 0, 1) := by decide +kernel
theorem dX10_atom_74 : decode cX10_atom 74 = .ok (.getfield 137, 3) := by decide +kernel
theorem dX10_atom_77 : decode cX10_atom 77 = .ok (.iconst 1, 1) := by decide +kernel
theorem dX10_atom_78 : decode cX10_atom 78 = .ok (.isub, 1) := by decide +kernel
theorem dX10_atom_79 : decode cX10_atom 79 = .ok (.lshl, 1) := by decide +kernel
theorem dX10_atom_80 : decode cX10_atom 80 = .ok (.invokevirtual 154, 3) := by decide +kernel
theorem dX10_atom_83 : decode cX10_atom 83 = .ok (.return_, 1) := by decide +kernel
theorem dX10_upTo_0 : decode cX10_upTo 0 = .ok (.lconst 0, 1) := by decide +kernel
theorem dX10_upTo_1 : decode cX10_upTo 1 = .ok (.lstore_n 2, 1) := by decide +kernel
theorem dX10_upTo_2 : decode cX10_upTo 2 = .ok (.iload_n 0, 1) := by decide +kernel
theorem dX10_upTo_3 : decode cX10_upTo 3 = .ok (.istore 4, 2) := by decide +kernel
theorem dX10_upTo_5 : decode cX10_upTo 5 = .ok (.iload 4, 2) := by decide +kernel
theorem dX10_upTo_7 : decode cX10_upTo 7 = .ok (.iload_n 1, 1) := by decide +kernel
theorem dX10_upTo_8 : decode cX10_upTo 8 = .ok (.if_icmp .gt 16, 3) := by decide +kernel
theorem dX10_upTo_11 : decode cX10_upTo 11 = .ok (.lload_n 2, 1) := by decide +kernel
theorem dX10_upTo_12 : decode cX10_upTo 12 = .ok (.lconst 1, 1) := by decide +kernel
theorem dX10_upTo_13 : decode cX10_upTo 13 = .ok (.iload 4, 2) := by decide +kernel
theorem dX10_upTo_15 : decode cX10_upTo 15 = .ok (.lshl, 1) := by decide +kernel
theorem dX10_upTo_16 : decode cX10_upTo 16 = .ok (.lor, 1) := by decide +kernel
theorem dX10_upTo_17 : decode cX10_upTo 17 = .ok (.lstore_n 2, 1) := by decide +kernel
theorem dX10_upTo_18 : decode cX10_upTo 18 = .ok (.iinc 4 1, 3) := by decide +kernel
theorem dX10_upTo_21 : decode cX10_upTo 21 = .ok (.goto (-16), 3) := by decide +kernel
theorem dX10_upTo_24 : decode cX10_upTo 24 = .ok (.lload_n 2, 1) := by decide +kernel
theorem dX10_upTo_25 : decode cX10_upTo 25 = .ok (.lreturn, 1) := by decide +kernel
theorem dX10_readSet_0 : decode cX10_readSet 0 = .ok (.aload_n 0, 1) := by decide +kernel
theorem dX10_readSet_1 : decode cX10_readSet 1 = .ok (.getfield 127, 3) := by decide +kernel
theorem dX10_readSet_4 : decode cX10_readSet 4 = .ok (.iconst 1, 1) := by decide +kernel
theorem dX10_readSet_5 : decode cX10_readSet 5 = .ok (.isub, 1) := by decide +kernel
theorem dX10_readSet_6 : decode cX10_readSet 6 = .ok (.istore_n 1, 1) := by decide +kernel
theorem dX10_readSet_7 : decode cX10_readSet 7 = .ok (.aload_n 0, 1) := by decide +kernel
theorem dX10_readSet_8 : decode cX10_readSet 8 = .ok (.invokevirtual 158, 3) := by decide +kernel
theorem dX10_readSet_11 : decode cX10_readSet 11 = .ok (.bipush 94, 2) := by decide +kernel
theorem dX10_readSet_13 : decode cX10_readSet 13 = .ok (.if_icmp .ne 7, 3) := by decide +kernel
theorem dX10_readSet_16 : decode cX10_readSet 16 = .ok (.iconst 1, 1) := by decide +kernel
theorem dX10_readSet_17 : decode cX10_readSet 17 = .ok (.goto 4, 3) := by decide +kernel
theorem dX10_readSet_20 : decode cX10_readSet 20 = .ok (.iconst 0, 1) := by decide +kernel
theorem dX10_readSet_21 : decode cX10_readSet 21 = .ok (.istore_n 2, 1) := by decide +kernel
theorem dX10_readSet_22 : decode cX10_readSet 22 = .ok (.aload_n 0, 1) := by decide +kernel
theorem dX10_readSet_23 : decode cX10_readSet 23 = .ok (.iload_n 2, 1) := by decide +kernel
theorem dX10_readSet_24 : decode cX10_readSet 24 = .ok (.ifCond .eq 12, 3) := by decide +kernel
theorem dX10_readSet_27 : decode cX10_readSet 27 = .ok (.aload_n 0, 1) := by decide +kernel
theorem dX10_readSet_28 : decode cX10_readSet 28 = .ok (.getfield 127, 3) := by decide +kernel
theorem dX10_readSet_31 : decode cX10_readSet 31 = .ok (.iconst 1, 1) := by decide +kernel
theorem dX10_readSet_32 : decode cX10_readSet 32 = .ok (.iadd, 1) := by decide +kernel
theorem dX10_readSet_33 : decode cX10_readSet 33 = .ok (.goto 7, 3) := by decide +kernel
theorem dX10_readSet_36 : decode cX10_readSet 36 = .ok (.aload_n 0, 1) := by decide +kernel
theorem dX10_readSet_37 : decode cX10_readSet 37 = .ok (.getfield 127, 3) := by decide +kernel
theorem dX10_readSet_40 : decode cX10_readSet 40 = .ok (.putfield 127, 3) := by decide +kernel
theorem dX10_readSet_43 : decode cX10_readSet 43 = .ok (.lconst 0, 1) := by decide +kernel
theorem dX10_readSet_44 : decode cX10_readSet 44 = .ok (.lstore_n 3, 1) := by decide +kernel
theorem dX10_readSet_45 : decode cX10_readSet 45 = .ok (.iconst 0, 1) := by decide +kernel
theorem dX10_readSet_46 : decode cX10_readSet 46 = .ok (.istore 5, 2) := by decide +kernel
theorem dX10_readSet_48 : decode cX10_readSet 48 = .ok (.iconst 1, 1) := by decide +kernel
theorem dX10_readSet_49 : decode cX10_readSet 49 = .ok (.istore 6, 2) := by decide +kernel
theorem dX10_readSet_51 : decode cX10_readSet 51 = .ok (.iload 6, 2) := by decide +kernel
theorem dX10_readSet_53 : decode cX10_readSet 53 = .ok (.ifCond .eq 173, 3) := by decide +kernel
theorem dX10_readSet_56 : decode cX10_readSet 56 = .ok (.aload_n 0, 1) := by decide +kernel
theorem dX10_readSet_57 : decode cX10_readSet 57 = .ok (.getfield 124, 3) := by decide +kernel
theorem dX10_readSet_60 : decode cX10_readSet 60 = .ok (.ifCond .ne 166, 3) := by decide +kernel
theorem dX10_readSet_63 : decode cX10_readSet 63 = .ok (.aload_n 0, 1) := by decide +kernel
theorem dX10_readSet_64 : decode cX10_readSet 64 = .ok (.invokevirtual 158, 3) := by decide +kernel
theorem dX10_readSet_67 : decode cX10_readSet 67 = .ok (.invokestatic 162, 3) := by decide +kernel
theorem dX10_readSet_70 : decode cX10_readSet 70 = .ok (.istore 7, 2) := by decide +kernel
theorem dX10_readSet_72 : decode cX10_readSet 72 = .ok (.iload 7, 2) := by decide +kernel
theorem dX10_readSet_74 : decode cX10_readSet 74 = .ok (.ifCond .lt 115, 3) := by decide +kernel
theorem dX10_readSet_77 : decode cX10_readSet 77 = .ok (.aload_n 0, 1) := by decide +kernel
theorem dX10_readSet_78 : decode cX10_readSet 78 = .ok (.getfield 127, 3) := by decide +kernel
theorem dX10_readSet_81 : decode cX10_readSet 81 = .ok (.istore 8, 2) := by decide +kernel
theorem dX10_readSet_83 : decode cX10_readSet 83 = .ok (.aload_n 0, 1) := by decide +kernel
theorem dX10_readSet_84 : decode cX10_readSet 84 = .ok (.dup, 1) := by decide +kernel
theorem dX10_readSet_85 : decode cX10_readSet 85 = .ok (.getfield 127, 3) := by decide +kernel
theorem dX10_readSet_88 : decode cX10_readSet 88 = .ok (.iconst 1, 1) := by decide +kernel
theorem dX10_readSet_89 : decode cX10_readSet 89 = .ok (.iadd, 1) := by decide +kernel
theorem dX10_readSet_90 : decode cX10_readSet 90 = .ok (.putfield 127, 3) := by decide +kernel
theorem dX10_readSet_93 : decode cX10_readSet 93 = .ok (.iload 7, 2) := by decide +kernel
theorem dX10_readSet_95 : decode cX10_readSet 95 = .ok (.istore 9, 2) := by decide +kernel
theorem dX10_readSet_97 : decode cX10_readSet 97 = .ok (.aload_n 0, 1) := by decide +kernel
theorem dX10_readSet_98 : decode cX10_readSet 98 = .ok (.invokevirtual 158, 3) := by decide +kernel
theorem dX10_readSet_101 : decode cX10_readSet 101 = .ok (.bipush 45, 2) := by decide +kernel
theorem dX10_readSet_103 : decode cX10_readSet 103 = .ok (.if_icmp .ne 59, 3) := by decide +kernel
theorem dX10_readSet_106 : decode cX10_readSet 106 = .ok (.aload_n 0, 1) := by decide +kernel
theorem dX10_readSet_107 : decode cX10_readSet 107 = .ok (.dup, 1) := by decide +kernel
theorem dX10_readSet_108 : decode cX10_readSet 108 = .ok (.getfield 127, 3) := by decide +kernel
theorem dX10_readSet_111 : decode cX10_readSet 111 = .ok (.iconst 1, 1) := by decide +kernel
theorem dX10_readSet_112 : decode cX10_readSet 112 = .ok (.iadd, 1) := by decide +kernel
theorem dX10_readSet_113 : decode cX10_readSet 113 = .ok (.putfield 127, 3) := by decide +kernel
theorem dX10_readSet_116 : decode cX10_readSet 116 = .ok (.aload_n 0, 1) := by decide +kernel
theorem dX10_readSet_117 : decode cX10_readSet 117 = .ok (.invokevirtual 158, 3) := by decide +kernel
theorem dX10_readSet_120 : decode cX10_readSet 120 = .ok (.invokestatic 162, 3) := by decide +kernel
theorem dX10_readSet_123 : decode cX10_readSet 123 = .ok (.istore 9, 2) := by decide +kernel
theorem dX10_readSet_125 : decode cX10_readSet 125 = .ok (.iload 9, 2) := by decide +kernel
theorem dX10_readSet_127 : decode cX10_readSet 127 = .ok (.ifCond .ge 10, 3) := by decide +kernel
theorem dX10_readSet_130 : decode cX10_readSet 130 = .ok (.aload_n 0, 1) := by decide +kernel
theorem dX10_readSet_131 : decode cX10_readSet 131 = .ok (.invokevirtual 166, 3) := by decide +kernel
theorem dX10_readSet_134 : decode cX10_readSet 134 = .ok (.goto 18, 3) := by decide +kernel
theorem dX10_readSet_137 : decode cX10_readSet 137 = .ok (.iload 9, 2) := by decide +kernel
theorem dX10_readSet_139 : decode cX10_readSet 139 = .ok (.iload 7, 2) := by decide +kernel
theorem dX10_readSet_141 : decode cX10_readSet 141 = .ok (.if_icmp .ge 11, 3) := by decide +kernel
theorem dX10_readSet_144 : decode cX10_readSet 144 = .ok (.aload_n 0, 1) := by decide +kernel
theorem dX10_readSet_145 : decode cX10_readSet 145 = .ok (.bipush 6, 2) := by decide +kernel
theorem dX10_readSet_147 : decode cX10_readSet 147 = .ok (.iload 8, 2) := by decide +kernel
theorem dX10_readSet_149 : decode cX10_readSet 149 = .ok (.invokevirtual 130, 3) := by decide +kernel
theorem dX10_readSet_152 : decode cX10_readSet 152 = .ok (.aload_n 0, 1) := by decide +kernel
theorem dX10_readSet_153 : decode cX10_readSet 153 = .ok (.dup, 1) := by decide +kernel
theorem dX10_readSet_154 : decode cX10_readSet 154 = .ok (.getfield 127, 3) := by decide +kernel
theorem dX10_readSet_157 : decode cX10_readSet 157 = .ok (.iconst 1, 1) := by decide +kernel
theorem dX10_readSet_158 : decode cX10_readSet 158 = .ok (.iadd, 1) := by decide +kernel
theorem dX10_readSet_159 : decode cX10_readSet 159 = .ok (.putfield 127, 3) := by decide +kernel
theorem dX10_readSet_162 : decode cX10_readSet 162 = .ok (.aload_n 0, 1) := by decide +kernel
theorem dX10_readSet_163 : decode cX10_readSet 163 = .ok (.getfield 124, 3) := by decide +kernel
theorem dX10_readSet_166 : decode cX10_readSet 166 = .ok (.ifCond .ne 15, 3) := by decide +kernel
theorem dX10_readSet_169 : decode cX10_readSet 169 = .ok (.lload_n 3, 1) := by decide +kernel
theorem dX10_readSet_170 : decode cX10_readSet 170 = .ok (.iload 7, 2) := by decide +kernel
theorem dX10_readSet_172 : decode cX10_readSet 172 = .ok (.iload 9, 2) := by decide +kernel
theorem dX10_readSet_174 : decode cX10_readSet 174 = .ok (.invokestatic 169, 3) := by decide +kernel
theorem dX10_readSet_177 : decode cX10_readSet 177 = .ok (.lor, 1) := by decide +kernel
theorem dX10_readSet_178 : decode cX10_readSet 178 = .ok (.goto 4, 3) := by decide +kernel
theorem dX10_readSet_181 : decode cX10_readSet 181 = .ok (.lload_n 3, 1) := by decide +kernel
theorem dX10_readSet_182 : decode cX10_readSet 182 = .ok (.lstore_n 3, 1) := by decide +kernel
theorem dX10_readSet_183 : decode cX10_readSet 183 = .ok (.iconst 1, 1) := by decide +kernel
theorem dX10_readSet_184 : decode cX10_readSet 184 = .ok (.istore 5, 2) := by decide +kernel
theorem dX10_readSet_186 : decode cX10_readSet 186 = .ok (.goto 37, 3) := by decide +kernel
theorem dX10_readSet_189 : decode cX10_readSet 189 = .ok (.aload_n 0, 1) := by decide +kernel
theorem dX10_readSet_190 : decode cX10_readSet 190 = .ok (.invokevirtual 158, 3) := by decide +kernel
theorem dX10_readSet_193 : decode cX10_readSet 193 = .ok (.bipush 93, 2) := by decide +kernel
theorem dX10_readSet_195 : decode cX10_readSet 195 = .ok (.if_icmp .ne 24, 3) := by decide +kernel
theorem dX10_readSet_198 : decode cX10_readSet 198 = .ok (.iload 5, 2) := by decide +kernel
theorem dX10_readSet_200 : decode cX10_readSet 200 = .ok (.ifCond .eq 19, 3) := by decide +kernel
theorem dX10_readSet_203 : decode cX10_readSet 203 = .ok (.aload_n 0, 1) := by decide +kernel
theorem dX10_readSet_204 : decode cX10_readSet 204 = .ok (.dup, 1) := by decide +kernel
theorem dX10_readSet_205 : decode cX10_readSet 205 = .ok (.getfield 127, 3) := by decide +kernel
theorem dX10_readSet_208 : decode cX10_readSet 208 = .ok (.iconst 1, 1) := by decide +kernel
theorem dX10_readSet_209 : decode cX10_readSet 209 = .ok (.iadd, 1) := by decide +kernel
theorem dX10_readSet_210 : decode cX10_readSet 210 = .ok (.putfield 127, 3) := by decide +kernel
theorem dX10_readSet_213 : decode cX10_readSet 213 = .ok (.iconst 0, 1) := by decide +kernel
theorem dX10_readSet_214 : decode cX10_readSet 214 = .ok (.istore 6, 2) := by decide +kernel
theorem dX10_readSet_216 : decode cX10_readSet 216 = .ok (.goto 7, 3) := by decide +kernel
theorem dX10_readSet_219 : decode cX10_readSet 219 = .ok (.aload_n 0, 1) := by decide +kernel
theorem dX10_readSet_220 : decode cX10_readSet 220 = .ok (.invokevirtual 166, 3) := by decide +kernel
theorem dX10_readSet_223 : decode cX10_readSet 223 = .ok (.goto (-172), 3) := by decide +kernel
theorem dX10_readSet_226 : decode cX10_readSet 226 = .ok (.aload_n 0, 1) := by decide +kernel
theorem dX10_readSet_227 : decode cX10_readSet 227 = .ok (.getfield 124, 3) := by decide +kernel
theorem dX10_readSet_230 : decode cX10_readSet 230 = .ok (.ifCond .ne 28, 3) := by decide +kernel
theorem dX10_readSet_233 : decode cX10_readSet 233 = .ok (.aload_n 0, 1) := by decide +kernel
theorem dX10_readSet_234 : decode cX10_readSet 234 = .ok (.iload_n 2, 1) := by decide +kernel
theorem dX10_readSet_235 : decode cX10_readSet 235 = .ok (.ifCond .eq 18, 3) := by decide +kernel
theorem dX10_readSet_238 : decode cX10_readSet 238 = .ok (.iconst 0, 1) := by decide +kernel
theorem dX10_readSet_239 : decode cX10_readSet 239 = .ok (.bipush 35, 2) := by decide +kernel
theorem dX10_readSet_241 : decode cX10_readSet 241 = .ok (.invokestatic 169, 3) := by decide +kernel
theorem dX10_readSet_244 : decode cX10_readSet 244 = .ok (.lload_n 3, 1) := by decide +kernel
theorem dX10_readSet_245 : decode cX10_readSet 245 = .ok (.ldc2_w 173, 3) := by decide +kernel
theorem dX10_readSet_248 : decode cX10_readSet 248 = .ok (.lxor, 1) := by decide +kernel
theorem dX10_readSet_249 : decode cX10_readSet 249 = .ok (.land, 1) := by decide +kernel
theorem dX10_readSet_250 : decode cX10_readSet 250 = .ok (.goto 4, 3) := by decide +kernel
theorem dX10_readSet_253 : decode cX10_readSet 253 = .ok (.lload_n 3, 1) := by decide +kernel
theorem dX10_readSet_254 : decode cX10_readSet 254 = .ok (.iload_n 1, 1) := by decide +kernel
theorem dX10_readSet_255 : decode cX10_readSet 255 = .ok (.invokevirtual 175, 3) := by decide +kernel
theorem dX10_readSet_258 : decode cX10_readSet 258 = .ok (.return_, 1) := by decide +kernel
theorem dX10_digit_0 : decode cX10_digit 0 = .ok (.aload_n 0, 1) := by decide +kernel
theorem dX10_digit_1 : decode cX10_digit 1 = .ok (.invokevirtual 158, 3) := by decide +kernel
theorem dX10_digit_4 : decode cX10_digit 4 = .ok (.istore_n 1, 1) := by decide +kernel
theorem dX10_digit_5 : decode cX10_digit 5 = .ok (.iload_n 1, 1) := by decide +kernel
theorem dX10_digit_6 : decode cX10_digit 6 = .ok (.bipush 48, 2) := by decide +kernel
theorem dX10_digit_8 : decode cX10_digit 8 = .ok (.if_icmp .lt 9, 3) := by decide +kernel
theorem dX10_digit_11 : decode cX10_digit 11 = .ok (.iload_n 1, 1) := by decide +kernel
theorem dX10_digit_12 : decode cX10_digit 12 = .ok (.bipush 57, 2) := by decide +kernel
theorem dX10_digit_14 : decode cX10_digit 14 = .ok (.if_icmp .le 7, 3) := by decide +kernel
theorem dX10_digit_17 : decode cX10_digit 17 = .ok (.aload_n 0, 1) := by decide +kernel
theorem dX10_digit_18 : decode cX10_digit 18 = .ok (.invokevirtual 166, 3) := by decide +kernel
theorem dX10_digit_21 : decode cX10_digit 21 = .ok (.aload_n 0, 1) := by decide +kernel
theorem dX10_digit_22 : decode cX10_digit 22 = .ok (.dup, 1) := by decide +kernel
theorem dX10_digit_23 : decode cX10_digit 23 = .ok (.getfield 127, 3) := by decide +kernel
theorem dX10_digit_26 : decode cX10_digit 26 = .ok (.iconst 1, 1) := by decide +kernel
theorem dX10_digit_27 : decode cX10_digit 27 = .ok (.iadd, 1) := by decide +kernel
theorem dX10_digit_28 : decode cX10_digit 28 = .ok (.putfield 127, 3) := by decide +kernel
theorem dX10_digit_31 : decode cX10_digit 31 = .ok (.iload_n 1, 1) := by decide +kernel
theorem dX10_digit_32 : decode cX10_digit 32 = .ok (.bipush 48, 2) := by decide +kernel
theorem dX10_digit_34 : decode cX10_digit 34 = .ok (.isub, 1) := by decide +kernel
theorem dX10_digit_35 : decode cX10_digit 35 = .ok (.ireturn, 1) := by decide +kernel
theorem dX10_readTimes_0 : decode cX10_readTimes 0 = .ok (.aload_n 0, 1) := by decide +kernel
theorem dX10_readTimes_1 : decode cX10_readTimes 1 = .ok (.getfield 127, 3) := by decide +kernel
theorem dX10_readTimes_4 : decode cX10_readTimes 4 = .ok (.iconst 1, 1) := by decide +kernel
theorem dX10_readTimes_5 : decode cX10_readTimes 5 = .ok (.isub, 1) := by decide +kernel
theorem dX10_readTimes_6 : decode cX10_readTimes 6 = .ok (.istore_n 1, 1) := by decide +kernel
theorem dX10_readTimes_7 : decode cX10_readTimes 7 = .ok (.aload_n 0, 1) := by decide +kernel
theorem dX10_readTimes_8 : decode cX10_readTimes 8 = .ok (.invokevirtual 179, 3) := by decide +kernel
theorem dX10_readTimes_11 : decode cX10_readTimes 11 = .ok (.istore_n 2, 1) := by decide +kernel
theorem dX10_readTimes_12 : decode cX10_readTimes 12 = .ok (.iload_n 2, 1) := by decide +kernel
theorem dX10_readTimes_13 : decode cX10_readTimes 13 = .ok (.istore_n 3, 1) := by decide +kernel
theorem dX10_readTimes_14 : decode cX10_readTimes 14 = .ok (.aload_n 0, 1) := by decide +kernel
theorem dX10_readTimes_15 : decode cX10_readTimes 15 = .ok (.getfield 124, 3) := by decide +kernel
theorem dX10_readTimes_18 : decode cX10_readTimes 18 = .ok (.ifCond .ne 27, 3) := by decide +kernel
theorem dX10_readTimes_21 : decode cX10_readTimes 21 = .ok (.aload_n 0, 1) := by decide +kernel
theorem dX10_readTimes_22 : decode cX10_readTimes 22 = .ok (.invokevirtual 158, 3) := by decide +kernel
theorem dX10_readTimes_25 : decode cX10_readTimes 25 = .ok (.bipush 44, 2) := by decide +kernel
theorem dX10_readTimes_27 : decode cX10_readTimes 27 = .ok (.if_icmp .ne 18, 3) := by decide +kernel
theorem dX10_readTimes_30 : decode cX10_readTimes 30 = .ok (.aload_n 0, 1) := by decide +kernel
theorem dX10_readTimes_31 : decode cX10_readTimes 31 = .ok (.dup, 1) := by decide +kernel
theorem dX10_readTimes_32 : decode cX10_readTimes 32 = .ok (.getfield 127, 3) := by decide +kernel
theorem dX10_readTimes_35 : decode cX10_readTimes 35 = .ok (.iconst 1, 1) := by decide +kernel
theorem dX10_readTimes_36 : decode cX10_readTimes 36 = .ok (.iadd, 1) := by decide +kernel
theorem dX10_readTimes_37 : decode cX10_readTimes 37 = .ok (.putfield 127, 3) := by decide +kernel
theorem dX10_readTimes_40 : decode cX10_readTimes 40 = .ok (.aload_n 0, 1) := by decide +kernel
theorem dX10_readTimes_41 : decode cX10_readTimes 41 = .ok (.invokevirtual 179, 3) := by decide +kernel
theorem dX10_readTimes_44 : decode cX10_readTimes 44 = .ok (.istore_n 3, 1) := by decide +kernel
theorem dX10_readTimes_45 : decode cX10_readTimes 45 = .ok (.aload_n 0, 1) := by decide +kernel
theorem dX10_readTimes_46 : decode cX10_readTimes 46 = .ok (.getfield 124, 3) := by decide +kernel
theorem dX10_readTimes_49 : decode cX10_readTimes 49 = .ok (.ifCond .ne 16, 3) := by decide +kernel
theorem dX10_readTimes_52 : decode cX10_readTimes 52 = .ok (.aload_n 0, 1) := by decide +kernel
theorem dX10_readTimes_53 : decode cX10_readTimes 53 = .ok (.invokevirtual 158, 3) := by decide +kernel
theorem dX10_readTimes_56 : decode cX10_readTimes 56 = .ok (.bipush 125, 2) := by decide +kernel
theorem dX10_readTimes_58 : decode cX10_readTimes 58 = .ok (.if_icmp .eq 7, 3) := by decide +kernel
theorem dX10_readTimes_61 : decode cX10_readTimes 61 = .ok (.aload_n 0, 1) := by decide +kernel
theorem dX10_readTimes_62 : decode cX10_readTimes 62 = .ok (.invokevirtual 166, 3) := by decide +kernel
theorem dX10_readTimes_65 : decode cX10_readTimes 65 = .ok (.aload_n 0, 1) := by decide +kernel
theorem dX10_readTimes_66 : decode cX10_readTimes 66 = .ok (.dup, 1) := by decide +kernel
theorem dX10_readTimes_67 : decode cX10_readTimes 67 = .ok (.getfield 127, 3) := by decide +kernel
theorem dX10_readTimes_70 : decode cX10_readTimes 70 = .ok (.iconst 1, 1) := by decide +kernel
theorem dX10_readTimes_71 : decode cX10_readTimes 71 = .ok (.iadd, 1) := by decide +kernel
theorem dX10_readTimes_72 : decode cX10_readTimes 72 = .ok (.putfield 127, 3) := by decide +kernel
theorem dX10_readTimes_75 : decode cX10_readTimes 75 = .ok (.aload_n 0, 1) := by decide +kernel
theorem dX10_readTimes_76 : decode cX10_readTimes 76 = .ok (.getfield 124, 3) := by decide +kernel
theorem dX10_readTimes_79 : decode cX10_readTimes 79 = .ok (.ifCond .ne 23, 3) := by decide +kernel
theorem dX10_readTimes_82 : decode cX10_readTimes 82 = .ok (.iload_n 2, 1) := by decide +kernel
theorem dX10_readTimes_83 : decode cX10_readTimes 83 = .ok (.iload_n 3, 1) := by decide +kernel
theorem dX10_readTimes_84 : decode cX10_readTimes 84 = .ok (.if_icmp .gt 12, 3) := by decide +kernel
theorem dX10_readTimes_87 : decode cX10_readTimes 87 = .ok (.iload_n 3, 1) := by decide +kernel
theorem dX10_readTimes_88 : decode cX10_readTimes 88 = .ok (.iconst 5, 1) := by decide +kernel
theorem dX10_readTimes_89 : decode cX10_readTimes 89 = .ok (.if_icmp .gt 7, 3) := by decide +kernel
theorem dX10_readTimes_92 : decode cX10_readTimes 92 = .ok (.iload_n 3, 1) := by decide +kernel
theorem dX10_readTimes_93 : decode cX10_readTimes 93 = .ok (.ifCond .ne 9, 3) := by decide +kernel
theorem dX10_readTimes_96 : decode cX10_readTimes 96 = .ok (.aload_n 0, 1) := by decide +kernel
theorem dX10_readTimes_97 : decode cX10_readTimes 97 = .ok (.iconst 3, 1) := by decide +kernel
theorem dX10_readTimes_98 : decode cX10_readTimes 98 = .ok (.iload_n 1, 1) := by decide +kernel
theorem dX10_readTimes_99 : decode cX10_readTimes 99 = .ok (.invokevirtual 130, 3) := by decide +kernel
theorem dX10_readTimes_102 : decode cX10_readTimes 102 = .ok (.aload_n 0, 1) := by decide +kernel
theorem dX10_readTimes_103 : decode cX10_readTimes 103 = .ok (.getfield 137, 3) := by decide +kernel
theorem dX10_readTimes_106 : decode cX10_readTimes 106 = .ok (.aload_n 0, 1) := by decide +kernel
theorem dX10_readTimes_107 : decode cX10_readTimes 107 = .ok (.getfield 55, 3) := by decide +kernel
theorem dX10_readTimes_110 : decode cX10_readTimes 110 = .ok (.aload_n 0, 1) := by decide +kernel
theorem dX10_readTimes_111 : decode cX10_readTimes 111 = .ok (.getfield 134, 3) := by decide +kernel
theorem dX10_readTimes_114 : decode cX10_readTimes 114 = .ok (.iaload, 1) := by decide +kernel
theorem dX10_readTimes_115 : decode cX10_readTimes 115 = .ok (.isub, 1) := by decide +kernel
theorem dX10_readTimes_116 : decode cX10_readTimes 116 = .ok (.istore 4, 2) := by decide +kernel
theorem dX10_readTimes_118 : decode cX10_readTimes 118 = .ok (.aload_n 0, 1) := by decide +kernel
theorem dX10_readTimes_119 : decode cX10_readTimes 119 = .ok (.getfield 124, 3) := by decide +kernel
theorem dX10_readTimes_122 : decode cX10_readTimes 122 = .ok (.ifCond .ne 25, 3) := by decide +kernel
theorem dX10_readTimes_125 : decode cX10_readTimes 125 = .ok (.aload_n 0, 1) := by decide +kernel
theorem dX10_readTimes_126 : decode cX10_readTimes 126 = .ok (.getfield 137, 3) := by decide +kernel
theorem dX10_readTimes_129 : decode cX10_readTimes 129 = .ok (.iload_n 3, 1) := by decide +kernel
theorem dX10_readTimes_130 : decode cX10_readTimes 130 = .ok (.iconst 1, 1) := by decide +kernel
theorem dX10_readTimes_131 : decode cX10_readTimes 131 = .ok (.isub, 1) := by decide +kernel
theorem dX10_readTimes_132 : decode cX10_readTimes 132 = .ok (.iload 4, 2) := by decide +kernel
theorem dX10_readTimes_134 : decode cX10_readTimes 134 = .ok (.imul, 1) := by decide +kernel
theorem dX10_readTimes_135 : decode cX10_readTimes 135 = .ok (.iadd, 1) := by decide +kernel
theorem dX10_readTimes_136 : decode cX10_readTimes 136 = .ok (.bipush 60, 2) := by decide +kernel
theorem dX10_readTimes_138 : decode cX10_readTimes 138 = .ok (.if_icmp .le 9, 3) := by decide +kernel
theorem dX10_readTimes_141 : decode cX10_readTimes 141 = .ok (.aload_n 0, 1) := by decide +kernel
theorem dX10_readTimes_142 : decode cX10_readTimes 142 = .ok (.iconst 4, 1) := by decide +kernel
theorem dX10_readTimes_143 : decode cX10_readTimes 143 = .ok (.iload_n 1, 1) := by decide +kernel
theorem dX10_readTimes_144 : decode cX10_readTimes 144 = .ok (.invokevirtual 130, 3) := by decide +kernel
theorem dX10_readTimes_147 : decode cX10_readTimes 147 = .ok (.aload_n 0, 1) := by decide +kernel
theorem dX10_readTimes_148 : decode cX10_readTimes 148 = .ok (.getfield 124, 3) := by decide +kernel
theorem dX10_readTimes_151 : decode cX10_readTimes 151 = .ok (.ifCond .ne 11, 3) := by decide +kernel
theorem dX10_readTimes_154 : decode cX10_readTimes 154 = .ok (.aload_n 0, 1) := by decide +kernel
theorem dX10_readTimes_155 : decode cX10_readTimes 155 = .ok (.iload_n 2, 1) := by decide +kernel
theorem dX10_readTimes_156 : decode cX10_readTimes 156 = .ok (.iload_n 3, 1) := by decide +kernel
theorem dX10_readTimes_157 : decode cX10_readTimes 157 = .ok (.iload 4, 2) := by decide +kernel
theorem dX10_readTimes_159 : decode cX10_readTimes 159 = .ok (.invokevirtual 182, 3) := by decide +kernel
theorem dX10_readTimes_162 : decode cX10_readTimes 162 = .ok (.return_, 1) := by decide +kernel
theorem dX10_times_0 : decode cX10_times 0 = .ok (.aload_n 0, 1) := by decide +kernel
theorem dX10_times_1 : decode cX10_times 1 = .ok (.getfield 134, 3) := by decide +kernel
theorem dX10_times_4 : decode cX10_times 4 = .ok (.istore 4, 2) := by decide +kernel
theorem dX10_times_6 : decode cX10_times 6 = .ok (.aload_n 0, 1) := by decide +kernel
theorem dX10_times_7 : decode cX10_times 7 = .ok (.getfield 55, 3) := by decide +kernel
theorem dX10_times_10 : decode cX10_times 10 = .ok (.iload 4, 2) := by decide +kernel
theorem dX10_times_12 : decode cX10_times 12 = .ok (.iaload, 1) := by decide +kernel
theorem dX10_times_13 : decode cX10_times 13 = .ok (.istore 5, 2) := by decide +kernel
theorem dX10_times_15 : decode cX10_times 15 = .ok (.iconst 0, 1) := by decide +kernel
theorem dX10_times_16 : decode cX10_times 16 = .ok (.istore 6, 2) := by decide +kernel
theorem dX10_times_18 : decode cX10_times 18 = .ok (.iload 6, 2) := by decide +kernel
theorem dX10_times_20 : decode cX10_times 20 = .ok (.iload_n 3, 1) := by decide +kernel
theorem dX10_times_21 : decode cX10_times 21 = .ok (.if_icmp .ge 29, 3) := by decide +kernel
theorem dX10_times_24 : decode cX10_times 24 = .ok (.aload_n 0, 1) := by decide +kernel
theorem dX10_times_25 : decode cX10_times 25 = .ok (.getfield 79, 3) := by decide +kernel
theorem dX10_times_28 : decode cX10_times 28 = .ok (.iload 6, 2) := by decide +kernel
theorem dX10_times_30 : decode cX10_times 30 = .ok (.aload_n 0, 1) := by decide +kernel
theorem dX10_times_31 : decode cX10_times 31 = .ok (.getfield 37, 3) := by decide +kernel
theorem dX10_times_34 : decode cX10_times 34 = .ok (.bipush 120, 2) := by decide +kernel
theorem dX10_times_36 : decode cX10_times 36 = .ok (.iload 5, 2) := by decide +kernel
theorem dX10_times_38 : decode cX10_times 38 = .ok (.iadd, 1) := by decide +kernel
theorem dX10_times_39 : decode cX10_times 39 = .ok (.iload 6, 2) := by decide +kernel
theorem dX10_times_41 : decode cX10_times 41 = .ok (.iadd, 1) := by decide +kernel
theorem dX10_times_42 : decode cX10_times 42 = .ok (.laload, 1) := by decide +kernel
theorem dX10_times_43 : decode cX10_times 43 = .ok (.lastore, 1) := by decide +kernel
theorem dX10_times_44 : decode cX10_times 44 = .ok (.iinc 6 1, 3) := by decide +kernel
theorem dX10_times_47 : decode cX10_times 47 = .ok (.goto (-29), 3) := by decide +kernel
theorem dX10_times_50 : decode cX10_times 50 = .ok (.aload_n 0, 1) := by decide +kernel
theorem dX10_times_51 : decode cX10_times 51 = .ok (.getfield 58, 3) := by decide +kernel
theorem dX10_times_54 : decode cX10_times 54 = .ok (.iload 4, 2) := by decide +kernel
theorem dX10_times_56 : decode cX10_times 56 = .ok (.baload, 1) := by decide +kernel
theorem dX10_times_57 : decode cX10_times 57 = .ok (.istore 6, 2) := by decide +kernel
theorem dX10_times_59 : decode cX10_times 59 = .ok (.aload_n 0, 1) := by decide +kernel
theorem dX10_times_60 : decode cX10_times 60 = .ok (.getfield 61, 3) := by decide +kernel
theorem dX10_times_63 : decode cX10_times 63 = .ok (.iload 4, 2) := by decide +kernel
theorem dX10_times_65 : decode cX10_times 65 = .ok (.laload, 1) := by decide +kernel
theorem dX10_times_66 : decode cX10_times 66 = .ok (.lstore 7, 2) := by decide +kernel
theorem dX10_times_68 : decode cX10_times 68 = .ok (.aload_n 0, 1) := by decide +kernel
theorem dX10_times_69 : decode cX10_times 69 = .ok (.getfield 64, 3) := by decide +kernel
theorem dX10_times_72 : decode cX10_times 72 = .ok (.iload 4, 2) := by decide +kernel
theorem dX10_times_74 : decode cX10_times 74 = .ok (.laload, 1) := by decide +kernel
theorem dX10_times_75 : decode cX10_times 75 = .ok (.lstore 9, 2) := by decide +kernel
theorem dX10_times_77 : decode cX10_times 77 = .ok (.iconst 1, 1) := by decide +kernel
theorem dX10_times_78 : decode cX10_times 78 = .ok (.istore 11, 2) := by decide +kernel
theorem dX10_times_80 : decode cX10_times 80 = .ok (.lconst 0, 1) := by decide +kernel
theorem dX10_times_81 : decode cX10_times 81 = .ok (.lstore 12, 2) := by decide +kernel
theorem dX10_times_83 : decode cX10_times 83 = .ok (.lconst 0, 1) := by decide +kernel
theorem dX10_times_84 : decode cX10_times 84 = .ok (.lstore 14, 2) := by decide +kernel
theorem dX10_times_86 : decode cX10_times 86 = .ok (.iconst 0, 1) := by decide +kernel
theorem dX10_times_87 : decode cX10_times 87 = .ok (.istore 16, 2) := by decide +kernel
theorem dX10_times_89 : decode cX10_times 89 = .ok (.iload 16, 2) := by decide +kernel
theorem dX10_times_91 : decode cX10_times 91 = .ok (.iload_n 2, 1) := by decide +kernel
theorem dX10_times_92 : decode cX10_times 92 = .ok (.if_icmp .ge 189, 3) := by decide +kernel
theorem dX10_times_95 : decode cX10_times 95 = .ok (.iload 16, 2) := by decide +kernel
theorem dX10_times_97 : decode cX10_times 97 = .ok (.iload_n 3, 1) := by decide +kernel
theorem dX10_times_98 : decode cX10_times 98 = .ok (.imul, 1) := by decide +kernel
theorem dX10_times_99 : decode cX10_times 99 = .ok (.istore 17, 2) := by decide +kernel
theorem dX10_times_101 : decode cX10_times 101 = .ok (.iconst 0, 1) := by decide +kernel
theorem dX10_times_102 : decode cX10_times 102 = .ok (.istore 18, 2) := by decide +kernel
theorem dX10_times_104 : decode cX10_times 104 = .ok (.iload 18, 2) := by decide +kernel
theorem dX10_times_106 : decode cX10_times 106 = .ok (.iload_n 3, 1) := by decide +kernel
theorem dX10_times_107 : decode cX10_times 107 = .ok (.if_icmp .ge 79, 3) := by decide +kernel
theorem dX10_times_110 : decode cX10_times 110 = .ok (.iload 16, 2) := by decide +kernel
theorem dX10_times_112 : decode cX10_times 112 = .ok (.ifCond .le 74, 3) := by decide +kernel
theorem dX10_times_115 : decode cX10_times 115 = .ok (.aload_n 0, 1) := by decide +kernel
theorem dX10_times_116 : decode cX10_times 116 = .ok (.getfield 40, 3) := by decide +kernel
theorem dX10_times_119 : decode cX10_times 119 = .ok (.bipush 120, 2) := by decide +kernel
theorem dX10_times_121 : decode cX10_times 121 = .ok (.iload 5, 2) := by decide +kernel
theorem dX10_times_123 : decode cX10_times 123 = .ok (.iadd, 1) := by decide +kernel
theorem dX10_times_124 : decode cX10_times 124 = .ok (.iload 17, 2) := by decide +kernel
theorem dX10_times_126 : decode cX10_times 126 = .ok (.iadd, 1) := by decide +kernel
theorem dX10_times_127 : decode cX10_times 127 = .ok (.iload 18, 2) := by decide +kernel
theorem dX10_times_129 : decode cX10_times 129 = .ok (.iadd, 1) := by decide +kernel
theorem dX10_times_130 : decode cX10_times 130 = .ok (.aload_n 0, 1) := by decide +kernel
theorem dX10_times_131 : decode cX10_times 131 = .ok (.getfield 40, 3) := by decide +kernel
theorem dX10_times_134 : decode cX10_times 134 = .ok (.bipush 120, 2) := by decide +kernel
theorem dX10_times_136 : decode cX10_times 136 = .ok (.iload 5, 2) := by decide +kernel
theorem dX10_times_138 : decode cX10_times 138 = .ok (.iadd, 1) := by decide +kernel
theorem dX10_times_139 : decode cX10_times 139 = .ok (.iload 18, 2) := by decide +kernel
theorem dX10_times_141 : decode cX10_times 141 = .ok (.iadd, 1) := by decide +kernel
theorem dX10_times_142 : decode cX10_times 142 = .ok (.laload, 1) := by decide +kernel
theorem dX10_times_143 : decode cX10_times 143 = .ok (.lastore, 1) := by decide +kernel
theorem dX10_times_144 : decode cX10_times 144 = .ok (.aload_n 0, 1) := by decide +kernel
theorem dX10_times_145 : decode cX10_times 145 = .ok (.getfield 37, 3) := by decide +kernel
theorem dX10_times_148 : decode cX10_times 148 = .ok (.bipush 120, 2) := by decide +kernel
theorem dX10_times_150 : decode cX10_times 150 = .ok (.iload 5, 2) := by decide +kernel
theorem dX10_times_152 : decode cX10_times 152 = .ok (.iadd, 1) := by decide +kernel
theorem dX10_times_153 : decode cX10_times 153 = .ok (.iload 17, 2) := by decide +kernel
theorem dX10_times_155 : decode cX10_times 155 = .ok (.iadd, 1) := by decide +kernel
theorem dX10_times_156 : decode cX10_times 156 = .ok (.iload 18, 2) := by decide +kernel
theorem dX10_times_158 : decode cX10_times 158 = .ok (.iadd, 1) := by decide +kernel
theorem dX10_times_159 : decode cX10_times 159 = .ok (.aload_n 0, 1) := by decide +kernel
theorem dX10_times_160 : decode cX10_times 160 = .ok (.getfield 79, 3) := by decide +kernel
theorem dX10_times_163 : decode cX10_times 163 = .ok (.iload 18, 2) := by decide +kernel
theorem dX10_times_165 : decode cX10_times 165 = .ok (.laload, 1) := by decide +kernel
theorem dX10_times_166 : decode cX10_times 166 = .ok (.iload 17, 2) := by decide +kernel
theorem dX10_times_168 : decode cX10_times 168 = .ok (.lshl, 1) := by decide +kernel
theorem dX10_times_169 : decode cX10_times 169 = .ok (.lastore, 1) := by decide +kernel
theorem dX10_times_170 : decode cX10_times 170 = .ok (.aload_n 0, 1) := by decide +kernel
theorem dX10_times_171 : decode cX10_times 171 = .ok (.dup, 1) := by decide +kernel
theorem dX10_times_172 : decode cX10_times 172 = .ok (.getfield 137, 3) := by decide +kernel
theorem dX10_times_175 : decode cX10_times 175 = .ok (.iconst 1, 1) := by decide +kernel
theorem dX10_times_176 : decode cX10_times 176 = .ok (.iadd, 1) := by decide +kernel
theorem dX10_times_177 : decode cX10_times 177 = .ok (.putfield 137, 3) := by decide +kernel
theorem dX10_times_180 : decode cX10_times 180 = .ok (.iinc 18 1, 3) := by decide +kernel
theorem dX10_times_183 : decode cX10_times 183 = .ok (.goto (-79), 3) := by decide +kernel
theorem dX10_times_186 : decode cX10_times 186 = .ok (.aload_n 0, 1) := by decide +kernel
theorem dX10_times_187 : decode cX10_times 187 = .ok (.lload 14, 2) := by decide +kernel
theorem dX10_times_189 : decode cX10_times 189 = .ok (.lload 7, 2) := by decide +kernel
theorem dX10_times_191 : decode cX10_times 191 = .ok (.iload 17, 2) := by decide +kernel
theorem dX10_times_193 : decode cX10_times 193 = .ok (.lshl, 1) := by decide +kernel
theorem dX10_times_194 : decode cX10_times 194 = .ok (.invokevirtual 147, 3) := by decide +kernel
theorem dX10_times_197 : decode cX10_times 197 = .ok (.iload 11, 2) := by decide +kernel
theorem dX10_times_199 : decode cX10_times 199 = .ok (.ifCond .eq 14, 3) := by decide +kernel
theorem dX10_times_202 : decode cX10_times 202 = .ok (.lload 12, 2) := by decide +kernel
theorem dX10_times_204 : decode cX10_times 204 = .ok (.lload 7, 2) := by decide +kernel
theorem dX10_times_206 : decode cX10_times 206 = .ok (.iload 17, 2) := by decide +kernel
theorem dX10_times_208 : decode cX10_times 208 = .ok (.lshl, 1) := by decide +kernel
theorem dX10_times_209 : decode cX10_times 209 = .ok (.lor, 1) := by decide +kernel
theorem dX10_times_210 : decode cX10_times 210 = .ok (.goto 5, 3) := by decide +kernel
theorem dX10_times_213 : decode cX10_times 213 = .ok (.lload 12, 2) := by decide +kernel
theorem dX10_times_215 : decode cX10_times 215 = .ok (.lstore 12, 2) := by decide +kernel
theorem dX10_times_217 : decode cX10_times 217 = .ok (.iload 6, 2) := by decide +kernel
theorem dX10_times_219 : decode cX10_times 219 = .ok (.ifCond .ne 9, 3) := by decide +kernel
theorem dX10_times_222 : decode cX10_times 222 = .ok (.iload 16, 2) := by decide +kernel
theorem dX10_times_224 : decode cX10_times 224 = .ok (.iload_n 1, 1) := by decide +kernel
theorem dX10_times_225 : decode cX10_times 225 = .ok (.if_icmp .lt 7, 3) := by decide +kernel
theorem dX10_times_228 : decode cX10_times 228 = .ok (.iconst 1, 1) := by decide +kernel
theorem dX10_times_229 : decode cX10_times 229 = .ok (.goto 4, 3) := by decide +kernel
theorem dX10_times_232 : decode cX10_times 232 = .ok (.iconst 0, 1) := by decide +kernel
theorem dX10_times_233 : decode cX10_times 233 = .ok (.istore 18, 2) := by decide +kernel
theorem dX10_times_235 : decode cX10_times 235 = .ok (.iload 18, 2) := by decide +kernel
theorem dX10_times_237 : decode cX10_times 237 = .ok (.ifCond .eq 14, 3) := by decide +kernel
theorem dX10_times_240 : decode cX10_times 240 = .ok (.lload 14, 2) := by decide +kernel
theorem dX10_times_242 : decode cX10_times 242 = .ok (.lload 9, 2) := by decide +kernel
theorem dX10_times_244 : decode cX10_times 244 = .ok (.iload 17, 2) := by decide +kernel
theorem dX10_times_246 : decode cX10_times 246 = .ok (.lshl, 1) := by decide +kernel
theorem dX10_times_247 : decode cX10_times 247 = .ok (.lor, 1) := by decide +kernel
theorem dX10_times_248 : decode cX10_times 248 = .ok (.goto 8, 3) := by decide +kernel
theorem dX10_times_251 : decode cX10_times 251 = .ok (.lload 9, 2) := by decide +kernel
theorem dX10_times_253 : decode cX10_times 253 = .ok (.iload 17, 2) := by decide +kernel
theorem dX10_times_255 : decode cX10_times 255 = .ok (.lshl, 1) := by decide +kernel
theorem dX10_times_256 : decode cX10_times 256 = .ok (.lstore 14, 2) := by decide +kernel
theorem dX10_times_258 : decode cX10_times 258 = .ok (.iload 11, 2) := by decide +kernel
theorem dX10_times_260 : decode cX10_times 260 = .ok (.ifCond .eq 12, 3) := by decide +kernel
theorem dX10_times_263 : decode cX10_times 263 = .ok (.iload 18, 2) := by decide +kernel
theorem dX10_times_265 : decode cX10_times 265 = .ok (.ifCond .eq 7, 3) := by decide +kernel
theorem dX10_times_268 : decode cX10_times 268 = .ok (.iconst 1, 1) := by decide +kernel
theorem dX10_times_269 : decode cX10_times 269 = .ok (.goto 4, 3) := by decide +kernel
theorem dX10_times_272 : decode cX10_times 272 = .ok (.iconst 0, 1) := by decide +kernel
theorem dX10_times_273 : decode cX10_times 273 = .ok (.istore 11, 2) := by decide +kernel
theorem dX10_times_275 : decode cX10_times 275 = .ok (.iinc 16 1, 3) := by decide +kernel
theorem dX10_times_278 : decode cX10_times 278 = .ok (.goto (-189), 3) := by decide +kernel
theorem dX10_times_281 : decode cX10_times 281 = .ok (.aload_n 0, 1) := by decide +kernel
theorem dX10_times_282 : decode cX10_times 282 = .ok (.iload 5, 2) := by decide +kernel
theorem dX10_times_284 : decode cX10_times 284 = .ok (.iload 11, 2) := by decide +kernel
theorem dX10_times_286 : decode cX10_times 286 = .ok (.lload 12, 2) := by decide +kernel
theorem dX10_times_288 : decode cX10_times 288 = .ok (.lload 14, 2) := by decide +kernel
theorem dX10_times_290 : decode cX10_times 290 = .ok (.invokevirtual 154, 3) := by decide +kernel
theorem dX10_times_293 : decode cX10_times 293 = .ok (.return_, 1) := by decide +kernel
theorem dX10_suffix_0 : decode cX10_suffix 0 = .ok (.aload_n 0, 1) := by decide +kernel
theorem dX10_suffix_1 : decode cX10_suffix 1 = .ok (.getfield 134, 3) := by decide +kernel
theorem dX10_suffix_4 : decode cX10_suffix 4 = .ok (.istore_n 2, 1) := by decide +kernel
theorem dX10_suffix_5 : decode cX10_suffix 5 = .ok (.aload_n 0, 1) := by decide +kernel
theorem dX10_suffix_6 : decode cX10_suffix 6 = .ok (.getfield 52, 3) := by decide +kernel
theorem dX10_suffix_9 : decode cX10_suffix 9 = .ok (.iload_n 2, 1) := by decide +kernel
theorem dX10_suffix_10 : decode cX10_suffix 10 = .ok (.baload, 1) := by decide +kernel
theorem dX10_suffix_11 : decode cX10_suffix 11 = .ok (.ifCond .ne 17, 3) := by decide +kernel
theorem dX10_suffix_14 : decode cX10_suffix 14 = .ok (.aload_n 0, 1) := by decide +kernel
theorem dX10_suffix_15 : decode cX10_suffix 15 = .ok (.iconst 1, 1) := by decide +kernel
theorem dX10_suffix_16 : decode cX10_suffix 16 = .ok (.aload_n 0, 1) := by decide +kernel
theorem dX10_suffix_17 : decode cX10_suffix 17 = .ok (.getfield 127, 3) := by decide +kernel
theorem dX10_suffix_20 : decode cX10_suffix 20 = .ok (.iconst 1, 1) := by decide +kernel
theorem dX10_suffix_21 : decode cX10_suffix 21 = .ok (.isub, 1) := by decide +kernel
theorem dX10_suffix_22 : decode cX10_suffix 22 = .ok (.invokevirtual 130, 3) := by decide +kernel
theorem dX10_suffix_25 : decode cX10_suffix 25 = .ok (.goto 64, 3) := by decide +kernel
theorem dX10_suffix_28 : decode cX10_suffix 28 = .ok (.iload_n 1, 1) := by decide +kernel
theorem dX10_suffix_29 : decode cX10_suffix 29 = .ok (.bipush 123, 2) := by decide +kernel
theorem dX10_suffix_31 : decode cX10_suffix 31 = .ok (.if_icmp .ne 10, 3) := by decide +kernel
theorem dX10_suffix_34 : decode cX10_suffix 34 = .ok (.aload_n 0, 1) := by decide +kernel
theorem dX10_suffix_35 : decode cX10_suffix 35 = .ok (.invokevirtual 186, 3) := by decide +kernel
theorem dX10_suffix_38 : decode cX10_suffix 38 = .ok (.goto 51, 3) := by decide +kernel
theorem dX10_suffix_41 : decode cX10_suffix 41 = .ok (.iload_n 1, 1) := by decide +kernel
theorem dX10_suffix_42 : decode cX10_suffix 42 = .ok (.bipush 63, 2) := by decide +kernel
theorem dX10_suffix_44 : decode cX10_suffix 44 = .ok (.if_icmp .eq 19, 3) := by decide +kernel
theorem dX10_suffix_47 : decode cX10_suffix 47 = .ok (.aload_n 0, 1) := by decide +kernel
theorem dX10_suffix_48 : decode cX10_suffix 48 = .ok (.aload_n 0, 1) := by decide +kernel
theorem dX10_suffix_49 : decode cX10_suffix 49 = .ok (.getfield 64, 3) := by decide +kernel
theorem dX10_suffix_52 : decode cX10_suffix 52 = .ok (.iload_n 2, 1) := by decide +kernel
theorem dX10_suffix_53 : decode cX10_suffix 53 = .ok (.laload, 1) := by decide +kernel
theorem dX10_suffix_54 : decode cX10_suffix 54 = .ok (.aload_n 0, 1) := by decide +kernel
theorem dX10_suffix_55 : decode cX10_suffix 55 = .ok (.getfield 61, 3) := by decide +kernel
theorem dX10_suffix_58 : decode cX10_suffix 58 = .ok (.iload_n 2, 1) := by decide +kernel
theorem dX10_suffix_59 : decode cX10_suffix 59 = .ok (.laload, 1) := by decide +kernel
theorem dX10_suffix_60 : decode cX10_suffix 60 = .ok (.invokevirtual 147, 3) := by decide +kernel
theorem dX10_suffix_63 : decode cX10_suffix 63 = .ok (.aload_n 0, 1) := by decide +kernel
theorem dX10_suffix_64 : decode cX10_suffix 64 = .ok (.getfield 58, 3) := by decide +kernel
theorem dX10_suffix_67 : decode cX10_suffix 67 = .ok (.iload_n 2, 1) := by decide +kernel
theorem dX10_suffix_68 : decode cX10_suffix 68 = .ok (.aload_n 0, 1) := by decide +kernel
theorem dX10_suffix_69 : decode cX10_suffix 69 = .ok (.getfield 58, 3) := by decide +kernel
theorem dX10_suffix_72 : decode cX10_suffix 72 = .ok (.iload_n 2, 1) := by decide +kernel
theorem dX10_suffix_73 : decode cX10_suffix 73 = .ok (.baload, 1) := by decide +kernel
theorem dX10_suffix_74 : decode cX10_suffix 74 = .ok (.ifCond .ne 9, 3) := by decide +kernel
theorem dX10_suffix_77 : decode cX10_suffix 77 = .ok (.iload_n 1, 1) := by decide +kernel
theorem dX10_suffix_78 : decode cX10_suffix 78 = .ok (.bipush 43, 2) := by decide +kernel
theorem dX10_suffix_80 : decode cX10_suffix 80 = .ok (.if_icmp .eq 7, 3) := by decide +kernel
theorem dX10_suffix_83 : decode cX10_suffix 83 = .ok (.iconst 1, 1) := by decide +kernel
theorem dX10_suffix_84 : decode cX10_suffix 84 = .ok (.goto 4, 3) := by decide +kernel
theorem dX10_suffix_87 : decode cX10_suffix 87 = .ok (.iconst 0, 1) := by decide +kernel
theorem dX10_suffix_88 : decode cX10_suffix 88 = .ok (.bastore, 1) := by decide +kernel
theorem dX10_suffix_89 : decode cX10_suffix 89 = .ok (.return_, 1) := by decide +kernel
theorem dX10_close_0 : decode cX10_close 0 = .ok (.aload_n 0, 1) := by decide +kernel
theorem dX10_close_1 : decode cX10_close 1 = .ok (.getfield 134, 3) := by decide +kernel
theorem dX10_close_4 : decode cX10_close 4 = .ok (.ifCond .ne 15, 3) := by decide +kernel
theorem dX10_close_7 : decode cX10_close 7 = .ok (.aload_n 0, 1) := by decide +kernel
theorem dX10_close_8 : decode cX10_close 8 = .ok (.iconst 1, 1) := by decide +kernel
theorem dX10_close_9 : decode cX10_close 9 = .ok (.aload_n 0, 1) := by decide +kernel
theorem dX10_close_10 : decode cX10_close 10 = .ok (.getfield 127, 3) := by decide +kernel
theorem dX10_close_13 : decode cX10_close 13 = .ok (.iconst 1, 1) := by decide +kernel
theorem dX10_close_14 : decode cX10_close 14 = .ok (.isub, 1) := by decide +kernel
theorem dX10_close_15 : decode cX10_close 15 = .ok (.invokevirtual 130, 3) := by decide +kernel
theorem dX10_close_18 : decode cX10_close 18 = .ok (.return_, 1) := by decide +kernel
theorem dX10_close_19 : decode cX10_close 19 = .ok (.aload_n 0, 1) := by decide +kernel
theorem dX10_close_20 : decode cX10_close 20 = .ok (.invokevirtual 189, 3) := by decide +kernel
theorem dX10_close_23 : decode cX10_close 23 = .ok (.aload_n 0, 1) := by decide +kernel
theorem dX10_close_24 : decode cX10_close 24 = .ok (.getfield 67, 3) := by decide +kernel
theorem dX10_close_27 : decode cX10_close 27 = .ok (.aload_n 0, 1) := by decide +kernel
theorem dX10_close_28 : decode cX10_close 28 = .ok (.getfield 134, 3) := by decide +kernel
theorem dX10_close_31 : decode cX10_close 31 = .ok (.baload, 1) := by decide +kernel
theorem dX10_close_32 : decode cX10_close 32 = .ok (.istore_n 1, 1) := by decide +kernel
theorem dX10_close_33 : decode cX10_close 33 = .ok (.aload_n 0, 1) := by decide +kernel
theorem dX10_close_34 : decode cX10_close 34 = .ok (.getfield 70, 3) := by decide +kernel
theorem dX10_close_37 : decode cX10_close 37 = .ok (.aload_n 0, 1) := by decide +kernel
theorem dX10_close_38 : decode cX10_close 38 = .ok (.getfield 134, 3) := by decide +kernel
theorem dX10_close_41 : decode cX10_close 41 = .ok (.laload, 1) := by decide +kernel
theorem dX10_close_42 : decode cX10_close 42 = .ok (.lstore_n 2, 1) := by decide +kernel
theorem dX10_close_43 : decode cX10_close 43 = .ok (.aload_n 0, 1) := by decide +kernel
theorem dX10_close_44 : decode cX10_close 44 = .ok (.getfield 73, 3) := by decide +kernel
theorem dX10_close_47 : decode cX10_close 47 = .ok (.aload_n 0, 1) := by decide +kernel
theorem dX10_close_48 : decode cX10_close 48 = .ok (.getfield 134, 3) := by decide +kernel
theorem dX10_close_51 : decode cX10_close 51 = .ok (.laload, 1) := by decide +kernel
theorem dX10_close_52 : decode cX10_close 52 = .ok (.lstore 4, 2) := by decide +kernel
theorem dX10_close_54 : decode cX10_close 54 = .ok (.aload_n 0, 1) := by decide +kernel
theorem dX10_close_55 : decode cX10_close 55 = .ok (.getfield 76, 3) := by decide +kernel
theorem dX10_close_58 : decode cX10_close 58 = .ok (.aload_n 0, 1) := by decide +kernel
theorem dX10_close_59 : decode cX10_close 59 = .ok (.getfield 134, 3) := by decide +kernel
theorem dX10_close_62 : decode cX10_close 62 = .ok (.iaload, 1) := by decide +kernel
theorem dX10_close_63 : decode cX10_close 63 = .ok (.istore 6, 2) := by decide +kernel
theorem dX10_close_65 : decode cX10_close 65 = .ok (.aload_n 0, 1) := by decide +kernel
theorem dX10_close_66 : decode cX10_close 66 = .ok (.dup, 1) := by decide +kernel
theorem dX10_close_67 : decode cX10_close 67 = .ok (.getfield 134, 3) := by decide +kernel
theorem dX10_close_70 : decode cX10_close 70 = .ok (.iconst 1, 1) := by decide +kernel
theorem dX10_close_71 : decode cX10_close 71 = .ok (.isub, 1) := by decide +kernel
theorem dX10_close_72 : decode cX10_close 72 = .ok (.putfield 134, 3) := by decide +kernel
theorem dX10_close_75 : decode cX10_close 75 = .ok (.aload_n 0, 1) := by decide +kernel
theorem dX10_close_76 : decode cX10_close 76 = .ok (.iload 6, 2) := by decide +kernel
theorem dX10_close_78 : decode cX10_close 78 = .ok (.iload_n 1, 1) := by decide +kernel
theorem dX10_close_79 : decode cX10_close 79 = .ok (.lload_n 2, 1) := by decide +kernel
theorem dX10_close_80 : decode cX10_close 80 = .ok (.lload 4, 2) := by decide +kernel
theorem dX10_close_82 : decode cX10_close 82 = .ok (.invokevirtual 154, 3) := by decide +kernel
theorem dX10_close_85 : decode cX10_close 85 = .ok (.return_, 1) := by decide +kernel
theorem dX10_readOne_0 : decode cX10_readOne 0 = .ok (.aload_n 0, 1) := by decide +kernel
theorem dX10_readOne_1 : decode cX10_readOne 1 = .ok (.invokevirtual 158, 3) := by decide +kernel
theorem dX10_readOne_4 : decode cX10_readOne 4 = .ok (.istore_n 1, 1) := by decide +kernel
theorem dX10_readOne_5 : decode cX10_readOne 5 = .ok (.aload_n 0, 1) := by decide +kernel
theorem dX10_readOne_6 : decode cX10_readOne 6 = .ok (.dup, 1) := by decide +kernel
theorem dX10_readOne_7 : decode cX10_readOne 7 = .ok (.getfield 127, 3) := by decide +kernel
theorem dX10_readOne_10 : decode cX10_readOne 10 = .ok (.iconst 1, 1) := by decide +kernel
theorem dX10_readOne_11 : decode cX10_readOne 11 = .ok (.iadd, 1) := by decide +kernel
theorem dX10_readOne_12 : decode cX10_readOne 12 = .ok (.putfield 127, 3) := by decide +kernel
theorem dX10_readOne_15 : decode cX10_readOne 15 = .ok (.iload_n 1, 1) := by decide +kernel
theorem dX10_readOne_16 : decode cX10_readOne 16 = .ok (.invokestatic 162, 3) := by decide +kernel
theorem dX10_readOne_19 : decode cX10_readOne 19 = .ok (.ifCond .lt 22, 3) := by decide +kernel
theorem dX10_readOne_22 : decode cX10_readOne 22 = .ok (.aload_n 0, 1) := by decide +kernel
theorem dX10_readOne_23 : decode cX10_readOne 23 = .ok (.lconst 1, 1) := by decide +kernel
theorem dX10_readOne_24 : decode cX10_readOne 24 = .ok (.iload_n 1, 1) := by decide +kernel
theorem dX10_readOne_25 : decode cX10_readOne 25 = .ok (.invokestatic 162, 3) := by decide +kernel
theorem dX10_readOne_28 : decode cX10_readOne 28 = .ok (.lshl, 1) := by decide +kernel
theorem dX10_readOne_29 : decode cX10_readOne 29 = .ok (.aload_n 0, 1) := by decide +kernel
theorem dX10_readOne_30 : decode cX10_readOne 30 = .ok (.getfield 127, 3) := by decide +kernel
theorem dX10_readOne_33 : decode cX10_readOne 33 = .ok (.iconst 1, 1) := by decide +kernel
theorem dX10_readOne_34 : decode cX10_readOne 34 = .ok (.isub, 1) := by decide +kernel
theorem dX10_readOne_35 : decode cX10_readOne 35 = .ok (.invokevirtual 175, 3) := by decide +kernel
theorem dX10_readOne_38 : decode cX10_readOne 38 = .ok (.goto 162, 3) := by decide +kernel
theorem dX10_readOne_41 : decode cX10_readOne 41 = .ok (.iload_n 1, 1) := by decide +kernel
theorem dX10_readOne_42 : decode cX10_readOne 42 = .ok (.bipush 46, 2) := by decide +kernel
theorem dX10_readOne_44 : decode cX10_readOne 44 = .ok (.if_icmp .ne 22, 3) := by decide +kernel
theorem dX10_readOne_47 : decode cX10_readOne 47 = .ok (.aload_n 0, 1) := by decide +kernel
theorem dX10_readOne_48 : decode cX10_readOne 48 = .ok (.iconst 0, 1) := by decide +kernel
theorem dX10_readOne_49 : decode cX10_readOne 49 = .ok (.bipush 35, 2) := by decide +kernel
theorem dX10_readOne_51 : decode cX10_readOne 51 = .ok (.invokestatic 169, 3) := by decide +kernel
theorem dX10_readOne_54 : decode cX10_readOne 54 = .ok (.aload_n 0, 1) := by decide +kernel
theorem dX10_readOne_55 : decode cX10_readOne 55 = .ok (.getfield 127, 3) := by decide +kernel
theorem dX10_readOne_58 : decode cX10_readOne 58 = .ok (.iconst 1, 1) := by decide +kernel
theorem dX10_readOne_59 : decode cX10_readOne 59 = .ok (.isub, 1) := by decide +kernel
theorem dX10_readOne_60 : decode cX10_readOne 60 = .ok (.invokevirtual 175, 3) := by decide +kernel
theorem dX10_readOne_63 : decode cX10_readOne 63 = .ok (.goto 137, 3) := by decide +kernel
theorem dX10_readOne_66 : decode cX10_readOne 66 = .ok (.iload_n 1, 1) := by decide +kernel
theorem dX10_readOne_67 : decode cX10_readOne 67 = .ok (.bipush 91, 2) := by decide +kernel
theorem dX10_readOne_69 : decode cX10_readOne 69 = .ok (.if_icmp .ne 10, 3) := by decide +kernel
theorem dX10_readOne_72 : decode cX10_readOne 72 = .ok (.aload_n 0, 1) := by decide +kernel
theorem dX10_readOne_73 : decode cX10_readOne 73 = .ok (.invokevirtual 192, 3) := by decide +kernel
theorem dX10_readOne_76 : decode cX10_readOne 76 = .ok (.goto 124, 3) := by decide +kernel
theorem dX10_readOne_79 : decode cX10_readOne 79 = .ok (.iload_n 1, 1) := by decide +kernel
theorem dX10_readOne_80 : decode cX10_readOne 80 = .ok (.bipush 40, 2) := by decide +kernel
theorem dX10_readOne_82 : decode cX10_readOne 82 = .ok (.if_icmp .ne 45, 3) := by decide +kernel
theorem dX10_readOne_85 : decode cX10_readOne 85 = .ok (.aload_n 0, 1) := by decide +kernel
theorem dX10_readOne_86 : decode cX10_readOne 86 = .ok (.getfield 134, 3) := by decide +kernel
theorem dX10_readOne_89 : decode cX10_readOne 89 = .ok (.bipush 8, 2) := by decide +kernel
theorem dX10_readOne_91 : decode cX10_readOne 91 = .ok (.if_icmp .ne 15, 3) := by decide +kernel
theorem dX10_readOne_94 : decode cX10_readOne 94 = .ok (.aload_n 0, 1) := by decide +kernel
theorem dX10_readOne_95 : decode cX10_readOne 95 = .ok (.iconst 5, 1) := by decide +kernel
theorem dX10_readOne_96 : decode cX10_readOne 96 = .ok (.aload_n 0, 1) := by decide +kernel
theorem dX10_readOne_97 : decode cX10_readOne 97 = .ok (.getfield 127, 3) := by decide +kernel
theorem dX10_readOne_100 : decode cX10_readOne 100 = .ok (.iconst 1, 1) := by decide +kernel
theorem dX10_readOne_101 : decode cX10_readOne 101 = .ok (.isub, 1) := by decide +kernel
theorem dX10_readOne_102 : decode cX10_readOne 102 = .ok (.invokevirtual 130, 3) := by decide +kernel
theorem dX10_readOne_105 : decode cX10_readOne 105 = .ok (.return_, 1) := by decide +kernel
theorem dX10_readOne_106 : decode cX10_readOne 106 = .ok (.aload_n 0, 1) := by decide +kernel
theorem dX10_readOne_107 : decode cX10_readOne 107 = .ok (.invokevirtual 151, 3) := by decide +kernel
theorem dX10_readOne_110 : decode cX10_readOne 110 = .ok (.aload_n 0, 1) := by decide +kernel
theorem dX10_readOne_111 : decode cX10_readOne 111 = .ok (.dup, 1) := by decide +kernel
theorem dX10_readOne_112 : decode cX10_readOne 112 = .ok (.getfield 134, 3) := by decide +kernel
theorem dX10_readOne_115 : decode cX10_readOne 115 = .ok (.iconst 1, 1) := by decide +kernel
theorem dX10_readOne_116 : decode cX10_readOne 116 = .ok (.iadd, 1) := by decide +kernel
theorem dX10_readOne_117 : decode cX10_readOne 117 = .ok (.putfield 134, 3) := by decide +kernel
theorem dX10_readOne_120 : decode cX10_readOne 120 = .ok (.aload_n 0, 1) := by decide +kernel
theorem dX10_readOne_121 : decode cX10_readOne 121 = .ok (.invokevirtual 195, 3) := by decide +kernel
theorem dX10_readOne_124 : decode cX10_readOne 124 = .ok (.goto 76, 3) := by decide +kernel
theorem dX10_readOne_127 : decode cX10_readOne 127 = .ok (.iload_n 1, 1) := by decide +kernel
theorem dX10_readOne_128 : decode cX10_readOne 128 = .ok (.bipush 41, 2) := by decide +kernel
theorem dX10_readOne_130 : decode cX10_readOne 130 = .ok (.if_icmp .ne 10, 3) := by decide +kernel
theorem dX10_readOne_133 : decode cX10_readOne 133 = .ok (.aload_n 0, 1) := by decide +kernel
theorem dX10_readOne_134 : decode cX10_readOne 134 = .ok (.invokevirtual 198, 3) := by decide +kernel
theorem dX10_readOne_137 : decode cX10_readOne 137 = .ok (.goto 63, 3) := by decide +kernel
theorem dX10_readOne_140 : decode cX10_readOne 140 = .ok (.iload_n 1, 1) := by decide +kernel
theorem dX10_readOne_141 : decode cX10_readOne 141 = .ok (.bipush 124, 2) := by decide +kernel
theorem dX10_readOne_143 : decode cX10_readOne 143 = .ok (.if_icmp .ne 14, 3) := by decide +kernel
theorem dX10_readOne_146 : decode cX10_readOne 146 = .ok (.aload_n 0, 1) := by decide +kernel
theorem dX10_readOne_147 : decode cX10_readOne 147 = .ok (.invokevirtual 189, 3) := by decide +kernel
theorem dX10_readOne_150 : decode cX10_readOne 150 = .ok (.aload_n 0, 1) := by decide +kernel
theorem dX10_readOne_151 : decode cX10_readOne 151 = .ok (.invokevirtual 140, 3) := by decide +kernel
theorem dX10_readOne_154 : decode cX10_readOne 154 = .ok (.goto 46, 3) := by decide +kernel
theorem dX10_readOne_157 : decode cX10_readOne 157 = .ok (.iload_n 1, 1) := by decide +kernel
theorem dX10_readOne_158 : decode cX10_readOne 158 = .ok (.bipush 42, 2) := by decide +kernel
theorem dX10_readOne_160 : decode cX10_readOne 160 = .ok (.if_icmp .eq 21, 3) := by decide +kernel
theorem dX10_readOne_163 : decode cX10_readOne 163 = .ok (.iload_n 1, 1) := by decide +kernel
theorem dX10_readOne_164 : decode cX10_readOne 164 = .ok (.bipush 43, 2) := by decide +kernel
theorem dX10_readOne_166 : decode cX10_readOne 166 = .ok (.if_icmp .eq 15, 3) := by decide +kernel
theorem dX10_readOne_169 : decode cX10_readOne 169 = .ok (.iload_n 1, 1) := by decide +kernel
theorem dX10_readOne_170 : decode cX10_readOne 170 = .ok (.bipush 63, 2) := by decide +kernel
theorem dX10_readOne_172 : decode cX10_readOne 172 = .ok (.if_icmp .eq 9, 3) := by decide +kernel
theorem dX10_readOne_175 : decode cX10_readOne 175 = .ok (.iload_n 1, 1) := by decide +kernel
theorem dX10_readOne_176 : decode cX10_readOne 176 = .ok (.bipush 123, 2) := by decide +kernel
theorem dX10_readOne_178 : decode cX10_readOne 178 = .ok (.if_icmp .ne 11, 3) := by decide +kernel
theorem dX10_readOne_181 : decode cX10_readOne 181 = .ok (.aload_n 0, 1) := by decide +kernel
theorem dX10_readOne_182 : decode cX10_readOne 182 = .ok (.iload_n 1, 1) := by decide +kernel
theorem dX10_readOne_183 : decode cX10_readOne 183 = .ok (.invokevirtual 201, 3) := by decide +kernel
theorem dX10_readOne_186 : decode cX10_readOne 186 = .ok (.goto 14, 3) := by decide +kernel
theorem dX10_readOne_189 : decode cX10_readOne 189 = .ok (.aload_n 0, 1) := by decide +kernel
theorem dX10_readOne_190 : decode cX10_readOne 190 = .ok (.iconst 1, 1) := by decide +kernel
theorem dX10_readOne_191 : decode cX10_readOne 191 = .ok (.aload_n 0, 1) := by decide +kernel
theorem dX10_readOne_192 : decode cX10_readOne 192 = .ok (.getfield 127, 3) := by decide +kernel
theorem dX10_readOne_195 : decode cX10_readOne 195 = .ok (.iconst 1, 1) := by decide +kernel
theorem dX10_readOne_196 : decode cX10_readOne 196 = .ok (.isub, 1) := by decide +kernel
theorem dX10_readOne_197 : decode cX10_readOne 197 = .ok (.invokevirtual 130, 3) := by decide +kernel
theorem dX10_readOne_200 : decode cX10_readOne 200 = .ok (.return_, 1) := by decide +kernel
theorem dX10_copy_0 : decode cX10_copy 0 = .ok (.aload_n 0, 1) := by decide +kernel
theorem dX10_copy_1 : decode cX10_copy 1 = .ok (.getfield 20, 3) := by decide +kernel
theorem dX10_copy_4 : decode cX10_copy 4 = .ok (.iload_n 2, 1) := by decide +kernel
theorem dX10_copy_5 : decode cX10_copy 5 = .ok (.iconst 1, 1) := by decide +kernel
theorem dX10_copy_6 : decode cX10_copy 6 = .ok (.bastore, 1) := by decide +kernel
theorem dX10_copy_7 : decode cX10_copy 7 = .ok (.aload_n 0, 1) := by decide +kernel
theorem dX10_copy_8 : decode cX10_copy 8 = .ok (.getfield 24, 3) := by decide +kernel
theorem dX10_copy_11 : decode cX10_copy 11 = .ok (.iload_n 2, 1) := by decide +kernel
theorem dX10_copy_12 : decode cX10_copy 12 = .ok (.aload_n 0, 1) := by decide +kernel
theorem dX10_copy_13 : decode cX10_copy 13 = .ok (.getfield 24, 3) := by decide +kernel
theorem dX10_copy_16 : decode cX10_copy 16 = .ok (.iload_n 1, 1) := by decide +kernel
theorem dX10_copy_17 : decode cX10_copy 17 = .ok (.iaload, 1) := by decide +kernel
theorem dX10_copy_18 : decode cX10_copy 18 = .ok (.iastore, 1) := by decide +kernel
theorem dX10_copy_19 : decode cX10_copy 19 = .ok (.aload_n 0, 1) := by decide +kernel
theorem dX10_copy_20 : decode cX10_copy 20 = .ok (.getfield 27, 3) := by decide +kernel
theorem dX10_copy_23 : decode cX10_copy 23 = .ok (.iload_n 2, 1) := by decide +kernel
theorem dX10_copy_24 : decode cX10_copy 24 = .ok (.aload_n 0, 1) := by decide +kernel
theorem dX10_copy_25 : decode cX10_copy 25 = .ok (.getfield 27, 3) := by decide +kernel
theorem dX10_copy_28 : decode cX10_copy 28 = .ok (.iload_n 1, 1) := by decide +kernel
theorem dX10_copy_29 : decode cX10_copy 29 = .ok (.baload, 1) := by decide +kernel
theorem dX10_copy_30 : decode cX10_copy 30 = .ok (.bastore, 1) := by decide +kernel
theorem dX10_copy_31 : decode cX10_copy 31 = .ok (.aload_n 0, 1) := by decide +kernel
theorem dX10_copy_32 : decode cX10_copy 32 = .ok (.getfield 30, 3) := by decide +kernel
theorem dX10_copy_35 : decode cX10_copy 35 = .ok (.iload_n 2, 1) := by decide +kernel
theorem dX10_copy_36 : decode cX10_copy 36 = .ok (.aload_n 0, 1) := by decide +kernel
theorem dX10_copy_37 : decode cX10_copy 37 = .ok (.getfield 30, 3) := by decide +kernel
theorem dX10_copy_40 : decode cX10_copy 40 = .ok (.iload_n 1, 1) := by decide +kernel
theorem dX10_copy_41 : decode cX10_copy 41 = .ok (.laload, 1) := by decide +kernel
theorem dX10_copy_42 : decode cX10_copy 42 = .ok (.lastore, 1) := by decide +kernel
theorem dX10_copy_43 : decode cX10_copy 43 = .ok (.aload_n 0, 1) := by decide +kernel
theorem dX10_copy_44 : decode cX10_copy 44 = .ok (.getfield 34, 3) := by decide +kernel
theorem dX10_copy_47 : decode cX10_copy 47 = .ok (.iload_n 2, 1) := by decide +kernel
theorem dX10_copy_48 : decode cX10_copy 48 = .ok (.aload_n 0, 1) := by decide +kernel
theorem dX10_copy_49 : decode cX10_copy 49 = .ok (.getfield 34, 3) := by decide +kernel
theorem dX10_copy_52 : decode cX10_copy 52 = .ok (.iload_n 1, 1) := by decide +kernel
theorem dX10_copy_53 : decode cX10_copy 53 = .ok (.laload, 1) := by decide +kernel
theorem dX10_copy_54 : decode cX10_copy 54 = .ok (.lastore, 1) := by decide +kernel
theorem dX10_copy_55 : decode cX10_copy 55 = .ok (.iconst 0, 1) := by decide +kernel
theorem dX10_copy_56 : decode cX10_copy 56 = .ok (.istore_n 3, 1) := by decide +kernel
theorem dX10_copy_57 : decode cX10_copy 57 = .ok (.iload_n 3, 1) := by decide +kernel
theorem dX10_copy_58 : decode cX10_copy 58 = .ok (.bipush 60, 2) := by decide +kernel
theorem dX10_copy_60 : decode cX10_copy 60 = .ok (.if_icmp .ge 53, 3) := by decide +kernel
theorem dX10_copy_63 : decode cX10_copy 63 = .ok (.aload_n 0, 1) := by decide +kernel
theorem dX10_copy_64 : decode cX10_copy 64 = .ok (.getfield 37, 3) := by decide +kernel
theorem dX10_copy_67 : decode cX10_copy 67 = .ok (.bipush 60, 2) := by decide +kernel
theorem dX10_copy_69 : decode cX10_copy 69 = .ok (.iload_n 2, 1) := by decide +kernel
theorem dX10_copy_70 : decode cX10_copy 70 = .ok (.imul, 1) := by decide +kernel
theorem dX10_copy_71 : decode cX10_copy 71 = .ok (.iload_n 3, 1) := by decide +kernel
theorem dX10_copy_72 : decode cX10_copy 72 = .ok (.iadd, 1) := by decide +kernel
theorem dX10_copy_73 : decode cX10_copy 73 = .ok (.aload_n 0, 1) := by decide +kernel
theorem dX10_copy_74 : decode cX10_copy 74 = .ok (.getfield 37, 3) := by decide +kernel
theorem dX10_copy_77 : decode cX10_copy 77 = .ok (.bipush 60, 2) := by decide +kernel
theorem dX10_copy_79 : decode cX10_copy 79 = .ok (.iload_n 1, 1) := by decide +kernel
theorem dX10_copy_80 : decode cX10_copy 80 = .ok (.imul, 1) := by decide +kernel
theorem dX10_copy_81 : decode cX10_copy 81 = .ok (.iload_n 3, 1) := by decide +kernel
theorem dX10_copy_82 : decode cX10_copy 82 = .ok (.iadd, 1) := by decide +kernel
theorem dX10_copy_83 : decode cX10_copy 83 = .ok (.laload, 1) := by decide +kernel
theorem dX10_copy_84 : decode cX10_copy 84 = .ok (.lastore, 1) := by decide +kernel
theorem dX10_copy_85 : decode cX10_copy 85 = .ok (.aload_n 0, 1) := by decide +kernel
theorem dX10_copy_86 : decode cX10_copy 86 = .ok (.getfield 40, 3) := by decide +kernel
theorem dX10_copy_89 : decode cX10_copy 89 = .ok (.bipush 60, 2) := by decide +kernel
theorem dX10_copy_91 : decode cX10_copy 91 = .ok (.iload_n 2, 1) := by decide +kernel
theorem dX10_copy_92 : decode cX10_copy 92 = .ok (.imul, 1) := by decide +kernel
theorem dX10_copy_93 : decode cX10_copy 93 = .ok (.iload_n 3, 1) := by decide +kernel
theorem dX10_copy_94 : decode cX10_copy 94 = .ok (.iadd, 1) := by decide +kernel
theorem dX10_copy_95 : decode cX10_copy 95 = .ok (.aload_n 0, 1) := by decide +kernel
theorem dX10_copy_96 : decode cX10_copy 96 = .ok (.getfield 40, 3) := by decide +kernel
theorem dX10_copy_99 : decode cX10_copy 99 = .ok (.bipush 60, 2) := by decide +kernel
theorem dX10_copy_101 : decode cX10_copy 101 = .ok (.iload_n 1, 1) := by decide +kernel
theorem dX10_copy_102 : decode cX10_copy 102 = .ok (.imul, 1) := by decide +kernel
theorem dX10_copy_103 : decode cX10_copy 103 = .ok (.iload_n 3, 1) := by decide +kernel
theorem dX10_copy_104 : decode cX10_copy 104 = .ok (.iadd, 1) := by decide +kernel
theorem dX10_copy_105 : decode cX10_copy 105 = .ok (.laload, 1) := by decide +kernel
theorem dX10_copy_106 : decode cX10_copy 106 = .ok (.lastore, 1) := by decide +kernel
theorem dX10_copy_107 : decode cX10_copy 107 = .ok (.iinc 3 1, 3) := by decide +kernel
theorem dX10_copy_110 : decode cX10_copy 110 = .ok (.goto (-53), 3) := by decide +kernel
theorem dX10_copy_113 : decode cX10_copy 113 = .ok (.return_, 1) := by decide +kernel
theorem dX10_read_0 : decode cX10_read 0 = .ok (.aload_n 0, 1) := by decide +kernel
theorem dX10_read_1 : decode cX10_read 1 = .ok (.iconst 0, 1) := by decide +kernel
theorem dX10_read_2 : decode cX10_read 2 = .ok (.putfield 116, 3) := by decide +kernel
theorem dX10_read_5 : decode cX10_read 5 = .ok (.aload_n 0, 1) := by decide +kernel
theorem dX10_read_6 : decode cX10_read 6 = .ok (.iconst 0, 1) := by decide +kernel
theorem dX10_read_7 : decode cX10_read 7 = .ok (.putfield 127, 3) := by decide +kernel
theorem dX10_read_10 : decode cX10_read 10 = .ok (.aload_n 0, 1) := by decide +kernel
theorem dX10_read_11 : decode cX10_read 11 = .ok (.iconst 0, 1) := by decide +kernel
theorem dX10_read_12 : decode cX10_read 12 = .ok (.putfield 124, 3) := by decide +kernel
theorem dX10_read_15 : decode cX10_read 15 = .ok (.aload_n 0, 1) := by decide +kernel
theorem dX10_read_16 : decode cX10_read 16 = .ok (.iconst (-1), 1) := by decide +kernel
theorem dX10_read_17 : decode cX10_read 17 = .ok (.putfield 16, 3) := by decide +kernel
theorem dX10_read_20 : decode cX10_read 20 = .ok (.aload_n 0, 1) := by decide +kernel
theorem dX10_read_21 : decode cX10_read 21 = .ok (.iconst 0, 1) := by decide +kernel
theorem dX10_read_22 : decode cX10_read 22 = .ok (.putfield 134, 3) := by decide +kernel
theorem dX10_read_25 : decode cX10_read 25 = .ok (.aload_n 0, 1) := by decide +kernel
theorem dX10_read_26 : decode cX10_read 26 = .ok (.iconst 0, 1) := by decide +kernel
theorem dX10_read_27 : decode cX10_read 27 = .ok (.putfield 137, 3) := by decide +kernel
theorem dX10_read_30 : decode cX10_read 30 = .ok (.aload_n 0, 1) := by decide +kernel
theorem dX10_read_31 : decode cX10_read 31 = .ok (.invokevirtual 195, 3) := by decide +kernel
theorem dX10_read_34 : decode cX10_read 34 = .ok (.aload_n 0, 1) := by decide +kernel
theorem dX10_read_35 : decode cX10_read 35 = .ok (.getfield 127, 3) := by decide +kernel
theorem dX10_read_38 : decode cX10_read 38 = .ok (.aload_n 0, 1) := by decide +kernel
theorem dX10_read_39 : decode cX10_read 39 = .ok (.getfield 119, 3) := by decide +kernel
theorem dX10_read_42 : decode cX10_read 42 = .ok (.if_icmp .ge 17, 3) := by decide +kernel
theorem dX10_read_45 : decode cX10_read 45 = .ok (.aload_n 0, 1) := by decide +kernel
theorem dX10_read_46 : decode cX10_read 46 = .ok (.getfield 124, 3) := by decide +kernel
theorem dX10_read_49 : decode cX10_read 49 = .ok (.ifCond .ne 10, 3) := by decide +kernel
theorem dX10_read_52 : decode cX10_read 52 = .ok (.aload_n 0, 1) := by decide +kernel
theorem dX10_read_53 : decode cX10_read 53 = .ok (.invokevirtual 205, 3) := by decide +kernel
theorem dX10_read_56 : decode cX10_read 56 = .ok (.goto (-22), 3) := by decide +kernel
theorem dX10_read_59 : decode cX10_read 59 = .ok (.aload_n 0, 1) := by decide +kernel
theorem dX10_read_60 : decode cX10_read 60 = .ok (.getfield 134, 3) := by decide +kernel
theorem dX10_read_63 : decode cX10_read 63 = .ok (.ifCond .le 12, 3) := by decide +kernel
theorem dX10_read_66 : decode cX10_read 66 = .ok (.aload_n 0, 1) := by decide +kernel
theorem dX10_read_67 : decode cX10_read 67 = .ok (.iconst 2, 1) := by decide +kernel
theorem dX10_read_68 : decode cX10_read 68 = .ok (.aload_n 0, 1) := by decide +kernel
theorem dX10_read_69 : decode cX10_read 69 = .ok (.getfield 119, 3) := by decide +kernel
theorem dX10_read_72 : decode cX10_read 72 = .ok (.invokevirtual 130, 3) := by decide +kernel
theorem dX10_read_75 : decode cX10_read 75 = .ok (.aload_n 0, 1) := by decide +kernel
theorem dX10_read_76 : decode cX10_read 76 = .ok (.iconst 0, 1) := by decide +kernel
theorem dX10_read_77 : decode cX10_read 77 = .ok (.putfield 119, 3) := by decide +kernel
theorem dX10_read_80 : decode cX10_read 80 = .ok (.aload_n 0, 1) := by decide +kernel
theorem dX10_read_81 : decode cX10_read 81 = .ok (.getfield 124, 3) := by decide +kernel
theorem dX10_read_84 : decode cX10_read 84 = .ok (.ifCond .le 8, 3) := by decide +kernel
theorem dX10_read_87 : decode cX10_read 87 = .ok (.aload_n 0, 1) := by decide +kernel
theorem dX10_read_88 : decode cX10_read 88 = .ok (.getfield 124, 3) := by decide +kernel
theorem dX10_read_91 : decode cX10_read 91 = .ok (.ireturn, 1) := by decide +kernel
theorem dX10_read_92 : decode cX10_read 92 = .ok (.aload_n 0, 1) := by decide +kernel
theorem dX10_read_93 : decode cX10_read 93 = .ok (.invokevirtual 189, 3) := by decide +kernel
theorem dX10_read_96 : decode cX10_read 96 = .ok (.aload_n 0, 1) := by decide +kernel
theorem dX10_read_97 : decode cX10_read 97 = .ok (.getfield 24, 3) := by decide +kernel
theorem dX10_read_100 : decode cX10_read 100 = .ok (.iconst 2, 1) := by decide +kernel
theorem dX10_read_101 : decode cX10_read 101 = .ok (.aload_n 0, 1) := by decide +kernel
theorem dX10_read_102 : decode cX10_read 102 = .ok (.getfield 137, 3) := by decide +kernel
theorem dX10_read_105 : decode cX10_read 105 = .ok (.iastore, 1) := by decide +kernel
theorem dX10_read_106 : decode cX10_read 106 = .ok (.aload_n 0, 1) := by decide +kernel
theorem dX10_read_107 : decode cX10_read 107 = .ok (.getfield 27, 3) := by decide +kernel
theorem dX10_read_110 : decode cX10_read 110 = .ok (.iconst 2, 1) := by decide +kernel
theorem dX10_read_111 : decode cX10_read 111 = .ok (.aload_n 0, 1) := by decide +kernel
theorem dX10_read_112 : decode cX10_read 112 = .ok (.getfield 67, 3) := by decide +kernel
theorem dX10_read_115 : decode cX10_read 115 = .ok (.iconst 0, 1) := by decide +kernel
theorem dX10_read_116 : decode cX10_read 116 = .ok (.baload, 1) := by decide +kernel
theorem dX10_read_117 : decode cX10_read 117 = .ok (.bastore, 1) := by decide +kernel
theorem dX10_read_118 : decode cX10_read 118 = .ok (.aload_n 0, 1) := by decide +kernel
theorem dX10_read_119 : decode cX10_read 119 = .ok (.getfield 30, 3) := by decide +kernel
theorem dX10_read_122 : decode cX10_read 122 = .ok (.iconst 2, 1) := by decide +kernel
theorem dX10_read_123 : decode cX10_read 123 = .ok (.aload_n 0, 1) := by decide +kernel
theorem dX10_read_124 : decode cX10_read 124 = .ok (.getfield 70, 3) := by decide +kernel
theorem dX10_read_127 : decode cX10_read 127 = .ok (.iconst 0, 1) := by decide +kernel
theorem dX10_read_128 : decode cX10_read 128 = .ok (.laload, 1) := by decide +kernel
theorem dX10_read_129 : decode cX10_read 129 = .ok (.lastore, 1) := by decide +kernel
theorem dX10_read_130 : decode cX10_read 130 = .ok (.aload_n 0, 1) := by decide +kernel
theorem dX10_read_131 : decode cX10_read 131 = .ok (.getfield 34, 3) := by decide +kernel
theorem dX10_read_134 : decode cX10_read 134 = .ok (.iconst 2, 1) := by decide +kernel
theorem dX10_read_135 : decode cX10_read 135 = .ok (.aload_n 0, 1) := by decide +kernel
theorem dX10_read_136 : decode cX10_read 136 = .ok (.getfield 73, 3) := by decide +kernel
theorem dX10_read_139 : decode cX10_read 139 = .ok (.iconst 0, 1) := by decide +kernel
theorem dX10_read_140 : decode cX10_read 140 = .ok (.laload, 1) := by decide +kernel
theorem dX10_read_141 : decode cX10_read 141 = .ok (.lastore, 1) := by decide +kernel
theorem dX10_read_142 : decode cX10_read 142 = .ok (.aload_n 0, 1) := by decide +kernel
theorem dX10_read_143 : decode cX10_read 143 = .ok (.iconst 2, 1) := by decide +kernel
theorem dX10_read_144 : decode cX10_read 144 = .ok (.iconst 0, 1) := by decide +kernel
theorem dX10_read_145 : decode cX10_read 145 = .ok (.invokevirtual 208, 3) := by decide +kernel
theorem dX10_read_148 : decode cX10_read 148 = .ok (.iconst 0, 1) := by decide +kernel
theorem dX10_read_149 : decode cX10_read 149 = .ok (.ireturn, 1) := by decide +kernel
theorem dX10_place_0 : decode cX10_place 0 = .ok (.aload_n 0, 1) := by decide +kernel
theorem dX10_place_1 : decode cX10_place 1 = .ok (.iconst 0, 1) := by decide +kernel
theorem dX10_place_2 : decode cX10_place 2 = .ok (.putfield 116, 3) := by decide +kernel
theorem dX10_place_5 : decode cX10_place 5 = .ok (.aload_n 0, 1) := by decide +kernel
theorem dX10_place_6 : decode cX10_place 6 = .ok (.getfield 16, 3) := by decide +kernel
theorem dX10_place_9 : decode cX10_place 9 = .ok (.ireturn, 1) := by decide +kernel
theorem dX10_none_0 : decode cX10_none 0 = .ok (.aload_n 0, 1) := by decide +kernel
theorem dX10_none_1 : decode cX10_none 1 = .ok (.aload_n 0, 1) := by decide +kernel
theorem dX10_none_2 : decode cX10_none 2 = .ok (.getfield 20, 3) := by decide +kernel
theorem dX10_none_5 : decode cX10_none 5 = .ok (.iconst 0, 1) := by decide +kernel
theorem dX10_none_6 : decode cX10_none 6 = .ok (.baload, 1) := by decide +kernel
theorem dX10_none_7 : decode cX10_none 7 = .ok (.ifCond .eq 7, 3) := by decide +kernel
theorem dX10_none_10 : decode cX10_none 10 = .ok (.iconst 0, 1) := by decide +kernel
theorem dX10_none_11 : decode cX10_none 11 = .ok (.goto 4, 3) := by decide +kernel
theorem dX10_none_14 : decode cX10_none 14 = .ok (.iconst 1, 1) := by decide +kernel
theorem dX10_none_15 : decode cX10_none 15 = .ok (.putfield 116, 3) := by decide +kernel
theorem dX10_none_18 : decode cX10_none 18 = .ok (.aload_n 0, 1) := by decide +kernel
theorem dX10_none_19 : decode cX10_none 19 = .ok (.getfield 116, 3) := by decide +kernel
theorem dX10_none_22 : decode cX10_none 22 = .ok (.ifCond .le 7, 3) := by decide +kernel
theorem dX10_none_25 : decode cX10_none 25 = .ok (.iconst 1, 1) := by decide +kernel
theorem dX10_none_26 : decode cX10_none 26 = .ok (.goto 4, 3) := by decide +kernel
theorem dX10_none_29 : decode cX10_none 29 = .ok (.iconst 0, 1) := by decide +kernel
theorem dX10_none_30 : decode cX10_none 30 = .ok (.ireturn, 1) := by decide +kernel
theorem dX10_positions_0 : decode cX10_positions 0 = .ok (.aload_n 0, 1) := by decide +kernel
theorem dX10_positions_1 : decode cX10_positions 1 = .ok (.invokevirtual 211, 3) := by decide +kernel
theorem dX10_positions_4 : decode cX10_positions 4 = .ok (.ifCond .eq 7, 3) := by decide +kernel
theorem dX10_positions_7 : decode cX10_positions 7 = .ok (.iconst 0, 1) := by decide +kernel
theorem dX10_positions_8 : decode cX10_positions 8 = .ok (.goto 9, 3) := by decide +kernel
theorem dX10_positions_11 : decode cX10_positions 11 = .ok (.aload_n 0, 1) := by decide +kernel
theorem dX10_positions_12 : decode cX10_positions 12 = .ok (.getfield 24, 3) := by decide +kernel
theorem dX10_positions_15 : decode cX10_positions 15 = .ok (.iconst 0, 1) := by decide +kernel
theorem dX10_positions_16 : decode cX10_positions 16 = .ok (.iaload, 1) := by decide +kernel
theorem dX10_positions_17 : decode cX10_positions 17 = .ok (.ireturn, 1) := by decide +kernel
theorem dX10_empty_0 : decode cX10_empty 0 = .ok (.aload_n 0, 1) := by decide +kernel
theorem dX10_empty_1 : decode cX10_empty 1 = .ok (.invokevirtual 211, 3) := by decide +kernel
theorem dX10_empty_4 : decode cX10_empty 4 = .ok (.ifCond .ne 16, 3) := by decide +kernel
theorem dX10_empty_7 : decode cX10_empty 7 = .ok (.aload_n 0, 1) := by decide +kernel
theorem dX10_empty_8 : decode cX10_empty 8 = .ok (.getfield 27, 3) := by decide +kernel
theorem dX10_empty_11 : decode cX10_empty 11 = .ok (.iconst 0, 1) := by decide +kernel
theorem dX10_empty_12 : decode cX10_empty 12 = .ok (.baload, 1) := by decide +kernel
theorem dX10_empty_13 : decode cX10_empty 13 = .ok (.ifCond .eq 7, 3) := by decide +kernel
theorem dX10_empty_16 : decode cX10_empty 16 = .ok (.iconst 1, 1) := by decide +kernel
theorem dX10_empty_17 : decode cX10_empty 17 = .ok (.goto 4, 3) := by decide +kernel
theorem dX10_empty_20 : decode cX10_empty 20 = .ok (.iconst 0, 1) := by decide +kernel
theorem dX10_empty_21 : decode cX10_empty 21 = .ok (.ireturn, 1) := by decide +kernel
theorem dX10_noPosition_0 : decode cX10_noPosition 0 = .ok (.aload_n 0, 1) := by decide +kernel
theorem dX10_noPosition_1 : decode cX10_noPosition 1 = .ok (.aload_n 0, 1) := by decide +kernel
theorem dX10_noPosition_2 : decode cX10_noPosition 2 = .ok (.getfield 20, 3) := by decide +kernel
theorem dX10_noPosition_5 : decode cX10_noPosition 5 = .ok (.iconst 0, 1) := by decide +kernel
theorem dX10_noPosition_6 : decode cX10_noPosition 6 = .ok (.baload, 1) := by decide +kernel
theorem dX10_noPosition_7 : decode cX10_noPosition 7 = .ok (.ifCond .ne 7, 3) := by decide +kernel
theorem dX10_noPosition_10 : decode cX10_noPosition 10 = .ok (.iconst 1, 1) := by decide +kernel
theorem dX10_noPosition_11 : decode cX10_noPosition 11 = .ok (.goto 22, 3) := by decide +kernel
theorem dX10_noPosition_14 : decode cX10_noPosition 14 = .ok (.iload_n 1, 1) := by decide +kernel
theorem dX10_noPosition_15 : decode cX10_noPosition 15 = .ok (.ifCond .lt 13, 3) := by decide +kernel
theorem dX10_noPosition_18 : decode cX10_noPosition 18 = .ok (.iload_n 1, 1) := by decide +kernel
theorem dX10_noPosition_19 : decode cX10_noPosition 19 = .ok (.aload_n 0, 1) := by decide +kernel
theorem dX10_noPosition_20 : decode cX10_noPosition 20 = .ok (.getfield 24, 3) := by decide +kernel
theorem dX10_noPosition_23 : decode cX10_noPosition 23 = .ok (.iconst 0, 1) := by decide +kernel
theorem dX10_noPosition_24 : decode cX10_noPosition 24 = .ok (.iaload, 1) := by decide +kernel
theorem dX10_noPosition_25 : decode cX10_noPosition 25 = .ok (.if_icmp .lt 7, 3) := by decide +kernel
theorem dX10_noPosition_28 : decode cX10_noPosition 28 = .ok (.iconst 2, 1) := by decide +kernel
theorem dX10_noPosition_29 : decode cX10_noPosition 29 = .ok (.goto 4, 3) := by decide +kernel
theorem dX10_noPosition_32 : decode cX10_noPosition 32 = .ok (.iconst 0, 1) := by decide +kernel
theorem dX10_noPosition_33 : decode cX10_noPosition 33 = .ok (.putfield 116, 3) := by decide +kernel
theorem dX10_noPosition_36 : decode cX10_noPosition 36 = .ok (.aload_n 0, 1) := by decide +kernel
theorem dX10_noPosition_37 : decode cX10_noPosition 37 = .ok (.getfield 116, 3) := by decide +kernel
theorem dX10_noPosition_40 : decode cX10_noPosition 40 = .ok (.ifCond .le 7, 3) := by decide +kernel
theorem dX10_noPosition_43 : decode cX10_noPosition 43 = .ok (.iconst 1, 1) := by decide +kernel
theorem dX10_noPosition_44 : decode cX10_noPosition 44 = .ok (.goto 4, 3) := by decide +kernel
theorem dX10_noPosition_47 : decode cX10_noPosition 47 = .ok (.iconst 0, 1) := by decide +kernel
theorem dX10_noPosition_48 : decode cX10_noPosition 48 = .ok (.ireturn, 1) := by decide +kernel
theorem dX10_is_0 : decode cX10_is 0 = .ok (.aload_n 0, 1) := by decide +kernel
theorem dX10_is_1 : decode cX10_is 1 = .ok (.iload_n 1, 1) := by decide +kernel
theorem dX10_is_2 : decode cX10_is 2 = .ok (.invokevirtual 215, 3) := by decide +kernel
theorem dX10_is_5 : decode cX10_is 5 = .ok (.ifCond .eq 5, 3) := by decide +kernel
theorem dX10_is_8 : decode cX10_is 8 = .ok (.iconst 0, 1) := by decide +kernel
theorem dX10_is_9 : decode cX10_is 9 = .ok (.ireturn, 1) := by decide +kernel
theorem dX10_is_10 : decode cX10_is 10 = .ok (.aload_n 0, 1) := by decide +kernel
theorem dX10_is_11 : decode cX10_is 11 = .ok (.iload_n 2, 1) := by decide +kernel
theorem dX10_is_12 : decode cX10_is 12 = .ok (.ifCond .lt 8, 3) := by decide +kernel
theorem dX10_is_15 : decode cX10_is 15 = .ok (.iload_n 2, 1) := by decide +kernel
theorem dX10_is_16 : decode cX10_is 16 = .ok (.iconst 1, 1) := by decide +kernel
theorem dX10_is_17 : decode cX10_is 17 = .ok (.if_icmp .le 7, 3) := by decide +kernel
theorem dX10_is_20 : decode cX10_is 20 = .ok (.iconst 3, 1) := by decide +kernel
theorem dX10_is_21 : decode cX10_is 21 = .ok (.goto 4, 3) := by decide +kernel
theorem dX10_is_24 : decode cX10_is 24 = .ok (.iconst 0, 1) := by decide +kernel
theorem dX10_is_25 : decode cX10_is 25 = .ok (.putfield 116, 3) := by decide +kernel
theorem dX10_is_28 : decode cX10_is 28 = .ok (.aload_n 0, 1) := by decide +kernel
theorem dX10_is_29 : decode cX10_is 29 = .ok (.getfield 116, 3) := by decide +kernel
theorem dX10_is_32 : decode cX10_is 32 = .ok (.ifCond .ne 33, 3) := by decide +kernel
theorem dX10_is_35 : decode cX10_is 35 = .ok (.iload_n 2, 1) := by decide +kernel
theorem dX10_is_36 : decode cX10_is 36 = .ok (.ifCond .ne 12, 3) := by decide +kernel
theorem dX10_is_39 : decode cX10_is 39 = .ok (.aload_n 0, 1) := by decide +kernel
theorem dX10_is_40 : decode cX10_is 40 = .ok (.getfield 30, 3) := by decide +kernel
theorem dX10_is_43 : decode cX10_is 43 = .ok (.iconst 0, 1) := by decide +kernel
theorem dX10_is_44 : decode cX10_is 44 = .ok (.laload, 1) := by decide +kernel
theorem dX10_is_45 : decode cX10_is 45 = .ok (.goto 9, 3) := by decide +kernel
theorem dX10_is_48 : decode cX10_is 48 = .ok (.aload_n 0, 1) := by decide +kernel
theorem dX10_is_49 : decode cX10_is 49 = .ok (.getfield 34, 3) := by decide +kernel
theorem dX10_is_52 : decode cX10_is 52 = .ok (.iconst 0, 1) := by decide +kernel
theorem dX10_is_53 : decode cX10_is 53 = .ok (.laload, 1) := by decide +kernel
theorem dX10_is_54 : decode cX10_is 54 = .ok (.iload_n 1, 1) := by decide +kernel
theorem dX10_is_55 : decode cX10_is 55 = .ok (.invokestatic 143, 3) := by decide +kernel
theorem dX10_is_58 : decode cX10_is 58 = .ok (.ifCond .eq 7, 3) := by decide +kernel
theorem dX10_is_61 : decode cX10_is 61 = .ok (.iconst 1, 1) := by decide +kernel
theorem dX10_is_62 : decode cX10_is 62 = .ok (.goto 4, 3) := by decide +kernel
theorem dX10_is_65 : decode cX10_is 65 = .ok (.iconst 0, 1) := by decide +kernel
theorem dX10_is_66 : decode cX10_is 66 = .ok (.ireturn, 1) := by decide +kernel
theorem dX10_follows_0 : decode cX10_follows 0 = .ok (.aload_n 0, 1) := by decide +kernel
theorem dX10_follows_1 : decode cX10_follows 1 = .ok (.iload_n 1, 1) := by decide +kernel
theorem dX10_follows_2 : decode cX10_follows 2 = .ok (.invokevirtual 215, 3) := by decide +kernel
theorem dX10_follows_5 : decode cX10_follows 5 = .ok (.ifCond .ne 28, 3) := by decide +kernel
theorem dX10_follows_8 : decode cX10_follows 8 = .ok (.aload_n 0, 1) := by decide +kernel
theorem dX10_follows_9 : decode cX10_follows 9 = .ok (.iload_n 2, 1) := by decide +kernel
theorem dX10_follows_10 : decode cX10_follows 10 = .ok (.invokevirtual 215, 3) := by decide +kernel
theorem dX10_follows_13 : decode cX10_follows 13 = .ok (.ifCond .ne 20, 3) := by decide +kernel
theorem dX10_follows_16 : decode cX10_follows 16 = .ok (.aload_n 0, 1) := by decide +kernel
theorem dX10_follows_17 : decode cX10_follows 17 = .ok (.getfield 37, 3) := by decide +kernel
theorem dX10_follows_20 : decode cX10_follows 20 = .ok (.iload_n 1, 1) := by decide +kernel
theorem dX10_follows_21 : decode cX10_follows 21 = .ok (.laload, 1) := by decide +kernel
theorem dX10_follows_22 : decode cX10_follows 22 = .ok (.iload_n 2, 1) := by decide +kernel
theorem dX10_follows_23 : decode cX10_follows 23 = .ok (.invokestatic 143, 3) := by decide +kernel
theorem dX10_follows_26 : decode cX10_follows 26 = .ok (.ifCond .eq 7, 3) := by decide +kernel
theorem dX10_follows_29 : decode cX10_follows 29 = .ok (.iconst 1, 1) := by decide +kernel
theorem dX10_follows_30 : decode cX10_follows 30 = .ok (.goto 4, 3) := by decide +kernel
theorem dX10_follows_33 : decode cX10_follows 33 = .ok (.iconst 0, 1) := by decide +kernel
theorem dX10_follows_34 : decode cX10_follows 34 = .ok (.ireturn, 1) := by decide +kernel
theorem dX10_has_0 : decode cX10_has 0 = .ok (.aload_n 0, 1) := by decide +kernel
theorem dX10_has_1 : decode cX10_has 1 = .ok (.iload_n 1, 1) := by decide +kernel
theorem dX10_has_2 : decode cX10_has 2 = .ok (.invokevirtual 215, 3) := by decide +kernel
theorem dX10_has_5 : decode cX10_has 5 = .ok (.ifCond .eq 5, 3) := by decide +kernel
theorem dX10_has_8 : decode cX10_has 8 = .ok (.iconst 0, 1) := by decide +kernel
theorem dX10_has_9 : decode cX10_has 9 = .ok (.ireturn, 1) := by decide +kernel
theorem dX10_has_10 : decode cX10_has 10 = .ok (.aload_n 0, 1) := by decide +kernel
theorem dX10_has_11 : decode cX10_has 11 = .ok (.iload_n 2, 1) := by decide +kernel
theorem dX10_has_12 : decode cX10_has 12 = .ok (.ifCond .lt 9, 3) := by decide +kernel
theorem dX10_has_15 : decode cX10_has 15 = .ok (.iload_n 2, 1) := by decide +kernel
theorem dX10_has_16 : decode cX10_has 16 = .ok (.bipush 36, 2) := by decide +kernel
theorem dX10_has_18 : decode cX10_has 18 = .ok (.if_icmp .lt 7, 3) := by decide +kernel
theorem dX10_has_21 : decode cX10_has 21 = .ok (.iconst 2, 1) := by decide +kernel
theorem dX10_has_22 : decode cX10_has 22 = .ok (.goto 4, 3) := by decide +kernel
theorem dX10_has_25 : decode cX10_has 25 = .ok (.iconst 0, 1) := by decide +kernel
theorem dX10_has_26 : decode cX10_has 26 = .ok (.putfield 116, 3) := by decide +kernel
theorem dX10_has_29 : decode cX10_has 29 = .ok (.aload_n 0, 1) := by decide +kernel
theorem dX10_has_30 : decode cX10_has 30 = .ok (.getfield 116, 3) := by decide +kernel
theorem dX10_has_33 : decode cX10_has 33 = .ok (.ifCond .ne 20, 3) := by decide +kernel
theorem dX10_has_36 : decode cX10_has 36 = .ok (.aload_n 0, 1) := by decide +kernel
theorem dX10_has_37 : decode cX10_has 37 = .ok (.getfield 40, 3) := by decide +kernel
theorem dX10_has_40 : decode cX10_has 40 = .ok (.iload_n 1, 1) := by decide +kernel
theorem dX10_has_41 : decode cX10_has 41 = .ok (.laload, 1) := by decide +kernel
theorem dX10_has_42 : decode cX10_has 42 = .ok (.iload_n 2, 1) := by decide +kernel
theorem dX10_has_43 : decode cX10_has 43 = .ok (.invokestatic 143, 3) := by decide +kernel
theorem dX10_has_46 : decode cX10_has 46 = .ok (.ifCond .eq 7, 3) := by decide +kernel
theorem dX10_has_49 : decode cX10_has 49 = .ok (.iconst 1, 1) := by decide +kernel
theorem dX10_has_50 : decode cX10_has 50 = .ok (.goto 4, 3) := by decide +kernel
theorem dX10_has_53 : decode cX10_has 53 = .ok (.iconst 0, 1) := by decide +kernel
theorem dX10_has_54 : decode cX10_has 54 = .ok (.ireturn, 1) := by decide +kernel
theorem dX10_feed_0 : decode cX10_feed 0 = .ok (.aload_n 0, 1) := by decide +kernel
theorem dX10_feed_1 : decode cX10_feed 1 = .ok (.iload_n 3, 1) := by decide +kernel
theorem dX10_feed_2 : decode cX10_feed 2 = .ok (.iconst 1, 1) := by decide +kernel
theorem dX10_feed_3 : decode cX10_feed 3 = .ok (.if_icmp .lt 9, 3) := by decide +kernel
theorem dX10_feed_6 : decode cX10_feed 6 = .ok (.iload_n 3, 1) := by decide +kernel
theorem dX10_feed_7 : decode cX10_feed 7 = .ok (.bipush 8, 2) := by decide +kernel
theorem dX10_feed_9 : decode cX10_feed 9 = .ok (.if_icmp .le 7, 3) := by decide +kernel
theorem dX10_feed_12 : decode cX10_feed 12 = .ok (.iconst 1, 1) := by decide +kernel
theorem dX10_feed_13 : decode cX10_feed 13 = .ok (.goto 4, 3) := by decide +kernel
theorem dX10_feed_16 : decode cX10_feed 16 = .ok (.iconst 0, 1) := by decide +kernel
theorem dX10_feed_17 : decode cX10_feed 17 = .ok (.putfield 116, 3) := by decide +kernel
theorem dX10_feed_20 : decode cX10_feed 20 = .ok (.iconst 0, 1) := by decide +kernel
theorem dX10_feed_21 : decode cX10_feed 21 = .ok (.istore 4, 2) := by decide +kernel
theorem dX10_feed_23 : decode cX10_feed 23 = .ok (.iload 4, 2) := by decide +kernel
theorem dX10_feed_25 : decode cX10_feed 25 = .ok (.iload_n 3, 1) := by decide +kernel
theorem dX10_feed_26 : decode cX10_feed 26 = .ok (.if_icmp .ge 43, 3) := by decide +kernel
theorem dX10_feed_29 : decode cX10_feed 29 = .ok (.aload_n 0, 1) := by decide +kernel
theorem dX10_feed_30 : decode cX10_feed 30 = .ok (.getfield 116, 3) := by decide +kernel
theorem dX10_feed_33 : decode cX10_feed 33 = .ok (.ifCond .ne 36, 3) := by decide +kernel
theorem dX10_feed_36 : decode cX10_feed 36 = .ok (.aload_n 0, 1) := by decide +kernel
theorem dX10_feed_37 : decode cX10_feed 37 = .ok (.lload_n 1, 1) := by decide +kernel
theorem dX10_feed_38 : decode cX10_feed 38 = .ok (.bipush 8, 2) := by decide +kernel
theorem dX10_feed_40 : decode cX10_feed 40 = .ok (.iload 4, 2) := by decide +kernel
theorem dX10_feed_42 : decode cX10_feed 42 = .ok (.imul, 1) := by decide +kernel
theorem dX10_feed_43 : decode cX10_feed 43 = .ok (.lshr, 1) := by decide +kernel
theorem dX10_feed_44 : decode cX10_feed 44 = .ok (.ldc2_w 122, 3) := by decide +kernel
theorem dX10_feed_47 : decode cX10_feed 47 = .ok (.land, 1) := by decide +kernel
theorem dX10_feed_48 : decode cX10_feed 48 = .ok (.l2i, 1) := by decide +kernel
theorem dX10_feed_49 : decode cX10_feed 49 = .ok (.invokestatic 162, 3) := by decide +kernel
theorem dX10_feed_52 : decode cX10_feed 52 = .ok (.ifCond .ge 7, 3) := by decide +kernel
theorem dX10_feed_55 : decode cX10_feed 55 = .ok (.iconst 1, 1) := by decide +kernel
theorem dX10_feed_56 : decode cX10_feed 56 = .ok (.goto 4, 3) := by decide +kernel
theorem dX10_feed_59 : decode cX10_feed 59 = .ok (.iconst 0, 1) := by decide +kernel
theorem dX10_feed_60 : decode cX10_feed 60 = .ok (.putfield 116, 3) := by decide +kernel
theorem dX10_feed_63 : decode cX10_feed 63 = .ok (.iinc 4 1, 3) := by decide +kernel
theorem dX10_feed_66 : decode cX10_feed 66 = .ok (.goto (-43), 3) := by decide +kernel
theorem dX10_feed_69 : decode cX10_feed 69 = .ok (.aload_n 0, 1) := by decide +kernel
theorem dX10_feed_70 : decode cX10_feed 70 = .ok (.aload_n 0, 1) := by decide +kernel
theorem dX10_feed_71 : decode cX10_feed 71 = .ok (.getfield 116, 3) := by decide +kernel
theorem dX10_feed_74 : decode cX10_feed 74 = .ok (.ifCond .ne 19, 3) := by decide +kernel
theorem dX10_feed_77 : decode cX10_feed 77 = .ok (.aload_n 0, 1) := by decide +kernel
theorem dX10_feed_78 : decode cX10_feed 78 = .ok (.getfield 219, 3) := by decide +kernel
theorem dX10_feed_81 : decode cX10_feed 81 = .ok (.iload_n 3, 1) := by decide +kernel
theorem dX10_feed_82 : decode cX10_feed 82 = .ok (.iadd, 1) := by decide +kernel
theorem dX10_feed_83 : decode cX10_feed 83 = .ok (.sipush 200, 3) := by decide +kernel
theorem dX10_feed_86 : decode cX10_feed 86 = .ok (.if_icmp .le 7, 3) := by decide +kernel
theorem dX10_feed_89 : decode cX10_feed 89 = .ok (.iconst 2, 1) := by decide +kernel
theorem dX10_feed_90 : decode cX10_feed 90 = .ok (.goto 7, 3) := by decide +kernel
theorem dX10_feed_93 : decode cX10_feed 93 = .ok (.aload_n 0, 1) := by decide +kernel
theorem dX10_feed_94 : decode cX10_feed 94 = .ok (.getfield 116, 3) := by decide +kernel
theorem dX10_feed_97 : decode cX10_feed 97 = .ok (.putfield 116, 3) := by decide +kernel
theorem dX10_feed_100 : decode cX10_feed 100 = .ok (.aload_n 0, 1) := by decide +kernel
theorem dX10_feed_101 : decode cX10_feed 101 = .ok (.getfield 116, 3) := by decide +kernel
theorem dX10_feed_104 : decode cX10_feed 104 = .ok (.ifCond .le 5, 3) := by decide +kernel
theorem dX10_feed_107 : decode cX10_feed 107 = .ok (.iconst 0, 1) := by decide +kernel
theorem dX10_feed_108 : decode cX10_feed 108 = .ok (.ireturn, 1) := by decide +kernel
theorem dX10_feed_109 : decode cX10_feed 109 = .ok (.iconst 0, 1) := by decide +kernel
theorem dX10_feed_110 : decode cX10_feed 110 = .ok (.istore 4, 2) := by decide +kernel
theorem dX10_feed_112 : decode cX10_feed 112 = .ok (.iload 4, 2) := by decide +kernel
theorem dX10_feed_114 : decode cX10_feed 114 = .ok (.iload_n 3, 1) := by decide +kernel
theorem dX10_feed_115 : decode cX10_feed 115 = .ok (.if_icmp .ge 43, 3) := by decide +kernel
theorem dX10_feed_118 : decode cX10_feed 118 = .ok (.aload_n 0, 1) := by decide +kernel
theorem dX10_feed_119 : decode cX10_feed 119 = .ok (.getfield 13, 3) := by decide +kernel
theorem dX10_feed_122 : decode cX10_feed 122 = .ok (.aload_n 0, 1) := by decide +kernel
theorem dX10_feed_123 : decode cX10_feed 123 = .ok (.getfield 219, 3) := by decide +kernel
theorem dX10_feed_126 : decode cX10_feed 126 = .ok (.lload_n 1, 1) := by decide +kernel
theorem dX10_feed_127 : decode cX10_feed 127 = .ok (.bipush 8, 2) := by decide +kernel
theorem dX10_feed_129 : decode cX10_feed 129 = .ok (.iload 4, 2) := by decide +kernel
theorem dX10_feed_131 : decode cX10_feed 131 = .ok (.imul, 1) := by decide +kernel
theorem dX10_feed_132 : decode cX10_feed 132 = .ok (.lshr, 1) := by decide +kernel
theorem dX10_feed_133 : decode cX10_feed 133 = .ok (.ldc2_w 122, 3) := by decide +kernel
theorem dX10_feed_136 : decode cX10_feed 136 = .ok (.land, 1) := by decide +kernel
theorem dX10_feed_137 : decode cX10_feed 137 = .ok (.l2i, 1) := by decide +kernel
theorem dX10_feed_138 : decode cX10_feed 138 = .ok (.invokestatic 162, 3) := by decide +kernel
theorem dX10_feed_141 : decode cX10_feed 141 = .ok (.iastore, 1) := by decide +kernel
theorem dX10_feed_142 : decode cX10_feed 142 = .ok (.aload_n 0, 1) := by decide +kernel
theorem dX10_feed_143 : decode cX10_feed 143 = .ok (.dup, 1) := by decide +kernel
theorem dX10_feed_144 : decode cX10_feed 144 = .ok (.getfield 219, 3) := by decide +kernel
theorem dX10_feed_147 : decode cX10_feed 147 = .ok (.iconst 1, 1) := by decide +kernel
theorem dX10_feed_148 : decode cX10_feed 148 = .ok (.iadd, 1) := by decide +kernel
theorem dX10_feed_149 : decode cX10_feed 149 = .ok (.putfield 219, 3) := by decide +kernel
theorem dX10_feed_152 : decode cX10_feed 152 = .ok (.iinc 4 1, 3) := by decide +kernel
theorem dX10_feed_155 : decode cX10_feed 155 = .ok (.goto (-43), 3) := by decide +kernel
theorem dX10_feed_158 : decode cX10_feed 158 = .ok (.aload_n 0, 1) := by decide +kernel
theorem dX10_feed_159 : decode cX10_feed 159 = .ok (.getfield 219, 3) := by decide +kernel
theorem dX10_feed_162 : decode cX10_feed 162 = .ok (.ireturn, 1) := by decide +kernel
theorem dX10_clear_0 : decode cX10_clear 0 = .ok (.aload_n 0, 1) := by decide +kernel
theorem dX10_clear_1 : decode cX10_clear 1 = .ok (.iconst 0, 1) := by decide +kernel
theorem dX10_clear_2 : decode cX10_clear 2 = .ok (.putfield 116, 3) := by decide +kernel
theorem dX10_clear_5 : decode cX10_clear 5 = .ok (.aload_n 0, 1) := by decide +kernel
theorem dX10_clear_6 : decode cX10_clear 6 = .ok (.getfield 219, 3) := by decide +kernel
theorem dX10_clear_9 : decode cX10_clear 9 = .ok (.istore_n 1, 1) := by decide +kernel
theorem dX10_clear_10 : decode cX10_clear 10 = .ok (.aload_n 0, 1) := by decide +kernel
theorem dX10_clear_11 : decode cX10_clear 11 = .ok (.iconst 0, 1) := by decide +kernel
theorem dX10_clear_12 : decode cX10_clear 12 = .ok (.putfield 219, 3) := by decide +kernel
theorem dX10_clear_15 : decode cX10_clear 15 = .ok (.iload_n 1, 1) := by decide +kernel
theorem dX10_clear_16 : decode cX10_clear 16 = .ok (.ireturn, 1) := by decide +kernel
theorem dX10_goOn_0 : decode cX10_goOn 0 = .ok (.iload_n 2, 1) := by decide +kernel
theorem dX10_goOn_1 : decode cX10_goOn 1 = .ok (.ifCond .eq 12, 3) := by decide +kernel
theorem dX10_goOn_4 : decode cX10_goOn 4 = .ok (.aload_n 0, 1) := by decide +kernel
theorem dX10_goOn_5 : decode cX10_goOn 5 = .ok (.getfield 30, 3) := by decide +kernel
theorem dX10_goOn_8 : decode cX10_goOn 8 = .ok (.iload_n 1, 1) := by decide +kernel
theorem dX10_goOn_9 : decode cX10_goOn 9 = .ok (.laload, 1) := by decide +kernel
theorem dX10_goOn_10 : decode cX10_goOn 10 = .ok (.goto 4, 3) := by decide +kernel
theorem dX10_goOn_13 : decode cX10_goOn 13 = .ok (.lconst 0, 1) := by decide +kernel
theorem dX10_goOn_14 : decode cX10_goOn 14 = .ok (.lstore 6, 2) := by decide +kernel
theorem dX10_goOn_16 : decode cX10_goOn 16 = .ok (.iconst 0, 1) := by decide +kernel
theorem dX10_goOn_17 : decode cX10_goOn 17 = .ok (.istore 8, 2) := by decide +kernel
theorem dX10_goOn_19 : decode cX10_goOn 19 = .ok (.iload 8, 2) := by decide +kernel
theorem dX10_goOn_21 : decode cX10_goOn 21 = .ok (.aload_n 0, 1) := by decide +kernel
theorem dX10_goOn_22 : decode cX10_goOn 22 = .ok (.getfield 24, 3) := by decide +kernel
theorem dX10_goOn_25 : decode cX10_goOn 25 = .ok (.iload_n 1, 1) := by decide +kernel
theorem dX10_goOn_26 : decode cX10_goOn 26 = .ok (.iaload, 1) := by decide +kernel
theorem dX10_goOn_27 : decode cX10_goOn 27 = .ok (.if_icmp .ge 44, 3) := by decide +kernel
theorem dX10_goOn_30 : decode cX10_goOn 30 = .ok (.iload_n 2, 1) := by decide +kernel
theorem dX10_goOn_31 : decode cX10_goOn 31 = .ok (.ifCond .ne 40, 3) := by decide +kernel
theorem dX10_goOn_34 : decode cX10_goOn 34 = .ok (.lload_n 3, 1) := by decide +kernel
theorem dX10_goOn_35 : decode cX10_goOn 35 = .ok (.iload 8, 2) := by decide +kernel
theorem dX10_goOn_37 : decode cX10_goOn 37 = .ok (.invokestatic 143, 3) := by decide +kernel
theorem dX10_goOn_40 : decode cX10_goOn 40 = .ok (.ifCond .eq 21, 3) := by decide +kernel
theorem dX10_goOn_43 : decode cX10_goOn 43 = .ok (.lload 6, 2) := by decide +kernel
theorem dX10_goOn_45 : decode cX10_goOn 45 = .ok (.aload_n 0, 1) := by decide +kernel
theorem dX10_goOn_46 : decode cX10_goOn 46 = .ok (.getfield 37, 3) := by decide +kernel
theorem dX10_goOn_49 : decode cX10_goOn 49 = .ok (.bipush 60, 2) := by decide +kernel
theorem dX10_goOn_51 : decode cX10_goOn 51 = .ok (.iload_n 1, 1) := by decide +kernel
theorem dX10_goOn_52 : decode cX10_goOn 52 = .ok (.imul, 1) := by decide +kernel
theorem dX10_goOn_53 : decode cX10_goOn 53 = .ok (.iload 8, 2) := by decide +kernel
theorem dX10_goOn_55 : decode cX10_goOn 55 = .ok (.iadd, 1) := by decide +kernel
theorem dX10_goOn_56 : decode cX10_goOn 56 = .ok (.laload, 1) := by decide +kernel
theorem dX10_goOn_57 : decode cX10_goOn 57 = .ok (.lor, 1) := by decide +kernel
theorem dX10_goOn_58 : decode cX10_goOn 58 = .ok (.goto 5, 3) := by decide +kernel
theorem dX10_goOn_61 : decode cX10_goOn 61 = .ok (.lload 6, 2) := by decide +kernel
theorem dX10_goOn_63 : decode cX10_goOn 63 = .ok (.lstore 6, 2) := by decide +kernel
theorem dX10_goOn_65 : decode cX10_goOn 65 = .ok (.iinc 8 1, 3) := by decide +kernel
theorem dX10_goOn_68 : decode cX10_goOn 68 = .ok (.goto (-49), 3) := by decide +kernel
theorem dX10_goOn_71 : decode cX10_goOn 71 = .ok (.iconst 0, 1) := by decide +kernel
theorem dX10_goOn_72 : decode cX10_goOn 72 = .ok (.istore 8, 2) := by decide +kernel
theorem dX10_goOn_74 : decode cX10_goOn 74 = .ok (.iload 8, 2) := by decide +kernel
theorem dX10_goOn_76 : decode cX10_goOn 76 = .ok (.aload_n 0, 1) := by decide +kernel
theorem dX10_goOn_77 : decode cX10_goOn 77 = .ok (.getfield 24, 3) := by decide +kernel
theorem dX10_goOn_80 : decode cX10_goOn 80 = .ok (.iload_n 1, 1) := by decide +kernel
theorem dX10_goOn_81 : decode cX10_goOn 81 = .ok (.iaload, 1) := by decide +kernel
theorem dX10_goOn_82 : decode cX10_goOn 82 = .ok (.if_icmp .ge 47, 3) := by decide +kernel
theorem dX10_goOn_85 : decode cX10_goOn 85 = .ok (.aload_n 0, 1) := by decide +kernel
theorem dX10_goOn_86 : decode cX10_goOn 86 = .ok (.getfield 40, 3) := by decide +kernel
theorem dX10_goOn_89 : decode cX10_goOn 89 = .ok (.bipush 60, 2) := by decide +kernel
theorem dX10_goOn_91 : decode cX10_goOn 91 = .ok (.iload_n 1, 1) := by decide +kernel
theorem dX10_goOn_92 : decode cX10_goOn 92 = .ok (.imul, 1) := by decide +kernel
theorem dX10_goOn_93 : decode cX10_goOn 93 = .ok (.iload 8, 2) := by decide +kernel
theorem dX10_goOn_95 : decode cX10_goOn 95 = .ok (.iadd, 1) := by decide +kernel
theorem dX10_goOn_96 : decode cX10_goOn 96 = .ok (.laload, 1) := by decide +kernel
theorem dX10_goOn_97 : decode cX10_goOn 97 = .ok (.iload 5, 2) := by decide +kernel
theorem dX10_goOn_99 : decode cX10_goOn 99 = .ok (.invokestatic 143, 3) := by decide +kernel
theorem dX10_goOn_102 : decode cX10_goOn 102 = .ok (.ifCond .eq 8, 3) := by decide +kernel
theorem dX10_goOn_105 : decode cX10_goOn 105 = .ok (.lload 6, 2) := by decide +kernel
theorem dX10_goOn_107 : decode cX10_goOn 107 = .ok (.goto 14, 3) := by decide +kernel
theorem dX10_goOn_110 : decode cX10_goOn 110 = .ok (.lload 6, 2) := by decide +kernel
theorem dX10_goOn_112 : decode cX10_goOn 112 = .ok (.lconst 1, 1) := by decide +kernel
theorem dX10_goOn_113 : decode cX10_goOn 113 = .ok (.iload 8, 2) := by decide +kernel
theorem dX10_goOn_115 : decode cX10_goOn 115 = .ok (.lshl, 1) := by decide +kernel
theorem dX10_goOn_116 : decode cX10_goOn 116 = .ok (.ldc2_w 173, 3) := by decide +kernel
theorem dX10_goOn_119 : decode cX10_goOn 119 = .ok (.lxor, 1) := by decide +kernel
theorem dX10_goOn_120 : decode cX10_goOn 120 = .ok (.land, 1) := by decide +kernel
theorem dX10_goOn_121 : decode cX10_goOn 121 = .ok (.lstore 6, 2) := by decide +kernel
theorem dX10_goOn_123 : decode cX10_goOn 123 = .ok (.iinc 8 1, 3) := by decide +kernel
theorem dX10_goOn_126 : decode cX10_goOn 126 = .ok (.goto (-52), 3) := by decide +kernel
theorem dX10_goOn_129 : decode cX10_goOn 129 = .ok (.lload 6, 2) := by decide +kernel
theorem dX10_goOn_131 : decode cX10_goOn 131 = .ok (.lreturn, 1) := by decide +kernel
theorem dX10_longest_0 : decode cX10_longest 0 = .ok (.iconst (-1), 1) := by decide +kernel
theorem dX10_longest_1 : decode cX10_longest 1 = .ok (.istore_n 2, 1) := by decide +kernel
theorem dX10_longest_2 : decode cX10_longest 2 = .ok (.lconst 0, 1) := by decide +kernel
theorem dX10_longest_3 : decode cX10_longest 3 = .ok (.lstore_n 3, 1) := by decide +kernel
theorem dX10_longest_4 : decode cX10_longest 4 = .ok (.iload_n 1, 1) := by decide +kernel
theorem dX10_longest_5 : decode cX10_longest 5 = .ok (.istore 5, 2) := by decide +kernel
theorem dX10_longest_7 : decode cX10_longest 7 = .ok (.iload 5, 2) := by decide +kernel
theorem dX10_longest_9 : decode cX10_longest 9 = .ok (.aload_n 0, 1) := by decide +kernel
theorem dX10_longest_10 : decode cX10_longest 10 = .ok (.getfield 219, 3) := by decide +kernel
theorem dX10_longest_13 : decode cX10_longest 13 = .ok (.if_icmp .ge 68, 3) := by decide +kernel
theorem dX10_longest_16 : decode cX10_longest 16 = .ok (.iload 5, 2) := by decide +kernel
theorem dX10_longest_18 : decode cX10_longest 18 = .ok (.iload_n 1, 1) := by decide +kernel
theorem dX10_longest_19 : decode cX10_longest 19 = .ok (.if_icmp .eq 9, 3) := by decide +kernel
theorem dX10_longest_22 : decode cX10_longest 22 = .ok (.lload_n 3, 1) := by decide +kernel
theorem dX10_longest_23 : decode cX10_longest 23 = .ok (.lconst 0, 1) := by decide +kernel
theorem dX10_longest_24 : decode cX10_longest 24 = .ok (.lcmp, 1) := by decide +kernel
theorem dX10_longest_25 : decode cX10_longest 25 = .ok (.ifCond .eq 56, 3) := by decide +kernel
theorem dX10_longest_28 : decode cX10_longest 28 = .ok (.aload_n 0, 1) := by decide +kernel
theorem dX10_longest_29 : decode cX10_longest 29 = .ok (.iconst 0, 1) := by decide +kernel
theorem dX10_longest_30 : decode cX10_longest 30 = .ok (.iload 5, 2) := by decide +kernel
theorem dX10_longest_32 : decode cX10_longest 32 = .ok (.iload_n 1, 1) := by decide +kernel
theorem dX10_longest_33 : decode cX10_longest 33 = .ok (.if_icmp .ne 7, 3) := by decide +kernel
theorem dX10_longest_36 : decode cX10_longest 36 = .ok (.iconst 1, 1) := by decide +kernel
theorem dX10_longest_37 : decode cX10_longest 37 = .ok (.goto 4, 3) := by decide +kernel
theorem dX10_longest_40 : decode cX10_longest 40 = .ok (.iconst 0, 1) := by decide +kernel
theorem dX10_longest_41 : decode cX10_longest 41 = .ok (.lload_n 3, 1) := by decide +kernel
theorem dX10_longest_42 : decode cX10_longest 42 = .ok (.aload_n 0, 1) := by decide +kernel
theorem dX10_longest_43 : decode cX10_longest 43 = .ok (.getfield 13, 3) := by decide +kernel
theorem dX10_longest_46 : decode cX10_longest 46 = .ok (.iload 5, 2) := by decide +kernel
theorem dX10_longest_48 : decode cX10_longest 48 = .ok (.iaload, 1) := by decide +kernel
theorem dX10_longest_49 : decode cX10_longest 49 = .ok (.invokevirtual 222, 3) := by decide +kernel
theorem dX10_longest_52 : decode cX10_longest 52 = .ok (.lstore_n 3, 1) := by decide +kernel
theorem dX10_longest_53 : decode cX10_longest 53 = .ok (.lload_n 3, 1) := by decide +kernel
theorem dX10_longest_54 : decode cX10_longest 54 = .ok (.aload_n 0, 1) := by decide +kernel
theorem dX10_longest_55 : decode cX10_longest 55 = .ok (.getfield 34, 3) := by decide +kernel
theorem dX10_longest_58 : decode cX10_longest 58 = .ok (.iconst 0, 1) := by decide +kernel
theorem dX10_longest_59 : decode cX10_longest 59 = .ok (.laload, 1) := by decide +kernel
theorem dX10_longest_60 : decode cX10_longest 60 = .ok (.land, 1) := by decide +kernel
theorem dX10_longest_61 : decode cX10_longest 61 = .ok (.lconst 0, 1) := by decide +kernel
theorem dX10_longest_62 : decode cX10_longest 62 = .ok (.lcmp, 1) := by decide +kernel
theorem dX10_longest_63 : decode cX10_longest 63 = .ok (.ifCond .eq 10, 3) := by decide +kernel
theorem dX10_longest_66 : decode cX10_longest 66 = .ok (.iload 5, 2) := by decide +kernel
theorem dX10_longest_68 : decode cX10_longest 68 = .ok (.iconst 1, 1) := by decide +kernel
theorem dX10_longest_69 : decode cX10_longest 69 = .ok (.iadd, 1) := by decide +kernel
theorem dX10_longest_70 : decode cX10_longest 70 = .ok (.goto 4, 3) := by decide +kernel
theorem dX10_longest_73 : decode cX10_longest 73 = .ok (.iload_n 2, 1) := by decide +kernel
theorem dX10_longest_74 : decode cX10_longest 74 = .ok (.istore_n 2, 1) := by decide +kernel
theorem dX10_longest_75 : decode cX10_longest 75 = .ok (.iinc 5 1, 3) := by decide +kernel
theorem dX10_longest_78 : decode cX10_longest 78 = .ok (.goto (-71), 3) := by decide +kernel
theorem dX10_longest_81 : decode cX10_longest 81 = .ok (.iload_n 2, 1) := by decide +kernel
theorem dX10_longest_82 : decode cX10_longest 82 = .ok (.ireturn, 1) := by decide +kernel
theorem dX10_whole_0 : decode cX10_whole 0 = .ok (.aload_n 0, 1) := by decide +kernel
theorem dX10_whole_1 : decode cX10_whole 1 = .ok (.invokevirtual 211, 3) := by decide +kernel
theorem dX10_whole_4 : decode cX10_whole 4 = .ok (.ifCond .eq 5, 3) := by decide +kernel
theorem dX10_whole_7 : decode cX10_whole 7 = .ok (.iconst 0, 1) := by decide +kernel
theorem dX10_whole_8 : decode cX10_whole 8 = .ok (.ireturn, 1) := by decide +kernel
theorem dX10_whole_9 : decode cX10_whole 9 = .ok (.lconst 0, 1) := by decide +kernel
theorem dX10_whole_10 : decode cX10_whole 10 = .ok (.lstore_n 1, 1) := by decide +kernel
theorem dX10_whole_11 : decode cX10_whole 11 = .ok (.iconst 0, 1) := by decide +kernel
theorem dX10_whole_12 : decode cX10_whole 12 = .ok (.istore_n 3, 1) := by decide +kernel
theorem dX10_whole_13 : decode cX10_whole 13 = .ok (.iload_n 3, 1) := by decide +kernel
theorem dX10_whole_14 : decode cX10_whole 14 = .ok (.aload_n 0, 1) := by decide +kernel
theorem dX10_whole_15 : decode cX10_whole 15 = .ok (.getfield 219, 3) := by decide +kernel
theorem dX10_whole_18 : decode cX10_whole 18 = .ok (.if_icmp .ge 31, 3) := by decide +kernel
theorem dX10_whole_21 : decode cX10_whole 21 = .ok (.aload_n 0, 1) := by decide +kernel
theorem dX10_whole_22 : decode cX10_whole 22 = .ok (.iconst 0, 1) := by decide +kernel
theorem dX10_whole_23 : decode cX10_whole 23 = .ok (.iload_n 3, 1) := by decide +kernel
theorem dX10_whole_24 : decode cX10_whole 24 = .ok (.ifCond .ne 7, 3) := by decide +kernel
theorem dX10_whole_27 : decode cX10_whole 27 = .ok (.iconst 1, 1) := by decide +kernel
theorem dX10_whole_28 : decode cX10_whole 28 = .ok (.goto 4, 3) := by decide +kernel
theorem dX10_whole_31 : decode cX10_whole 31 = .ok (.iconst 0, 1) := by decide +kernel
theorem dX10_whole_32 : decode cX10_whole 32 = .ok (.lload_n 1, 1) := by decide +kernel
theorem dX10_whole_33 : decode cX10_whole 33 = .ok (.aload_n 0, 1) := by decide +kernel
theorem dX10_whole_34 : decode cX10_whole 34 = .ok (.getfield 13, 3) := by decide +kernel
theorem dX10_whole_37 : decode cX10_whole 37 = .ok (.iload_n 3, 1) := by decide +kernel
theorem dX10_whole_38 : decode cX10_whole 38 = .ok (.iaload, 1) := by decide +kernel
theorem dX10_whole_39 : decode cX10_whole 39 = .ok (.invokevirtual 222, 3) := by decide +kernel
theorem dX10_whole_42 : decode cX10_whole 42 = .ok (.lstore_n 1, 1) := by decide +kernel
theorem dX10_whole_43 : decode cX10_whole 43 = .ok (.iinc 3 1, 3) := by decide +kernel
theorem dX10_whole_46 : decode cX10_whole 46 = .ok (.goto (-33), 3) := by decide +kernel
theorem dX10_whole_49 : decode cX10_whole 49 = .ok (.aload_n 0, 1) := by decide +kernel
theorem dX10_whole_50 : decode cX10_whole 50 = .ok (.getfield 219, 3) := by decide +kernel
theorem dX10_whole_53 : decode cX10_whole 53 = .ok (.ifCond .ne 12, 3) := by decide +kernel
theorem dX10_whole_56 : decode cX10_whole 56 = .ok (.aload_n 0, 1) := by decide +kernel
theorem dX10_whole_57 : decode cX10_whole 57 = .ok (.getfield 27, 3) := by decide +kernel
theorem dX10_whole_60 : decode cX10_whole 60 = .ok (.iconst 0, 1) := by decide +kernel
theorem dX10_whole_61 : decode cX10_whole 61 = .ok (.baload, 1) := by decide +kernel
theorem dX10_whole_62 : decode cX10_whole 62 = .ok (.goto 21, 3) := by decide +kernel
theorem dX10_whole_65 : decode cX10_whole 65 = .ok (.lload_n 1, 1) := by decide +kernel
theorem dX10_whole_66 : decode cX10_whole 66 = .ok (.aload_n 0, 1) := by decide +kernel
theorem dX10_whole_67 : decode cX10_whole 67 = .ok (.getfield 34, 3) := by decide +kernel
theorem dX10_whole_70 : decode cX10_whole 70 = .ok (.iconst 0, 1) := by decide +kernel
theorem dX10_whole_71 : decode cX10_whole 71 = .ok (.laload, 1) := by decide +kernel
theorem dX10_whole_72 : decode cX10_whole 72 = .ok (.land, 1) := by decide +kernel
theorem dX10_whole_73 : decode cX10_whole 73 = .ok (.lconst 0, 1) := by decide +kernel
theorem dX10_whole_74 : decode cX10_whole 74 = .ok (.lcmp, 1) := by decide +kernel
theorem dX10_whole_75 : decode cX10_whole 75 = .ok (.ifCond .eq 7, 3) := by decide +kernel
theorem dX10_whole_78 : decode cX10_whole 78 = .ok (.iconst 1, 1) := by decide +kernel
theorem dX10_whole_79 : decode cX10_whole 79 = .ok (.goto 4, 3) := by decide +kernel
theorem dX10_whole_82 : decode cX10_whole 82 = .ok (.iconst 0, 1) := by decide +kernel
theorem dX10_whole_83 : decode cX10_whole 83 = .ok (.ireturn, 1) := by decide +kernel
theorem dX10_findAll_0 : decode cX10_findAll 0 = .ok (.aload_n 0, 1) := by decide +kernel
theorem dX10_findAll_1 : decode cX10_findAll 1 = .ok (.iconst 0, 1) := by decide +kernel
theorem dX10_findAll_2 : decode cX10_findAll 2 = .ok (.putfield 226, 3) := by decide +kernel
theorem dX10_findAll_5 : decode cX10_findAll 5 = .ok (.iconst 0, 1) := by decide +kernel
theorem dX10_findAll_6 : decode cX10_findAll 6 = .ok (.istore_n 1, 1) := by decide +kernel
theorem dX10_findAll_7 : decode cX10_findAll 7 = .ok (.iload_n 1, 1) := by decide +kernel
theorem dX10_findAll_8 : decode cX10_findAll 8 = .ok (.aload_n 0, 1) := by decide +kernel
theorem dX10_findAll_9 : decode cX10_findAll 9 = .ok (.getfield 219, 3) := by decide +kernel
theorem dX10_findAll_12 : decode cX10_findAll 12 = .ok (.if_icmp .ge 55, 3) := by decide +kernel
theorem dX10_findAll_15 : decode cX10_findAll 15 = .ok (.aload_n 0, 1) := by decide +kernel
theorem dX10_findAll_16 : decode cX10_findAll 16 = .ok (.iload_n 1, 1) := by decide +kernel
theorem dX10_findAll_17 : decode cX10_findAll 17 = .ok (.invokevirtual 229, 3) := by decide +kernel
theorem dX10_findAll_20 : decode cX10_findAll 20 = .ok (.istore_n 2, 1) := by decide +kernel
theorem dX10_findAll_21 : decode cX10_findAll 21 = .ok (.iload_n 2, 1) := by decide +kernel
theorem dX10_findAll_22 : decode cX10_findAll 22 = .ok (.iload_n 1, 1) := by decide +kernel
theorem dX10_findAll_23 : decode cX10_findAll 23 = .ok (.if_icmp .le 38, 3) := by decide +kernel
theorem dX10_findAll_26 : decode cX10_findAll 26 = .ok (.aload_n 0, 1) := by decide +kernel
theorem dX10_findAll_27 : decode cX10_findAll 27 = .ok (.getfield 113, 3) := by decide +kernel
theorem dX10_findAll_30 : decode cX10_findAll 30 = .ok (.aload_n 0, 1) := by decide +kernel
theorem dX10_findAll_31 : decode cX10_findAll 31 = .ok (.getfield 226, 3) := by decide +kernel
theorem dX10_findAll_34 : decode cX10_findAll 34 = .ok (.iload_n 1, 1) := by decide +kernel
theorem dX10_findAll_35 : decode cX10_findAll 35 = .ok (.iastore, 1) := by decide +kernel
theorem dX10_findAll_36 : decode cX10_findAll 36 = .ok (.aload_n 0, 1) := by decide +kernel
theorem dX10_findAll_37 : decode cX10_findAll 37 = .ok (.getfield 110, 3) := by decide +kernel
theorem dX10_findAll_40 : decode cX10_findAll 40 = .ok (.aload_n 0, 1) := by decide +kernel
theorem dX10_findAll_41 : decode cX10_findAll 41 = .ok (.getfield 226, 3) := by decide +kernel
theorem dX10_findAll_44 : decode cX10_findAll 44 = .ok (.iload_n 2, 1) := by decide +kernel
theorem dX10_findAll_45 : decode cX10_findAll 45 = .ok (.iastore, 1) := by decide +kernel
theorem dX10_findAll_46 : decode cX10_findAll 46 = .ok (.aload_n 0, 1) := by decide +kernel
theorem dX10_findAll_47 : decode cX10_findAll 47 = .ok (.dup, 1) := by decide +kernel
theorem dX10_findAll_48 : decode cX10_findAll 48 = .ok (.getfield 226, 3) := by decide +kernel
theorem dX10_findAll_51 : decode cX10_findAll 51 = .ok (.iconst 1, 1) := by decide +kernel
theorem dX10_findAll_52 : decode cX10_findAll 52 = .ok (.iadd, 1) := by decide +kernel
theorem dX10_findAll_53 : decode cX10_findAll 53 = .ok (.putfield 226, 3) := by decide +kernel
theorem dX10_findAll_56 : decode cX10_findAll 56 = .ok (.iload_n 2, 1) := by decide +kernel
theorem dX10_findAll_57 : decode cX10_findAll 57 = .ok (.istore_n 1, 1) := by decide +kernel
theorem dX10_findAll_58 : decode cX10_findAll 58 = .ok (.goto 6, 3) := by decide +kernel
theorem dX10_findAll_61 : decode cX10_findAll 61 = .ok (.iinc 1 1, 3) := by decide +kernel
theorem dX10_findAll_64 : decode cX10_findAll 64 = .ok (.goto (-57), 3) := by decide +kernel
theorem dX10_findAll_67 : decode cX10_findAll 67 = .ok (.return_, 1) := by decide +kernel
theorem dX10_finds_0 : decode cX10_finds 0 = .ok (.aload_n 0, 1) := by decide +kernel
theorem dX10_finds_1 : decode cX10_finds 1 = .ok (.invokevirtual 211, 3) := by decide +kernel
theorem dX10_finds_4 : decode cX10_finds 4 = .ok (.ifCond .eq 5, 3) := by decide +kernel
theorem dX10_finds_7 : decode cX10_finds 7 = .ok (.iconst 0, 1) := by decide +kernel
theorem dX10_finds_8 : decode cX10_finds 8 = .ok (.ireturn, 1) := by decide +kernel
theorem dX10_finds_9 : decode cX10_finds 9 = .ok (.aload_n 0, 1) := by decide +kernel
theorem dX10_finds_10 : decode cX10_finds 10 = .ok (.invokevirtual 232, 3) := by decide +kernel
theorem dX10_finds_13 : decode cX10_finds 13 = .ok (.aload_n 0, 1) := by decide +kernel
theorem dX10_finds_14 : decode cX10_finds 14 = .ok (.getfield 226, 3) := by decide +kernel
theorem dX10_finds_17 : decode cX10_finds 17 = .ok (.ireturn, 1) := by decide +kernel
theorem dX10_find_0 : decode cX10_find 0 = .ok (.aload_n 0, 1) := by decide +kernel
theorem dX10_find_1 : decode cX10_find 1 = .ok (.invokevirtual 211, 3) := by decide +kernel
theorem dX10_find_4 : decode cX10_find 4 = .ok (.ifCond .eq 5, 3) := by decide +kernel
theorem dX10_find_7 : decode cX10_find 7 = .ok (.iconst 0, 1) := by decide +kernel
theorem dX10_find_8 : decode cX10_find 8 = .ok (.ireturn, 1) := by decide +kernel
theorem dX10_find_9 : decode cX10_find 9 = .ok (.aload_n 0, 1) := by decide +kernel
theorem dX10_find_10 : decode cX10_find 10 = .ok (.invokevirtual 232, 3) := by decide +kernel
theorem dX10_find_13 : decode cX10_find 13 = .ok (.aload_n 0, 1) := by decide +kernel
theorem dX10_find_14 : decode cX10_find 14 = .ok (.iload_n 1, 1) := by decide +kernel
theorem dX10_find_15 : decode cX10_find 15 = .ok (.ifCond .lt 11, 3) := by decide +kernel
theorem dX10_find_18 : decode cX10_find 18 = .ok (.iload_n 1, 1) := by decide +kernel
theorem dX10_find_19 : decode cX10_find 19 = .ok (.aload_n 0, 1) := by decide +kernel
theorem dX10_find_20 : decode cX10_find 20 = .ok (.getfield 226, 3) := by decide +kernel
theorem dX10_find_23 : decode cX10_find 23 = .ok (.if_icmp .lt 7, 3) := by decide +kernel
theorem dX10_find_26 : decode cX10_find 26 = .ok (.iconst 2, 1) := by decide +kernel
theorem dX10_find_27 : decode cX10_find 27 = .ok (.goto 4, 3) := by decide +kernel
theorem dX10_find_30 : decode cX10_find 30 = .ok (.iconst 0, 1) := by decide +kernel
theorem dX10_find_31 : decode cX10_find 31 = .ok (.putfield 116, 3) := by decide +kernel
theorem dX10_find_34 : decode cX10_find 34 = .ok (.aload_n 0, 1) := by decide +kernel
theorem dX10_find_35 : decode cX10_find 35 = .ok (.getfield 116, 3) := by decide +kernel
theorem dX10_find_38 : decode cX10_find 38 = .ok (.ifCond .le 7, 3) := by decide +kernel
theorem dX10_find_41 : decode cX10_find 41 = .ok (.iconst 0, 1) := by decide +kernel
theorem dX10_find_42 : decode cX10_find 42 = .ok (.goto 22, 3) := by decide +kernel
theorem dX10_find_45 : decode cX10_find 45 = .ok (.iload_n 2, 1) := by decide +kernel
theorem dX10_find_46 : decode cX10_find 46 = .ok (.ifCond .eq 12, 3) := by decide +kernel
theorem dX10_find_49 : decode cX10_find 49 = .ok (.aload_n 0, 1) := by decide +kernel
theorem dX10_find_50 : decode cX10_find 50 = .ok (.getfield 110, 3) := by decide +kernel
theorem dX10_find_53 : decode cX10_find 53 = .ok (.iload_n 1, 1) := by decide +kernel
theorem dX10_find_54 : decode cX10_find 54 = .ok (.iaload, 1) := by decide +kernel
theorem dX10_find_55 : decode cX10_find 55 = .ok (.goto 9, 3) := by decide +kernel
theorem dX10_find_58 : decode cX10_find 58 = .ok (.aload_n 0, 1) := by decide +kernel
theorem dX10_find_59 : decode cX10_find 59 = .ok (.getfield 113, 3) := by decide +kernel
theorem dX10_find_62 : decode cX10_find 62 = .ok (.iload_n 1, 1) := by decide +kernel
theorem dX10_find_63 : decode cX10_find 63 = .ok (.iaload, 1) := by decide +kernel
theorem dX10_find_64 : decode cX10_find 64 = .ok (.ireturn, 1) := by decide +kernel
theorem dX10_stateOf_0 : decode cX10_stateOf 0 = .ok (.iconst 1, 1) := by decide +kernel
theorem dX10_stateOf_1 : decode cX10_stateOf 1 = .ok (.istore 4, 2) := by decide +kernel
theorem dX10_stateOf_3 : decode cX10_stateOf 3 = .ok (.iload 4, 2) := by decide +kernel
theorem dX10_stateOf_5 : decode cX10_stateOf 5 = .ok (.aload_n 0, 1) := by decide +kernel
theorem dX10_stateOf_6 : decode cX10_stateOf 6 = .ok (.getfield 88, 3) := by decide +kernel
theorem dX10_stateOf_9 : decode cX10_stateOf 9 = .ok (.iload_n 1, 1) := by decide +kernel
theorem dX10_stateOf_10 : decode cX10_stateOf 10 = .ok (.iaload, 1) := by decide +kernel
theorem dX10_stateOf_11 : decode cX10_stateOf 11 = .ok (.if_icmp .ge 30, 3) := by decide +kernel
theorem dX10_stateOf_14 : decode cX10_stateOf 14 = .ok (.aload_n 0, 1) := by decide +kernel
theorem dX10_stateOf_15 : decode cX10_stateOf 15 = .ok (.getfield 82, 3) := by decide +kernel
theorem dX10_stateOf_18 : decode cX10_stateOf 18 = .ok (.sipush 300, 3) := by decide +kernel
theorem dX10_stateOf_21 : decode cX10_stateOf 21 = .ok (.iload_n 1, 1) := by decide +kernel
theorem dX10_stateOf_22 : decode cX10_stateOf 22 = .ok (.imul, 1) := by decide +kernel
theorem dX10_stateOf_23 : decode cX10_stateOf 23 = .ok (.iload 4, 2) := by decide +kernel
theorem dX10_stateOf_25 : decode cX10_stateOf 25 = .ok (.iadd, 1) := by decide +kernel
theorem dX10_stateOf_26 : decode cX10_stateOf 26 = .ok (.laload, 1) := by decide +kernel
theorem dX10_stateOf_27 : decode cX10_stateOf 27 = .ok (.lload_n 2, 1) := by decide +kernel
theorem dX10_stateOf_28 : decode cX10_stateOf 28 = .ok (.lcmp, 1) := by decide +kernel
theorem dX10_stateOf_29 : decode cX10_stateOf 29 = .ok (.ifCond .ne 6, 3) := by decide +kernel
theorem dX10_stateOf_32 : decode cX10_stateOf 32 = .ok (.iload 4, 2) := by decide +kernel
theorem dX10_stateOf_34 : decode cX10_stateOf 34 = .ok (.ireturn, 1) := by decide +kernel
theorem dX10_stateOf_35 : decode cX10_stateOf 35 = .ok (.iinc 4 1, 3) := by decide +kernel
theorem dX10_stateOf_38 : decode cX10_stateOf 38 = .ok (.goto (-35), 3) := by decide +kernel
theorem dX10_stateOf_41 : decode cX10_stateOf 41 = .ok (.aload_n 0, 1) := by decide +kernel
theorem dX10_stateOf_42 : decode cX10_stateOf 42 = .ok (.getfield 88, 3) := by decide +kernel
theorem dX10_stateOf_45 : decode cX10_stateOf 45 = .ok (.iload_n 1, 1) := by decide +kernel
theorem dX10_stateOf_46 : decode cX10_stateOf 46 = .ok (.iaload, 1) := by decide +kernel
theorem dX10_stateOf_47 : decode cX10_stateOf 47 = .ok (.sipush 300, 3) := by decide +kernel
theorem dX10_stateOf_50 : decode cX10_stateOf 50 = .ok (.if_icmp .ne 12, 3) := by decide +kernel
theorem dX10_stateOf_53 : decode cX10_stateOf 53 = .ok (.aload_n 0, 1) := by decide +kernel
theorem dX10_stateOf_54 : decode cX10_stateOf 54 = .ok (.getfield 91, 3) := by decide +kernel
theorem dX10_stateOf_57 : decode cX10_stateOf 57 = .ok (.iload_n 1, 1) := by decide +kernel
theorem dX10_stateOf_58 : decode cX10_stateOf 58 = .ok (.iconst 1, 1) := by decide +kernel
theorem dX10_stateOf_59 : decode cX10_stateOf 59 = .ok (.bastore, 1) := by decide +kernel
theorem dX10_stateOf_60 : decode cX10_stateOf 60 = .ok (.iconst (-1), 1) := by decide +kernel
theorem dX10_stateOf_61 : decode cX10_stateOf 61 = .ok (.ireturn, 1) := by decide +kernel
theorem dX10_stateOf_62 : decode cX10_stateOf 62 = .ok (.aload_n 0, 1) := by decide +kernel
theorem dX10_stateOf_63 : decode cX10_stateOf 63 = .ok (.getfield 82, 3) := by decide +kernel
theorem dX10_stateOf_66 : decode cX10_stateOf 66 = .ok (.sipush 300, 3) := by decide +kernel
theorem dX10_stateOf_69 : decode cX10_stateOf 69 = .ok (.iload_n 1, 1) := by decide +kernel
theorem dX10_stateOf_70 : decode cX10_stateOf 70 = .ok (.imul, 1) := by decide +kernel
theorem dX10_stateOf_71 : decode cX10_stateOf 71 = .ok (.aload_n 0, 1) := by decide +kernel
theorem dX10_stateOf_72 : decode cX10_stateOf 72 = .ok (.getfield 88, 3) := by decide +kernel
theorem dX10_stateOf_75 : decode cX10_stateOf 75 = .ok (.iload_n 1, 1) := by decide +kernel
theorem dX10_stateOf_76 : decode cX10_stateOf 76 = .ok (.iaload, 1) := by decide +kernel
theorem dX10_stateOf_77 : decode cX10_stateOf 77 = .ok (.iadd, 1) := by decide +kernel
theorem dX10_stateOf_78 : decode cX10_stateOf 78 = .ok (.lload_n 2, 1) := by decide +kernel
theorem dX10_stateOf_79 : decode cX10_stateOf 79 = .ok (.lastore, 1) := by decide +kernel
theorem dX10_stateOf_80 : decode cX10_stateOf 80 = .ok (.aload_n 0, 1) := by decide +kernel
theorem dX10_stateOf_81 : decode cX10_stateOf 81 = .ok (.getfield 88, 3) := by decide +kernel
theorem dX10_stateOf_84 : decode cX10_stateOf 84 = .ok (.iload_n 1, 1) := by decide +kernel
theorem dX10_stateOf_85 : decode cX10_stateOf 85 = .ok (.dup2, 1) := by decide +kernel
theorem dX10_stateOf_86 : decode cX10_stateOf 86 = .ok (.iaload, 1) := by decide +kernel
theorem dX10_stateOf_87 : decode cX10_stateOf 87 = .ok (.iconst 1, 1) := by decide +kernel
theorem dX10_stateOf_88 : decode cX10_stateOf 88 = .ok (.iadd, 1) := by decide +kernel
theorem dX10_stateOf_89 : decode cX10_stateOf 89 = .ok (.iastore, 1) := by decide +kernel
theorem dX10_stateOf_90 : decode cX10_stateOf 90 = .ok (.aload_n 0, 1) := by decide +kernel
theorem dX10_stateOf_91 : decode cX10_stateOf 91 = .ok (.getfield 88, 3) := by decide +kernel
theorem dX10_stateOf_94 : decode cX10_stateOf 94 = .ok (.iload_n 1, 1) := by decide +kernel
theorem dX10_stateOf_95 : decode cX10_stateOf 95 = .ok (.iaload, 1) := by decide +kernel
theorem dX10_stateOf_96 : decode cX10_stateOf 96 = .ok (.iconst 1, 1) := by decide +kernel
theorem dX10_stateOf_97 : decode cX10_stateOf 97 = .ok (.isub, 1) := by decide +kernel
theorem dX10_stateOf_98 : decode cX10_stateOf 98 = .ok (.ireturn, 1) := by decide +kernel
theorem dX10_build_0 : decode cX10_build 0 = .ok (.aload_n 0, 1) := by decide +kernel
theorem dX10_build_1 : decode cX10_build 1 = .ok (.getfield 88, 3) := by decide +kernel
theorem dX10_build_4 : decode cX10_build 4 = .ok (.iload_n 1, 1) := by decide +kernel
theorem dX10_build_5 : decode cX10_build 5 = .ok (.iconst 1, 1) := by decide +kernel
theorem dX10_build_6 : decode cX10_build 6 = .ok (.iastore, 1) := by decide +kernel
theorem dX10_build_7 : decode cX10_build 7 = .ok (.aload_n 0, 1) := by decide +kernel
theorem dX10_build_8 : decode cX10_build 8 = .ok (.getfield 91, 3) := by decide +kernel
theorem dX10_build_11 : decode cX10_build 11 = .ok (.iload_n 1, 1) := by decide +kernel
theorem dX10_build_12 : decode cX10_build 12 = .ok (.iconst 0, 1) := by decide +kernel
theorem dX10_build_13 : decode cX10_build 13 = .ok (.bastore, 1) := by decide +kernel
theorem dX10_build_14 : decode cX10_build 14 = .ok (.iconst 0, 1) := by decide +kernel
theorem dX10_build_15 : decode cX10_build 15 = .ok (.istore_n 2, 1) := by decide +kernel
theorem dX10_build_16 : decode cX10_build 16 = .ok (.iload_n 2, 1) := by decide +kernel
theorem dX10_build_17 : decode cX10_build 17 = .ok (.aload_n 0, 1) := by decide +kernel
theorem dX10_build_18 : decode cX10_build 18 = .ok (.getfield 88, 3) := by decide +kernel
theorem dX10_build_21 : decode cX10_build 21 = .ok (.iload_n 1, 1) := by decide +kernel
theorem dX10_build_22 : decode cX10_build 22 = .ok (.iaload, 1) := by decide +kernel
theorem dX10_build_23 : decode cX10_build 23 = .ok (.if_icmp .ge 76, 3) := by decide +kernel
theorem dX10_build_26 : decode cX10_build 26 = .ok (.iconst 0, 1) := by decide +kernel
theorem dX10_build_27 : decode cX10_build 27 = .ok (.istore_n 3, 1) := by decide +kernel
theorem dX10_build_28 : decode cX10_build 28 = .ok (.iload_n 3, 1) := by decide +kernel
theorem dX10_build_29 : decode cX10_build 29 = .ok (.bipush 36, 2) := by decide +kernel
theorem dX10_build_31 : decode cX10_build 31 = .ok (.if_icmp .ge 62, 3) := by decide +kernel
theorem dX10_build_34 : decode cX10_build 34 = .ok (.aload_n 0, 1) := by decide +kernel
theorem dX10_build_35 : decode cX10_build 35 = .ok (.iload_n 1, 1) := by decide +kernel
theorem dX10_build_36 : decode cX10_build 36 = .ok (.iload_n 2, 1) := by decide +kernel
theorem dX10_build_37 : decode cX10_build 37 = .ok (.ifCond .ne 7, 3) := by decide +kernel
theorem dX10_build_40 : decode cX10_build 40 = .ok (.iconst 1, 1) := by decide +kernel
theorem dX10_build_41 : decode cX10_build 41 = .ok (.goto 4, 3) := by decide +kernel
theorem dX10_build_44 : decode cX10_build 44 = .ok (.iconst 0, 1) := by decide +kernel
theorem dX10_build_45 : decode cX10_build 45 = .ok (.aload_n 0, 1) := by decide +kernel
theorem dX10_build_46 : decode cX10_build 46 = .ok (.getfield 82, 3) := by decide +kernel
theorem dX10_build_49 : decode cX10_build 49 = .ok (.sipush 300, 3) := by decide +kernel
theorem dX10_build_52 : decode cX10_build 52 = .ok (.iload_n 1, 1) := by decide +kernel
theorem dX10_build_53 : decode cX10_build 53 = .ok (.imul, 1) := by decide +kernel
theorem dX10_build_54 : decode cX10_build 54 = .ok (.iload_n 2, 1) := by decide +kernel
theorem dX10_build_55 : decode cX10_build 55 = .ok (.iadd, 1) := by decide +kernel
theorem dX10_build_56 : decode cX10_build 56 = .ok (.laload, 1) := by decide +kernel
theorem dX10_build_57 : decode cX10_build 57 = .ok (.iload_n 3, 1) := by decide +kernel
theorem dX10_build_58 : decode cX10_build 58 = .ok (.invokevirtual 222, 3) := by decide +kernel
theorem dX10_build_61 : decode cX10_build 61 = .ok (.lstore 4, 2) := by decide +kernel
theorem dX10_build_63 : decode cX10_build 63 = .ok (.aload_n 0, 1) := by decide +kernel
theorem dX10_build_64 : decode cX10_build 64 = .ok (.getfield 85, 3) := by decide +kernel
theorem dX10_build_67 : decode cX10_build 67 = .ok (.sipush 10800, 3) := by decide +kernel
theorem dX10_build_70 : decode cX10_build 70 = .ok (.iload_n 1, 1) := by decide +kernel
theorem dX10_build_71 : decode cX10_build 71 = .ok (.imul, 1) := by decide +kernel
theorem dX10_build_72 : decode cX10_build 72 = .ok (.bipush 36, 2) := by decide +kernel
theorem dX10_build_74 : decode cX10_build 74 = .ok (.iload_n 2, 1) := by decide +kernel
theorem dX10_build_75 : decode cX10_build 75 = .ok (.imul, 1) := by decide +kernel
theorem dX10_build_76 : decode cX10_build 76 = .ok (.iadd, 1) := by decide +kernel
theorem dX10_build_77 : decode cX10_build 77 = .ok (.iload_n 3, 1) := by decide +kernel
theorem dX10_build_78 : decode cX10_build 78 = .ok (.iadd, 1) := by decide +kernel
theorem dX10_build_79 : decode cX10_build 79 = .ok (.aload_n 0, 1) := by decide +kernel
theorem dX10_build_80 : decode cX10_build 80 = .ok (.iload_n 1, 1) := by decide +kernel
theorem dX10_build_81 : decode cX10_build 81 = .ok (.lload 4, 2) := by decide +kernel
theorem dX10_build_83 : decode cX10_build 83 = .ok (.invokevirtual 235, 3) := by decide +kernel
theorem dX10_build_86 : decode cX10_build 86 = .ok (.iastore, 1) := by decide +kernel
theorem dX10_build_87 : decode cX10_build 87 = .ok (.iinc 3 1, 3) := by decide +kernel
theorem dX10_build_90 : decode cX10_build 90 = .ok (.goto (-62), 3) := by decide +kernel
theorem dX10_build_93 : decode cX10_build 93 = .ok (.iinc 2 1, 3) := by decide +kernel
theorem dX10_build_96 : decode cX10_build 96 = .ok (.goto (-80), 3) := by decide +kernel
theorem dX10_build_99 : decode cX10_build 99 = .ok (.return_, 1) := by decide +kernel
theorem dX10_isGood_0 : decode cX10_isGood 0 = .ok (.iload_n 2, 1) := by decide +kernel
theorem dX10_isGood_1 : decode cX10_isGood 1 = .ok (.ifCond .ne 12, 3) := by decide +kernel
theorem dX10_isGood_4 : decode cX10_isGood 4 = .ok (.aload_n 0, 1) := by decide +kernel
theorem dX10_isGood_5 : decode cX10_isGood 5 = .ok (.getfield 27, 3) := by decide +kernel
theorem dX10_isGood_8 : decode cX10_isGood 8 = .ok (.iload_n 1, 1) := by decide +kernel
theorem dX10_isGood_9 : decode cX10_isGood 9 = .ok (.baload, 1) := by decide +kernel
theorem dX10_isGood_10 : decode cX10_isGood 10 = .ok (.goto 32, 3) := by decide +kernel
theorem dX10_isGood_13 : decode cX10_isGood 13 = .ok (.aload_n 0, 1) := by decide +kernel
theorem dX10_isGood_14 : decode cX10_isGood 14 = .ok (.getfield 82, 3) := by decide +kernel
theorem dX10_isGood_17 : decode cX10_isGood 17 = .ok (.sipush 300, 3) := by decide +kernel
theorem dX10_isGood_20 : decode cX10_isGood 20 = .ok (.iload_n 1, 1) := by decide +kernel
theorem dX10_isGood_21 : decode cX10_isGood 21 = .ok (.imul, 1) := by decide +kernel
theorem dX10_isGood_22 : decode cX10_isGood 22 = .ok (.iload_n 2, 1) := by decide +kernel
theorem dX10_isGood_23 : decode cX10_isGood 23 = .ok (.iadd, 1) := by decide +kernel
theorem dX10_isGood_24 : decode cX10_isGood 24 = .ok (.laload, 1) := by decide +kernel
theorem dX10_isGood_25 : decode cX10_isGood 25 = .ok (.aload_n 0, 1) := by decide +kernel
theorem dX10_isGood_26 : decode cX10_isGood 26 = .ok (.getfield 34, 3) := by decide +kernel
theorem dX10_isGood_29 : decode cX10_isGood 29 = .ok (.iload_n 1, 1) := by decide +kernel
theorem dX10_isGood_30 : decode cX10_isGood 30 = .ok (.laload, 1) := by decide +kernel
theorem dX10_isGood_31 : decode cX10_isGood 31 = .ok (.land, 1) := by decide +kernel
theorem dX10_isGood_32 : decode cX10_isGood 32 = .ok (.lconst 0, 1) := by decide +kernel
theorem dX10_isGood_33 : decode cX10_isGood 33 = .ok (.lcmp, 1) := by decide +kernel
theorem dX10_isGood_34 : decode cX10_isGood 34 = .ok (.ifCond .eq 7, 3) := by decide +kernel
theorem dX10_isGood_37 : decode cX10_isGood 37 = .ok (.iconst 1, 1) := by decide +kernel
theorem dX10_isGood_38 : decode cX10_isGood 38 = .ok (.goto 4, 3) := by decide +kernel
theorem dX10_isGood_41 : decode cX10_isGood 41 = .ok (.iconst 0, 1) := by decide +kernel
theorem dX10_isGood_42 : decode cX10_isGood 42 = .ok (.ireturn, 1) := by decide +kernel
theorem dX10_states_0 : decode cX10_states 0 = .ok (.aload_n 0, 1) := by decide +kernel
theorem dX10_states_1 : decode cX10_states 1 = .ok (.invokevirtual 211, 3) := by decide +kernel
theorem dX10_states_4 : decode cX10_states 4 = .ok (.ifCond .eq 5, 3) := by decide +kernel
theorem dX10_states_7 : decode cX10_states 7 = .ok (.iconst 0, 1) := by decide +kernel
theorem dX10_states_8 : decode cX10_states 8 = .ok (.ireturn, 1) := by decide +kernel
theorem dX10_states_9 : decode cX10_states 9 = .ok (.aload_n 0, 1) := by decide +kernel
theorem dX10_states_10 : decode cX10_states 10 = .ok (.iconst 0, 1) := by decide +kernel
theorem dX10_states_11 : decode cX10_states 11 = .ok (.invokevirtual 239, 3) := by decide +kernel
theorem dX10_states_14 : decode cX10_states 14 = .ok (.aload_n 0, 1) := by decide +kernel
theorem dX10_states_15 : decode cX10_states 15 = .ok (.getfield 88, 3) := by decide +kernel
theorem dX10_states_18 : decode cX10_states 18 = .ok (.iconst 0, 1) := by decide +kernel
theorem dX10_states_19 : decode cX10_states 19 = .ok (.iaload, 1) := by decide +kernel
theorem dX10_states_20 : decode cX10_states 20 = .ok (.ireturn, 1) := by decide +kernel
theorem dX10_noState_0 : decode cX10_noState 0 = .ok (.aload_n 0, 1) := by decide +kernel
theorem dX10_noState_1 : decode cX10_noState 1 = .ok (.invokevirtual 211, 3) := by decide +kernel
theorem dX10_noState_4 : decode cX10_noState 4 = .ok (.ifCond .eq 5, 3) := by decide +kernel
theorem dX10_noState_7 : decode cX10_noState 7 = .ok (.iconst 1, 1) := by decide +kernel
theorem dX10_noState_8 : decode cX10_noState 8 = .ok (.ireturn, 1) := by decide +kernel
theorem dX10_noState_9 : decode cX10_noState 9 = .ok (.aload_n 0, 1) := by decide +kernel
theorem dX10_noState_10 : decode cX10_noState 10 = .ok (.iconst 0, 1) := by decide +kernel
theorem dX10_noState_11 : decode cX10_noState 11 = .ok (.invokevirtual 239, 3) := by decide +kernel
theorem dX10_noState_14 : decode cX10_noState 14 = .ok (.aload_n 0, 1) := by decide +kernel
theorem dX10_noState_15 : decode cX10_noState 15 = .ok (.iload_n 1, 1) := by decide +kernel
theorem dX10_noState_16 : decode cX10_noState 16 = .ok (.ifCond .lt 13, 3) := by decide +kernel
theorem dX10_noState_19 : decode cX10_noState 19 = .ok (.iload_n 1, 1) := by decide +kernel
theorem dX10_noState_20 : decode cX10_noState 20 = .ok (.aload_n 0, 1) := by decide +kernel
theorem dX10_noState_21 : decode cX10_noState 21 = .ok (.getfield 88, 3) := by decide +kernel
theorem dX10_noState_24 : decode cX10_noState 24 = .ok (.iconst 0, 1) := by decide +kernel
theorem dX10_noState_25 : decode cX10_noState 25 = .ok (.iaload, 1) := by decide +kernel
theorem dX10_noState_26 : decode cX10_noState 26 = .ok (.if_icmp .lt 7, 3) := by decide +kernel
theorem dX10_noState_29 : decode cX10_noState 29 = .ok (.iconst 2, 1) := by decide +kernel
theorem dX10_noState_30 : decode cX10_noState 30 = .ok (.goto 4, 3) := by decide +kernel
theorem dX10_noState_33 : decode cX10_noState 33 = .ok (.iconst 0, 1) := by decide +kernel
theorem dX10_noState_34 : decode cX10_noState 34 = .ok (.putfield 116, 3) := by decide +kernel
theorem dX10_noState_37 : decode cX10_noState 37 = .ok (.aload_n 0, 1) := by decide +kernel
theorem dX10_noState_38 : decode cX10_noState 38 = .ok (.getfield 116, 3) := by decide +kernel
theorem dX10_noState_41 : decode cX10_noState 41 = .ok (.ifCond .le 7, 3) := by decide +kernel
theorem dX10_noState_44 : decode cX10_noState 44 = .ok (.iconst 1, 1) := by decide +kernel
theorem dX10_noState_45 : decode cX10_noState 45 = .ok (.goto 4, 3) := by decide +kernel
theorem dX10_noState_48 : decode cX10_noState 48 = .ok (.iconst 0, 1) := by decide +kernel
theorem dX10_noState_49 : decode cX10_noState 49 = .ok (.ireturn, 1) := by decide +kernel
theorem dX10_next_0 : decode cX10_next 0 = .ok (.aload_n 0, 1) := by decide +kernel
theorem dX10_next_1 : decode cX10_next 1 = .ok (.iload_n 1, 1) := by decide +kernel
theorem dX10_next_2 : decode cX10_next 2 = .ok (.invokevirtual 242, 3) := by decide +kernel
theorem dX10_next_5 : decode cX10_next 5 = .ok (.ifCond .eq 5, 3) := by decide +kernel
theorem dX10_next_8 : decode cX10_next 8 = .ok (.iconst 0, 1) := by decide +kernel
theorem dX10_next_9 : decode cX10_next 9 = .ok (.ireturn, 1) := by decide +kernel
theorem dX10_next_10 : decode cX10_next 10 = .ok (.aload_n 0, 1) := by decide +kernel
theorem dX10_next_11 : decode cX10_next 11 = .ok (.iload_n 2, 1) := by decide +kernel
theorem dX10_next_12 : decode cX10_next 12 = .ok (.ifCond .lt 9, 3) := by decide +kernel
theorem dX10_next_15 : decode cX10_next 15 = .ok (.iload_n 2, 1) := by decide +kernel
theorem dX10_next_16 : decode cX10_next 16 = .ok (.bipush 36, 2) := by decide +kernel
theorem dX10_next_18 : decode cX10_next 18 = .ok (.if_icmp .lt 7, 3) := by decide +kernel
theorem dX10_next_21 : decode cX10_next 21 = .ok (.iconst 2, 1) := by decide +kernel
theorem dX10_next_22 : decode cX10_next 22 = .ok (.goto 4, 3) := by decide +kernel
theorem dX10_next_25 : decode cX10_next 25 = .ok (.iconst 0, 1) := by decide +kernel
theorem dX10_next_26 : decode cX10_next 26 = .ok (.putfield 116, 3) := by decide +kernel
theorem dX10_next_29 : decode cX10_next 29 = .ok (.aload_n 0, 1) := by decide +kernel
theorem dX10_next_30 : decode cX10_next 30 = .ok (.getfield 116, 3) := by decide +kernel
theorem dX10_next_33 : decode cX10_next 33 = .ok (.ifCond .le 7, 3) := by decide +kernel
theorem dX10_next_36 : decode cX10_next 36 = .ok (.iconst 0, 1) := by decide +kernel
theorem dX10_next_37 : decode cX10_next 37 = .ok (.goto 14, 3) := by decide +kernel
theorem dX10_next_40 : decode cX10_next 40 = .ok (.aload_n 0, 1) := by decide +kernel
theorem dX10_next_41 : decode cX10_next 41 = .ok (.getfield 85, 3) := by decide +kernel
theorem dX10_next_44 : decode cX10_next 44 = .ok (.bipush 36, 2) := by decide +kernel
theorem dX10_next_46 : decode cX10_next 46 = .ok (.iload_n 1, 1) := by decide +kernel
theorem dX10_next_47 : decode cX10_next 47 = .ok (.imul, 1) := by decide +kernel
theorem dX10_next_48 : decode cX10_next 48 = .ok (.iload_n 2, 1) := by decide +kernel
theorem dX10_next_49 : decode cX10_next 49 = .ok (.iadd, 1) := by decide +kernel
theorem dX10_next_50 : decode cX10_next 50 = .ok (.iaload, 1) := by decide +kernel
theorem dX10_next_51 : decode cX10_next 51 = .ok (.ireturn, 1) := by decide +kernel
theorem dX10_good_0 : decode cX10_good 0 = .ok (.aload_n 0, 1) := by decide +kernel
theorem dX10_good_1 : decode cX10_good 1 = .ok (.iload_n 1, 1) := by decide +kernel
theorem dX10_good_2 : decode cX10_good 2 = .ok (.invokevirtual 242, 3) := by decide +kernel
theorem dX10_good_5 : decode cX10_good 5 = .ok (.ifCond .ne 16, 3) := by decide +kernel
theorem dX10_good_8 : decode cX10_good 8 = .ok (.aload_n 0, 1) := by decide +kernel
theorem dX10_good_9 : decode cX10_good 9 = .ok (.iconst 0, 1) := by decide +kernel
theorem dX10_good_10 : decode cX10_good 10 = .ok (.iload_n 1, 1) := by decide +kernel
theorem dX10_good_11 : decode cX10_good 11 = .ok (.invokevirtual 245, 3) := by decide +kernel
theorem dX10_good_14 : decode cX10_good 14 = .ok (.ifCond .eq 7, 3) := by decide +kernel
theorem dX10_good_17 : decode cX10_good 17 = .ok (.iconst 1, 1) := by decide +kernel
theorem dX10_good_18 : decode cX10_good 18 = .ok (.goto 4, 3) := by decide +kernel
theorem dX10_good_21 : decode cX10_good 21 = .ok (.iconst 0, 1) := by decide +kernel
theorem dX10_good_22 : decode cX10_good 22 = .ok (.ireturn, 1) := by decide +kernel
theorem dX10_partMore_0 : decode cX10_partMore 0 = .ok (.iconst 0, 1) := by decide +kernel
theorem dX10_partMore_1 : decode cX10_partMore 1 = .ok (.istore_n 2, 1) := by decide +kernel
theorem dX10_partMore_2 : decode cX10_partMore 2 = .ok (.iconst 0, 1) := by decide +kernel
theorem dX10_partMore_3 : decode cX10_partMore 3 = .ok (.istore_n 3, 1) := by decide +kernel
theorem dX10_partMore_4 : decode cX10_partMore 4 = .ok (.iload_n 3, 1) := by decide +kernel
theorem dX10_partMore_5 : decode cX10_partMore 5 = .ok (.iload_n 1, 1) := by decide +kernel
theorem dX10_partMore_6 : decode cX10_partMore 6 = .ok (.if_icmp .ge 80, 3) := by decide +kernel
theorem dX10_partMore_9 : decode cX10_partMore 9 = .ok (.iconst 0, 1) := by decide +kernel
theorem dX10_partMore_10 : decode cX10_partMore 10 = .ok (.istore 4, 2) := by decide +kernel
theorem dX10_partMore_12 : decode cX10_partMore 12 = .ok (.iload 4, 2) := by decide +kernel
theorem dX10_partMore_14 : decode cX10_partMore 14 = .ok (.iload_n 3, 1) := by decide +kernel
theorem dX10_partMore_15 : decode cX10_partMore 15 = .ok (.if_icmp .ge 65, 3) := by decide +kernel
theorem dX10_partMore_18 : decode cX10_partMore 18 = .ok (.aload_n 0, 1) := by decide +kernel
theorem dX10_partMore_19 : decode cX10_partMore 19 = .ok (.getfield 95, 3) := by decide +kernel
theorem dX10_partMore_22 : decode cX10_partMore 22 = .ok (.sipush 300, 3) := by decide +kernel
theorem dX10_partMore_25 : decode cX10_partMore 25 = .ok (.iload_n 3, 1) := by decide +kernel
theorem dX10_partMore_26 : decode cX10_partMore 26 = .ok (.imul, 1) := by decide +kernel
theorem dX10_partMore_27 : decode cX10_partMore 27 = .ok (.iload 4, 2) := by decide +kernel
theorem dX10_partMore_29 : decode cX10_partMore 29 = .ok (.iadd, 1) := by decide +kernel
theorem dX10_partMore_30 : decode cX10_partMore 30 = .ok (.baload, 1) := by decide +kernel
theorem dX10_partMore_31 : decode cX10_partMore 31 = .ok (.ifCond .ne 43, 3) := by decide +kernel
theorem dX10_partMore_34 : decode cX10_partMore 34 = .ok (.aload_n 0, 1) := by decide +kernel
theorem dX10_partMore_35 : decode cX10_partMore 35 = .ok (.iload_n 3, 1) := by decide +kernel
theorem dX10_partMore_36 : decode cX10_partMore 36 = .ok (.iload 4, 2) := by decide +kernel
theorem dX10_partMore_38 : decode cX10_partMore 38 = .ok (.invokevirtual 249, 3) := by decide +kernel
theorem dX10_partMore_41 : decode cX10_partMore 41 = .ok (.ifCond .eq 33, 3) := by decide +kernel
theorem dX10_partMore_44 : decode cX10_partMore 44 = .ok (.aload_n 0, 1) := by decide +kernel
theorem dX10_partMore_45 : decode cX10_partMore 45 = .ok (.getfield 95, 3) := by decide +kernel
theorem dX10_partMore_48 : decode cX10_partMore 48 = .ok (.sipush 300, 3) := by decide +kernel
theorem dX10_partMore_51 : decode cX10_partMore 51 = .ok (.iload_n 3, 1) := by decide +kernel
theorem dX10_partMore_52 : decode cX10_partMore 52 = .ok (.imul, 1) := by decide +kernel
theorem dX10_partMore_53 : decode cX10_partMore 53 = .ok (.iload 4, 2) := by decide +kernel
theorem dX10_partMore_55 : decode cX10_partMore 55 = .ok (.iadd, 1) := by decide +kernel
theorem dX10_partMore_56 : decode cX10_partMore 56 = .ok (.iconst 1, 1) := by decide +kernel
theorem dX10_partMore_57 : decode cX10_partMore 57 = .ok (.bastore, 1) := by decide +kernel
theorem dX10_partMore_58 : decode cX10_partMore 58 = .ok (.aload_n 0, 1) := by decide +kernel
theorem dX10_partMore_59 : decode cX10_partMore 59 = .ok (.getfield 95, 3) := by decide +kernel
theorem dX10_partMore_62 : decode cX10_partMore 62 = .ok (.sipush 300, 3) := by decide +kernel
theorem dX10_partMore_65 : decode cX10_partMore 65 = .ok (.iload 4, 2) := by decide +kernel
theorem dX10_partMore_67 : decode cX10_partMore 67 = .ok (.imul, 1) := by decide +kernel
theorem dX10_partMore_68 : decode cX10_partMore 68 = .ok (.iload_n 3, 1) := by decide +kernel
theorem dX10_partMore_69 : decode cX10_partMore 69 = .ok (.iadd, 1) := by decide +kernel
theorem dX10_partMore_70 : decode cX10_partMore 70 = .ok (.iconst 1, 1) := by decide +kernel
theorem dX10_partMore_71 : decode cX10_partMore 71 = .ok (.bastore, 1) := by decide +kernel
theorem dX10_partMore_72 : decode cX10_partMore 72 = .ok (.iconst 1, 1) := by decide +kernel
theorem dX10_partMore_73 : decode cX10_partMore 73 = .ok (.istore_n 2, 1) := by decide +kernel
theorem dX10_partMore_74 : decode cX10_partMore 74 = .ok (.iinc 4 1, 3) := by decide +kernel
theorem dX10_partMore_77 : decode cX10_partMore 77 = .ok (.goto (-65), 3) := by decide +kernel
theorem dX10_partMore_80 : decode cX10_partMore 80 = .ok (.iinc 3 1, 3) := by decide +kernel
theorem dX10_partMore_83 : decode cX10_partMore 83 = .ok (.goto (-79), 3) := by decide +kernel
theorem dX10_partMore_86 : decode cX10_partMore 86 = .ok (.iload_n 2, 1) := by decide +kernel
theorem dX10_partMore_87 : decode cX10_partMore 87 = .ok (.ireturn, 1) := by decide +kernel
theorem dX10_nowApart_0 : decode cX10_nowApart 0 = .ok (.aload_n 0, 1) := by decide +kernel
theorem dX10_nowApart_1 : decode cX10_nowApart 1 = .ok (.iconst 0, 1) := by decide +kernel
theorem dX10_nowApart_2 : decode cX10_nowApart 2 = .ok (.iload_n 1, 1) := by decide +kernel
theorem dX10_nowApart_3 : decode cX10_nowApart 3 = .ok (.invokevirtual 245, 3) := by decide +kernel
theorem dX10_nowApart_6 : decode cX10_nowApart 6 = .ok (.aload_n 0, 1) := by decide +kernel
theorem dX10_nowApart_7 : decode cX10_nowApart 7 = .ok (.iconst 0, 1) := by decide +kernel
theorem dX10_nowApart_8 : decode cX10_nowApart 8 = .ok (.iload_n 2, 1) := by decide +kernel
theorem dX10_nowApart_9 : decode cX10_nowApart 9 = .ok (.invokevirtual 245, 3) := by decide +kernel
theorem dX10_nowApart_12 : decode cX10_nowApart 12 = .ok (.if_icmp .eq 7, 3) := by decide +kernel
theorem dX10_nowApart_15 : decode cX10_nowApart 15 = .ok (.iconst 1, 1) := by decide +kernel
theorem dX10_nowApart_16 : decode cX10_nowApart 16 = .ok (.goto 4, 3) := by decide +kernel
theorem dX10_nowApart_19 : decode cX10_nowApart 19 = .ok (.iconst 0, 1) := by decide +kernel
theorem dX10_nowApart_20 : decode cX10_nowApart 20 = .ok (.istore_n 3, 1) := by decide +kernel
theorem dX10_nowApart_21 : decode cX10_nowApart 21 = .ok (.iconst 0, 1) := by decide +kernel
theorem dX10_nowApart_22 : decode cX10_nowApart 22 = .ok (.istore 4, 2) := by decide +kernel
theorem dX10_nowApart_24 : decode cX10_nowApart 24 = .ok (.iload 4, 2) := by decide +kernel
theorem dX10_nowApart_26 : decode cX10_nowApart 26 = .ok (.bipush 36, 2) := by decide +kernel
theorem dX10_nowApart_28 : decode cX10_nowApart 28 = .ok (.if_icmp .ge 48, 3) := by decide +kernel
theorem dX10_nowApart_31 : decode cX10_nowApart 31 = .ok (.iload_n 3, 1) := by decide +kernel
theorem dX10_nowApart_32 : decode cX10_nowApart 32 = .ok (.ifCond .ne 44, 3) := by decide +kernel
theorem dX10_nowApart_35 : decode cX10_nowApart 35 = .ok (.aload_n 0, 1) := by decide +kernel
theorem dX10_nowApart_36 : decode cX10_nowApart 36 = .ok (.getfield 95, 3) := by decide +kernel
theorem dX10_nowApart_39 : decode cX10_nowApart 39 = .ok (.sipush 300, 3) := by decide +kernel
theorem dX10_nowApart_42 : decode cX10_nowApart 42 = .ok (.aload_n 0, 1) := by decide +kernel
theorem dX10_nowApart_43 : decode cX10_nowApart 43 = .ok (.getfield 85, 3) := by decide +kernel
theorem dX10_nowApart_46 : decode cX10_nowApart 46 = .ok (.bipush 36, 2) := by decide +kernel
theorem dX10_nowApart_48 : decode cX10_nowApart 48 = .ok (.iload_n 1, 1) := by decide +kernel
theorem dX10_nowApart_49 : decode cX10_nowApart 49 = .ok (.imul, 1) := by decide +kernel
theorem dX10_nowApart_50 : decode cX10_nowApart 50 = .ok (.iload 4, 2) := by decide +kernel
theorem dX10_nowApart_52 : decode cX10_nowApart 52 = .ok (.iadd, 1) := by decide +kernel
theorem dX10_nowApart_53 : decode cX10_nowApart 53 = .ok (.iaload, 1) := by decide +kernel
theorem dX10_nowApart_54 : decode cX10_nowApart 54 = .ok (.imul, 1) := by decide +kernel
theorem dX10_nowApart_55 : decode cX10_nowApart 55 = .ok (.aload_n 0, 1) := by decide +kernel
theorem dX10_nowApart_56 : decode cX10_nowApart 56 = .ok (.getfield 85, 3) := by decide +kernel
theorem dX10_nowApart_59 : decode cX10_nowApart 59 = .ok (.bipush 36, 2) := by decide +kernel
theorem dX10_nowApart_61 : decode cX10_nowApart 61 = .ok (.iload_n 2, 1) := by decide +kernel
theorem dX10_nowApart_62 : decode cX10_nowApart 62 = .ok (.imul, 1) := by decide +kernel
theorem dX10_nowApart_63 : decode cX10_nowApart 63 = .ok (.iload 4, 2) := by decide +kernel
theorem dX10_nowApart_65 : decode cX10_nowApart 65 = .ok (.iadd, 1) := by decide +kernel
theorem dX10_nowApart_66 : decode cX10_nowApart 66 = .ok (.iaload, 1) := by decide +kernel
theorem dX10_nowApart_67 : decode cX10_nowApart 67 = .ok (.iadd, 1) := by decide +kernel
theorem dX10_nowApart_68 : decode cX10_nowApart 68 = .ok (.baload, 1) := by decide +kernel
theorem dX10_nowApart_69 : decode cX10_nowApart 69 = .ok (.istore_n 3, 1) := by decide +kernel
theorem dX10_nowApart_70 : decode cX10_nowApart 70 = .ok (.iinc 4 1, 3) := by decide +kernel
theorem dX10_nowApart_73 : decode cX10_nowApart 73 = .ok (.goto (-49), 3) := by decide +kernel
theorem dX10_nowApart_76 : decode cX10_nowApart 76 = .ok (.iload_n 3, 1) := by decide +kernel
theorem dX10_nowApart_77 : decode cX10_nowApart 77 = .ok (.ireturn, 1) := by decide +kernel
theorem dX10_classes_0 : decode cX10_classes 0 = .ok (.aload_n 0, 1) := by decide +kernel
theorem dX10_classes_1 : decode cX10_classes 1 = .ok (.invokevirtual 211, 3) := by decide +kernel
theorem dX10_classes_4 : decode cX10_classes 4 = .ok (.ifCond .eq 5, 3) := by decide +kernel
theorem dX10_classes_7 : decode cX10_classes 7 = .ok (.iconst 0, 1) := by decide +kernel
theorem dX10_classes_8 : decode cX10_classes 8 = .ok (.ireturn, 1) := by decide +kernel
theorem dX10_classes_9 : decode cX10_classes 9 = .ok (.aload_n 0, 1) := by decide +kernel
theorem dX10_classes_10 : decode cX10_classes 10 = .ok (.iconst 0, 1) := by decide +kernel
theorem dX10_classes_11 : decode cX10_classes 11 = .ok (.invokevirtual 239, 3) := by decide +kernel
theorem dX10_classes_14 : decode cX10_classes 14 = .ok (.aload_n 0, 1) := by decide +kernel
theorem dX10_classes_15 : decode cX10_classes 15 = .ok (.getfield 91, 3) := by decide +kernel
theorem dX10_classes_18 : decode cX10_classes 18 = .ok (.iconst 0, 1) := by decide +kernel
theorem dX10_classes_19 : decode cX10_classes 19 = .ok (.baload, 1) := by decide +kernel
theorem dX10_classes_20 : decode cX10_classes 20 = .ok (.ifCond .eq 5, 3) := by decide +kernel
theorem dX10_classes_23 : decode cX10_classes 23 = .ok (.iconst (-1), 1) := by decide +kernel
theorem dX10_classes_24 : decode cX10_classes 24 = .ok (.ireturn, 1) := by decide +kernel
theorem dX10_classes_25 : decode cX10_classes 25 = .ok (.aload_n 0, 1) := by decide +kernel
theorem dX10_classes_26 : decode cX10_classes 26 = .ok (.getfield 88, 3) := by decide +kernel
theorem dX10_classes_29 : decode cX10_classes 29 = .ok (.iconst 0, 1) := by decide +kernel
theorem dX10_classes_30 : decode cX10_classes 30 = .ok (.iaload, 1) := by decide +kernel
theorem dX10_classes_31 : decode cX10_classes 31 = .ok (.istore_n 1, 1) := by decide +kernel
theorem dX10_classes_32 : decode cX10_classes 32 = .ok (.iconst 0, 1) := by decide +kernel
theorem dX10_classes_33 : decode cX10_classes 33 = .ok (.istore_n 2, 1) := by decide +kernel
theorem dX10_classes_34 : decode cX10_classes 34 = .ok (.iload_n 2, 1) := by decide +kernel
theorem dX10_classes_35 : decode cX10_classes 35 = .ok (.ldc 94, 2) := by decide +kernel
theorem dX10_classes_37 : decode cX10_classes 37 = .ok (.if_icmp .ge 16, 3) := by decide +kernel
theorem dX10_classes_40 : decode cX10_classes 40 = .ok (.aload_n 0, 1) := by decide +kernel
theorem dX10_classes_41 : decode cX10_classes 41 = .ok (.getfield 95, 3) := by decide +kernel
theorem dX10_classes_44 : decode cX10_classes 44 = .ok (.iload_n 2, 1) := by decide +kernel
theorem dX10_classes_45 : decode cX10_classes 45 = .ok (.iconst 0, 1) := by decide +kernel
theorem dX10_classes_46 : decode cX10_classes 46 = .ok (.bastore, 1) := by decide +kernel
theorem dX10_classes_47 : decode cX10_classes 47 = .ok (.iinc 2 1, 3) := by decide +kernel
theorem dX10_classes_50 : decode cX10_classes 50 = .ok (.goto (-16), 3) := by decide +kernel
theorem dX10_classes_53 : decode cX10_classes 53 = .ok (.iconst 1, 1) := by decide +kernel
theorem dX10_classes_54 : decode cX10_classes 54 = .ok (.istore_n 2, 1) := by decide +kernel
theorem dX10_classes_55 : decode cX10_classes 55 = .ok (.iload_n 2, 1) := by decide +kernel
theorem dX10_classes_56 : decode cX10_classes 56 = .ok (.ifCond .eq 12, 3) := by decide +kernel
theorem dX10_classes_59 : decode cX10_classes 59 = .ok (.aload_n 0, 1) := by decide +kernel
theorem dX10_classes_60 : decode cX10_classes 60 = .ok (.iload_n 1, 1) := by decide +kernel
theorem dX10_classes_61 : decode cX10_classes 61 = .ok (.invokevirtual 252, 3) := by decide +kernel
theorem dX10_classes_64 : decode cX10_classes 64 = .ok (.istore_n 2, 1) := by decide +kernel
theorem dX10_classes_65 : decode cX10_classes 65 = .ok (.goto (-10), 3) := by decide +kernel
theorem dX10_classes_68 : decode cX10_classes 68 = .ok (.iconst 0, 1) := by decide +kernel
theorem dX10_classes_69 : decode cX10_classes 69 = .ok (.istore_n 3, 1) := by decide +kernel
theorem dX10_classes_70 : decode cX10_classes 70 = .ok (.iconst 0, 1) := by decide +kernel
theorem dX10_classes_71 : decode cX10_classes 71 = .ok (.istore 4, 2) := by decide +kernel
theorem dX10_classes_73 : decode cX10_classes 73 = .ok (.iload 4, 2) := by decide +kernel
theorem dX10_classes_75 : decode cX10_classes 75 = .ok (.iload_n 1, 1) := by decide +kernel
theorem dX10_classes_76 : decode cX10_classes 76 = .ok (.if_icmp .ge 70, 3) := by decide +kernel
theorem dX10_classes_79 : decode cX10_classes 79 = .ok (.iconst 1, 1) := by decide +kernel
theorem dX10_classes_80 : decode cX10_classes 80 = .ok (.istore 5, 2) := by decide +kernel
theorem dX10_classes_82 : decode cX10_classes 82 = .ok (.iconst 0, 1) := by decide +kernel
theorem dX10_classes_83 : decode cX10_classes 83 = .ok (.istore 6, 2) := by decide +kernel
theorem dX10_classes_85 : decode cX10_classes 85 = .ok (.iload 6, 2) := by decide +kernel
theorem dX10_classes_87 : decode cX10_classes 87 = .ok (.iload 4, 2) := by decide +kernel
theorem dX10_classes_89 : decode cX10_classes 89 = .ok (.if_icmp .ge 38, 3) := by decide +kernel
theorem dX10_classes_92 : decode cX10_classes 92 = .ok (.iload 5, 2) := by decide +kernel
theorem dX10_classes_94 : decode cX10_classes 94 = .ok (.ifCond .eq 24, 3) := by decide +kernel
theorem dX10_classes_97 : decode cX10_classes 97 = .ok (.aload_n 0, 1) := by decide +kernel
theorem dX10_classes_98 : decode cX10_classes 98 = .ok (.getfield 95, 3) := by decide +kernel
theorem dX10_classes_101 : decode cX10_classes 101 = .ok (.sipush 300, 3) := by decide +kernel
theorem dX10_classes_104 : decode cX10_classes 104 = .ok (.iload 4, 2) := by decide +kernel
theorem dX10_classes_106 : decode cX10_classes 106 = .ok (.imul, 1) := by decide +kernel
theorem dX10_classes_107 : decode cX10_classes 107 = .ok (.iload 6, 2) := by decide +kernel
theorem dX10_classes_109 : decode cX10_classes 109 = .ok (.iadd, 1) := by decide +kernel
theorem dX10_classes_110 : decode cX10_classes 110 = .ok (.baload, 1) := by decide +kernel
theorem dX10_classes_111 : decode cX10_classes 111 = .ok (.ifCond .eq 7, 3) := by decide +kernel
theorem dX10_classes_114 : decode cX10_classes 114 = .ok (.iconst 1, 1) := by decide +kernel
theorem dX10_classes_115 : decode cX10_classes 115 = .ok (.goto 4, 3) := by decide +kernel
theorem dX10_classes_118 : decode cX10_classes 118 = .ok (.iconst 0, 1) := by decide +kernel
theorem dX10_classes_119 : decode cX10_classes 119 = .ok (.istore 5, 2) := by decide +kernel
theorem dX10_classes_121 : decode cX10_classes 121 = .ok (.iinc 6 1, 3) := by decide +kernel
theorem dX10_classes_124 : decode cX10_classes 124 = .ok (.goto (-39), 3) := by decide +kernel
theorem dX10_classes_127 : decode cX10_classes 127 = .ok (.iload 5, 2) := by decide +kernel
theorem dX10_classes_129 : decode cX10_classes 129 = .ok (.ifCond .eq 9, 3) := by decide +kernel
theorem dX10_classes_132 : decode cX10_classes 132 = .ok (.iload_n 3, 1) := by decide +kernel
theorem dX10_classes_133 : decode cX10_classes 133 = .ok (.iconst 1, 1) := by decide +kernel
theorem dX10_classes_134 : decode cX10_classes 134 = .ok (.iadd, 1) := by decide +kernel
theorem dX10_classes_135 : decode cX10_classes 135 = .ok (.goto 4, 3) := by decide +kernel
theorem dX10_classes_138 : decode cX10_classes 138 = .ok (.iload_n 3, 1) := by decide +kernel
theorem dX10_classes_139 : decode cX10_classes 139 = .ok (.istore_n 3, 1) := by decide +kernel
theorem dX10_classes_140 : decode cX10_classes 140 = .ok (.iinc 4 1, 3) := by decide +kernel
theorem dX10_classes_143 : decode cX10_classes 143 = .ok (.goto (-70), 3) := by decide +kernel
theorem dX10_classes_146 : decode cX10_classes 146 = .ok (.iload_n 3, 1) := by decide +kernel
theorem dX10_classes_147 : decode cX10_classes 147 = .ok (.ireturn, 1) := by decide +kernel
theorem dX10_keep_0 : decode cX10_keep 0 = .ok (.aload_n 0, 1) := by decide +kernel
theorem dX10_keep_1 : decode cX10_keep 1 = .ok (.invokevirtual 211, 3) := by decide +kernel
theorem dX10_keep_4 : decode cX10_keep 4 = .ok (.ifCond .ne 9, 3) := by decide +kernel
theorem dX10_keep_7 : decode cX10_keep 7 = .ok (.aload_n 0, 1) := by decide +kernel
theorem dX10_keep_8 : decode cX10_keep 8 = .ok (.iconst 0, 1) := by decide +kernel
theorem dX10_keep_9 : decode cX10_keep 9 = .ok (.iconst 1, 1) := by decide +kernel
theorem dX10_keep_10 : decode cX10_keep 10 = .ok (.invokevirtual 208, 3) := by decide +kernel
theorem dX10_keep_13 : decode cX10_keep 13 = .ok (.return_, 1) := by decide +kernel
theorem dX10_spell_0 : decode cX10_spell 0 = .ok (.aload_n 0, 1) := by decide +kernel
theorem dX10_spell_1 : decode cX10_spell 1 = .ok (.iconst 0, 1) := by decide +kernel
theorem dX10_spell_2 : decode cX10_spell 2 = .ok (.putfield 255, 3) := by decide +kernel
theorem dX10_spell_5 : decode cX10_spell 5 = .ok (.iload_n 1, 1) := by decide +kernel
theorem dX10_spell_6 : decode cX10_spell 6 = .ok (.istore_n 2, 1) := by decide +kernel
theorem dX10_spell_7 : decode cX10_spell 7 = .ok (.iload_n 2, 1) := by decide +kernel
theorem dX10_spell_8 : decode cX10_spell 8 = .ok (.ifCond .eq 23, 3) := by decide +kernel
theorem dX10_spell_11 : decode cX10_spell 11 = .ok (.aload_n 0, 1) := by decide +kernel
theorem dX10_spell_12 : decode cX10_spell 12 = .ok (.dup, 1) := by decide +kernel
theorem dX10_spell_13 : decode cX10_spell 13 = .ok (.getfield 255, 3) := by decide +kernel
theorem dX10_spell_16 : decode cX10_spell 16 = .ok (.iconst 1, 1) := by decide +kernel
theorem dX10_spell_17 : decode cX10_spell 17 = .ok (.iadd, 1) := by decide +kernel
theorem dX10_spell_18 : decode cX10_spell 18 = .ok (.putfield 255, 3) := by decide +kernel
theorem dX10_spell_21 : decode cX10_spell 21 = .ok (.aload_n 0, 1) := by decide +kernel
theorem dX10_spell_22 : decode cX10_spell 22 = .ok (.getfield 101, 3) := by decide +kernel
theorem dX10_spell_25 : decode cX10_spell 25 = .ok (.iload_n 2, 1) := by decide +kernel
theorem dX10_spell_26 : decode cX10_spell 26 = .ok (.iaload, 1) := by decide +kernel
theorem dX10_spell_27 : decode cX10_spell 27 = .ok (.istore_n 2, 1) := by decide +kernel
theorem dX10_spell_28 : decode cX10_spell 28 = .ok (.goto (-21), 3) := by decide +kernel
theorem dX10_spell_31 : decode cX10_spell 31 = .ok (.aload_n 0, 1) := by decide +kernel
theorem dX10_spell_32 : decode cX10_spell 32 = .ok (.getfield 255, 3) := by decide +kernel
theorem dX10_spell_35 : decode cX10_spell 35 = .ok (.istore_n 2, 1) := by decide +kernel
theorem dX10_spell_36 : decode cX10_spell 36 = .ok (.iload_n 1, 1) := by decide +kernel
theorem dX10_spell_37 : decode cX10_spell 37 = .ok (.istore_n 3, 1) := by decide +kernel
theorem dX10_spell_38 : decode cX10_spell 38 = .ok (.iload_n 3, 1) := by decide +kernel
theorem dX10_spell_39 : decode cX10_spell 39 = .ok (.ifCond .eq 28, 3) := by decide +kernel
theorem dX10_spell_42 : decode cX10_spell 42 = .ok (.iinc 2 (-1), 3) := by decide +kernel
theorem dX10_spell_45 : decode cX10_spell 45 = .ok (.aload_n 0, 1) := by decide +kernel
theorem dX10_spell_46 : decode cX10_spell 46 = .ok (.getfield 107, 3) := by decide +kernel
theorem dX10_spell_49 : decode cX10_spell 49 = .ok (.iload_n 2, 1) := by decide +kernel
theorem dX10_spell_50 : decode cX10_spell 50 = .ok (.aload_n 0, 1) := by decide +kernel
theorem dX10_spell_51 : decode cX10_spell 51 = .ok (.getfield 104, 3) := by decide +kernel
theorem dX10_spell_54 : decode cX10_spell 54 = .ok (.iload_n 3, 1) := by decide +kernel
theorem dX10_spell_55 : decode cX10_spell 55 = .ok (.iaload, 1) := by decide +kernel
theorem dX10_spell_56 : decode cX10_spell 56 = .ok (.iastore, 1) := by decide +kernel
theorem dX10_spell_57 : decode cX10_spell 57 = .ok (.aload_n 0, 1) := by decide +kernel
theorem dX10_spell_58 : decode cX10_spell 58 = .ok (.getfield 101, 3) := by decide +kernel
theorem dX10_spell_61 : decode cX10_spell 61 = .ok (.iload_n 3, 1) := by decide +kernel
theorem dX10_spell_62 : decode cX10_spell 62 = .ok (.iaload, 1) := by decide +kernel
theorem dX10_spell_63 : decode cX10_spell 63 = .ok (.istore_n 3, 1) := by decide +kernel
theorem dX10_spell_64 : decode cX10_spell 64 = .ok (.goto (-26), 3) := by decide +kernel
theorem dX10_spell_67 : decode cX10_spell 67 = .ok (.return_, 1) := by decide +kernel
theorem dX10_differ_0 : decode cX10_differ 0 = .ok (.aload_n 0, 1) := by decide +kernel
theorem dX10_differ_1 : decode cX10_differ 1 = .ok (.aload_n 0, 1) := by decide +kernel
theorem dX10_differ_2 : decode cX10_differ 2 = .ok (.getfield 20, 3) := by decide +kernel
theorem dX10_differ_5 : decode cX10_differ 5 = .ok (.iconst 0, 1) := by decide +kernel
theorem dX10_differ_6 : decode cX10_differ 6 = .ok (.baload, 1) := by decide +kernel
theorem dX10_differ_7 : decode cX10_differ 7 = .ok (.ifCond .eq 16, 3) := by decide +kernel
theorem dX10_differ_10 : decode cX10_differ 10 = .ok (.aload_n 0, 1) := by decide +kernel
theorem dX10_differ_11 : decode cX10_differ 11 = .ok (.getfield 20, 3) := by decide +kernel
theorem dX10_differ_14 : decode cX10_differ 14 = .ok (.iconst 1, 1) := by decide +kernel
theorem dX10_differ_15 : decode cX10_differ 15 = .ok (.baload, 1) := by decide +kernel
theorem dX10_differ_16 : decode cX10_differ 16 = .ok (.ifCond .eq 7, 3) := by decide +kernel
theorem dX10_differ_19 : decode cX10_differ 19 = .ok (.iconst 0, 1) := by decide +kernel
theorem dX10_differ_20 : decode cX10_differ 20 = .ok (.goto 4, 3) := by decide +kernel
theorem dX10_differ_23 : decode cX10_differ 23 = .ok (.iconst 1, 1) := by decide +kernel
theorem dX10_differ_24 : decode cX10_differ 24 = .ok (.putfield 116, 3) := by decide +kernel
theorem dX10_differ_27 : decode cX10_differ 27 = .ok (.aload_n 0, 1) := by decide +kernel
theorem dX10_differ_28 : decode cX10_differ 28 = .ok (.getfield 116, 3) := by decide +kernel
theorem dX10_differ_31 : decode cX10_differ 31 = .ok (.ifCond .le 5, 3) := by decide +kernel
theorem dX10_differ_34 : decode cX10_differ 34 = .ok (.iconst 0, 1) := by decide +kernel
theorem dX10_differ_35 : decode cX10_differ 35 = .ok (.ireturn, 1) := by decide +kernel
theorem dX10_differ_36 : decode cX10_differ 36 = .ok (.aload_n 0, 1) := by decide +kernel
theorem dX10_differ_37 : decode cX10_differ 37 = .ok (.iconst 0, 1) := by decide +kernel
theorem dX10_differ_38 : decode cX10_differ 38 = .ok (.invokevirtual 239, 3) := by decide +kernel
theorem dX10_differ_41 : decode cX10_differ 41 = .ok (.aload_n 0, 1) := by decide +kernel
theorem dX10_differ_42 : decode cX10_differ 42 = .ok (.iconst 1, 1) := by decide +kernel
theorem dX10_differ_43 : decode cX10_differ 43 = .ok (.invokevirtual 239, 3) := by decide +kernel
theorem dX10_differ_46 : decode cX10_differ 46 = .ok (.aload_n 0, 1) := by decide +kernel
theorem dX10_differ_47 : decode cX10_differ 47 = .ok (.iconst 0, 1) := by decide +kernel
theorem dX10_differ_48 : decode cX10_differ 48 = .ok (.putfield 255, 3) := by decide +kernel
theorem dX10_differ_51 : decode cX10_differ 51 = .ok (.aload_n 0, 1) := by decide +kernel
theorem dX10_differ_52 : decode cX10_differ 52 = .ok (.getfield 91, 3) := by decide +kernel
theorem dX10_differ_55 : decode cX10_differ 55 = .ok (.iconst 0, 1) := by decide +kernel
theorem dX10_differ_56 : decode cX10_differ 56 = .ok (.baload, 1) := by decide +kernel
theorem dX10_differ_57 : decode cX10_differ 57 = .ok (.ifCond .ne 12, 3) := by decide +kernel
theorem dX10_differ_60 : decode cX10_differ 60 = .ok (.aload_n 0, 1) := by decide +kernel
theorem dX10_differ_61 : decode cX10_differ 61 = .ok (.getfield 91, 3) := by decide +kernel
theorem dX10_differ_64 : decode cX10_differ 64 = .ok (.iconst 1, 1) := by decide +kernel
theorem dX10_differ_65 : decode cX10_differ 65 = .ok (.baload, 1) := by decide +kernel
theorem dX10_differ_66 : decode cX10_differ 66 = .ok (.ifCond .eq 6, 3) := by decide +kernel
theorem dX10_differ_69 : decode cX10_differ 69 = .ok (.bipush (-2), 2) := by decide +kernel
theorem dX10_differ_71 : decode cX10_differ 71 = .ok (.ireturn, 1) := by decide +kernel
theorem dX10_differ_72 : decode cX10_differ 72 = .ok (.iconst 0, 1) := by decide +kernel
theorem dX10_differ_73 : decode cX10_differ 73 = .ok (.istore_n 1, 1) := by decide +kernel
theorem dX10_differ_74 : decode cX10_differ 74 = .ok (.iload_n 1, 1) := by decide +kernel
theorem dX10_differ_75 : decode cX10_differ 75 = .ok (.ldc 94, 2) := by decide +kernel
theorem dX10_differ_77 : decode cX10_differ 77 = .ok (.if_icmp .ge 16, 3) := by decide +kernel
theorem dX10_differ_80 : decode cX10_differ 80 = .ok (.aload_n 0, 1) := by decide +kernel
theorem dX10_differ_81 : decode cX10_differ 81 = .ok (.getfield 95, 3) := by decide +kernel
theorem dX10_differ_84 : decode cX10_differ 84 = .ok (.iload_n 1, 1) := by decide +kernel
theorem dX10_differ_85 : decode cX10_differ 85 = .ok (.iconst 0, 1) := by decide +kernel
theorem dX10_differ_86 : decode cX10_differ 86 = .ok (.bastore, 1) := by decide +kernel
theorem dX10_differ_87 : decode cX10_differ 87 = .ok (.iinc 1 1, 3) := by decide +kernel
theorem dX10_differ_90 : decode cX10_differ 90 = .ok (.goto (-16), 3) := by decide +kernel
theorem dX10_differ_93 : decode cX10_differ 93 = .ok (.iconst 1, 1) := by decide +kernel
theorem dX10_differ_94 : decode cX10_differ 94 = .ok (.istore_n 1, 1) := by decide +kernel
theorem dX10_differ_95 : decode cX10_differ 95 = .ok (.aload_n 0, 1) := by decide +kernel
theorem dX10_differ_96 : decode cX10_differ 96 = .ok (.getfield 98, 3) := by decide +kernel
theorem dX10_differ_99 : decode cX10_differ 99 = .ok (.iconst 0, 1) := by decide +kernel
theorem dX10_differ_100 : decode cX10_differ 100 = .ok (.iconst 0, 1) := by decide +kernel
theorem dX10_differ_101 : decode cX10_differ 101 = .ok (.iastore, 1) := by decide +kernel
theorem dX10_differ_102 : decode cX10_differ 102 = .ok (.aload_n 0, 1) := by decide +kernel
theorem dX10_differ_103 : decode cX10_differ 103 = .ok (.getfield 95, 3) := by decide +kernel
theorem dX10_differ_106 : decode cX10_differ 106 = .ok (.iconst 0, 1) := by decide +kernel
theorem dX10_differ_107 : decode cX10_differ 107 = .ok (.iconst 1, 1) := by decide +kernel
theorem dX10_differ_108 : decode cX10_differ 108 = .ok (.bastore, 1) := by decide +kernel
theorem dX10_differ_109 : decode cX10_differ 109 = .ok (.iconst 0, 1) := by decide +kernel
theorem dX10_differ_110 : decode cX10_differ 110 = .ok (.istore_n 2, 1) := by decide +kernel
theorem dX10_differ_111 : decode cX10_differ 111 = .ok (.iload_n 2, 1) := by decide +kernel
theorem dX10_differ_112 : decode cX10_differ 112 = .ok (.iload_n 1, 1) := by decide +kernel
theorem dX10_differ_113 : decode cX10_differ 113 = .ok (.if_icmp .ge 154, 3) := by decide +kernel
theorem dX10_differ_116 : decode cX10_differ 116 = .ok (.aload_n 0, 1) := by decide +kernel
theorem dX10_differ_117 : decode cX10_differ 117 = .ok (.getfield 98, 3) := by decide +kernel
theorem dX10_differ_120 : decode cX10_differ 120 = .ok (.iload_n 2, 1) := by decide +kernel
theorem dX10_differ_121 : decode cX10_differ 121 = .ok (.iaload, 1) := by decide +kernel
theorem dX10_differ_122 : decode cX10_differ 122 = .ok (.sipush 300, 3) := by decide +kernel
theorem dX10_differ_125 : decode cX10_differ 125 = .ok (.idiv, 1) := by decide +kernel
theorem dX10_differ_126 : decode cX10_differ 126 = .ok (.istore_n 3, 1) := by decide +kernel
theorem dX10_differ_127 : decode cX10_differ 127 = .ok (.aload_n 0, 1) := by decide +kernel
theorem dX10_differ_128 : decode cX10_differ 128 = .ok (.getfield 98, 3) := by decide +kernel
theorem dX10_differ_131 : decode cX10_differ 131 = .ok (.iload_n 2, 1) := by decide +kernel
theorem dX10_differ_132 : decode cX10_differ 132 = .ok (.iaload, 1) := by decide +kernel
theorem dX10_differ_133 : decode cX10_differ 133 = .ok (.sipush 300, 3) := by decide +kernel
theorem dX10_differ_136 : decode cX10_differ 136 = .ok (.irem, 1) := by decide +kernel
theorem dX10_differ_137 : decode cX10_differ 137 = .ok (.istore 4, 2) := by decide +kernel
theorem dX10_differ_139 : decode cX10_differ 139 = .ok (.aload_n 0, 1) := by decide +kernel
theorem dX10_differ_140 : decode cX10_differ 140 = .ok (.iconst 0, 1) := by decide +kernel
theorem dX10_differ_141 : decode cX10_differ 141 = .ok (.iload_n 3, 1) := by decide +kernel
theorem dX10_differ_142 : decode cX10_differ 142 = .ok (.invokevirtual 245, 3) := by decide +kernel
theorem dX10_differ_145 : decode cX10_differ 145 = .ok (.aload_n 0, 1) := by decide +kernel
theorem dX10_differ_146 : decode cX10_differ 146 = .ok (.iconst 1, 1) := by decide +kernel
theorem dX10_differ_147 : decode cX10_differ 147 = .ok (.iload 4, 2) := by decide +kernel
theorem dX10_differ_149 : decode cX10_differ 149 = .ok (.invokevirtual 245, 3) := by decide +kernel
theorem dX10_differ_152 : decode cX10_differ 152 = .ok (.if_icmp .eq 13, 3) := by decide +kernel
theorem dX10_differ_155 : decode cX10_differ 155 = .ok (.aload_n 0, 1) := by decide +kernel
theorem dX10_differ_156 : decode cX10_differ 156 = .ok (.iload_n 2, 1) := by decide +kernel
theorem dX10_differ_157 : decode cX10_differ 157 = .ok (.invokevirtual 258, 3) := by decide +kernel
theorem dX10_differ_160 : decode cX10_differ 160 = .ok (.aload_n 0, 1) := by decide +kernel
theorem dX10_differ_161 : decode cX10_differ 161 = .ok (.getfield 255, 3) := by decide +kernel
theorem dX10_differ_164 : decode cX10_differ 164 = .ok (.ireturn, 1) := by decide +kernel
theorem dX10_differ_165 : decode cX10_differ 165 = .ok (.iconst 0, 1) := by decide +kernel
theorem dX10_differ_166 : decode cX10_differ 166 = .ok (.istore 5, 2) := by decide +kernel
theorem dX10_differ_168 : decode cX10_differ 168 = .ok (.iload 5, 2) := by decide +kernel
theorem dX10_differ_170 : decode cX10_differ 170 = .ok (.bipush 36, 2) := by decide +kernel
theorem dX10_differ_172 : decode cX10_differ 172 = .ok (.if_icmp .ge 89, 3) := by decide +kernel
theorem dX10_differ_175 : decode cX10_differ 175 = .ok (.sipush 300, 3) := by decide +kernel
theorem dX10_differ_178 : decode cX10_differ 178 = .ok (.aload_n 0, 1) := by decide +kernel
theorem dX10_differ_179 : decode cX10_differ 179 = .ok (.getfield 85, 3) := by decide +kernel
theorem dX10_differ_182 : decode cX10_differ 182 = .ok (.bipush 36, 2) := by decide +kernel
theorem dX10_differ_184 : decode cX10_differ 184 = .ok (.iload_n 3, 1) := by decide +kernel
theorem dX10_differ_185 : decode cX10_differ 185 = .ok (.imul, 1) := by decide +kernel
theorem dX10_differ_186 : decode cX10_differ 186 = .ok (.iload 5, 2) := by decide +kernel
theorem dX10_differ_188 : decode cX10_differ 188 = .ok (.iadd, 1) := by decide +kernel
theorem dX10_differ_189 : decode cX10_differ 189 = .ok (.iaload, 1) := by decide +kernel
theorem dX10_differ_190 : decode cX10_differ 190 = .ok (.imul, 1) := by decide +kernel
theorem dX10_differ_191 : decode cX10_differ 191 = .ok (.aload_n 0, 1) := by decide +kernel
theorem dX10_differ_192 : decode cX10_differ 192 = .ok (.getfield 85, 3) := by decide +kernel
theorem dX10_differ_195 : decode cX10_differ 195 = .ok (.sipush 10800, 3) := by decide +kernel
theorem dX10_differ_198 : decode cX10_differ 198 = .ok (.bipush 36, 2) := by decide +kernel
theorem dX10_differ_200 : decode cX10_differ 200 = .ok (.iload 4, 2) := by decide +kernel
theorem dX10_differ_202 : decode cX10_differ 202 = .ok (.imul, 1) := by decide +kernel
theorem dX10_differ_203 : decode cX10_differ 203 = .ok (.iadd, 1) := by decide +kernel
theorem dX10_differ_204 : decode cX10_differ 204 = .ok (.iload 5, 2) := by decide +kernel
theorem dX10_differ_206 : decode cX10_differ 206 = .ok (.iadd, 1) := by decide +kernel
theorem dX10_differ_207 : decode cX10_differ 207 = .ok (.iaload, 1) := by decide +kernel
theorem dX10_differ_208 : decode cX10_differ 208 = .ok (.iadd, 1) := by decide +kernel
theorem dX10_differ_209 : decode cX10_differ 209 = .ok (.istore 6, 2) := by decide +kernel
theorem dX10_differ_211 : decode cX10_differ 211 = .ok (.aload_n 0, 1) := by decide +kernel
theorem dX10_differ_212 : decode cX10_differ 212 = .ok (.getfield 95, 3) := by decide +kernel
theorem dX10_differ_215 : decode cX10_differ 215 = .ok (.iload 6, 2) := by decide +kernel
theorem dX10_differ_217 : decode cX10_differ 217 = .ok (.baload, 1) := by decide +kernel
theorem dX10_differ_218 : decode cX10_differ 218 = .ok (.ifCond .ne 37, 3) := by decide +kernel
theorem dX10_differ_221 : decode cX10_differ 221 = .ok (.aload_n 0, 1) := by decide +kernel
theorem dX10_differ_222 : decode cX10_differ 222 = .ok (.getfield 95, 3) := by decide +kernel
theorem dX10_differ_225 : decode cX10_differ 225 = .ok (.iload 6, 2) := by decide +kernel
theorem dX10_differ_227 : decode cX10_differ 227 = .ok (.iconst 1, 1) := by decide +kernel
theorem dX10_differ_228 : decode cX10_differ 228 = .ok (.bastore, 1) := by decide +kernel
theorem dX10_differ_229 : decode cX10_differ 229 = .ok (.aload_n 0, 1) := by decide +kernel
theorem dX10_differ_230 : decode cX10_differ 230 = .ok (.getfield 98, 3) := by decide +kernel
theorem dX10_differ_233 : decode cX10_differ 233 = .ok (.iload_n 1, 1) := by decide +kernel
theorem dX10_differ_234 : decode cX10_differ 234 = .ok (.iload 6, 2) := by decide +kernel
theorem dX10_differ_236 : decode cX10_differ 236 = .ok (.iastore, 1) := by decide +kernel
theorem dX10_differ_237 : decode cX10_differ 237 = .ok (.aload_n 0, 1) := by decide +kernel
theorem dX10_differ_238 : decode cX10_differ 238 = .ok (.getfield 101, 3) := by decide +kernel
theorem dX10_differ_241 : decode cX10_differ 241 = .ok (.iload_n 1, 1) := by decide +kernel
theorem dX10_differ_242 : decode cX10_differ 242 = .ok (.iload_n 2, 1) := by decide +kernel
theorem dX10_differ_243 : decode cX10_differ 243 = .ok (.iastore, 1) := by decide +kernel
theorem dX10_differ_244 : decode cX10_differ 244 = .ok (.aload_n 0, 1) := by decide +kernel
theorem dX10_differ_245 : decode cX10_differ 245 = .ok (.getfield 104, 3) := by decide +kernel
theorem dX10_differ_248 : decode cX10_differ 248 = .ok (.iload_n 1, 1) := by decide +kernel
theorem dX10_differ_249 : decode cX10_differ 249 = .ok (.iload 5, 2) := by decide +kernel
theorem dX10_differ_251 : decode cX10_differ 251 = .ok (.iastore, 1) := by decide +kernel
theorem dX10_differ_252 : decode cX10_differ 252 = .ok (.iinc 1 1, 3) := by decide +kernel
theorem dX10_differ_255 : decode cX10_differ 255 = .ok (.iinc 5 1, 3) := by decide +kernel
theorem dX10_differ_258 : decode cX10_differ 258 = .ok (.goto (-90), 3) := by decide +kernel
theorem dX10_differ_261 : decode cX10_differ 261 = .ok (.iinc 2 1, 3) := by decide +kernel
theorem dX10_differ_264 : decode cX10_differ 264 = .ok (.goto (-153), 3) := by decide +kernel
theorem dX10_differ_267 : decode cX10_differ 267 = .ok (.iconst (-1), 1) := by decide +kernel
theorem dX10_differ_268 : decode cX10_differ 268 = .ok (.ireturn, 1) := by decide +kernel
theorem dX10_letter_0 : decode cX10_letter 0 = .ok (.aload_n 0, 1) := by decide +kernel
theorem dX10_letter_1 : decode cX10_letter 1 = .ok (.iload_n 1, 1) := by decide +kernel
theorem dX10_letter_2 : decode cX10_letter 2 = .ok (.ifCond .lt 11, 3) := by decide +kernel
theorem dX10_letter_5 : decode cX10_letter 5 = .ok (.iload_n 1, 1) := by decide +kernel
theorem dX10_letter_6 : decode cX10_letter 6 = .ok (.aload_n 0, 1) := by decide +kernel
theorem dX10_letter_7 : decode cX10_letter 7 = .ok (.getfield 255, 3) := by decide +kernel
theorem dX10_letter_10 : decode cX10_letter 10 = .ok (.if_icmp .lt 7, 3) := by decide +kernel
theorem dX10_letter_13 : decode cX10_letter 13 = .ok (.iconst 1, 1) := by decide +kernel
theorem dX10_letter_14 : decode cX10_letter 14 = .ok (.goto 4, 3) := by decide +kernel
theorem dX10_letter_17 : decode cX10_letter 17 = .ok (.iconst 0, 1) := by decide +kernel
theorem dX10_letter_18 : decode cX10_letter 18 = .ok (.putfield 116, 3) := by decide +kernel
theorem dX10_letter_21 : decode cX10_letter 21 = .ok (.aload_n 0, 1) := by decide +kernel
theorem dX10_letter_22 : decode cX10_letter 22 = .ok (.getfield 116, 3) := by decide +kernel
theorem dX10_letter_25 : decode cX10_letter 25 = .ok (.ifCond .le 7, 3) := by decide +kernel
theorem dX10_letter_28 : decode cX10_letter 28 = .ok (.iconst 0, 1) := by decide +kernel
theorem dX10_letter_29 : decode cX10_letter 29 = .ok (.goto 9, 3) := by decide +kernel
theorem dX10_letter_32 : decode cX10_letter 32 = .ok (.aload_n 0, 1) := by decide +kernel
theorem dX10_letter_33 : decode cX10_letter 33 = .ok (.getfield 107, 3) := by decide +kernel
theorem dX10_letter_36 : decode cX10_letter 36 = .ok (.iload_n 1, 1) := by decide +kernel
theorem dX10_letter_37 : decode cX10_letter 37 = .ok (.iaload, 1) := by decide +kernel
theorem dX10_letter_38 : decode cX10_letter 38 = .ok (.ireturn, 1) := by decide +kernel
theorem dL_type_0 : decode cL_type 0 = .ok (.aload 4, 2) := by decide +kernel
theorem dL_type_2 : decode cL_type 2 = .ok (.iconst 0, 1) := by decide +kernel
theorem dL_type_3 : decode cL_type 3 = .ok (.aload_n 0, 1) := by decide +kernel
theorem dL_type_4 : decode cL_type 4 = .ok (.lload_n 1, 1) := by decide +kernel
theorem dL_type_5 : decode cL_type 5 = .ok (.iload_n 3, 1) := by decide +kernel
theorem dL_type_6 : decode cL_type 6 = .ok (.invokevirtual 7, 3) := by decide +kernel
theorem dL_type_9 : decode cL_type 9 = .ok (.i2l, 1) := by decide +kernel
theorem dL_type_10 : decode cL_type 10 = .ok (.lastore, 1) := by decide +kernel
theorem dL_type_11 : decode cL_type 11 = .ok (.goto 11, 3) := by decide +kernel
theorem dL_type_14 : decode cL_type 14 = .ok (.astore 5, 2) := by decide +kernel
theorem dL_type_16 : decode cL_type 16 = .ok (.iconst 1, 1) := by decide +kernel
theorem dL_type_17 : decode cL_type 17 = .ok (.ireturn, 1) := by decide +kernel
theorem dL_type_18 : decode cL_type 18 = .ok (.astore 5, 2) := by decide +kernel
theorem dL_type_20 : decode cL_type 20 = .ok (.iconst 2, 1) := by decide +kernel
theorem dL_type_21 : decode cL_type 21 = .ok (.ireturn, 1) := by decide +kernel
theorem dL_type_22 : decode cL_type 22 = .ok (.iconst 0, 1) := by decide +kernel
theorem dL_type_23 : decode cL_type 23 = .ok (.ireturn, 1) := by decide +kernel
theorem dL_positions_0 : decode cL_positions 0 = .ok (.aload_n 1, 1) := by decide +kernel
theorem dL_positions_1 : decode cL_positions 1 = .ok (.iconst 0, 1) := by decide +kernel
theorem dL_positions_2 : decode cL_positions 2 = .ok (.aload_n 0, 1) := by decide +kernel
theorem dL_positions_3 : decode cL_positions 3 = .ok (.invokevirtual 17, 3) := by decide +kernel
theorem dL_positions_6 : decode cL_positions 6 = .ok (.i2l, 1) := by decide +kernel
theorem dL_positions_7 : decode cL_positions 7 = .ok (.lastore, 1) := by decide +kernel
theorem dL_positions_8 : decode cL_positions 8 = .ok (.goto 6, 3) := by decide +kernel
theorem dL_positions_11 : decode cL_positions 11 = .ok (.astore_n 2, 1) := by decide +kernel
theorem dL_positions_12 : decode cL_positions 12 = .ok (.iconst 1, 1) := by decide +kernel
theorem dL_positions_13 : decode cL_positions 13 = .ok (.ireturn, 1) := by decide +kernel
theorem dL_positions_14 : decode cL_positions 14 = .ok (.iconst 0, 1) := by decide +kernel
theorem dL_positions_15 : decode cL_positions 15 = .ok (.ireturn, 1) := by decide +kernel
theorem dL_empty_0 : decode cL_empty 0 = .ok (.aload_n 1, 1) := by decide +kernel
theorem dL_empty_1 : decode cL_empty 1 = .ok (.iconst 0, 1) := by decide +kernel
theorem dL_empty_2 : decode cL_empty 2 = .ok (.aload_n 0, 1) := by decide +kernel
theorem dL_empty_3 : decode cL_empty 3 = .ok (.invokevirtual 21, 3) := by decide +kernel
theorem dL_empty_6 : decode cL_empty 6 = .ok (.ifCond .eq 7, 3) := by decide +kernel
theorem dL_empty_9 : decode cL_empty 9 = .ok (.lconst 1, 1) := by decide +kernel
theorem dL_empty_10 : decode cL_empty 10 = .ok (.goto 4, 3) := by decide +kernel
theorem dL_empty_13 : decode cL_empty 13 = .ok (.lconst 0, 1) := by decide +kernel
theorem dL_empty_14 : decode cL_empty 14 = .ok (.lastore, 1) := by decide +kernel
theorem dL_empty_15 : decode cL_empty 15 = .ok (.goto 6, 3) := by decide +kernel
theorem dL_empty_18 : decode cL_empty 18 = .ok (.astore_n 2, 1) := by decide +kernel
theorem dL_empty_19 : decode cL_empty 19 = .ok (.iconst 1, 1) := by decide +kernel
theorem dL_empty_20 : decode cL_empty 20 = .ok (.ireturn, 1) := by decide +kernel
theorem dL_empty_21 : decode cL_empty 21 = .ok (.iconst 0, 1) := by decide +kernel
theorem dL_empty_22 : decode cL_empty 22 = .ok (.ireturn, 1) := by decide +kernel
theorem dL_is_0 : decode cL_is 0 = .ok (.aload_n 3, 1) := by decide +kernel
theorem dL_is_1 : decode cL_is 1 = .ok (.iconst 0, 1) := by decide +kernel
theorem dL_is_2 : decode cL_is 2 = .ok (.aload_n 0, 1) := by decide +kernel
theorem dL_is_3 : decode cL_is 3 = .ok (.iload_n 1, 1) := by decide +kernel
theorem dL_is_4 : decode cL_is 4 = .ok (.iload_n 2, 1) := by decide +kernel
theorem dL_is_5 : decode cL_is 5 = .ok (.invokevirtual 25, 3) := by decide +kernel
theorem dL_is_8 : decode cL_is 8 = .ok (.ifCond .eq 7, 3) := by decide +kernel
theorem dL_is_11 : decode cL_is 11 = .ok (.lconst 1, 1) := by decide +kernel
theorem dL_is_12 : decode cL_is 12 = .ok (.goto 4, 3) := by decide +kernel
theorem dL_is_15 : decode cL_is 15 = .ok (.lconst 0, 1) := by decide +kernel
theorem dL_is_16 : decode cL_is 16 = .ok (.lastore, 1) := by decide +kernel
theorem dL_is_17 : decode cL_is 17 = .ok (.goto 15, 3) := by decide +kernel
theorem dL_is_20 : decode cL_is 20 = .ok (.astore 4, 2) := by decide +kernel
theorem dL_is_22 : decode cL_is 22 = .ok (.iconst 1, 1) := by decide +kernel
theorem dL_is_23 : decode cL_is 23 = .ok (.ireturn, 1) := by decide +kernel
theorem dL_is_24 : decode cL_is 24 = .ok (.astore 4, 2) := by decide +kernel
theorem dL_is_26 : decode cL_is 26 = .ok (.iconst 2, 1) := by decide +kernel
theorem dL_is_27 : decode cL_is 27 = .ok (.ireturn, 1) := by decide +kernel
theorem dL_is_28 : decode cL_is 28 = .ok (.astore 4, 2) := by decide +kernel
theorem dL_is_30 : decode cL_is 30 = .ok (.iconst 3, 1) := by decide +kernel
theorem dL_is_31 : decode cL_is 31 = .ok (.ireturn, 1) := by decide +kernel
theorem dL_is_32 : decode cL_is 32 = .ok (.iconst 0, 1) := by decide +kernel
theorem dL_is_33 : decode cL_is 33 = .ok (.ireturn, 1) := by decide +kernel
theorem dL_follows_0 : decode cL_follows 0 = .ok (.aload_n 3, 1) := by decide +kernel
theorem dL_follows_1 : decode cL_follows 1 = .ok (.iconst 0, 1) := by decide +kernel
theorem dL_follows_2 : decode cL_follows 2 = .ok (.aload_n 0, 1) := by decide +kernel
theorem dL_follows_3 : decode cL_follows 3 = .ok (.iload_n 1, 1) := by decide +kernel
theorem dL_follows_4 : decode cL_follows 4 = .ok (.iload_n 2, 1) := by decide +kernel
theorem dL_follows_5 : decode cL_follows 5 = .ok (.invokevirtual 31, 3) := by decide +kernel
theorem dL_follows_8 : decode cL_follows 8 = .ok (.ifCond .eq 7, 3) := by decide +kernel
theorem dL_follows_11 : decode cL_follows 11 = .ok (.lconst 1, 1) := by decide +kernel
theorem dL_follows_12 : decode cL_follows 12 = .ok (.goto 4, 3) := by decide +kernel
theorem dL_follows_15 : decode cL_follows 15 = .ok (.lconst 0, 1) := by decide +kernel
theorem dL_follows_16 : decode cL_follows 16 = .ok (.lastore, 1) := by decide +kernel
theorem dL_follows_17 : decode cL_follows 17 = .ok (.goto 11, 3) := by decide +kernel
theorem dL_follows_20 : decode cL_follows 20 = .ok (.astore 4, 2) := by decide +kernel
theorem dL_follows_22 : decode cL_follows 22 = .ok (.iconst 1, 1) := by decide +kernel
theorem dL_follows_23 : decode cL_follows 23 = .ok (.ireturn, 1) := by decide +kernel
theorem dL_follows_24 : decode cL_follows 24 = .ok (.astore 4, 2) := by decide +kernel
theorem dL_follows_26 : decode cL_follows 26 = .ok (.iconst 2, 1) := by decide +kernel
theorem dL_follows_27 : decode cL_follows 27 = .ok (.ireturn, 1) := by decide +kernel
theorem dL_follows_28 : decode cL_follows 28 = .ok (.iconst 0, 1) := by decide +kernel
theorem dL_follows_29 : decode cL_follows 29 = .ok (.ireturn, 1) := by decide +kernel
theorem dL_has_0 : decode cL_has 0 = .ok (.aload_n 3, 1) := by decide +kernel
theorem dL_has_1 : decode cL_has 1 = .ok (.iconst 0, 1) := by decide +kernel
theorem dL_has_2 : decode cL_has 2 = .ok (.aload_n 0, 1) := by decide +kernel
theorem dL_has_3 : decode cL_has 3 = .ok (.iload_n 1, 1) := by decide +kernel
theorem dL_has_4 : decode cL_has 4 = .ok (.iload_n 2, 1) := by decide +kernel
theorem dL_has_5 : decode cL_has 5 = .ok (.invokevirtual 34, 3) := by decide +kernel
theorem dL_has_8 : decode cL_has 8 = .ok (.ifCond .eq 7, 3) := by decide +kernel
theorem dL_has_11 : decode cL_has 11 = .ok (.lconst 1, 1) := by decide +kernel
theorem dL_has_12 : decode cL_has 12 = .ok (.goto 4, 3) := by decide +kernel
theorem dL_has_15 : decode cL_has 15 = .ok (.lconst 0, 1) := by decide +kernel
theorem dL_has_16 : decode cL_has 16 = .ok (.lastore, 1) := by decide +kernel
theorem dL_has_17 : decode cL_has 17 = .ok (.goto 11, 3) := by decide +kernel
theorem dL_has_20 : decode cL_has 20 = .ok (.astore 4, 2) := by decide +kernel
theorem dL_has_22 : decode cL_has 22 = .ok (.iconst 1, 1) := by decide +kernel
theorem dL_has_23 : decode cL_has 23 = .ok (.ireturn, 1) := by decide +kernel
theorem dL_has_24 : decode cL_has 24 = .ok (.astore 4, 2) := by decide +kernel
theorem dL_has_26 : decode cL_has 26 = .ok (.iconst 2, 1) := by decide +kernel
theorem dL_has_27 : decode cL_has 27 = .ok (.ireturn, 1) := by decide +kernel
theorem dL_has_28 : decode cL_has 28 = .ok (.iconst 0, 1) := by decide +kernel
theorem dL_has_29 : decode cL_has 29 = .ok (.ireturn, 1) := by decide +kernel
theorem dL_feed_0 : decode cL_feed 0 = .ok (.aload 4, 2) := by decide +kernel
theorem dL_feed_2 : decode cL_feed 2 = .ok (.iconst 0, 1) := by decide +kernel
theorem dL_feed_3 : decode cL_feed 3 = .ok (.aload_n 0, 1) := by decide +kernel
theorem dL_feed_4 : decode cL_feed 4 = .ok (.lload_n 1, 1) := by decide +kernel
theorem dL_feed_5 : decode cL_feed 5 = .ok (.iload_n 3, 1) := by decide +kernel
theorem dL_feed_6 : decode cL_feed 6 = .ok (.invokevirtual 37, 3) := by decide +kernel
theorem dL_feed_9 : decode cL_feed 9 = .ok (.i2l, 1) := by decide +kernel
theorem dL_feed_10 : decode cL_feed 10 = .ok (.lastore, 1) := by decide +kernel
theorem dL_feed_11 : decode cL_feed 11 = .ok (.goto 11, 3) := by decide +kernel
theorem dL_feed_14 : decode cL_feed 14 = .ok (.astore 5, 2) := by decide +kernel
theorem dL_feed_16 : decode cL_feed 16 = .ok (.iconst 1, 1) := by decide +kernel
theorem dL_feed_17 : decode cL_feed 17 = .ok (.ireturn, 1) := by decide +kernel
theorem dL_feed_18 : decode cL_feed 18 = .ok (.astore 5, 2) := by decide +kernel
theorem dL_feed_20 : decode cL_feed 20 = .ok (.iconst 2, 1) := by decide +kernel
theorem dL_feed_21 : decode cL_feed 21 = .ok (.ireturn, 1) := by decide +kernel
theorem dL_feed_22 : decode cL_feed 22 = .ok (.iconst 0, 1) := by decide +kernel
theorem dL_feed_23 : decode cL_feed 23 = .ok (.ireturn, 1) := by decide +kernel
theorem dL_whole_0 : decode cL_whole 0 = .ok (.aload_n 1, 1) := by decide +kernel
theorem dL_whole_1 : decode cL_whole 1 = .ok (.iconst 0, 1) := by decide +kernel
theorem dL_whole_2 : decode cL_whole 2 = .ok (.aload_n 0, 1) := by decide +kernel
theorem dL_whole_3 : decode cL_whole 3 = .ok (.invokevirtual 40, 3) := by decide +kernel
theorem dL_whole_6 : decode cL_whole 6 = .ok (.ifCond .eq 7, 3) := by decide +kernel
theorem dL_whole_9 : decode cL_whole 9 = .ok (.lconst 1, 1) := by decide +kernel
theorem dL_whole_10 : decode cL_whole 10 = .ok (.goto 4, 3) := by decide +kernel
theorem dL_whole_13 : decode cL_whole 13 = .ok (.lconst 0, 1) := by decide +kernel
theorem dL_whole_14 : decode cL_whole 14 = .ok (.lastore, 1) := by decide +kernel
theorem dL_whole_15 : decode cL_whole 15 = .ok (.goto 6, 3) := by decide +kernel
theorem dL_whole_18 : decode cL_whole 18 = .ok (.astore_n 2, 1) := by decide +kernel
theorem dL_whole_19 : decode cL_whole 19 = .ok (.iconst 1, 1) := by decide +kernel
theorem dL_whole_20 : decode cL_whole 20 = .ok (.ireturn, 1) := by decide +kernel
theorem dL_whole_21 : decode cL_whole 21 = .ok (.iconst 0, 1) := by decide +kernel
theorem dL_whole_22 : decode cL_whole 22 = .ok (.ireturn, 1) := by decide +kernel
theorem dL_finds_0 : decode cL_finds 0 = .ok (.aload_n 1, 1) := by decide +kernel
theorem dL_finds_1 : decode cL_finds 1 = .ok (.iconst 0, 1) := by decide +kernel
theorem dL_finds_2 : decode cL_finds 2 = .ok (.aload_n 0, 1) := by decide +kernel
theorem dL_finds_3 : decode cL_finds 3 = .ok (.invokevirtual 43, 3) := by decide +kernel
theorem dL_finds_6 : decode cL_finds 6 = .ok (.i2l, 1) := by decide +kernel
theorem dL_finds_7 : decode cL_finds 7 = .ok (.lastore, 1) := by decide +kernel
theorem dL_finds_8 : decode cL_finds 8 = .ok (.goto 6, 3) := by decide +kernel
theorem dL_finds_11 : decode cL_finds 11 = .ok (.astore_n 2, 1) := by decide +kernel
theorem dL_finds_12 : decode cL_finds 12 = .ok (.iconst 1, 1) := by decide +kernel
theorem dL_finds_13 : decode cL_finds 13 = .ok (.ireturn, 1) := by decide +kernel
theorem dL_finds_14 : decode cL_finds 14 = .ok (.iconst 0, 1) := by decide +kernel
theorem dL_finds_15 : decode cL_finds 15 = .ok (.ireturn, 1) := by decide +kernel
theorem dL_find_0 : decode cL_find 0 = .ok (.aload_n 3, 1) := by decide +kernel
theorem dL_find_1 : decode cL_find 1 = .ok (.iconst 0, 1) := by decide +kernel
theorem dL_find_2 : decode cL_find 2 = .ok (.aload_n 0, 1) := by decide +kernel
theorem dL_find_3 : decode cL_find 3 = .ok (.iload_n 1, 1) := by decide +kernel
theorem dL_find_4 : decode cL_find 4 = .ok (.iload_n 2, 1) := by decide +kernel
theorem dL_find_5 : decode cL_find 5 = .ok (.invokevirtual 46, 3) := by decide +kernel
theorem dL_find_8 : decode cL_find 8 = .ok (.i2l, 1) := by decide +kernel
theorem dL_find_9 : decode cL_find 9 = .ok (.lastore, 1) := by decide +kernel
theorem dL_find_10 : decode cL_find 10 = .ok (.goto 11, 3) := by decide +kernel
theorem dL_find_13 : decode cL_find 13 = .ok (.astore 4, 2) := by decide +kernel
theorem dL_find_15 : decode cL_find 15 = .ok (.iconst 1, 1) := by decide +kernel
theorem dL_find_16 : decode cL_find 16 = .ok (.ireturn, 1) := by decide +kernel
theorem dL_find_17 : decode cL_find 17 = .ok (.astore 4, 2) := by decide +kernel
theorem dL_find_19 : decode cL_find 19 = .ok (.iconst 2, 1) := by decide +kernel
theorem dL_find_20 : decode cL_find 20 = .ok (.ireturn, 1) := by decide +kernel
theorem dL_find_21 : decode cL_find 21 = .ok (.iconst 0, 1) := by decide +kernel
theorem dL_find_22 : decode cL_find 22 = .ok (.ireturn, 1) := by decide +kernel
theorem dL_states_0 : decode cL_states 0 = .ok (.aload_n 1, 1) := by decide +kernel
theorem dL_states_1 : decode cL_states 1 = .ok (.iconst 0, 1) := by decide +kernel
theorem dL_states_2 : decode cL_states 2 = .ok (.aload_n 0, 1) := by decide +kernel
theorem dL_states_3 : decode cL_states 3 = .ok (.invokevirtual 50, 3) := by decide +kernel
theorem dL_states_6 : decode cL_states 6 = .ok (.i2l, 1) := by decide +kernel
theorem dL_states_7 : decode cL_states 7 = .ok (.lastore, 1) := by decide +kernel
theorem dL_states_8 : decode cL_states 8 = .ok (.goto 6, 3) := by decide +kernel
theorem dL_states_11 : decode cL_states 11 = .ok (.astore_n 2, 1) := by decide +kernel
theorem dL_states_12 : decode cL_states 12 = .ok (.iconst 1, 1) := by decide +kernel
theorem dL_states_13 : decode cL_states 13 = .ok (.ireturn, 1) := by decide +kernel
theorem dL_states_14 : decode cL_states 14 = .ok (.iconst 0, 1) := by decide +kernel
theorem dL_states_15 : decode cL_states 15 = .ok (.ireturn, 1) := by decide +kernel
theorem dL_next_0 : decode cL_next 0 = .ok (.aload_n 3, 1) := by decide +kernel
theorem dL_next_1 : decode cL_next 1 = .ok (.iconst 0, 1) := by decide +kernel
theorem dL_next_2 : decode cL_next 2 = .ok (.aload_n 0, 1) := by decide +kernel
theorem dL_next_3 : decode cL_next 3 = .ok (.iload_n 1, 1) := by decide +kernel
theorem dL_next_4 : decode cL_next 4 = .ok (.iload_n 2, 1) := by decide +kernel
theorem dL_next_5 : decode cL_next 5 = .ok (.invokevirtual 53, 3) := by decide +kernel
theorem dL_next_8 : decode cL_next 8 = .ok (.i2l, 1) := by decide +kernel
theorem dL_next_9 : decode cL_next 9 = .ok (.lastore, 1) := by decide +kernel
theorem dL_next_10 : decode cL_next 10 = .ok (.goto 11, 3) := by decide +kernel
theorem dL_next_13 : decode cL_next 13 = .ok (.astore 4, 2) := by decide +kernel
theorem dL_next_15 : decode cL_next 15 = .ok (.iconst 1, 1) := by decide +kernel
theorem dL_next_16 : decode cL_next 16 = .ok (.ireturn, 1) := by decide +kernel
theorem dL_next_17 : decode cL_next 17 = .ok (.astore 4, 2) := by decide +kernel
theorem dL_next_19 : decode cL_next 19 = .ok (.iconst 2, 1) := by decide +kernel
theorem dL_next_20 : decode cL_next 20 = .ok (.ireturn, 1) := by decide +kernel
theorem dL_next_21 : decode cL_next 21 = .ok (.iconst 0, 1) := by decide +kernel
theorem dL_next_22 : decode cL_next 22 = .ok (.ireturn, 1) := by decide +kernel
theorem dL_good_0 : decode cL_good 0 = .ok (.aload_n 2, 1) := by decide +kernel
theorem dL_good_1 : decode cL_good 1 = .ok (.iconst 0, 1) := by decide +kernel
theorem dL_good_2 : decode cL_good 2 = .ok (.aload_n 0, 1) := by decide +kernel
theorem dL_good_3 : decode cL_good 3 = .ok (.iload_n 1, 1) := by decide +kernel
theorem dL_good_4 : decode cL_good 4 = .ok (.invokevirtual 57, 3) := by decide +kernel
theorem dL_good_7 : decode cL_good 7 = .ok (.ifCond .eq 7, 3) := by decide +kernel
theorem dL_good_10 : decode cL_good 10 = .ok (.lconst 1, 1) := by decide +kernel
theorem dL_good_11 : decode cL_good 11 = .ok (.goto 4, 3) := by decide +kernel
theorem dL_good_14 : decode cL_good 14 = .ok (.lconst 0, 1) := by decide +kernel
theorem dL_good_15 : decode cL_good 15 = .ok (.lastore, 1) := by decide +kernel
theorem dL_good_16 : decode cL_good 16 = .ok (.goto 9, 3) := by decide +kernel
theorem dL_good_19 : decode cL_good 19 = .ok (.astore_n 3, 1) := by decide +kernel
theorem dL_good_20 : decode cL_good 20 = .ok (.iconst 1, 1) := by decide +kernel
theorem dL_good_21 : decode cL_good 21 = .ok (.ireturn, 1) := by decide +kernel
theorem dL_good_22 : decode cL_good 22 = .ok (.astore_n 3, 1) := by decide +kernel
theorem dL_good_23 : decode cL_good 23 = .ok (.iconst 2, 1) := by decide +kernel
theorem dL_good_24 : decode cL_good 24 = .ok (.ireturn, 1) := by decide +kernel
theorem dL_good_25 : decode cL_good 25 = .ok (.iconst 0, 1) := by decide +kernel
theorem dL_good_26 : decode cL_good 26 = .ok (.ireturn, 1) := by decide +kernel
theorem dL_classes_0 : decode cL_classes 0 = .ok (.aload_n 1, 1) := by decide +kernel
theorem dL_classes_1 : decode cL_classes 1 = .ok (.iconst 0, 1) := by decide +kernel
theorem dL_classes_2 : decode cL_classes 2 = .ok (.aload_n 0, 1) := by decide +kernel
theorem dL_classes_3 : decode cL_classes 3 = .ok (.invokevirtual 61, 3) := by decide +kernel
theorem dL_classes_6 : decode cL_classes 6 = .ok (.i2l, 1) := by decide +kernel
theorem dL_classes_7 : decode cL_classes 7 = .ok (.lastore, 1) := by decide +kernel
theorem dL_classes_8 : decode cL_classes 8 = .ok (.goto 6, 3) := by decide +kernel
theorem dL_classes_11 : decode cL_classes 11 = .ok (.astore_n 2, 1) := by decide +kernel
theorem dL_classes_12 : decode cL_classes 12 = .ok (.iconst 1, 1) := by decide +kernel
theorem dL_classes_13 : decode cL_classes 13 = .ok (.ireturn, 1) := by decide +kernel
theorem dL_classes_14 : decode cL_classes 14 = .ok (.iconst 0, 1) := by decide +kernel
theorem dL_classes_15 : decode cL_classes 15 = .ok (.ireturn, 1) := by decide +kernel
theorem dL_keep_0 : decode cL_keep 0 = .ok (.aload_n 0, 1) := by decide +kernel
theorem dL_keep_1 : decode cL_keep 1 = .ok (.invokevirtual 64, 3) := by decide +kernel
theorem dL_keep_4 : decode cL_keep 4 = .ok (.goto 6, 3) := by decide +kernel
theorem dL_keep_7 : decode cL_keep 7 = .ok (.astore_n 1, 1) := by decide +kernel
theorem dL_keep_8 : decode cL_keep 8 = .ok (.iconst 1, 1) := by decide +kernel
theorem dL_keep_9 : decode cL_keep 9 = .ok (.ireturn, 1) := by decide +kernel
theorem dL_keep_10 : decode cL_keep 10 = .ok (.iconst 0, 1) := by decide +kernel
theorem dL_keep_11 : decode cL_keep 11 = .ok (.ireturn, 1) := by decide +kernel
theorem dL_differ_0 : decode cL_differ 0 = .ok (.aload_n 1, 1) := by decide +kernel
theorem dL_differ_1 : decode cL_differ 1 = .ok (.iconst 0, 1) := by decide +kernel
theorem dL_differ_2 : decode cL_differ 2 = .ok (.aload_n 0, 1) := by decide +kernel
theorem dL_differ_3 : decode cL_differ 3 = .ok (.invokevirtual 67, 3) := by decide +kernel
theorem dL_differ_6 : decode cL_differ 6 = .ok (.i2l, 1) := by decide +kernel
theorem dL_differ_7 : decode cL_differ 7 = .ok (.lastore, 1) := by decide +kernel
theorem dL_differ_8 : decode cL_differ 8 = .ok (.goto 6, 3) := by decide +kernel
theorem dL_differ_11 : decode cL_differ 11 = .ok (.astore_n 2, 1) := by decide +kernel
theorem dL_differ_12 : decode cL_differ 12 = .ok (.iconst 1, 1) := by decide +kernel
theorem dL_differ_13 : decode cL_differ 13 = .ok (.ireturn, 1) := by decide +kernel
theorem dL_differ_14 : decode cL_differ 14 = .ok (.iconst 0, 1) := by decide +kernel
theorem dL_differ_15 : decode cL_differ 15 = .ok (.ireturn, 1) := by decide +kernel
theorem dL_letter_0 : decode cL_letter 0 = .ok (.aload_n 2, 1) := by decide +kernel
theorem dL_letter_1 : decode cL_letter 1 = .ok (.iconst 0, 1) := by decide +kernel
theorem dL_letter_2 : decode cL_letter 2 = .ok (.aload_n 0, 1) := by decide +kernel
theorem dL_letter_3 : decode cL_letter 3 = .ok (.iload_n 1, 1) := by decide +kernel
theorem dL_letter_4 : decode cL_letter 4 = .ok (.invokevirtual 70, 3) := by decide +kernel
theorem dL_letter_7 : decode cL_letter 7 = .ok (.i2l, 1) := by decide +kernel
theorem dL_letter_8 : decode cL_letter 8 = .ok (.lastore, 1) := by decide +kernel
theorem dL_letter_9 : decode cL_letter 9 = .ok (.goto 6, 3) := by decide +kernel
theorem dL_letter_12 : decode cL_letter 12 = .ok (.astore_n 3, 1) := by decide +kernel
theorem dL_letter_13 : decode cL_letter 13 = .ok (.iconst 1, 1) := by decide +kernel
theorem dL_letter_14 : decode cL_letter 14 = .ok (.ireturn, 1) := by decide +kernel
theorem dL_letter_15 : decode cL_letter 15 = .ok (.iconst 0, 1) := by decide +kernel
theorem dL_letter_16 : decode cL_letter 16 = .ok (.ireturn, 1) := by decide +kernel
theorem dL_law_0 : decode cL_law 0 = .ok (.new 8, 3) := by decide +kernel
theorem dL_law_3 : decode cL_law 3 = .ok (.dup, 1) := by decide +kernel
theorem dL_law_4 : decode cL_law 4 = .ok (.invokespecial 74, 3) := by decide +kernel
theorem dL_law_7 : decode cL_law 7 = .ok (.astore_n 1, 1) := by decide +kernel
theorem dL_law_8 : decode cL_law 8 = .ok (.new 75, 3) := by decide +kernel
theorem dL_law_11 : decode cL_law 11 = .ok (.dup, 1) := by decide +kernel
theorem dL_law_12 : decode cL_law 12 = .ok (.invokespecial 77, 3) := by decide +kernel
theorem dL_law_15 : decode cL_law 15 = .ok (.astore_n 2, 1) := by decide +kernel
theorem dL_law_16 : decode cL_law 16 = .ok (.iconst 1, 1) := by decide +kernel
theorem dL_law_17 : decode cL_law 17 = .ok (.newarray .long, 2) := by decide +kernel
theorem dL_law_19 : decode cL_law 19 = .ok (.astore_n 3, 1) := by decide +kernel
theorem dL_law_20 : decode cL_law 20 = .ok (.iconst 0, 1) := by decide +kernel
theorem dL_law_21 : decode cL_law 21 = .ok (.istore 4, 2) := by decide +kernel
theorem dL_law_23 : decode cL_law 23 = .ok (.iload 4, 2) := by decide +kernel
theorem dL_law_25 : decode cL_law 25 = .ok (.aload_n 0, 1) := by decide +kernel
theorem dL_law_26 : decode cL_law 26 = .ok (.arraylength, 1) := by decide +kernel
theorem dL_law_27 : decode cL_law 27 = .ok (.iconst 4, 1) := by decide +kernel
theorem dL_law_28 : decode cL_law 28 = .ok (.isub, 1) := by decide +kernel
theorem dL_law_29 : decode cL_law 29 = .ok (.if_icmp .gt 1190, 3) := by decide +kernel
theorem dL_law_32 : decode cL_law 32 = .ok (.aload_n 0, 1) := by decide +kernel
theorem dL_law_33 : decode cL_law 33 = .ok (.iload 4, 2) := by decide +kernel
theorem dL_law_35 : decode cL_law 35 = .ok (.iaload, 1) := by decide +kernel
theorem dL_law_36 : decode cL_law 36 = .ok (.bipush 31, 2) := by decide +kernel
theorem dL_law_38 : decode cL_law 38 = .ok (.iand, 1) := by decide +kernel
theorem dL_law_39 : decode cL_law 39 = .ok (.tableswitch 1174 0 19 #[93, 193, 206, 219, 263, 314, 389, 464, 539, 639, 652, 703, 747, 831, 875, 943, 1006, 1050, 1074, 1118], 93) := by decide +kernel
theorem dL_law_132 : decode cL_law 132 = .ok (.aload_n 1, 1) := by decide +kernel
theorem dL_law_133 : decode cL_law 133 = .ok (.aload_n 0, 1) := by decide +kernel
theorem dL_law_134 : decode cL_law 134 = .ok (.iload 4, 2) := by decide +kernel
theorem dL_law_136 : decode cL_law 136 = .ok (.iconst 1, 1) := by decide +kernel
theorem dL_law_137 : decode cL_law 137 = .ok (.iadd, 1) := by decide +kernel
theorem dL_law_138 : decode cL_law 138 = .ok (.iaload, 1) := by decide +kernel
theorem dL_law_139 : decode cL_law 139 = .ok (.i2l, 1) := by decide +kernel
theorem dL_law_140 : decode cL_law 140 = .ok (.bipush 32, 2) := by decide +kernel
theorem dL_law_142 : decode cL_law 142 = .ok (.lshl, 1) := by decide +kernel
theorem dL_law_143 : decode cL_law 143 = .ok (.aload_n 0, 1) := by decide +kernel
theorem dL_law_144 : decode cL_law 144 = .ok (.iload 4, 2) := by decide +kernel
theorem dL_law_146 : decode cL_law 146 = .ok (.iconst 2, 1) := by decide +kernel
theorem dL_law_147 : decode cL_law 147 = .ok (.iadd, 1) := by decide +kernel
theorem dL_law_148 : decode cL_law 148 = .ok (.iaload, 1) := by decide +kernel
theorem dL_law_149 : decode cL_law 149 = .ok (.i2l, 1) := by decide +kernel
theorem dL_law_150 : decode cL_law 150 = .ok (.ldc2_w 78, 3) := by decide +kernel
theorem dL_law_153 : decode cL_law 153 = .ok (.land, 1) := by decide +kernel
theorem dL_law_154 : decode cL_law 154 = .ok (.lor, 1) := by decide +kernel
theorem dL_law_155 : decode cL_law 155 = .ok (.aload_n 0, 1) := by decide +kernel
theorem dL_law_156 : decode cL_law 156 = .ok (.iload 4, 2) := by decide +kernel
theorem dL_law_158 : decode cL_law 158 = .ok (.iconst 3, 1) := by decide +kernel
theorem dL_law_159 : decode cL_law 159 = .ok (.iadd, 1) := by decide +kernel
theorem dL_law_160 : decode cL_law 160 = .ok (.iaload, 1) := by decide +kernel
theorem dL_law_161 : decode cL_law 161 = .ok (.aload_n 3, 1) := by decide +kernel
theorem dL_law_162 : decode cL_law 162 = .ok (.invokestatic 80, 3) := by decide +kernel
theorem dL_law_165 : decode cL_law 165 = .ok (.istore 5, 2) := by decide +kernel
theorem dL_law_167 : decode cL_law 167 = .ok (.aload_n 2, 1) := by decide +kernel
theorem dL_law_168 : decode cL_law 168 = .ok (.aload_n 0, 1) := by decide +kernel
theorem dL_law_169 : decode cL_law 169 = .ok (.iload 4, 2) := by decide +kernel
theorem dL_law_171 : decode cL_law 171 = .ok (.iconst 1, 1) := by decide +kernel
theorem dL_law_172 : decode cL_law 172 = .ok (.iadd, 1) := by decide +kernel
theorem dL_law_173 : decode cL_law 173 = .ok (.iaload, 1) := by decide +kernel
theorem dL_law_174 : decode cL_law 174 = .ok (.i2l, 1) := by decide +kernel
theorem dL_law_175 : decode cL_law 175 = .ok (.bipush 32, 2) := by decide +kernel
theorem dL_law_177 : decode cL_law 177 = .ok (.lshl, 1) := by decide +kernel
theorem dL_law_178 : decode cL_law 178 = .ok (.aload_n 0, 1) := by decide +kernel
theorem dL_law_179 : decode cL_law 179 = .ok (.iload 4, 2) := by decide +kernel
theorem dL_law_181 : decode cL_law 181 = .ok (.iconst 2, 1) := by decide +kernel
theorem dL_law_182 : decode cL_law 182 = .ok (.iadd, 1) := by decide +kernel
theorem dL_law_183 : decode cL_law 183 = .ok (.iaload, 1) := by decide +kernel
theorem dL_law_184 : decode cL_law 184 = .ok (.i2l, 1) := by decide +kernel
theorem dL_law_185 : decode cL_law 185 = .ok (.ldc2_w 78, 3) := by decide +kernel
theorem dL_law_188 : decode cL_law 188 = .ok (.land, 1) := by decide +kernel
theorem dL_law_189 : decode cL_law 189 = .ok (.lor, 1) := by decide +kernel
theorem dL_law_190 : decode cL_law 190 = .ok (.aload_n 0, 1) := by decide +kernel
theorem dL_law_191 : decode cL_law 191 = .ok (.iload 4, 2) := by decide +kernel
theorem dL_law_193 : decode cL_law 193 = .ok (.iconst 3, 1) := by decide +kernel
theorem dL_law_194 : decode cL_law 194 = .ok (.iadd, 1) := by decide +kernel
theorem dL_law_195 : decode cL_law 195 = .ok (.iaload, 1) := by decide +kernel
theorem dL_law_196 : decode cL_law 196 = .ok (.invokevirtual 85, 3) := by decide +kernel
theorem dL_law_199 : decode cL_law 199 = .ok (.istore 6, 2) := by decide +kernel
theorem dL_law_201 : decode cL_law 201 = .ok (.aload_n 2, 1) := by decide +kernel
theorem dL_law_202 : decode cL_law 202 = .ok (.invokevirtual 86, 3) := by decide +kernel
theorem dL_law_205 : decode cL_law 205 = .ok (.iload 5, 2) := by decide +kernel
theorem dL_law_207 : decode cL_law 207 = .ok (.if_icmp .eq 5, 3) := by decide +kernel
theorem dL_law_210 : decode cL_law 210 = .ok (.iconst 0, 1) := by decide +kernel
theorem dL_law_211 : decode cL_law 211 = .ok (.ireturn, 1) := by decide +kernel
theorem dL_law_212 : decode cL_law 212 = .ok (.iload 5, 2) := by decide +kernel
theorem dL_law_214 : decode cL_law 214 = .ok (.ifCond .ne 15, 3) := by decide +kernel
theorem dL_law_217 : decode cL_law 217 = .ok (.aload_n 3, 1) := by decide +kernel
theorem dL_law_218 : decode cL_law 218 = .ok (.iconst 0, 1) := by decide +kernel
theorem dL_law_219 : decode cL_law 219 = .ok (.laload, 1) := by decide +kernel
theorem dL_law_220 : decode cL_law 220 = .ok (.iload 6, 2) := by decide +kernel
theorem dL_law_222 : decode cL_law 222 = .ok (.i2l, 1) := by decide +kernel
theorem dL_law_223 : decode cL_law 223 = .ok (.lcmp, 1) := by decide +kernel
theorem dL_law_224 : decode cL_law 224 = .ok (.ifCond .eq 5, 3) := by decide +kernel
theorem dL_law_227 : decode cL_law 227 = .ok (.iconst 0, 1) := by decide +kernel
theorem dL_law_228 : decode cL_law 228 = .ok (.ireturn, 1) := by decide +kernel
theorem dL_law_229 : decode cL_law 229 = .ok (.goto 984, 3) := by decide +kernel
theorem dL_law_232 : decode cL_law 232 = .ok (.aload_n 1, 1) := by decide +kernel
theorem dL_law_233 : decode cL_law 233 = .ok (.invokevirtual 89, 3) := by decide +kernel
theorem dL_law_236 : decode cL_law 236 = .ok (.aload_n 2, 1) := by decide +kernel
theorem dL_law_237 : decode cL_law 237 = .ok (.invokevirtual 92, 3) := by decide +kernel
theorem dL_law_240 : decode cL_law 240 = .ok (.if_icmp .eq 973, 3) := by decide +kernel
theorem dL_law_243 : decode cL_law 243 = .ok (.iconst 0, 1) := by decide +kernel
theorem dL_law_244 : decode cL_law 244 = .ok (.ireturn, 1) := by decide +kernel
theorem dL_law_245 : decode cL_law 245 = .ok (.aload_n 1, 1) := by decide +kernel
theorem dL_law_246 : decode cL_law 246 = .ok (.invokevirtual 93, 3) := by decide +kernel
theorem dL_law_249 : decode cL_law 249 = .ok (.aload_n 2, 1) := by decide +kernel
theorem dL_law_250 : decode cL_law 250 = .ok (.invokevirtual 96, 3) := by decide +kernel
theorem dL_law_253 : decode cL_law 253 = .ok (.if_icmp .eq 960, 3) := by decide +kernel
theorem dL_law_256 : decode cL_law 256 = .ok (.iconst 0, 1) := by decide +kernel
theorem dL_law_257 : decode cL_law 257 = .ok (.ireturn, 1) := by decide +kernel
theorem dL_law_258 : decode cL_law 258 = .ok (.aload_n 1, 1) := by decide +kernel
theorem dL_law_259 : decode cL_law 259 = .ok (.aload_n 3, 1) := by decide +kernel
theorem dL_law_260 : decode cL_law 260 = .ok (.invokestatic 97, 3) := by decide +kernel
theorem dL_law_263 : decode cL_law 263 = .ok (.istore 5, 2) := by decide +kernel
theorem dL_law_265 : decode cL_law 265 = .ok (.aload_n 2, 1) := by decide +kernel
theorem dL_law_266 : decode cL_law 266 = .ok (.invokevirtual 100, 3) := by decide +kernel
theorem dL_law_269 : decode cL_law 269 = .ok (.istore 6, 2) := by decide +kernel
theorem dL_law_271 : decode cL_law 271 = .ok (.aload_n 2, 1) := by decide +kernel
theorem dL_law_272 : decode cL_law 272 = .ok (.invokevirtual 86, 3) := by decide +kernel
theorem dL_law_275 : decode cL_law 275 = .ok (.iload 5, 2) := by decide +kernel
theorem dL_law_277 : decode cL_law 277 = .ok (.if_icmp .eq 5, 3) := by decide +kernel
theorem dL_law_280 : decode cL_law 280 = .ok (.iconst 0, 1) := by decide +kernel
theorem dL_law_281 : decode cL_law 281 = .ok (.ireturn, 1) := by decide +kernel
theorem dL_law_282 : decode cL_law 282 = .ok (.iload 5, 2) := by decide +kernel
theorem dL_law_284 : decode cL_law 284 = .ok (.ifCond .ne 15, 3) := by decide +kernel
theorem dL_law_287 : decode cL_law 287 = .ok (.aload_n 3, 1) := by decide +kernel
theorem dL_law_288 : decode cL_law 288 = .ok (.iconst 0, 1) := by decide +kernel
theorem dL_law_289 : decode cL_law 289 = .ok (.laload, 1) := by decide +kernel
theorem dL_law_290 : decode cL_law 290 = .ok (.iload 6, 2) := by decide +kernel
theorem dL_law_292 : decode cL_law 292 = .ok (.i2l, 1) := by decide +kernel
theorem dL_law_293 : decode cL_law 293 = .ok (.lcmp, 1) := by decide +kernel
theorem dL_law_294 : decode cL_law 294 = .ok (.ifCond .eq 5, 3) := by decide +kernel
theorem dL_law_297 : decode cL_law 297 = .ok (.iconst 0, 1) := by decide +kernel
theorem dL_law_298 : decode cL_law 298 = .ok (.ireturn, 1) := by decide +kernel
theorem dL_law_299 : decode cL_law 299 = .ok (.goto 914, 3) := by decide +kernel
theorem dL_law_302 : decode cL_law 302 = .ok (.aload_n 1, 1) := by decide +kernel
theorem dL_law_303 : decode cL_law 303 = .ok (.aload_n 3, 1) := by decide +kernel
theorem dL_law_304 : decode cL_law 304 = .ok (.invokestatic 101, 3) := by decide +kernel
theorem dL_law_307 : decode cL_law 307 = .ok (.istore 5, 2) := by decide +kernel
theorem dL_law_309 : decode cL_law 309 = .ok (.aload_n 2, 1) := by decide +kernel
theorem dL_law_310 : decode cL_law 310 = .ok (.invokevirtual 103, 3) := by decide +kernel
theorem dL_law_313 : decode cL_law 313 = .ok (.istore 6, 2) := by decide +kernel
theorem dL_law_315 : decode cL_law 315 = .ok (.aload_n 2, 1) := by decide +kernel
theorem dL_law_316 : decode cL_law 316 = .ok (.invokevirtual 86, 3) := by decide +kernel
theorem dL_law_319 : decode cL_law 319 = .ok (.iload 5, 2) := by decide +kernel
theorem dL_law_321 : decode cL_law 321 = .ok (.if_icmp .eq 5, 3) := by decide +kernel
theorem dL_law_324 : decode cL_law 324 = .ok (.iconst 0, 1) := by decide +kernel
theorem dL_law_325 : decode cL_law 325 = .ok (.ireturn, 1) := by decide +kernel
theorem dL_law_326 : decode cL_law 326 = .ok (.iload 5, 2) := by decide +kernel
theorem dL_law_328 : decode cL_law 328 = .ok (.ifCond .ne 22, 3) := by decide +kernel
theorem dL_law_331 : decode cL_law 331 = .ok (.aload_n 3, 1) := by decide +kernel
theorem dL_law_332 : decode cL_law 332 = .ok (.iconst 0, 1) := by decide +kernel
theorem dL_law_333 : decode cL_law 333 = .ok (.laload, 1) := by decide +kernel
theorem dL_law_334 : decode cL_law 334 = .ok (.iload 6, 2) := by decide +kernel
theorem dL_law_336 : decode cL_law 336 = .ok (.ifCond .eq 7, 3) := by decide +kernel
theorem dL_law_339 : decode cL_law 339 = .ok (.lconst 1, 1) := by decide +kernel
theorem dL_law_340 : decode cL_law 340 = .ok (.goto 4, 3) := by decide +kernel
theorem dL_law_343 : decode cL_law 343 = .ok (.lconst 0, 1) := by decide +kernel
theorem dL_law_344 : decode cL_law 344 = .ok (.lcmp, 1) := by decide +kernel
theorem dL_law_345 : decode cL_law 345 = .ok (.ifCond .eq 5, 3) := by decide +kernel
theorem dL_law_348 : decode cL_law 348 = .ok (.iconst 0, 1) := by decide +kernel
theorem dL_law_349 : decode cL_law 349 = .ok (.ireturn, 1) := by decide +kernel
theorem dL_law_350 : decode cL_law 350 = .ok (.goto 863, 3) := by decide +kernel
theorem dL_law_353 : decode cL_law 353 = .ok (.aload_n 1, 1) := by decide +kernel
theorem dL_law_354 : decode cL_law 354 = .ok (.aload_n 0, 1) := by decide +kernel
theorem dL_law_355 : decode cL_law 355 = .ok (.iload 4, 2) := by decide +kernel
theorem dL_law_357 : decode cL_law 357 = .ok (.iconst 1, 1) := by decide +kernel
theorem dL_law_358 : decode cL_law 358 = .ok (.iadd, 1) := by decide +kernel
theorem dL_law_359 : decode cL_law 359 = .ok (.iaload, 1) := by decide +kernel
theorem dL_law_360 : decode cL_law 360 = .ok (.aload_n 0, 1) := by decide +kernel
theorem dL_law_361 : decode cL_law 361 = .ok (.iload 4, 2) := by decide +kernel
theorem dL_law_363 : decode cL_law 363 = .ok (.iconst 2, 1) := by decide +kernel
theorem dL_law_364 : decode cL_law 364 = .ok (.iadd, 1) := by decide +kernel
theorem dL_law_365 : decode cL_law 365 = .ok (.iaload, 1) := by decide +kernel
theorem dL_law_366 : decode cL_law 366 = .ok (.aload_n 3, 1) := by decide +kernel
theorem dL_law_367 : decode cL_law 367 = .ok (.invokestatic 104, 3) := by decide +kernel
theorem dL_law_370 : decode cL_law 370 = .ok (.istore 5, 2) := by decide +kernel
theorem dL_law_372 : decode cL_law 372 = .ok (.aload_n 2, 1) := by decide +kernel
theorem dL_law_373 : decode cL_law 373 = .ok (.aload_n 0, 1) := by decide +kernel
theorem dL_law_374 : decode cL_law 374 = .ok (.iload 4, 2) := by decide +kernel
theorem dL_law_376 : decode cL_law 376 = .ok (.iconst 1, 1) := by decide +kernel
theorem dL_law_377 : decode cL_law 377 = .ok (.iadd, 1) := by decide +kernel
theorem dL_law_378 : decode cL_law 378 = .ok (.iaload, 1) := by decide +kernel
theorem dL_law_379 : decode cL_law 379 = .ok (.aload_n 0, 1) := by decide +kernel
theorem dL_law_380 : decode cL_law 380 = .ok (.iload 4, 2) := by decide +kernel
theorem dL_law_382 : decode cL_law 382 = .ok (.iconst 2, 1) := by decide +kernel
theorem dL_law_383 : decode cL_law 383 = .ok (.iadd, 1) := by decide +kernel
theorem dL_law_384 : decode cL_law 384 = .ok (.iaload, 1) := by decide +kernel
theorem dL_law_385 : decode cL_law 385 = .ok (.invokevirtual 107, 3) := by decide +kernel
theorem dL_law_388 : decode cL_law 388 = .ok (.istore 6, 2) := by decide +kernel
theorem dL_law_390 : decode cL_law 390 = .ok (.aload_n 2, 1) := by decide +kernel
theorem dL_law_391 : decode cL_law 391 = .ok (.invokevirtual 86, 3) := by decide +kernel
theorem dL_law_394 : decode cL_law 394 = .ok (.iload 5, 2) := by decide +kernel
theorem dL_law_396 : decode cL_law 396 = .ok (.if_icmp .eq 5, 3) := by decide +kernel
theorem dL_law_399 : decode cL_law 399 = .ok (.iconst 0, 1) := by decide +kernel
theorem dL_law_400 : decode cL_law 400 = .ok (.ireturn, 1) := by decide +kernel
theorem dL_law_401 : decode cL_law 401 = .ok (.iload 5, 2) := by decide +kernel
theorem dL_law_403 : decode cL_law 403 = .ok (.ifCond .ne 22, 3) := by decide +kernel
theorem dL_law_406 : decode cL_law 406 = .ok (.aload_n 3, 1) := by decide +kernel
theorem dL_law_407 : decode cL_law 407 = .ok (.iconst 0, 1) := by decide +kernel
theorem dL_law_408 : decode cL_law 408 = .ok (.laload, 1) := by decide +kernel
theorem dL_law_409 : decode cL_law 409 = .ok (.iload 6, 2) := by decide +kernel
theorem dL_law_411 : decode cL_law 411 = .ok (.ifCond .eq 7, 3) := by decide +kernel
theorem dL_law_414 : decode cL_law 414 = .ok (.lconst 1, 1) := by decide +kernel
theorem dL_law_415 : decode cL_law 415 = .ok (.goto 4, 3) := by decide +kernel
theorem dL_law_418 : decode cL_law 418 = .ok (.lconst 0, 1) := by decide +kernel
theorem dL_law_419 : decode cL_law 419 = .ok (.lcmp, 1) := by decide +kernel
theorem dL_law_420 : decode cL_law 420 = .ok (.ifCond .eq 5, 3) := by decide +kernel
theorem dL_law_423 : decode cL_law 423 = .ok (.iconst 0, 1) := by decide +kernel
theorem dL_law_424 : decode cL_law 424 = .ok (.ireturn, 1) := by decide +kernel
theorem dL_law_425 : decode cL_law 425 = .ok (.goto 788, 3) := by decide +kernel
theorem dL_law_428 : decode cL_law 428 = .ok (.aload_n 1, 1) := by decide +kernel
theorem dL_law_429 : decode cL_law 429 = .ok (.aload_n 0, 1) := by decide +kernel
theorem dL_law_430 : decode cL_law 430 = .ok (.iload 4, 2) := by decide +kernel
theorem dL_law_432 : decode cL_law 432 = .ok (.iconst 1, 1) := by decide +kernel
theorem dL_law_433 : decode cL_law 433 = .ok (.iadd, 1) := by decide +kernel
theorem dL_law_434 : decode cL_law 434 = .ok (.iaload, 1) := by decide +kernel
theorem dL_law_435 : decode cL_law 435 = .ok (.aload_n 0, 1) := by decide +kernel
theorem dL_law_436 : decode cL_law 436 = .ok (.iload 4, 2) := by decide +kernel
theorem dL_law_438 : decode cL_law 438 = .ok (.iconst 2, 1) := by decide +kernel
theorem dL_law_439 : decode cL_law 439 = .ok (.iadd, 1) := by decide +kernel
theorem dL_law_440 : decode cL_law 440 = .ok (.iaload, 1) := by decide +kernel
theorem dL_law_441 : decode cL_law 441 = .ok (.aload_n 3, 1) := by decide +kernel
theorem dL_law_442 : decode cL_law 442 = .ok (.invokestatic 108, 3) := by decide +kernel
theorem dL_law_445 : decode cL_law 445 = .ok (.istore 5, 2) := by decide +kernel
theorem dL_law_447 : decode cL_law 447 = .ok (.aload_n 2, 1) := by decide +kernel
theorem dL_law_448 : decode cL_law 448 = .ok (.aload_n 0, 1) := by decide +kernel
theorem dL_law_449 : decode cL_law 449 = .ok (.iload 4, 2) := by decide +kernel
theorem dL_law_451 : decode cL_law 451 = .ok (.iconst 1, 1) := by decide +kernel
theorem dL_law_452 : decode cL_law 452 = .ok (.iadd, 1) := by decide +kernel
theorem dL_law_453 : decode cL_law 453 = .ok (.iaload, 1) := by decide +kernel
theorem dL_law_454 : decode cL_law 454 = .ok (.aload_n 0, 1) := by decide +kernel
theorem dL_law_455 : decode cL_law 455 = .ok (.iload 4, 2) := by decide +kernel
theorem dL_law_457 : decode cL_law 457 = .ok (.iconst 2, 1) := by decide +kernel
theorem dL_law_458 : decode cL_law 458 = .ok (.iadd, 1) := by decide +kernel
theorem dL_law_459 : decode cL_law 459 = .ok (.iaload, 1) := by decide +kernel
theorem dL_law_460 : decode cL_law 460 = .ok (.invokevirtual 110, 3) := by decide +kernel
theorem dL_law_463 : decode cL_law 463 = .ok (.istore 6, 2) := by decide +kernel
theorem dL_law_465 : decode cL_law 465 = .ok (.aload_n 2, 1) := by decide +kernel
theorem dL_law_466 : decode cL_law 466 = .ok (.invokevirtual 86, 3) := by decide +kernel
theorem dL_law_469 : decode cL_law 469 = .ok (.iload 5, 2) := by decide +kernel
theorem dL_law_471 : decode cL_law 471 = .ok (.if_icmp .eq 5, 3) := by decide +kernel
theorem dL_law_474 : decode cL_law 474 = .ok (.iconst 0, 1) := by decide +kernel
theorem dL_law_475 : decode cL_law 475 = .ok (.ireturn, 1) := by decide +kernel
theorem dL_law_476 : decode cL_law 476 = .ok (.iload 5, 2) := by decide +kernel
theorem dL_law_478 : decode cL_law 478 = .ok (.ifCond .ne 22, 3) := by decide +kernel
theorem dL_law_481 : decode cL_law 481 = .ok (.aload_n 3, 1) := by decide +kernel
theorem dL_law_482 : decode cL_law 482 = .ok (.iconst 0, 1) := by decide +kernel
theorem dL_law_483 : decode cL_law 483 = .ok (.laload, 1) := by decide +kernel
theorem dL_law_484 : decode cL_law 484 = .ok (.iload 6, 2) := by decide +kernel
theorem dL_law_486 : decode cL_law 486 = .ok (.ifCond .eq 7, 3) := by decide +kernel
theorem dL_law_489 : decode cL_law 489 = .ok (.lconst 1, 1) := by decide +kernel
theorem dL_law_490 : decode cL_law 490 = .ok (.goto 4, 3) := by decide +kernel
theorem dL_law_493 : decode cL_law 493 = .ok (.lconst 0, 1) := by decide +kernel
theorem dL_law_494 : decode cL_law 494 = .ok (.lcmp, 1) := by decide +kernel
theorem dL_law_495 : decode cL_law 495 = .ok (.ifCond .eq 5, 3) := by decide +kernel
theorem dL_law_498 : decode cL_law 498 = .ok (.iconst 0, 1) := by decide +kernel
theorem dL_law_499 : decode cL_law 499 = .ok (.ireturn, 1) := by decide +kernel
theorem dL_law_500 : decode cL_law 500 = .ok (.goto 713, 3) := by decide +kernel
theorem dL_law_503 : decode cL_law 503 = .ok (.aload_n 1, 1) := by decide +kernel
theorem dL_law_504 : decode cL_law 504 = .ok (.aload_n 0, 1) := by decide +kernel
theorem dL_law_505 : decode cL_law 505 = .ok (.iload 4, 2) := by decide +kernel
theorem dL_law_507 : decode cL_law 507 = .ok (.iconst 1, 1) := by decide +kernel
theorem dL_law_508 : decode cL_law 508 = .ok (.iadd, 1) := by decide +kernel
theorem dL_law_509 : decode cL_law 509 = .ok (.iaload, 1) := by decide +kernel
theorem dL_law_510 : decode cL_law 510 = .ok (.aload_n 0, 1) := by decide +kernel
theorem dL_law_511 : decode cL_law 511 = .ok (.iload 4, 2) := by decide +kernel
theorem dL_law_513 : decode cL_law 513 = .ok (.iconst 2, 1) := by decide +kernel
theorem dL_law_514 : decode cL_law 514 = .ok (.iadd, 1) := by decide +kernel
theorem dL_law_515 : decode cL_law 515 = .ok (.iaload, 1) := by decide +kernel
theorem dL_law_516 : decode cL_law 516 = .ok (.aload_n 3, 1) := by decide +kernel
theorem dL_law_517 : decode cL_law 517 = .ok (.invokestatic 111, 3) := by decide +kernel
theorem dL_law_520 : decode cL_law 520 = .ok (.istore 5, 2) := by decide +kernel
theorem dL_law_522 : decode cL_law 522 = .ok (.aload_n 2, 1) := by decide +kernel
theorem dL_law_523 : decode cL_law 523 = .ok (.aload_n 0, 1) := by decide +kernel
theorem dL_law_524 : decode cL_law 524 = .ok (.iload 4, 2) := by decide +kernel
theorem dL_law_526 : decode cL_law 526 = .ok (.iconst 1, 1) := by decide +kernel
theorem dL_law_527 : decode cL_law 527 = .ok (.iadd, 1) := by decide +kernel
theorem dL_law_528 : decode cL_law 528 = .ok (.iaload, 1) := by decide +kernel
theorem dL_law_529 : decode cL_law 529 = .ok (.aload_n 0, 1) := by decide +kernel
theorem dL_law_530 : decode cL_law 530 = .ok (.iload 4, 2) := by decide +kernel
theorem dL_law_532 : decode cL_law 532 = .ok (.iconst 2, 1) := by decide +kernel
theorem dL_law_533 : decode cL_law 533 = .ok (.iadd, 1) := by decide +kernel
theorem dL_law_534 : decode cL_law 534 = .ok (.iaload, 1) := by decide +kernel
theorem dL_law_535 : decode cL_law 535 = .ok (.invokevirtual 113, 3) := by decide +kernel
theorem dL_law_538 : decode cL_law 538 = .ok (.istore 6, 2) := by decide +kernel
theorem dL_law_540 : decode cL_law 540 = .ok (.aload_n 2, 1) := by decide +kernel
theorem dL_law_541 : decode cL_law 541 = .ok (.invokevirtual 86, 3) := by decide +kernel
theorem dL_law_544 : decode cL_law 544 = .ok (.iload 5, 2) := by decide +kernel
theorem dL_law_546 : decode cL_law 546 = .ok (.if_icmp .eq 5, 3) := by decide +kernel
theorem dL_law_549 : decode cL_law 549 = .ok (.iconst 0, 1) := by decide +kernel
theorem dL_law_550 : decode cL_law 550 = .ok (.ireturn, 1) := by decide +kernel
theorem dL_law_551 : decode cL_law 551 = .ok (.iload 5, 2) := by decide +kernel
theorem dL_law_553 : decode cL_law 553 = .ok (.ifCond .ne 22, 3) := by decide +kernel
theorem dL_law_556 : decode cL_law 556 = .ok (.aload_n 3, 1) := by decide +kernel
theorem dL_law_557 : decode cL_law 557 = .ok (.iconst 0, 1) := by decide +kernel
theorem dL_law_558 : decode cL_law 558 = .ok (.laload, 1) := by decide +kernel
theorem dL_law_559 : decode cL_law 559 = .ok (.iload 6, 2) := by decide +kernel
theorem dL_law_561 : decode cL_law 561 = .ok (.ifCond .eq 7, 3) := by decide +kernel
theorem dL_law_564 : decode cL_law 564 = .ok (.lconst 1, 1) := by decide +kernel
theorem dL_law_565 : decode cL_law 565 = .ok (.goto 4, 3) := by decide +kernel
theorem dL_law_568 : decode cL_law 568 = .ok (.lconst 0, 1) := by decide +kernel
theorem dL_law_569 : decode cL_law 569 = .ok (.lcmp, 1) := by decide +kernel
theorem dL_law_570 : decode cL_law 570 = .ok (.ifCond .eq 5, 3) := by decide +kernel
theorem dL_law_573 : decode cL_law 573 = .ok (.iconst 0, 1) := by decide +kernel
theorem dL_law_574 : decode cL_law 574 = .ok (.ireturn, 1) := by decide +kernel
theorem dL_law_575 : decode cL_law 575 = .ok (.goto 638, 3) := by decide +kernel
theorem dL_law_578 : decode cL_law 578 = .ok (.aload_n 1, 1) := by decide +kernel
theorem dL_law_579 : decode cL_law 579 = .ok (.aload_n 0, 1) := by decide +kernel
theorem dL_law_580 : decode cL_law 580 = .ok (.iload 4, 2) := by decide +kernel
theorem dL_law_582 : decode cL_law 582 = .ok (.iconst 1, 1) := by decide +kernel
theorem dL_law_583 : decode cL_law 583 = .ok (.iadd, 1) := by decide +kernel
theorem dL_law_584 : decode cL_law 584 = .ok (.iaload, 1) := by decide +kernel
theorem dL_law_585 : decode cL_law 585 = .ok (.i2l, 1) := by decide +kernel
theorem dL_law_586 : decode cL_law 586 = .ok (.bipush 32, 2) := by decide +kernel
theorem dL_law_588 : decode cL_law 588 = .ok (.lshl, 1) := by decide +kernel
theorem dL_law_589 : decode cL_law 589 = .ok (.aload_n 0, 1) := by decide +kernel
theorem dL_law_590 : decode cL_law 590 = .ok (.iload 4, 2) := by decide +kernel
theorem dL_law_592 : decode cL_law 592 = .ok (.iconst 2, 1) := by decide +kernel
theorem dL_law_593 : decode cL_law 593 = .ok (.iadd, 1) := by decide +kernel
theorem dL_law_594 : decode cL_law 594 = .ok (.iaload, 1) := by decide +kernel
theorem dL_law_595 : decode cL_law 595 = .ok (.i2l, 1) := by decide +kernel
theorem dL_law_596 : decode cL_law 596 = .ok (.ldc2_w 78, 3) := by decide +kernel
theorem dL_law_599 : decode cL_law 599 = .ok (.land, 1) := by decide +kernel
theorem dL_law_600 : decode cL_law 600 = .ok (.lor, 1) := by decide +kernel
theorem dL_law_601 : decode cL_law 601 = .ok (.aload_n 0, 1) := by decide +kernel
theorem dL_law_602 : decode cL_law 602 = .ok (.iload 4, 2) := by decide +kernel
theorem dL_law_604 : decode cL_law 604 = .ok (.iconst 3, 1) := by decide +kernel
theorem dL_law_605 : decode cL_law 605 = .ok (.iadd, 1) := by decide +kernel
theorem dL_law_606 : decode cL_law 606 = .ok (.iaload, 1) := by decide +kernel
theorem dL_law_607 : decode cL_law 607 = .ok (.aload_n 3, 1) := by decide +kernel
theorem dL_law_608 : decode cL_law 608 = .ok (.invokestatic 114, 3) := by decide +kernel
theorem dL_law_611 : decode cL_law 611 = .ok (.istore 5, 2) := by decide +kernel
theorem dL_law_613 : decode cL_law 613 = .ok (.aload_n 2, 1) := by decide +kernel
theorem dL_law_614 : decode cL_law 614 = .ok (.aload_n 0, 1) := by decide +kernel
theorem dL_law_615 : decode cL_law 615 = .ok (.iload 4, 2) := by decide +kernel
theorem dL_law_617 : decode cL_law 617 = .ok (.iconst 1, 1) := by decide +kernel
theorem dL_law_618 : decode cL_law 618 = .ok (.iadd, 1) := by decide +kernel
theorem dL_law_619 : decode cL_law 619 = .ok (.iaload, 1) := by decide +kernel
theorem dL_law_620 : decode cL_law 620 = .ok (.i2l, 1) := by decide +kernel
theorem dL_law_621 : decode cL_law 621 = .ok (.bipush 32, 2) := by decide +kernel
theorem dL_law_623 : decode cL_law 623 = .ok (.lshl, 1) := by decide +kernel
theorem dL_law_624 : decode cL_law 624 = .ok (.aload_n 0, 1) := by decide +kernel
theorem dL_law_625 : decode cL_law 625 = .ok (.iload 4, 2) := by decide +kernel
theorem dL_law_627 : decode cL_law 627 = .ok (.iconst 2, 1) := by decide +kernel
theorem dL_law_628 : decode cL_law 628 = .ok (.iadd, 1) := by decide +kernel
theorem dL_law_629 : decode cL_law 629 = .ok (.iaload, 1) := by decide +kernel
theorem dL_law_630 : decode cL_law 630 = .ok (.i2l, 1) := by decide +kernel
theorem dL_law_631 : decode cL_law 631 = .ok (.ldc2_w 78, 3) := by decide +kernel
theorem dL_law_634 : decode cL_law 634 = .ok (.land, 1) := by decide +kernel
theorem dL_law_635 : decode cL_law 635 = .ok (.lor, 1) := by decide +kernel
theorem dL_law_636 : decode cL_law 636 = .ok (.aload_n 0, 1) := by decide +kernel
theorem dL_law_637 : decode cL_law 637 = .ok (.iload 4, 2) := by decide +kernel
theorem dL_law_639 : decode cL_law 639 = .ok (.iconst 3, 1) := by decide +kernel
theorem dL_law_640 : decode cL_law 640 = .ok (.iadd, 1) := by decide +kernel
theorem dL_law_641 : decode cL_law 641 = .ok (.iaload, 1) := by decide +kernel
theorem dL_law_642 : decode cL_law 642 = .ok (.invokevirtual 116, 3) := by decide +kernel
theorem dL_law_645 : decode cL_law 645 = .ok (.istore 6, 2) := by decide +kernel
theorem dL_law_647 : decode cL_law 647 = .ok (.aload_n 2, 1) := by decide +kernel
theorem dL_law_648 : decode cL_law 648 = .ok (.invokevirtual 86, 3) := by decide +kernel
theorem dL_law_651 : decode cL_law 651 = .ok (.iload 5, 2) := by decide +kernel
theorem dL_law_653 : decode cL_law 653 = .ok (.if_icmp .eq 5, 3) := by decide +kernel
theorem dL_law_656 : decode cL_law 656 = .ok (.iconst 0, 1) := by decide +kernel
theorem dL_law_657 : decode cL_law 657 = .ok (.ireturn, 1) := by decide +kernel
theorem dL_law_658 : decode cL_law 658 = .ok (.iload 5, 2) := by decide +kernel
theorem dL_law_660 : decode cL_law 660 = .ok (.ifCond .ne 15, 3) := by decide +kernel
theorem dL_law_663 : decode cL_law 663 = .ok (.aload_n 3, 1) := by decide +kernel
theorem dL_law_664 : decode cL_law 664 = .ok (.iconst 0, 1) := by decide +kernel
theorem dL_law_665 : decode cL_law 665 = .ok (.laload, 1) := by decide +kernel
theorem dL_law_666 : decode cL_law 666 = .ok (.iload 6, 2) := by decide +kernel
theorem dL_law_668 : decode cL_law 668 = .ok (.i2l, 1) := by decide +kernel
theorem dL_law_669 : decode cL_law 669 = .ok (.lcmp, 1) := by decide +kernel
theorem dL_law_670 : decode cL_law 670 = .ok (.ifCond .eq 5, 3) := by decide +kernel
theorem dL_law_673 : decode cL_law 673 = .ok (.iconst 0, 1) := by decide +kernel
theorem dL_law_674 : decode cL_law 674 = .ok (.ireturn, 1) := by decide +kernel
theorem dL_law_675 : decode cL_law 675 = .ok (.goto 538, 3) := by decide +kernel
theorem dL_law_678 : decode cL_law 678 = .ok (.aload_n 1, 1) := by decide +kernel
theorem dL_law_679 : decode cL_law 679 = .ok (.invokevirtual 117, 3) := by decide +kernel
theorem dL_law_682 : decode cL_law 682 = .ok (.aload_n 2, 1) := by decide +kernel
theorem dL_law_683 : decode cL_law 683 = .ok (.invokevirtual 120, 3) := by decide +kernel
theorem dL_law_686 : decode cL_law 686 = .ok (.if_icmp .eq 527, 3) := by decide +kernel
theorem dL_law_689 : decode cL_law 689 = .ok (.iconst 0, 1) := by decide +kernel
theorem dL_law_690 : decode cL_law 690 = .ok (.ireturn, 1) := by decide +kernel
theorem dL_law_691 : decode cL_law 691 = .ok (.aload_n 1, 1) := by decide +kernel
theorem dL_law_692 : decode cL_law 692 = .ok (.aload_n 3, 1) := by decide +kernel
theorem dL_law_693 : decode cL_law 693 = .ok (.invokestatic 121, 3) := by decide +kernel
theorem dL_law_696 : decode cL_law 696 = .ok (.istore 5, 2) := by decide +kernel
theorem dL_law_698 : decode cL_law 698 = .ok (.aload_n 2, 1) := by decide +kernel
theorem dL_law_699 : decode cL_law 699 = .ok (.invokevirtual 123, 3) := by decide +kernel
theorem dL_law_702 : decode cL_law 702 = .ok (.istore 6, 2) := by decide +kernel
theorem dL_law_704 : decode cL_law 704 = .ok (.aload_n 2, 1) := by decide +kernel
theorem dL_law_705 : decode cL_law 705 = .ok (.invokevirtual 86, 3) := by decide +kernel
theorem dL_law_708 : decode cL_law 708 = .ok (.iload 5, 2) := by decide +kernel
theorem dL_law_710 : decode cL_law 710 = .ok (.if_icmp .eq 5, 3) := by decide +kernel
theorem dL_law_713 : decode cL_law 713 = .ok (.iconst 0, 1) := by decide +kernel
theorem dL_law_714 : decode cL_law 714 = .ok (.ireturn, 1) := by decide +kernel
theorem dL_law_715 : decode cL_law 715 = .ok (.iload 5, 2) := by decide +kernel
theorem dL_law_717 : decode cL_law 717 = .ok (.ifCond .ne 22, 3) := by decide +kernel
theorem dL_law_720 : decode cL_law 720 = .ok (.aload_n 3, 1) := by decide +kernel
theorem dL_law_721 : decode cL_law 721 = .ok (.iconst 0, 1) := by decide +kernel
theorem dL_law_722 : decode cL_law 722 = .ok (.laload, 1) := by decide +kernel
theorem dL_law_723 : decode cL_law 723 = .ok (.iload 6, 2) := by decide +kernel
theorem dL_law_725 : decode cL_law 725 = .ok (.ifCond .eq 7, 3) := by decide +kernel
theorem dL_law_728 : decode cL_law 728 = .ok (.lconst 1, 1) := by decide +kernel
theorem dL_law_729 : decode cL_law 729 = .ok (.goto 4, 3) := by decide +kernel
theorem dL_law_732 : decode cL_law 732 = .ok (.lconst 0, 1) := by decide +kernel
theorem dL_law_733 : decode cL_law 733 = .ok (.lcmp, 1) := by decide +kernel
theorem dL_law_734 : decode cL_law 734 = .ok (.ifCond .eq 5, 3) := by decide +kernel
theorem dL_law_737 : decode cL_law 737 = .ok (.iconst 0, 1) := by decide +kernel
theorem dL_law_738 : decode cL_law 738 = .ok (.ireturn, 1) := by decide +kernel
theorem dL_law_739 : decode cL_law 739 = .ok (.goto 474, 3) := by decide +kernel
theorem dL_law_742 : decode cL_law 742 = .ok (.aload_n 1, 1) := by decide +kernel
theorem dL_law_743 : decode cL_law 743 = .ok (.aload_n 3, 1) := by decide +kernel
theorem dL_law_744 : decode cL_law 744 = .ok (.invokestatic 124, 3) := by decide +kernel
theorem dL_law_747 : decode cL_law 747 = .ok (.istore 5, 2) := by decide +kernel
theorem dL_law_749 : decode cL_law 749 = .ok (.aload_n 2, 1) := by decide +kernel
theorem dL_law_750 : decode cL_law 750 = .ok (.invokevirtual 126, 3) := by decide +kernel
theorem dL_law_753 : decode cL_law 753 = .ok (.istore 6, 2) := by decide +kernel
theorem dL_law_755 : decode cL_law 755 = .ok (.aload_n 2, 1) := by decide +kernel
theorem dL_law_756 : decode cL_law 756 = .ok (.invokevirtual 86, 3) := by decide +kernel
theorem dL_law_759 : decode cL_law 759 = .ok (.iload 5, 2) := by decide +kernel
theorem dL_law_761 : decode cL_law 761 = .ok (.if_icmp .eq 5, 3) := by decide +kernel
theorem dL_law_764 : decode cL_law 764 = .ok (.iconst 0, 1) := by decide +kernel
theorem dL_law_765 : decode cL_law 765 = .ok (.ireturn, 1) := by decide +kernel
theorem dL_law_766 : decode cL_law 766 = .ok (.iload 5, 2) := by decide +kernel
theorem dL_law_768 : decode cL_law 768 = .ok (.ifCond .ne 15, 3) := by decide +kernel
theorem dL_law_771 : decode cL_law 771 = .ok (.aload_n 3, 1) := by decide +kernel
theorem dL_law_772 : decode cL_law 772 = .ok (.iconst 0, 1) := by decide +kernel
theorem dL_law_773 : decode cL_law 773 = .ok (.laload, 1) := by decide +kernel
theorem dL_law_774 : decode cL_law 774 = .ok (.iload 6, 2) := by decide +kernel
theorem dL_law_776 : decode cL_law 776 = .ok (.i2l, 1) := by decide +kernel
theorem dL_law_777 : decode cL_law 777 = .ok (.lcmp, 1) := by decide +kernel
theorem dL_law_778 : decode cL_law 778 = .ok (.ifCond .eq 5, 3) := by decide +kernel
theorem dL_law_781 : decode cL_law 781 = .ok (.iconst 0, 1) := by decide +kernel
theorem dL_law_782 : decode cL_law 782 = .ok (.ireturn, 1) := by decide +kernel
theorem dL_law_783 : decode cL_law 783 = .ok (.goto 430, 3) := by decide +kernel
theorem dL_law_786 : decode cL_law 786 = .ok (.aload_n 1, 1) := by decide +kernel
theorem dL_law_787 : decode cL_law 787 = .ok (.aload_n 0, 1) := by decide +kernel
theorem dL_law_788 : decode cL_law 788 = .ok (.iload 4, 2) := by decide +kernel
theorem dL_law_790 : decode cL_law 790 = .ok (.iconst 1, 1) := by decide +kernel
theorem dL_law_791 : decode cL_law 791 = .ok (.iadd, 1) := by decide +kernel
theorem dL_law_792 : decode cL_law 792 = .ok (.iaload, 1) := by decide +kernel
theorem dL_law_793 : decode cL_law 793 = .ok (.aload_n 0, 1) := by decide +kernel
theorem dL_law_794 : decode cL_law 794 = .ok (.iload 4, 2) := by decide +kernel
theorem dL_law_796 : decode cL_law 796 = .ok (.iconst 2, 1) := by decide +kernel
theorem dL_law_797 : decode cL_law 797 = .ok (.iadd, 1) := by decide +kernel
theorem dL_law_798 : decode cL_law 798 = .ok (.iaload, 1) := by decide +kernel
theorem dL_law_799 : decode cL_law 799 = .ok (.ifCond .eq 7, 3) := by decide +kernel
theorem dL_law_802 : decode cL_law 802 = .ok (.iconst 1, 1) := by decide +kernel
theorem dL_law_803 : decode cL_law 803 = .ok (.goto 4, 3) := by decide +kernel
theorem dL_law_806 : decode cL_law 806 = .ok (.iconst 0, 1) := by decide +kernel
theorem dL_law_807 : decode cL_law 807 = .ok (.aload_n 3, 1) := by decide +kernel
theorem dL_law_808 : decode cL_law 808 = .ok (.invokestatic 127, 3) := by decide +kernel
theorem dL_law_811 : decode cL_law 811 = .ok (.istore 5, 2) := by decide +kernel
theorem dL_law_813 : decode cL_law 813 = .ok (.aload_n 2, 1) := by decide +kernel
theorem dL_law_814 : decode cL_law 814 = .ok (.aload_n 0, 1) := by decide +kernel
theorem dL_law_815 : decode cL_law 815 = .ok (.iload 4, 2) := by decide +kernel
theorem dL_law_817 : decode cL_law 817 = .ok (.iconst 1, 1) := by decide +kernel
theorem dL_law_818 : decode cL_law 818 = .ok (.iadd, 1) := by decide +kernel
theorem dL_law_819 : decode cL_law 819 = .ok (.iaload, 1) := by decide +kernel
theorem dL_law_820 : decode cL_law 820 = .ok (.aload_n 0, 1) := by decide +kernel
theorem dL_law_821 : decode cL_law 821 = .ok (.iload 4, 2) := by decide +kernel
theorem dL_law_823 : decode cL_law 823 = .ok (.iconst 2, 1) := by decide +kernel
theorem dL_law_824 : decode cL_law 824 = .ok (.iadd, 1) := by decide +kernel
theorem dL_law_825 : decode cL_law 825 = .ok (.iaload, 1) := by decide +kernel
theorem dL_law_826 : decode cL_law 826 = .ok (.ifCond .eq 7, 3) := by decide +kernel
theorem dL_law_829 : decode cL_law 829 = .ok (.iconst 1, 1) := by decide +kernel
theorem dL_law_830 : decode cL_law 830 = .ok (.goto 4, 3) := by decide +kernel
theorem dL_law_833 : decode cL_law 833 = .ok (.iconst 0, 1) := by decide +kernel
theorem dL_law_834 : decode cL_law 834 = .ok (.invokevirtual 130, 3) := by decide +kernel
theorem dL_law_837 : decode cL_law 837 = .ok (.istore 6, 2) := by decide +kernel
theorem dL_law_839 : decode cL_law 839 = .ok (.aload_n 2, 1) := by decide +kernel
theorem dL_law_840 : decode cL_law 840 = .ok (.invokevirtual 86, 3) := by decide +kernel
theorem dL_law_843 : decode cL_law 843 = .ok (.iload 5, 2) := by decide +kernel
theorem dL_law_845 : decode cL_law 845 = .ok (.if_icmp .eq 5, 3) := by decide +kernel
theorem dL_law_848 : decode cL_law 848 = .ok (.iconst 0, 1) := by decide +kernel
theorem dL_law_849 : decode cL_law 849 = .ok (.ireturn, 1) := by decide +kernel
theorem dL_law_850 : decode cL_law 850 = .ok (.iload 5, 2) := by decide +kernel
theorem dL_law_852 : decode cL_law 852 = .ok (.ifCond .ne 15, 3) := by decide +kernel
theorem dL_law_855 : decode cL_law 855 = .ok (.aload_n 3, 1) := by decide +kernel
theorem dL_law_856 : decode cL_law 856 = .ok (.iconst 0, 1) := by decide +kernel
theorem dL_law_857 : decode cL_law 857 = .ok (.laload, 1) := by decide +kernel
theorem dL_law_858 : decode cL_law 858 = .ok (.iload 6, 2) := by decide +kernel
theorem dL_law_860 : decode cL_law 860 = .ok (.i2l, 1) := by decide +kernel
theorem dL_law_861 : decode cL_law 861 = .ok (.lcmp, 1) := by decide +kernel
theorem dL_law_862 : decode cL_law 862 = .ok (.ifCond .eq 5, 3) := by decide +kernel
theorem dL_law_865 : decode cL_law 865 = .ok (.iconst 0, 1) := by decide +kernel
theorem dL_law_866 : decode cL_law 866 = .ok (.ireturn, 1) := by decide +kernel
theorem dL_law_867 : decode cL_law 867 = .ok (.goto 346, 3) := by decide +kernel
theorem dL_law_870 : decode cL_law 870 = .ok (.aload_n 1, 1) := by decide +kernel
theorem dL_law_871 : decode cL_law 871 = .ok (.aload_n 3, 1) := by decide +kernel
theorem dL_law_872 : decode cL_law 872 = .ok (.invokestatic 131, 3) := by decide +kernel
theorem dL_law_875 : decode cL_law 875 = .ok (.istore 5, 2) := by decide +kernel
theorem dL_law_877 : decode cL_law 877 = .ok (.aload_n 2, 1) := by decide +kernel
theorem dL_law_878 : decode cL_law 878 = .ok (.invokevirtual 133, 3) := by decide +kernel
theorem dL_law_881 : decode cL_law 881 = .ok (.istore 6, 2) := by decide +kernel
theorem dL_law_883 : decode cL_law 883 = .ok (.aload_n 2, 1) := by decide +kernel
theorem dL_law_884 : decode cL_law 884 = .ok (.invokevirtual 86, 3) := by decide +kernel
theorem dL_law_887 : decode cL_law 887 = .ok (.iload 5, 2) := by decide +kernel
theorem dL_law_889 : decode cL_law 889 = .ok (.if_icmp .eq 5, 3) := by decide +kernel
theorem dL_law_892 : decode cL_law 892 = .ok (.iconst 0, 1) := by decide +kernel
theorem dL_law_893 : decode cL_law 893 = .ok (.ireturn, 1) := by decide +kernel
theorem dL_law_894 : decode cL_law 894 = .ok (.iload 5, 2) := by decide +kernel
theorem dL_law_896 : decode cL_law 896 = .ok (.ifCond .ne 15, 3) := by decide +kernel
theorem dL_law_899 : decode cL_law 899 = .ok (.aload_n 3, 1) := by decide +kernel
theorem dL_law_900 : decode cL_law 900 = .ok (.iconst 0, 1) := by decide +kernel
theorem dL_law_901 : decode cL_law 901 = .ok (.laload, 1) := by decide +kernel
theorem dL_law_902 : decode cL_law 902 = .ok (.iload 6, 2) := by decide +kernel
theorem dL_law_904 : decode cL_law 904 = .ok (.i2l, 1) := by decide +kernel
theorem dL_law_905 : decode cL_law 905 = .ok (.lcmp, 1) := by decide +kernel
theorem dL_law_906 : decode cL_law 906 = .ok (.ifCond .eq 5, 3) := by decide +kernel
theorem dL_law_909 : decode cL_law 909 = .ok (.iconst 0, 1) := by decide +kernel
theorem dL_law_910 : decode cL_law 910 = .ok (.ireturn, 1) := by decide +kernel
theorem dL_law_911 : decode cL_law 911 = .ok (.goto 302, 3) := by decide +kernel
theorem dL_law_914 : decode cL_law 914 = .ok (.aload_n 1, 1) := by decide +kernel
theorem dL_law_915 : decode cL_law 915 = .ok (.aload_n 0, 1) := by decide +kernel
theorem dL_law_916 : decode cL_law 916 = .ok (.iload 4, 2) := by decide +kernel
theorem dL_law_918 : decode cL_law 918 = .ok (.iconst 1, 1) := by decide +kernel
theorem dL_law_919 : decode cL_law 919 = .ok (.iadd, 1) := by decide +kernel
theorem dL_law_920 : decode cL_law 920 = .ok (.iaload, 1) := by decide +kernel
theorem dL_law_921 : decode cL_law 921 = .ok (.aload_n 0, 1) := by decide +kernel
theorem dL_law_922 : decode cL_law 922 = .ok (.iload 4, 2) := by decide +kernel
theorem dL_law_924 : decode cL_law 924 = .ok (.iconst 2, 1) := by decide +kernel
theorem dL_law_925 : decode cL_law 925 = .ok (.iadd, 1) := by decide +kernel
theorem dL_law_926 : decode cL_law 926 = .ok (.iaload, 1) := by decide +kernel
theorem dL_law_927 : decode cL_law 927 = .ok (.aload_n 3, 1) := by decide +kernel
theorem dL_law_928 : decode cL_law 928 = .ok (.invokestatic 134, 3) := by decide +kernel
theorem dL_law_931 : decode cL_law 931 = .ok (.istore 5, 2) := by decide +kernel
theorem dL_law_933 : decode cL_law 933 = .ok (.aload_n 2, 1) := by decide +kernel
theorem dL_law_934 : decode cL_law 934 = .ok (.aload_n 0, 1) := by decide +kernel
theorem dL_law_935 : decode cL_law 935 = .ok (.iload 4, 2) := by decide +kernel
theorem dL_law_937 : decode cL_law 937 = .ok (.iconst 1, 1) := by decide +kernel
theorem dL_law_938 : decode cL_law 938 = .ok (.iadd, 1) := by decide +kernel
theorem dL_law_939 : decode cL_law 939 = .ok (.iaload, 1) := by decide +kernel
theorem dL_law_940 : decode cL_law 940 = .ok (.aload_n 0, 1) := by decide +kernel
theorem dL_law_941 : decode cL_law 941 = .ok (.iload 4, 2) := by decide +kernel
theorem dL_law_943 : decode cL_law 943 = .ok (.iconst 2, 1) := by decide +kernel
theorem dL_law_944 : decode cL_law 944 = .ok (.iadd, 1) := by decide +kernel
theorem dL_law_945 : decode cL_law 945 = .ok (.iaload, 1) := by decide +kernel
theorem dL_law_946 : decode cL_law 946 = .ok (.invokevirtual 136, 3) := by decide +kernel
theorem dL_law_949 : decode cL_law 949 = .ok (.istore 6, 2) := by decide +kernel
theorem dL_law_951 : decode cL_law 951 = .ok (.aload_n 2, 1) := by decide +kernel
theorem dL_law_952 : decode cL_law 952 = .ok (.invokevirtual 86, 3) := by decide +kernel
theorem dL_law_955 : decode cL_law 955 = .ok (.iload 5, 2) := by decide +kernel
theorem dL_law_957 : decode cL_law 957 = .ok (.if_icmp .eq 5, 3) := by decide +kernel
theorem dL_law_960 : decode cL_law 960 = .ok (.iconst 0, 1) := by decide +kernel
theorem dL_law_961 : decode cL_law 961 = .ok (.ireturn, 1) := by decide +kernel
theorem dL_law_962 : decode cL_law 962 = .ok (.iload 5, 2) := by decide +kernel
theorem dL_law_964 : decode cL_law 964 = .ok (.ifCond .ne 15, 3) := by decide +kernel
theorem dL_law_967 : decode cL_law 967 = .ok (.aload_n 3, 1) := by decide +kernel
theorem dL_law_968 : decode cL_law 968 = .ok (.iconst 0, 1) := by decide +kernel
theorem dL_law_969 : decode cL_law 969 = .ok (.laload, 1) := by decide +kernel
theorem dL_law_970 : decode cL_law 970 = .ok (.iload 6, 2) := by decide +kernel
theorem dL_law_972 : decode cL_law 972 = .ok (.i2l, 1) := by decide +kernel
theorem dL_law_973 : decode cL_law 973 = .ok (.lcmp, 1) := by decide +kernel
theorem dL_law_974 : decode cL_law 974 = .ok (.ifCond .eq 5, 3) := by decide +kernel
theorem dL_law_977 : decode cL_law 977 = .ok (.iconst 0, 1) := by decide +kernel
theorem dL_law_978 : decode cL_law 978 = .ok (.ireturn, 1) := by decide +kernel
theorem dL_law_979 : decode cL_law 979 = .ok (.goto 234, 3) := by decide +kernel
theorem dL_law_982 : decode cL_law 982 = .ok (.aload_n 1, 1) := by decide +kernel
theorem dL_law_983 : decode cL_law 983 = .ok (.aload_n 0, 1) := by decide +kernel
theorem dL_law_984 : decode cL_law 984 = .ok (.iload 4, 2) := by decide +kernel
theorem dL_law_986 : decode cL_law 986 = .ok (.iconst 1, 1) := by decide +kernel
theorem dL_law_987 : decode cL_law 987 = .ok (.iadd, 1) := by decide +kernel
theorem dL_law_988 : decode cL_law 988 = .ok (.iaload, 1) := by decide +kernel
theorem dL_law_989 : decode cL_law 989 = .ok (.aload_n 3, 1) := by decide +kernel
theorem dL_law_990 : decode cL_law 990 = .ok (.invokestatic 137, 3) := by decide +kernel
theorem dL_law_993 : decode cL_law 993 = .ok (.istore 5, 2) := by decide +kernel
theorem dL_law_995 : decode cL_law 995 = .ok (.aload_n 2, 1) := by decide +kernel
theorem dL_law_996 : decode cL_law 996 = .ok (.aload_n 0, 1) := by decide +kernel
theorem dL_law_997 : decode cL_law 997 = .ok (.iload 4, 2) := by decide +kernel
theorem dL_law_999 : decode cL_law 999 = .ok (.iconst 1, 1) := by decide +kernel
theorem dL_law_1000 : decode cL_law 1000 = .ok (.iadd, 1) := by decide +kernel
theorem dL_law_1001 : decode cL_law 1001 = .ok (.iaload, 1) := by decide +kernel
theorem dL_law_1002 : decode cL_law 1002 = .ok (.invokevirtual 140, 3) := by decide +kernel
theorem dL_law_1005 : decode cL_law 1005 = .ok (.istore 6, 2) := by decide +kernel
theorem dL_law_1007 : decode cL_law 1007 = .ok (.aload_n 2, 1) := by decide +kernel
theorem dL_law_1008 : decode cL_law 1008 = .ok (.invokevirtual 86, 3) := by decide +kernel
theorem dL_law_1011 : decode cL_law 1011 = .ok (.iload 5, 2) := by decide +kernel
theorem dL_law_1013 : decode cL_law 1013 = .ok (.if_icmp .eq 5, 3) := by decide +kernel
theorem dL_law_1016 : decode cL_law 1016 = .ok (.iconst 0, 1) := by decide +kernel
theorem dL_law_1017 : decode cL_law 1017 = .ok (.ireturn, 1) := by decide +kernel
theorem dL_law_1018 : decode cL_law 1018 = .ok (.iload 5, 2) := by decide +kernel
theorem dL_law_1020 : decode cL_law 1020 = .ok (.ifCond .ne 22, 3) := by decide +kernel
theorem dL_law_1023 : decode cL_law 1023 = .ok (.aload_n 3, 1) := by decide +kernel
theorem dL_law_1024 : decode cL_law 1024 = .ok (.iconst 0, 1) := by decide +kernel
theorem dL_law_1025 : decode cL_law 1025 = .ok (.laload, 1) := by decide +kernel
theorem dL_law_1026 : decode cL_law 1026 = .ok (.iload 6, 2) := by decide +kernel
theorem dL_law_1028 : decode cL_law 1028 = .ok (.ifCond .eq 7, 3) := by decide +kernel
theorem dL_law_1031 : decode cL_law 1031 = .ok (.lconst 1, 1) := by decide +kernel
theorem dL_law_1032 : decode cL_law 1032 = .ok (.goto 4, 3) := by decide +kernel
theorem dL_law_1035 : decode cL_law 1035 = .ok (.lconst 0, 1) := by decide +kernel
theorem dL_law_1036 : decode cL_law 1036 = .ok (.lcmp, 1) := by decide +kernel
theorem dL_law_1037 : decode cL_law 1037 = .ok (.ifCond .eq 5, 3) := by decide +kernel
theorem dL_law_1040 : decode cL_law 1040 = .ok (.iconst 0, 1) := by decide +kernel
theorem dL_law_1041 : decode cL_law 1041 = .ok (.ireturn, 1) := by decide +kernel
theorem dL_law_1042 : decode cL_law 1042 = .ok (.goto 171, 3) := by decide +kernel
theorem dL_law_1045 : decode cL_law 1045 = .ok (.aload_n 1, 1) := by decide +kernel
theorem dL_law_1046 : decode cL_law 1046 = .ok (.aload_n 3, 1) := by decide +kernel
theorem dL_law_1047 : decode cL_law 1047 = .ok (.invokestatic 141, 3) := by decide +kernel
theorem dL_law_1050 : decode cL_law 1050 = .ok (.istore 5, 2) := by decide +kernel
theorem dL_law_1052 : decode cL_law 1052 = .ok (.aload_n 2, 1) := by decide +kernel
theorem dL_law_1053 : decode cL_law 1053 = .ok (.invokevirtual 143, 3) := by decide +kernel
theorem dL_law_1056 : decode cL_law 1056 = .ok (.istore 6, 2) := by decide +kernel
theorem dL_law_1058 : decode cL_law 1058 = .ok (.aload_n 2, 1) := by decide +kernel
theorem dL_law_1059 : decode cL_law 1059 = .ok (.invokevirtual 86, 3) := by decide +kernel
theorem dL_law_1062 : decode cL_law 1062 = .ok (.iload 5, 2) := by decide +kernel
theorem dL_law_1064 : decode cL_law 1064 = .ok (.if_icmp .eq 5, 3) := by decide +kernel
theorem dL_law_1067 : decode cL_law 1067 = .ok (.iconst 0, 1) := by decide +kernel
theorem dL_law_1068 : decode cL_law 1068 = .ok (.ireturn, 1) := by decide +kernel
theorem dL_law_1069 : decode cL_law 1069 = .ok (.iload 5, 2) := by decide +kernel
theorem dL_law_1071 : decode cL_law 1071 = .ok (.ifCond .ne 15, 3) := by decide +kernel
theorem dL_law_1074 : decode cL_law 1074 = .ok (.aload_n 3, 1) := by decide +kernel
theorem dL_law_1075 : decode cL_law 1075 = .ok (.iconst 0, 1) := by decide +kernel
theorem dL_law_1076 : decode cL_law 1076 = .ok (.laload, 1) := by decide +kernel
theorem dL_law_1077 : decode cL_law 1077 = .ok (.iload 6, 2) := by decide +kernel
theorem dL_law_1079 : decode cL_law 1079 = .ok (.i2l, 1) := by decide +kernel
theorem dL_law_1080 : decode cL_law 1080 = .ok (.lcmp, 1) := by decide +kernel
theorem dL_law_1081 : decode cL_law 1081 = .ok (.ifCond .eq 5, 3) := by decide +kernel
theorem dL_law_1084 : decode cL_law 1084 = .ok (.iconst 0, 1) := by decide +kernel
theorem dL_law_1085 : decode cL_law 1085 = .ok (.ireturn, 1) := by decide +kernel
theorem dL_law_1086 : decode cL_law 1086 = .ok (.goto 127, 3) := by decide +kernel
theorem dL_law_1089 : decode cL_law 1089 = .ok (.aload_n 1, 1) := by decide +kernel
theorem dL_law_1090 : decode cL_law 1090 = .ok (.invokestatic 144, 3) := by decide +kernel
theorem dL_law_1093 : decode cL_law 1093 = .ok (.istore 5, 2) := by decide +kernel
theorem dL_law_1095 : decode cL_law 1095 = .ok (.aload_n 2, 1) := by decide +kernel
theorem dL_law_1096 : decode cL_law 1096 = .ok (.invokevirtual 147, 3) := by decide +kernel
theorem dL_law_1099 : decode cL_law 1099 = .ok (.aload_n 2, 1) := by decide +kernel
theorem dL_law_1100 : decode cL_law 1100 = .ok (.invokevirtual 86, 3) := by decide +kernel
theorem dL_law_1103 : decode cL_law 1103 = .ok (.iload 5, 2) := by decide +kernel
theorem dL_law_1105 : decode cL_law 1105 = .ok (.if_icmp .eq 5, 3) := by decide +kernel
theorem dL_law_1108 : decode cL_law 1108 = .ok (.iconst 0, 1) := by decide +kernel
theorem dL_law_1109 : decode cL_law 1109 = .ok (.ireturn, 1) := by decide +kernel
theorem dL_law_1110 : decode cL_law 1110 = .ok (.goto 103, 3) := by decide +kernel
theorem dL_law_1113 : decode cL_law 1113 = .ok (.aload_n 1, 1) := by decide +kernel
theorem dL_law_1114 : decode cL_law 1114 = .ok (.aload_n 3, 1) := by decide +kernel
theorem dL_law_1115 : decode cL_law 1115 = .ok (.invokestatic 148, 3) := by decide +kernel
theorem dL_law_1118 : decode cL_law 1118 = .ok (.istore 5, 2) := by decide +kernel
theorem dL_law_1120 : decode cL_law 1120 = .ok (.aload_n 2, 1) := by decide +kernel
theorem dL_law_1121 : decode cL_law 1121 = .ok (.invokevirtual 150, 3) := by decide +kernel
theorem dL_law_1124 : decode cL_law 1124 = .ok (.istore 6, 2) := by decide +kernel
theorem dL_law_1126 : decode cL_law 1126 = .ok (.aload_n 2, 1) := by decide +kernel
theorem dL_law_1127 : decode cL_law 1127 = .ok (.invokevirtual 86, 3) := by decide +kernel
theorem dL_law_1130 : decode cL_law 1130 = .ok (.iload 5, 2) := by decide +kernel
theorem dL_law_1132 : decode cL_law 1132 = .ok (.if_icmp .eq 5, 3) := by decide +kernel
theorem dL_law_1135 : decode cL_law 1135 = .ok (.iconst 0, 1) := by decide +kernel
theorem dL_law_1136 : decode cL_law 1136 = .ok (.ireturn, 1) := by decide +kernel
theorem dL_law_1137 : decode cL_law 1137 = .ok (.iload 5, 2) := by decide +kernel
theorem dL_law_1139 : decode cL_law 1139 = .ok (.ifCond .ne 15, 3) := by decide +kernel
theorem dL_law_1142 : decode cL_law 1142 = .ok (.aload_n 3, 1) := by decide +kernel
theorem dL_law_1143 : decode cL_law 1143 = .ok (.iconst 0, 1) := by decide +kernel
theorem dL_law_1144 : decode cL_law 1144 = .ok (.laload, 1) := by decide +kernel
theorem dL_law_1145 : decode cL_law 1145 = .ok (.iload 6, 2) := by decide +kernel
theorem dL_law_1147 : decode cL_law 1147 = .ok (.i2l, 1) := by decide +kernel
theorem dL_law_1148 : decode cL_law 1148 = .ok (.lcmp, 1) := by decide +kernel
theorem dL_law_1149 : decode cL_law 1149 = .ok (.ifCond .eq 5, 3) := by decide +kernel
theorem dL_law_1152 : decode cL_law 1152 = .ok (.iconst 0, 1) := by decide +kernel
theorem dL_law_1153 : decode cL_law 1153 = .ok (.ireturn, 1) := by decide +kernel
theorem dL_law_1154 : decode cL_law 1154 = .ok (.goto 59, 3) := by decide +kernel
theorem dL_law_1157 : decode cL_law 1157 = .ok (.aload_n 1, 1) := by decide +kernel
theorem dL_law_1158 : decode cL_law 1158 = .ok (.aload_n 0, 1) := by decide +kernel
theorem dL_law_1159 : decode cL_law 1159 = .ok (.iload 4, 2) := by decide +kernel
theorem dL_law_1161 : decode cL_law 1161 = .ok (.iconst 1, 1) := by decide +kernel
theorem dL_law_1162 : decode cL_law 1162 = .ok (.iadd, 1) := by decide +kernel
theorem dL_law_1163 : decode cL_law 1163 = .ok (.iaload, 1) := by decide +kernel
theorem dL_law_1164 : decode cL_law 1164 = .ok (.aload_n 3, 1) := by decide +kernel
theorem dL_law_1165 : decode cL_law 1165 = .ok (.invokestatic 151, 3) := by decide +kernel
theorem dL_law_1168 : decode cL_law 1168 = .ok (.istore 5, 2) := by decide +kernel
theorem dL_law_1170 : decode cL_law 1170 = .ok (.aload_n 2, 1) := by decide +kernel
theorem dL_law_1171 : decode cL_law 1171 = .ok (.aload_n 0, 1) := by decide +kernel
theorem dL_law_1172 : decode cL_law 1172 = .ok (.iload 4, 2) := by decide +kernel
theorem dL_law_1174 : decode cL_law 1174 = .ok (.iconst 1, 1) := by decide +kernel
theorem dL_law_1175 : decode cL_law 1175 = .ok (.iadd, 1) := by decide +kernel
theorem dL_law_1176 : decode cL_law 1176 = .ok (.iaload, 1) := by decide +kernel
theorem dL_law_1177 : decode cL_law 1177 = .ok (.invokevirtual 153, 3) := by decide +kernel
theorem dL_law_1180 : decode cL_law 1180 = .ok (.istore 6, 2) := by decide +kernel
theorem dL_law_1182 : decode cL_law 1182 = .ok (.aload_n 2, 1) := by decide +kernel
theorem dL_law_1183 : decode cL_law 1183 = .ok (.invokevirtual 86, 3) := by decide +kernel
theorem dL_law_1186 : decode cL_law 1186 = .ok (.iload 5, 2) := by decide +kernel
theorem dL_law_1188 : decode cL_law 1188 = .ok (.if_icmp .eq 5, 3) := by decide +kernel
theorem dL_law_1191 : decode cL_law 1191 = .ok (.iconst 0, 1) := by decide +kernel
theorem dL_law_1192 : decode cL_law 1192 = .ok (.ireturn, 1) := by decide +kernel
theorem dL_law_1193 : decode cL_law 1193 = .ok (.iload 5, 2) := by decide +kernel
theorem dL_law_1195 : decode cL_law 1195 = .ok (.ifCond .ne 15, 3) := by decide +kernel
theorem dL_law_1198 : decode cL_law 1198 = .ok (.aload_n 3, 1) := by decide +kernel
theorem dL_law_1199 : decode cL_law 1199 = .ok (.iconst 0, 1) := by decide +kernel
theorem dL_law_1200 : decode cL_law 1200 = .ok (.laload, 1) := by decide +kernel
theorem dL_law_1201 : decode cL_law 1201 = .ok (.iload 6, 2) := by decide +kernel
theorem dL_law_1203 : decode cL_law 1203 = .ok (.i2l, 1) := by decide +kernel
theorem dL_law_1204 : decode cL_law 1204 = .ok (.lcmp, 1) := by decide +kernel
theorem dL_law_1205 : decode cL_law 1205 = .ok (.ifCond .eq 5, 3) := by decide +kernel
theorem dL_law_1208 : decode cL_law 1208 = .ok (.iconst 0, 1) := by decide +kernel
theorem dL_law_1209 : decode cL_law 1209 = .ok (.ireturn, 1) := by decide +kernel
theorem dL_law_1210 : decode cL_law 1210 = .ok (.goto 3, 3) := by decide +kernel
theorem dL_law_1213 : decode cL_law 1213 = .ok (.iinc 4 4, 3) := by decide +kernel
theorem dL_law_1216 : decode cL_law 1216 = .ok (.goto (-1193), 3) := by decide +kernel
theorem dL_law_1219 : decode cL_law 1219 = .ok (.iconst 1, 1) := by decide +kernel
theorem dL_law_1220 : decode cL_law 1220 = .ok (.ireturn, 1) := by decide +kernel
end
section
/-! MY MEMORY: what the objects of the world hold, by number and place; the world that it stands for; the judgement zW over it. -/
section ZMEM
/-- kinds and lengths; ints; longs; references -/
abbrev zM : Type := List (Nat × Nat) × (Nat → Nat → Int32) × (Nat → Nat → Int64) × (Nat → Nat → Option Nat)
def mK (M : zM) (a : Nat) : Nat := (M.1.getD a (99, 0)).1
def mN (M : zM) (a : Nat) : Nat := (M.1.getD a (99, 0)).2
def mI (M : zM) (a k : Nat) : Int32 := M.2.1 a k
def mL (M : zM) (a k : Nat) : Int64 := M.2.2.1 a k
def mR (M : zM) (a k : Nat) : Option Nat := M.2.2.2 a k
def wI (M : zM) (a k : Nat) (v : Int32) : zM := (M.1, (fun b j => if b = a ∧ j = k then v else M.2.1 b j), M.2.2.1, M.2.2.2)
def wL (M : zM) (a k : Nat) (v : Int64) : zM := (M.1, M.2.1, (fun b j => if b = a ∧ j = k then v else M.2.2.1 b j), M.2.2.2)
def wR (M : zM) (a k : Nat) (v : Option Nat) : zM := (M.1, M.2.1, M.2.2.1, fun b j => if b = a ∧ j = k then v else M.2.2.2 b j)
/-- a whole row of ints -/
def wIr (M : zM) (a : Nat) (f : Nat → Int32) : zM := (M.1, (fun b j => if b = a then f j else M.2.1 b j), M.2.2.1, M.2.2.2)
/-- one thing more, all zero -/
def mNew (M : zM) (kd len : Nat) : zM := (M.1 ++ [(kd, len)], (fun b j => if b = M.1.length then 0 else M.2.1 b j), (fun b j => if b = M.1.length then 0 else M.2.2.1 b j), fun b j => if b = M.1.length then none else M.2.2.2 b j)
theorem mK_wI (M : zM) (a k : Nat) (v : Int32) (b : Nat) : mK (wI M a k v) b = mK M b := rfl
theorem mK_wL (M : zM) (a k : Nat) (v : Int64) (b : Nat) : mK (wL M a k v) b = mK M b := rfl
theorem mK_wR (M : zM) (a k : Nat) (v : Option Nat) (b : Nat) : mK (wR M a k v) b = mK M b := rfl
theorem mK_wIr (M : zM) (a : Nat) (f : Nat → Int32) (b : Nat) : mK (wIr M a f) b = mK M b := rfl
theorem mN_wI (M : zM) (a k : Nat) (v : Int32) (b : Nat) : mN (wI M a k v) b = mN M b := rfl
theorem mN_wL (M : zM) (a k : Nat) (v : Int64) (b : Nat) : mN (wL M a k v) b = mN M b := rfl
theorem mN_wR (M : zM) (a k : Nat) (v : Option Nat) (b : Nat) : mN (wR M a k v) b = mN M b := rfl
theorem mN_wIr (M : zM) (a : Nat) (f : Nat → Int32) (b : Nat) : mN (wIr M a f) b = mN M b := rfl
theorem mI_wI (M : zM) (a k : Nat) (v : Int32) (b j : Nat) : mI (wI M a k v) b j = if b = a ∧ j = k then v else mI M b j := rfl
theorem mI_wL (M : zM) (a k : Nat) (v : Int64) (b j : Nat) : mI (wL M a k v) b j = mI M b j := rfl
theorem mI_wR (M : zM) (a k : Nat) (v : Option Nat) (b j : Nat) : mI (wR M a k v) b j = mI M b j := rfl
theorem mI_wIr (M : zM) (a : Nat) (f : Nat → Int32) (b j : Nat) : mI (wIr M a f) b j = if b = a then f j else mI M b j := rfl
theorem mL_wI (M : zM) (a k : Nat) (v : Int32) (b j : Nat) : mL (wI M a k v) b j = mL M b j := rfl
theorem mL_wL (M : zM) (a k : Nat) (v : Int64) (b j : Nat) : mL (wL M a k v) b j = if b = a ∧ j = k then v else mL M b j := rfl
theorem mL_wR (M : zM) (a k : Nat) (v : Option Nat) (b j : Nat) : mL (wR M a k v) b j = mL M b j := rfl
theorem mL_wIr (M : zM) (a : Nat) (f : Nat → Int32) (b j : Nat) : mL (wIr M a f) b j = mL M b j := rfl
theorem mR_wI (M : zM) (a k : Nat) (v : Int32) (b j : Nat) : mR (wI M a k v) b j = mR M b j := rfl
theorem mR_wL (M : zM) (a k : Nat) (v : Int64) (b j : Nat) : mR (wL M a k v) b j = mR M b j := rfl
theorem mR_wR (M : zM) (a k : Nat) (v : Option Nat) (b j : Nat) : mR (wR M a k v) b j = if b = a ∧ j = k then v else mR M b j := rfl
theorem mR_wIr (M : zM) (a : Nat) (f : Nat → Int32) (b j : Nat) : mR (wIr M a f) b j = mR M b j := rfl
/-- where it stands: behind which address, the script's address, its length, its ints -/
abbrev zB : Type := Nat × Nat × Nat × (Nat → Int32)
/-- a number stands at an address; number 0 is the script -/
def zad (base : zB) (a : Nat) : Nat := if a = 0 then base.2.1 else base.1 + a
def zv (base : zB) (v : Value) : Value := match v with
  | .ref a => .ref (zad base a)
  | v => v
theorem zad_inj {base : zB} (hb : base.2.1 ≤ base.1) {a b : Nat} (h : zad base a = zad base b) : a = b := by
  unfold zad at h
  split at h <;> split at h <;> omega
theorem zv_cat (base : zB) (v : Value) : (zv base v).category = v.category := by cases v <;> rfl
/-- what a place of a type holds -/
def zf (M : zM) (a : Nat) (ty : FieldType) (j : Nat) : Value := match ty with
  | .long => .long (mL M a j)
  | .object _ => va_rf (mR M a j)
  | .array _ => va_rf (mR M a j)
  | _ => .int (mI M a j)
def zty (ci : Nat) : Nat → FieldType := match ci with
  | 0 => tyX0
  | 1 => tyX1
  | 2 => tyX2
  | 3 => tyX3
  | 4 => tyX4
  | 5 => tyX5
  | 6 => tyX6
  | 7 => tyX7
  | 8 => tyX8
  | 9 => tyX9
  | _ => tyX10
def znf (ci : Nat) : Nat := [6, 9, 2, 7, 8, 4, 13, 4, 6, 8, 43].getD ci 0
def zcell (cy : Nat → ClassId) (base : zB) (M : zM) (a : Nat) : va_E :=
  if mK M a < 11 then .inr (mK M a, (List.range (znf (mK M a))).map (fun j => zv base (zf M a (zty (mK M a) j) j)))
  else if mK M a = 11 then .inl (cy 0, mN M a, .inl (mI M a))
  else if mK M a = 12 then .inl (cy 1, mN M a, .inr (.inl (mL M a)))
  else if mK M a = 13 then .inl (cy 2, mN M a, .inl (mI M a))
  else .inl (cy (mK M a - 11), mN M a, .inr (.inr (.inr (.inr (fun j => (mR M a j).map (fun r => zad base r))))))
def zw (cy : Nat → ClassId) (base : zB) (M : zM) : va_W := (List.range (M.1.length - 1)).map (fun a => (base.1 + (a + 1), zcell cy base M (a + 1)))
theorem zw_get (cy : Nat → ClassId) (base : zB) (M : zM) {a : Nat} (h0 : 0 < a) (h : a < M.1.length) : (zw cy base M)[a - 1]? = some (zad base a, zcell cy base M a) := by
  obtain ⟨b, rfl⟩ : ∃ b, a = b + 1 := ⟨a - 1, by omega⟩
  have hb : b < M.1.length - 1 := by omega
  simp [zw, zad, hb]
theorem zw_put (cy : Nat → ClassId) (base : zB) (M M' : zM) (a : Nat) (h0 : 0 < a) (h1 : M'.1.length = M.1.length) (h2 : ∀ b, b ≠ a → zcell cy base M' b = zcell cy base M b) : zw cy base M' = (zw cy base M).set (a - 1) (zad base a, zcell cy base M' a) := by
  obtain ⟨c, rfl⟩ : ∃ c, a = c + 1 := ⟨a - 1, by omega⟩
  refine List.ext_getElem? (fun k => ?_)
  simp only [zw, h1, List.getElem?_map, List.getElem?_set, List.length_map, List.length_range, Nat.add_sub_cancel, zad, Nat.succ_ne_zero, if_false]
  by_cases hk : c = k
  · subst hk
    by_cases hl : c < M.1.length - 1
    · simp [hl]
    · simp [hl]
  · rw [if_neg hk]
    by_cases hl : k < M.1.length - 1
    · simp [hl, h2 (k + 1) (fun h => hk (by omega))]
    · simp [hl]
theorem mK_lt {M : zM} {a : Nat} (h : mK M a < 99) : a < M.1.length := by
  rcases Nat.lt_or_ge a M.1.length with q | q
  · exact q
  · have h2 : M.1[a]? = none := List.getElem?_eq_none q
    rw [mK, List.getD_eq_getElem?_getD, h2] at h
    exact absurd h (by decide)
def zA (base : zB) : Nat → Prop := fun q => base.1 < q
theorem zw_D (cy : Nat → ClassId) (base : zB) (M : zM) : va_D (zA base) (zw cy base M) := by
  refine ⟨fun i j p q hi hj e => ?_, fun k q hk => ?_⟩
  · simp only [zw, List.getElem?_map, Option.map_eq_some_iff] at hi hj
    obtain ⟨a, ha, rfl⟩ := hi
    obtain ⟨b, hb, rfl⟩ := hj
    have h1 := (List.getElem?_eq_some_iff.mp ha).2
    have h2 := (List.getElem?_eq_some_iff.mp hb).2
    simp only [List.getElem_range] at h1 h2
    dsimp only at e
    omega
  · simp only [zw, List.getElem?_map, Option.map_eq_some_iff] at hk
    obtain ⟨a, ha, rfl⟩ := hk
    show base.1 < base.1 + (a + 1)
    omega
/-- the rows of the world by their kinds -/
theorem zcell_o (cy : Nat → ClassId) (base : zB) {M : zM} {a ci : Nat} (h : mK M a = ci) (hc : ci < 11) : zcell cy base M a = .inr (ci, (List.range (znf ci)).map (fun j => zv base (zf M a (zty ci j) j))) := by
  subst h; simp [zcell, hc]
theorem zcell_i (cy : Nat → ClassId) (base : zB) {M : zM} {a : Nat} (h : mK M a = 11) : zcell cy base M a = .inl (cy 0, mN M a, .inl (mI M a)) := by simp [zcell, h]
theorem zcell_l (cy : Nat → ClassId) (base : zB) {M : zM} {a : Nat} (h : mK M a = 12) : zcell cy base M a = .inl (cy 1, mN M a, .inr (.inl (mL M a))) := by simp [zcell, h]
theorem zcell_z (cy : Nat → ClassId) (base : zB) {M : zM} {a : Nat} (h : mK M a = 13) : zcell cy base M a = .inl (cy 2, mN M a, .inl (mI M a)) := by simp [zcell, h]
theorem zcell_q (cy : Nat → ClassId) (base : zB) {M : zM} {a k : Nat} (h : mK M a = k) (hk : 13 < k) : zcell cy base M a = .inl (cy (k - 11), mN M a, .inr (.inr (.inr (.inr (fun j => (mR M a j).map (fun r => zad base r)))))) := by
  subst h
  simp [zcell, show ¬ mK M a < 11 by omega, show ¬ mK M a = 11 by omega, show ¬ mK M a = 12 by omega, show ¬ mK M a = 13 by omega]
/-- a cell depends on its own rows alone -/
theorem zcell_eq (cy : Nat → ClassId) (base : zB) {M M' : zM} {b : Nat} (h1 : mK M' b = mK M b) (h2 : mN M' b = mN M b) (h3 : ∀ j, mI M' b j = mI M b j) (h4 : ∀ j, mL M' b j = mL M b j) (h5 : ∀ j, mR M' b j = mR M b j) : zcell cy base M' b = zcell cy base M b := by
  have e3 : mI M' b = mI M b := funext h3
  have e4 : mL M' b = mL M b := funext h4
  have e5 : mR M' b = mR M b := funext h5
  have ez : ∀ ty j, zf M' b ty j = zf M b ty j := fun ty j => by cases ty <;> simp [zf, h3, h4, h5]
  simp [zcell, h1, h2, e3, e4, e5, ez]
/-- the fields of an object behind a write -/
theorem zfs_set (base : zB) {M M' : zM} {a ci k : Nat} {v : Value} (hk : zf M' a (zty ci k) k = v) (ho : ∀ j, j ≠ k → zf M' a (zty ci j) j = zf M a (zty ci j) j) :
    (List.range (znf ci)).map (fun j => zv base (zf M' a (zty ci j) j)) = ((List.range (znf ci)).map (fun j => zv base (zf M a (zty ci j) j))).set k (zv base v) := by
  refine List.ext_getElem? (fun i => ?_)
  simp only [List.getElem?_map, List.getElem?_set, List.length_map, List.length_range]
  by_cases hi : k = i
  · subst hi
    by_cases hl : k < znf ci
    · simp [hl, hk]
    · simp [hl]
  · rw [if_neg hi]
    by_cases hl : i < znf ci
    · simp [hl, ho i (fun h => hi h.symm)]
    · simp [hl]
end ZMEM
end
section
/-! THE JUDGEMENT over my memory: zW at a place of a method, zMet of a whole method. The context of the machine is inside. -/
section ZJUDGE
/-- the words of the tables that every state keeps: all methods have them -/
def zBig : List Cond := lw_tbl.filter goodWord
theorem zb_of {w : Cond} (h : w ∈ lw_tbl) (hg : goodWord w = true) : w ∈ zBig := List.mem_filter.mpr ⟨h, hg⟩
theorem zb_all {ws : List Cond} (h : ws.all (fun w => decide (w ∈ lw_tbl) && goodWord w) = true) : ∀ w ∈ ws, w ∈ zBig := fun w hw => by
  have h1 := List.all_eq_true.mp h w hw
  rw [Bool.and_eq_true, decide_eq_true_eq] at h1
  exact zb_of h1.1 h1.2
theorem zb_good {w : Cond} (h : w ∈ zBig) : goodWord w = true := (List.mem_filter.mp h).2
/-- a method: name, code, locals, type, room, handlers -/
abbrev zMu : Type := MethodName × ByteArray × Nat × Option FieldType × Room × List (Nat × Nat × Nat × Nat)
def uY (μ : zMu) : MethodName := μ.1
def uC (μ : zMu) : ByteArray := μ.2.1
def uL (μ : zMu) : Nat := μ.2.2.1
def uR (μ : zMu) : Option FieldType := μ.2.2.2.1
def uM (μ : zMu) : Room := μ.2.2.2.2.1
def uH (μ : zMu) : List (Nat × Nat × Nat × Nat) := μ.2.2.2.2.2
def uK (μ : zMu) : Cond := match uH μ with
  | [] => Cond.code (uY μ) (uC μ) (uL μ) (uR μ)
  | h :: hs => Cond.codeWith (uY μ) (uC μ) (uL μ) (uR μ) (h :: hs)
def uW (μ : zMu) : List Cond := uK μ :: zBig
theorem zgood {μ : zMu} {ws : List Cond} (h : ∀ w ∈ ws, w ∈ zBig) : GoodIn (uW μ) ws := fun w hw => ⟨List.mem_cons_of_mem _ (h w hw), good_of_word (zb_good (h w hw))⟩
theorem zgoodW {μ μ' : zMu} {ws : List Cond} (hk : uK μ' ∈ zBig) (h : ∀ w ∈ ws, w ∈ zBig) : GoodIn (uW μ) (ws ++ uW μ') := zgood (fun w hw => (List.mem_append.mp hw).elim (h w) (fun h9 => (List.mem_cons.mp h9).elim (fun e => by rw [e]; exact hk) (fun h8 => h8)))
abbrev zPhi : Type := (Option Value ⊕ String) → zM → Prop
def ztys (cy : Nat → ClassId) : List (ClassId × FieldType) := [(cy 0, .int), (cy 1, .long), (cy 2, .boolean), (cy 3, .object "PatternHouse$Pattern"), (cy 4, .object "PatternHouse$Piece")]
def zNl : List (String × Nat × MethodName × String) := [(RX9, 9, yX6_init, RX9), (RX9, 18, yX8_init, RX9), (RX9, 25, yX7_init, RX9), (RX9, 32, yX2_init, RX9), (RX9, 39, yX1_init, RX9), (RX9, 46, yX4_init, RX9), (RX3, 11, yX5_init, RX9), (RX4, 23, yX0_init, RX9), (RX4, 55, yX9_holds, RX9), (RX6, 29, yX9_byteOf, RX9), (RX6, 62, yX9_letterOf, RX9), (RX8, 25, yX9_byteOf, RX9), (RX8, 29, yX9_letterOf, RX9)]
def zEx : List String := ["java/lang/IllegalArgumentException", "java/lang/IllegalStateException", "java/lang/IndexOutOfBoundsException"]
def zNo : List (String × String) := [("java/lang/IllegalArgumentException", "java/lang/IllegalStateException"), ("java/lang/IllegalArgumentException", "java/lang/IndexOutOfBoundsException"), ("java/lang/IllegalStateException", "java/lang/IllegalArgumentException"), ("java/lang/IllegalStateException", "java/lang/IndexOutOfBoundsException"), ("java/lang/IndexOutOfBoundsException", "java/lang/IllegalArgumentException"), ("java/lang/IndexOutOfBoundsException", "java/lang/IllegalStateException")]
def zSup : List String := ["java/lang/RuntimeException", "java/lang/Exception", "java/lang/Throwable"]
/-- what the tables say besides the words -/
def zFx (U : State) : Prop := (∀ q ∈ zNl, va_Nw (.methodLinkNest q.1 q.2.1 q.2.2.1 q.2.2.2) U) ∧ (∀ E ∈ zEx, va_Nw (.castable E E) U) ∧ (∀ q ∈ zNo, va_Nc q.1 q.2 U) ∧ va_AO "PatternHouse$Pattern" U ∧ va_AO "PatternHouse$Piece" U ∧ (∀ Y ∈ zSup, va_Nw (.declares (Bundle.init0 Y)) U)
/-- the ground: classes known, the cells of the world lie behind base, what the exceptions need -/
def zG (D : va_G) (cy : Nat → ClassId) (base : zB) (U : State) : Prop := va_K D vwCl (ztys cy) U ∧ (base.1 < U.heap.size ∧ base.2.1 ≤ base.1 ∧ va_X base.2.1 base.2.2.1 base.2.2.2 U U.heap) ∧ vx_Zq Bundle.tN "UNASSIGNED_STACK" Bundle.steD (zA base) U U.heap ∧ vx_Zq Bundle.tN "SUPPRESSED_SENTINEL" Bundle.listD (zA base) U U.heap ∧ zFx U
theorem zFx_moved {s U : State} (hW : s.WarmedH U.vm) (h : zFx s) : zFx U := by
  obtain ⟨h1, h2, h3, h4, h5, h6⟩ := h
  exact ⟨fun q hq => (h1 q hq).warmM hW, fun E hE => (h2 E hE).warmC hW, fun q hq => (h3 q hq).moved hW.alike, h4.moved hW.alike, h5.moved hW.alike, fun Y hY => (h6 Y hY).warmD hW⟩
theorem zG_moved {D : va_G} {cy : Nat → ClassId} {base : zB} {s U : State} (h : zG D cy base s) (hW : s.WarmedH U.vm) (hz : s.heap.size ≤ U.heap.size) (hH : ∀ a : Nat, a < s.heap.size → ¬ zA base a → U.heap[a]? = s.heap[a]?) : zG D cy base U := by
  obtain ⟨h1, h2, h3, h4, h5⟩ := h
  exact ⟨va_K.moved hW.alike h1, ⟨Nat.lt_of_lt_of_le h2.1 hz, h2.2.1, (va_X.moved hW.alike h2.2.2).kept (hH _ (Nat.lt_of_le_of_lt h2.2.1 h2.1) (Nat.not_lt.mpr h2.2.1))⟩, (h3.moved hW.alike).kept hH, (h4.moved hW.alike).kept hH, zFx_moved hW h5⟩
/-- the memory stands in the heap; row 0 is the script's -/
def zS (D : va_G) (cy : Nat → ClassId) (base : zB) (M : zM) (H : Heap) : Prop := va_P D vwCl (zw cy base M) H ∧ mK M 0 = 16 ∧ mN M 0 = base.2.2.1 ∧ ∀ j, mI M 0 j = base.2.2.2 j
/-- op: nothing unknown was made yet, the heap ends with the memory -/
def zP (op : Bool) (D : va_G) (cy : Nat → ClassId) (base : zB) (M : zM) (As : List Value) : Array Value → State → Prop := fun v U => v = (As.map (zv base)).toArray ∧ zG D cy base U ∧ zS D cy base M U.heap ∧ (op = true → U.heap.size = base.1 + M.1.length)
def zQ (D : va_G) (cy : Nat → ClassId) (base : zB) (Φ : zPhi) : Array Value → State → Outcome → State → Prop := fun _ st o t => ∃ (r : Option Value) (M' : zM), o = .returned (r.map (zv base)) ∧ Φ (.inl r) M' ∧ zS D cy base M' t.heap ∧ va_F (zA base) st t
def zX (D : va_G) (cy : Nat → ClassId) (base : zB) (Φ : zPhi) : String → State → State → Prop := fun E st t => ∃ M' : zM, Φ (.inr E) M' ∧ zS D cy base M' t.heap ∧ va_F (zA base) st t
/-- a method's contract -/
def zMet (μ : zMu) (op : Bool) (M : zM) (As : List Value) (Φ : zPhi) : Prop := ∀ (l : Launch) (D : va_G) (cy : Nat → ClassId) (base : zB), l.stackTraces = false →
  vx_Met l (uY μ) (uW μ) (uM μ) (zP op D cy base M As) (zQ D cy base Φ) (zX D cy base Φ) (uM μ).cells (uM μ).slots (zA base)
/-- what a walk knows of its method -/
def zC (μ : zMu) (op : Option Nat) (l : Launch) (D : va_G) (cy : Nat → ClassId) (base : zB) (p : Program) (s : State) (m : MethodId) (args : Array Value) (meth : Method) (c : Code) : Prop :=
  p.tables.exec = Jvm.exec ∧ c.code = uC μ ∧ c.maxLocals = uL μ ∧ s.vm.findClass (uY μ).cls = some m.cls ∧ (∀ w ∈ zBig, w.before args s = true) ∧ zG D cy base s ∧ meth.locks = false ∧ meth.sig.returnType = uR μ ∧ l.stackTraces = false ∧ c.exceptionTable.toList = tableOf (uH μ) ∧ meth.name = (uY μ).name ∧ (∀ n, op = some n → s.heap.size = base.1 + n)
def zl (base : zB) (L : List (Nat × Value)) : List (Nat × Value) := L.map (fun q => (q.1, zv base q.2))
/-- the judgement -/
def zW (μ : zMu) (op : Option Nat) (u : Nat × Nat) (M : zM) (pc : Nat) (L : List (Nat × Value)) (st : List Value) (Φ : zPhi) : Prop :=
  ∀ (D : va_G) (cy : Nat → ClassId) (base : zB) (p : Program) (l : Launch) (e : Env) (s : State) (m : MethodId) (args : Array Value) (below : List Frame) (meth : Method) (c : Code), zC μ op l D cy base p s m args meth c →
  ∀ (H : Heap) (locs : List Loc) (ls : Array Slot), zS D cy base M H → va_S (zA base) s.heap H locs → lv_has ls (uL μ) (zl base L) →
  W p l e (uM μ) s m args below meth c H locs u.1 u.2 (vx_MQ below (zQ D cy base Φ) (zX D cy base Φ) args s (uM μ).cells (uM μ).slots (zA base)) (F0 m pc ls (st.map (zv base)))
theorem zW_mono {μ : zMu} {op : Option Nat} {u : Nat × Nat} {M : zM} {pc : Nat} {L : List (Nat × Value)} {st : List Value} {Φ Ψ : zPhi} (hΦ : ∀ o M', Φ o M' → Ψ o M') (h : zW μ op u M pc L st Φ) : zW μ op u M pc L st Ψ := by
  intro D cy base p l e s m args below meth c C H locs ls hM hS hl T hT X
  obtain ⟨t, a1, o, b1, b2, b3⟩ := h D cy base p l e s m args below meth c C H locs ls hM hS hl T hT X
  refine ⟨t, a1, o, b1, b2, ?_⟩
  rcases b3 with ⟨⟨r, M', q1, q2, q3, q4⟩, b5⟩ | ⟨q, q1, E, ce, L9, ⟨M', x1, x2, x3⟩, x4⟩
  · exact Or.inl ⟨⟨r, M', q1, hΦ _ _ q2, q3, q4⟩, b5⟩
  · exact Or.inr ⟨q, q1, E, ce, L9, ⟨M', hΦ _ _ x1, x2, x3⟩, x4⟩
theorem zMet_mono {μ : zMu} {op : Bool} {M : zM} {As : List Value} {Φ Ψ : zPhi} (hΦ : ∀ o M', Φ o M' → Ψ o M') (h : zMet μ op M As Φ) : zMet μ op M As Ψ := by
  intro l D cy base hl p e h1 h2 h3 s m args below h4 h5 h6 h7
  obtain ⟨n, o, a1, a2, a3, a4⟩ := h l D cy base hl p e h1 h2 h3 s m args below h4 h5 h6 h7
  refine ⟨n, o, a1, a2, a3, ?_⟩
  rcases a4 with ⟨⟨r, M', q1, q2, q3, q4⟩, b5⟩ | ⟨q, q1, E, ce, L9, ⟨M', x1, x2, x3⟩, x4⟩
  · exact Or.inl ⟨⟨r, M', q1, hΦ _ _ q2, q3, q4⟩, b5⟩
  · exact Or.inr ⟨q, q1, E, ce, L9, ⟨M', hΦ _ _ x1, x2, x3⟩, x4⟩
/-- one that doesn't throw -/
theorem zMet_met {μ : zMu} {op : Bool} {M : zM} {As : List Value} {Φ : zPhi} (h : zMet μ op M As Φ) (hno : ∀ E M', ¬ Φ (.inr E) M') (l : Launch) (D : va_G) (cy : Nat → ClassId) (base : zB) (hl : l.stackTraces = false) :
    Met l (uY μ) (uW μ) (uM μ) (zP op D cy base M As) (zQ D cy base Φ) (uM μ).cells (uM μ).slots (zA base) := by
  intro p e h1 h2 h3 s m args below h4 h5 h6 h7
  obtain ⟨n, o, a1, a2, a3, a4⟩ := h l D cy base hl p e h1 h2 h3 s m args below h4 h5 h6 h7
  refine ⟨n, o, a1, a2, a3, ?_⟩
  rcases a4 with h | ⟨q, q1, E, ce, L9, ⟨M', x1, x2, x3⟩, x4⟩
  · exact h
  · exact absurd x1 (hno _ _)
theorem zl_args (base : zB) : ∀ (vs : List Value) (i : Nat), lv_args i (vs.map (zv base)) = zl base (lv_args i vs) := by
  intro vs
  induction vs with
  | nil => intro i; rfl
  | cons v vs ih => intro i; simp only [List.map_cons, lv_args, zl, zv_cat]; rw [ih]; rfl
theorem zl_sl (base : zB) (vs : List Value) : (lg_sl (vs.map (zv base))).length = (lg_sl vs).length := by
  induction vs with
  | nil => rfl
  | cons v vs ih =>
    simp only [lg_sl, List.map_cons, List.flatMap_cons, List.length_append] at ih ⊢
    rw [ih]
    cases v <;> rfl
theorem zblind {op : Bool} {D : va_G} {cy : Nat → ClassId} {base : zB} {M : zM} {As : List Value} : FrameBlind (zP op D cy base M As) := by
  intro a U g mk h
  obtain ⟨h1, ⟨g1, g2, g3, g4, g5⟩, h3⟩ := h
  refine ⟨h1, ⟨va_K.moved (u := U) (U := U.calling g mk a) (Vm.Alike.refl U.vm) g1, ⟨g2.1, g2.2.1, va_X.moved (u := U) (U := U.calling g mk a) (Vm.Alike.refl U.vm) g2.2.2⟩, vx_Zq.moved (u := U) (U := U.calling g mk a) (Vm.Alike.refl U.vm) g3, vx_Zq.moved (u := U) (U := U.calling g mk a) (Vm.Alike.refl U.vm) g4, ?_⟩, h3⟩
  obtain ⟨f1, f2, f3, f4, f5, f6⟩ := g5
  exact ⟨fun q hq => va_Nw.same rfl rfl (f1 q hq), fun E hE => va_Nw.same rfl rfl (f2 E hE), fun q hq => (f3 q hq).moved (U := U.calling g mk a) (Vm.Alike.refl U.vm), f4.moved (U := U.calling g mk a) (Vm.Alike.refl U.vm), f5.moved (U := U.calling g mk a) (Vm.Alike.refl U.vm), fun Y hY => va_Nw.same rfl rfl (f6 Y hY)⟩
set_option maxHeartbeats 4000000 in
theorem zMet_of {μ : zMu} {op : Bool} {M : zM} {As : List Value} {Φ : zPhi} {L : List (Nat × Value)} (hy : plainName (uY μ).cls = true) (hH : uH μ = []) (hL : lv_args 0 As = L) (hn : (lg_sl As).length ≤ uL μ)
    (k : zW μ (bif op then some M.1.length else none) (0, 0) M 0 L [] Φ) : zMet μ op M As Φ := by
  intro l D cy base hlt
  have hw : uW μ = Cond.code (uY μ) (uC μ) (uL μ) (uR μ) :: zBig := by unfold uW uK; rw [hH]
  refine vx_ofW (cc := uC μ) (maxL := uL μ) (ret := uR μ) hy hw ?_
  intro p e s m args below meth c s₁ B hml ht hv
  obtain ⟨rfl, hG, hM, hop⟩ := hv
  have hts := atoms_spec (ws := uW μ) B.pre
  have hown : s.vm.findClass (uY μ).cls = some m.cls := findClass_of_methodNamed B.named
  have hnm : meth.name = (uY μ).name := (name_of_methodNamed B.named B.method).1
  have htab : c.exceptionTable.toList = tableOf (uH μ) := by
    rw [hH]
    exact List.eq_nil_iff_forall_not_mem.mpr (fun x hx => ht x hx)
  have C : zC μ (bif op then some M.1.length else none) l D cy base p s m (As.map (zv base)).toArray meth c := ⟨B.exec, B.bytes, hml, hown, fun w hw9 => hts w (List.mem_cons_of_mem _ hw9), hG, B.notSynchronized, B.returns, hlt, htab, hnm, fun n hn => by
    cases op with
    | false => cases hn
    | true => cases hn; exact hop rfl⟩
  have hl := lv_entry (As.map (zv base)) (n := uL μ) (by rw [zl_sl]; exact hn)
  rw [zl_args, hL] at hl
  rw [lg_entry_eq]
  exact k D cy base p l e s m _ below meth c C s.heap [] _ hM va_S.rf hl
end ZJUDGE
end
section
/-! A RULE OF THE JUDGEMENT for each kind of instruction. Written by program (wip/mk_rules.py). -/
section ZRULES
def jushr (x : Int64) (y : Int32) : Int64 := (x.toUInt64 >>> (y.toInt64.toUInt64 &&& Int64.toUInt64 63)).toInt64
def jshr (x : Int64) (y : Int32) : Int64 := x >>> (y.toInt64 &&& 63)
def jshl (x : Int64) (y : Int32) : Int64 := x <<< (y.toInt64 &&& 63)
def zin (i : Int32) (n : Nat) : Bool := decide (¬ (i < 0 ∨ n ≤ i.toNatClampNeg))
theorem zin_in {i : Int32} {n : Nat} (h : zin i n = true) : vp_in i n := show ¬ (i < 0 ∨ n ≤ i.toNatClampNeg) from of_decide_eq_true h
theorem zin_nI {j n : Nat} (h : j < n) (hn : n < 2 ^ 31) : zin (nI j) n = true := decide_eq_true (show ¬ (nI j < 0 ∨ n ≤ (nI j).toNatClampNeg) from vp_in_nI h hn)
theorem zl_at {base : zB} {ls : Array Slot} {n : Nat} {L : List (Nat × Value)} (h : lv_has ls n (zl base L)) {k i : Nat} {v : Value} (hk : L[k]? = some (i, v)) : ls[i]? = some (.val (zv base v)) :=
  lv_at h k (by simp [zl, hk])
theorem zl_st1 (base : zB) (L : List (Nat × Value)) (i : Nat) (v : Value) : (i, zv base v) :: (zl base L).filter (fun q => !(q.1 == i) && !(q.1 + 1 == i && q.2.category == 2)) = zl base ((i, v) :: L.filter (fun q => !(q.1 == i) && !(q.1 + 1 == i && q.2.category == 2))) := by
  simp only [zl, List.map_cons, List.filter_map, Function.comp_def, zv_cat]
theorem zl_st2 (base : zB) (L : List (Nat × Value)) (i : Nat) (v : Value) : (i, zv base v) :: (zl base L).filter (fun q => !(q.1 == i) && (!(q.1 == i + 1) && !(q.1 + 1 == i && q.2.category == 2))) = zl base ((i, v) :: L.filter (fun q => !(q.1 == i) && (!(q.1 == i + 1) && !(q.1 + 1 == i && q.2.category == 2)))) := by
  simp only [zl, List.map_cons, List.filter_map, Function.comp_def, zv_cat]
theorem zv_rf (base : zB) (x : Option Nat) : zv base (va_rf x) = va_rf (x.map (fun r => zad base r)) := by cases x <;> rfl
variable {μ : zMu} {op : Option Nat} {u : Nat × Nat} {M : zM} {pc q : Nat} {L : List (Nat × Value)} {st : List Value} {Φ : zPhi}
theorem zr_iconst {n : Int} {v : Int32} (d : decode (uC μ) pc = .ok (.iconst n, 1)) (eq : pc + 1 = q) (hv : Int32.ofInt n = v) (k : zW μ op u M q L (.int v :: st) Φ) : zW μ op u M pc L (st) Φ := by
  subst eq
  intro D cy base p l e s m args below meth c C H locs ls hM hS hl
  exact lv_iconst C.1 C.2.1 d hv (k D cy base p l e s m args below meth c C H locs ls hM hS hl)
theorem zr_bipush {n : Int} {v : Int32} (d : decode (uC μ) pc = .ok (.bipush n, 2)) (eq : pc + 2 = q) (hv : (Int8.ofInt n).toInt32 = v) (k : zW μ op u M q L (.int v :: st) Φ) : zW μ op u M pc L (st) Φ := by
  subst eq
  intro D cy base p l e s m args below meth c C H locs ls hM hS hl
  exact lv_bipush C.1 C.2.1 d hv (k D cy base p l e s m args below meth c C H locs ls hM hS hl)
theorem zr_sipush {n : Int} {v : Int32} (d : decode (uC μ) pc = .ok (.sipush n, 3)) (eq : pc + 3 = q) (hv : (Int16.ofInt n).toInt32 = v) (k : zW μ op u M q L (.int v :: st) Φ) : zW μ op u M pc L (st) Φ := by
  subst eq
  intro D cy base p l e s m args below meth c C H locs ls hM hS hl
  exact lv_sipush C.1 C.2.1 d hv (k D cy base p l e s m args below meth c C H locs ls hM hS hl)
theorem zr_lconst {n : Fin 2} {v : Int64} (d : decode (uC μ) pc = .ok (.lconst n, 1)) (eq : pc + 1 = q) (hv : Int64.ofNat (n : Nat) = v) (k : zW μ op u M q L (.long v :: st) Φ) : zW μ op u M pc L (st) Φ := by
  subst eq
  intro D cy base p l e s m args below meth c C H locs ls hM hS hl
  exact lv_lconst C.1 C.2.1 d hv (k D cy base p l e s m args below meth c C H locs ls hM hS hl)
theorem zr_ldc {idx : Nat} {v : Int32} (d : decode (uC μ) pc = .ok (.ldc idx, 2)) (eq : pc + 2 = q) (hw : Jvm.Cond.constant (uY μ).cls idx v ∈ zBig) (k : zW μ op u M q L (.int v :: st) Φ) : zW μ op u M pc L st Φ := by
  subst eq
  intro D cy base p l e s m args below meth c C H locs ls hM hS hl
  exact lv_ldc C.1 C.2.1 C.2.2.2.1 (C.2.2.2.2.1 _ hw) d (k D cy base p l e s m args below meth c C H locs ls hM hS hl)
theorem zr_ldc2 {idx : Nat} {v : Int64} (d : decode (uC μ) pc = .ok (.ldc2_w idx, 3)) (eq : pc + 3 = q) (hw : Jvm.Cond.constantLong (uY μ).cls idx v ∈ zBig) (k : zW μ op u M q L (.long v :: st) Φ) : zW μ op u M pc L st Φ := by
  subst eq
  intro D cy base p l e s m args below meth c C H locs ls hM hS hl
  exact lv_ldc2 C.1 C.2.1 C.2.2.2.1 (C.2.2.2.2.1 _ hw) d (k D cy base p l e s m args below meth c C H locs ls hM hS hl)
theorem zr_iload {i : Nat} {x : Int32} (d : decode (uC μ) pc = .ok (.iload i, 2)) (eq : pc + 2 = q) (j : Nat) (hj : L[j]? = some (i, .int x)) (k : zW μ op u M q L (.int x :: st) Φ) : zW μ op u M pc L st Φ := by
  subst eq
  intro D cy base p l e s m args below meth c C H locs ls hM hS hl
  exact lv_iload C.1 C.2.1 d (zl_at hl hj) (k D cy base p l e s m args below meth c C H locs ls hM hS hl)
theorem zr_iload_n {f : Fin 4} {i : Nat} {x : Int32} (d : decode (uC μ) pc = .ok (.iload_n f, 1)) (eq : pc + 1 = q) (hi : (f : Nat) = i) (j : Nat) (hj : L[j]? = some (i, .int x)) (k : zW μ op u M q L (.int x :: st) Φ) : zW μ op u M pc L st Φ := by
  subst eq
  intro D cy base p l e s m args below meth c C H locs ls hM hS hl
  exact lv_iload_n C.1 C.2.1 d hi (zl_at hl hj) (k D cy base p l e s m args below meth c C H locs ls hM hS hl)
theorem zr_lload {i : Nat} {x : Int64} (d : decode (uC μ) pc = .ok (.lload i, 2)) (eq : pc + 2 = q) (j : Nat) (hj : L[j]? = some (i, .long x)) (k : zW μ op u M q L (.long x :: st) Φ) : zW μ op u M pc L st Φ := by
  subst eq
  intro D cy base p l e s m args below meth c C H locs ls hM hS hl
  exact lv_lload C.1 C.2.1 d (zl_at hl hj) (k D cy base p l e s m args below meth c C H locs ls hM hS hl)
theorem zr_lload_n {f : Fin 4} {i : Nat} {x : Int64} (d : decode (uC μ) pc = .ok (.lload_n f, 1)) (eq : pc + 1 = q) (hi : (f : Nat) = i) (j : Nat) (hj : L[j]? = some (i, .long x)) (k : zW μ op u M q L (.long x :: st) Φ) : zW μ op u M pc L st Φ := by
  subst eq
  intro D cy base p l e s m args below meth c C H locs ls hM hS hl
  exact lv_lload_n C.1 C.2.1 d hi (zl_at hl hj) (k D cy base p l e s m args below meth c C H locs ls hM hS hl)
theorem zr_aload {i : Nat} {x : Nat} (d : decode (uC μ) pc = .ok (.aload i, 2)) (eq : pc + 2 = q) (j : Nat) (hj : L[j]? = some (i, .ref x)) (k : zW μ op u M q L (.ref x :: st) Φ) : zW μ op u M pc L st Φ := by
  subst eq
  intro D cy base p l e s m args below meth c C H locs ls hM hS hl
  exact lv_aload C.1 C.2.1 d (zl_at hl hj) (k D cy base p l e s m args below meth c C H locs ls hM hS hl)
theorem zr_aload_n {f : Fin 4} {i : Nat} {x : Nat} (d : decode (uC μ) pc = .ok (.aload_n f, 1)) (eq : pc + 1 = q) (hi : (f : Nat) = i) (j : Nat) (hj : L[j]? = some (i, .ref x)) (k : zW μ op u M q L (.ref x :: st) Φ) : zW μ op u M pc L st Φ := by
  subst eq
  intro D cy base p l e s m args below meth c C H locs ls hM hS hl
  exact lv_aload_n C.1 C.2.1 d hi (zl_at hl hj) (k D cy base p l e s m args below meth c C H locs ls hM hS hl)
theorem zr_istore {i : Nat} {x : Int32} {L' : List (Nat × Value)} (d : decode (uC μ) pc = .ok (.istore i, 2)) (eq : pc + 2 = q) (hn : i < uL μ) (hL : (i, Value.int x) :: L.filter (fun q => !(q.1 == i) && !(q.1 + 1 == i && q.2.category == 2)) = L') (k : zW μ op u M q L' st Φ) : zW μ op u M pc L (.int x :: st) Φ := by
  subst eq
  subst hL
  intro D cy base p l e s m args below meth c C H locs ls hM hS hl
  exact lv_istore C.1 C.2.1 d hl hn (zl_st1 base L i (Value.int x)) (fun ls' hl' => k D cy base p l e s m args below meth c C H locs ls' hM hS hl')
theorem zr_istore_n {f : Fin 4} {i : Nat} {x : Int32} {L' : List (Nat × Value)} (d : decode (uC μ) pc = .ok (.istore_n f, 1)) (eq : pc + 1 = q) (hi : (f : Nat) = i) (hn : i < uL μ) (hL : (i, Value.int x) :: L.filter (fun q => !(q.1 == i) && !(q.1 + 1 == i && q.2.category == 2)) = L') (k : zW μ op u M q L' st Φ) : zW μ op u M pc L (.int x :: st) Φ := by
  subst eq
  subst hL
  intro D cy base p l e s m args below meth c C H locs ls hM hS hl
  exact lv_istore_n C.1 C.2.1 d hi hl hn (zl_st1 base L i (Value.int x)) (fun ls' hl' => k D cy base p l e s m args below meth c C H locs ls' hM hS hl')
theorem zr_astore {i : Nat} {x : Nat} {L' : List (Nat × Value)} (d : decode (uC μ) pc = .ok (.astore i, 2)) (eq : pc + 2 = q) (hn : i < uL μ) (hL : (i, Value.ref x) :: L.filter (fun q => !(q.1 == i) && !(q.1 + 1 == i && q.2.category == 2)) = L') (k : zW μ op u M q L' st Φ) : zW μ op u M pc L (.ref x :: st) Φ := by
  subst eq
  subst hL
  intro D cy base p l e s m args below meth c C H locs ls hM hS hl
  exact lv_astore C.1 C.2.1 d hl hn (zl_st1 base L i (Value.ref x)) (fun ls' hl' => k D cy base p l e s m args below meth c C H locs ls' hM hS hl')
theorem zr_astore_n {f : Fin 4} {i : Nat} {x : Nat} {L' : List (Nat × Value)} (d : decode (uC μ) pc = .ok (.astore_n f, 1)) (eq : pc + 1 = q) (hi : (f : Nat) = i) (hn : i < uL μ) (hL : (i, Value.ref x) :: L.filter (fun q => !(q.1 == i) && !(q.1 + 1 == i && q.2.category == 2)) = L') (k : zW μ op u M q L' st Φ) : zW μ op u M pc L (.ref x :: st) Φ := by
  subst eq
  subst hL
  intro D cy base p l e s m args below meth c C H locs ls hM hS hl
  exact lv_astore_n C.1 C.2.1 d hi hl hn (zl_st1 base L i (Value.ref x)) (fun ls' hl' => k D cy base p l e s m args below meth c C H locs ls' hM hS hl')
theorem zr_lstore {i : Nat} {x : Int64} {L' : List (Nat × Value)} (d : decode (uC μ) pc = .ok (.lstore i, 2)) (eq : pc + 2 = q) (hn : i + 1 < uL μ) (hL : (i, Value.long x) :: L.filter (fun q => !(q.1 == i) && (!(q.1 == i + 1) && !(q.1 + 1 == i && q.2.category == 2))) = L') (k : zW μ op u M q L' st Φ) : zW μ op u M pc L (.long x :: st) Φ := by
  subst eq
  subst hL
  intro D cy base p l e s m args below meth c C H locs ls hM hS hl
  exact lv_lstore C.1 C.2.1 d hl hn (zl_st2 base L i (Value.long x)) (fun ls' hl' => k D cy base p l e s m args below meth c C H locs ls' hM hS hl')
theorem zr_lstore_n {f : Fin 4} {i : Nat} {x : Int64} {L' : List (Nat × Value)} (d : decode (uC μ) pc = .ok (.lstore_n f, 1)) (eq : pc + 1 = q) (hi : (f : Nat) = i) (hn : i + 1 < uL μ) (hL : (i, Value.long x) :: L.filter (fun q => !(q.1 == i) && (!(q.1 == i + 1) && !(q.1 + 1 == i && q.2.category == 2))) = L') (k : zW μ op u M q L' st Φ) : zW μ op u M pc L (.long x :: st) Φ := by
  subst eq
  subst hL
  intro D cy base p l e s m args below meth c C H locs ls hM hS hl
  exact lv_lstore_n C.1 C.2.1 d hi hl hn (zl_st2 base L i (Value.long x)) (fun ls' hl' => k D cy base p l e s m args below meth c C H locs ls' hM hS hl')
theorem zr_iinc {i : Nat} {n : Int} {x v : Int32} {L' : List (Nat × Value)} (d : decode (uC μ) pc = .ok (.iinc i n, 3)) (eq : pc + 3 = q) (j : Nat) (hj : L[j]? = some (i, .int x)) (hv : x + Int32.ofInt n = v) (hn : i < uL μ) (hL : (i, Value.int v) :: L.filter (fun q => !(q.1 == i) && !(q.1 + 1 == i && q.2.category == 2)) = L') (k : zW μ op u M q L' st Φ) : zW μ op u M pc L st Φ := by
  subst eq
  subst hL
  intro D cy base p l e s m args below meth c C H locs ls hM hS hl
  exact lv_iinc (k := j) C.1 C.2.1 d hl (by simp [zl, hj]; rfl) hv hn (zl_st1 base L i (Value.int v)) (fun ls' hl' => k D cy base p l e s m args below meth c C H locs ls' hM hS hl')
theorem zr_iadd {x y : Int32} (d : decode (uC μ) pc = .ok (.iadd, 1)) (eq : pc + 1 = q) (k : zW μ op u M q L (.int (x + y) :: st) Φ) : zW μ op u M pc L (.int y :: .int x :: st) Φ := by
  subst eq
  intro D cy base p l e s m args below meth c C H locs ls hM hS hl
  exact lv_iadd C.1 C.2.1 d (k D cy base p l e s m args below meth c C H locs ls hM hS hl)
theorem zr_isub {x y : Int32} (d : decode (uC μ) pc = .ok (.isub, 1)) (eq : pc + 1 = q) (k : zW μ op u M q L (.int (x - y) :: st) Φ) : zW μ op u M pc L (.int y :: .int x :: st) Φ := by
  subst eq
  intro D cy base p l e s m args below meth c C H locs ls hM hS hl
  exact lv_isub C.1 C.2.1 d (k D cy base p l e s m args below meth c C H locs ls hM hS hl)
theorem zr_imul {x y : Int32} (d : decode (uC μ) pc = .ok (.imul, 1)) (eq : pc + 1 = q) (k : zW μ op u M q L (.int (x * y) :: st) Φ) : zW μ op u M pc L (.int y :: .int x :: st) Φ := by
  subst eq
  intro D cy base p l e s m args below meth c C H locs ls hM hS hl
  exact lv_imul C.1 C.2.1 d (k D cy base p l e s m args below meth c C H locs ls hM hS hl)
theorem zr_iand {x y : Int32} (d : decode (uC μ) pc = .ok (.iand, 1)) (eq : pc + 1 = q) (k : zW μ op u M q L (.int (x &&& y) :: st) Φ) : zW μ op u M pc L (.int y :: .int x :: st) Φ := by
  subst eq
  intro D cy base p l e s m args below meth c C H locs ls hM hS hl
  exact lv_iand C.1 C.2.1 d (k D cy base p l e s m args below meth c C H locs ls hM hS hl)
theorem zr_idiv {x y : Int32} (d : decode (uC μ) pc = .ok (.idiv, 1)) (eq : pc + 1 = q) (hne : ¬ y = 0) (k : zW μ op u M q L (.int (x / y) :: st) Φ) : zW μ op u M pc L (.int y :: .int x :: st) Φ := by
  subst eq
  intro D cy base p l e s m args below meth c C H locs ls hM hS hl
  exact lv_idiv C.1 C.2.1 d hne (k D cy base p l e s m args below meth c C H locs ls hM hS hl)
theorem zr_irem {x y : Int32} (d : decode (uC μ) pc = .ok (.irem, 1)) (eq : pc + 1 = q) (hne : ¬ y = 0) (k : zW μ op u M q L (.int (x - x / y * y) :: st) Φ) : zW μ op u M pc L (.int y :: .int x :: st) Φ := by
  subst eq
  intro D cy base p l e s m args below meth c C H locs ls hM hS hl
  exact lv_irem C.1 C.2.1 d hne (k D cy base p l e s m args below meth c C H locs ls hM hS hl)
theorem zr_ladd {x y : Int64} (d : decode (uC μ) pc = .ok (.ladd, 1)) (eq : pc + 1 = q) (k : zW μ op u M q L (.long (x + y) :: st) Φ) : zW μ op u M pc L (.long y :: .long x :: st) Φ := by
  subst eq
  intro D cy base p l e s m args below meth c C H locs ls hM hS hl
  exact lv_ladd C.1 C.2.1 d (k D cy base p l e s m args below meth c C H locs ls hM hS hl)
theorem zr_lsub {x y : Int64} (d : decode (uC μ) pc = .ok (.lsub, 1)) (eq : pc + 1 = q) (k : zW μ op u M q L (.long (x - y) :: st) Φ) : zW μ op u M pc L (.long y :: .long x :: st) Φ := by
  subst eq
  intro D cy base p l e s m args below meth c C H locs ls hM hS hl
  exact lv_lsub C.1 C.2.1 d (k D cy base p l e s m args below meth c C H locs ls hM hS hl)
theorem zr_lmul {x y : Int64} (d : decode (uC μ) pc = .ok (.lmul, 1)) (eq : pc + 1 = q) (k : zW μ op u M q L (.long (x * y) :: st) Φ) : zW μ op u M pc L (.long y :: .long x :: st) Φ := by
  subst eq
  intro D cy base p l e s m args below meth c C H locs ls hM hS hl
  exact lv_lmul C.1 C.2.1 d (k D cy base p l e s m args below meth c C H locs ls hM hS hl)
theorem zr_land {x y : Int64} (d : decode (uC μ) pc = .ok (.land, 1)) (eq : pc + 1 = q) (k : zW μ op u M q L (.long (x &&& y) :: st) Φ) : zW μ op u M pc L (.long y :: .long x :: st) Φ := by
  subst eq
  intro D cy base p l e s m args below meth c C H locs ls hM hS hl
  exact lv_land C.1 C.2.1 d (k D cy base p l e s m args below meth c C H locs ls hM hS hl)
theorem zr_lor {x y : Int64} (d : decode (uC μ) pc = .ok (.lor, 1)) (eq : pc + 1 = q) (k : zW μ op u M q L (.long (x ||| y) :: st) Φ) : zW μ op u M pc L (.long y :: .long x :: st) Φ := by
  subst eq
  intro D cy base p l e s m args below meth c C H locs ls hM hS hl
  exact lv_lor C.1 C.2.1 d (k D cy base p l e s m args below meth c C H locs ls hM hS hl)
theorem zr_lxor {x y : Int64} (d : decode (uC μ) pc = .ok (.lxor, 1)) (eq : pc + 1 = q) (k : zW μ op u M q L (.long (x ^^^ y) :: st) Φ) : zW μ op u M pc L (.long y :: .long x :: st) Φ := by
  subst eq
  intro D cy base p l e s m args below meth c C H locs ls hM hS hl
  exact lv_lxor C.1 C.2.1 d (k D cy base p l e s m args below meth c C H locs ls hM hS hl)
theorem zr_lushr {x : Int64} {y : Int32} (d : decode (uC μ) pc = .ok (.lushr, 1)) (eq : pc + 1 = q) (k : zW μ op u M q L (.long (jushr x y) :: st) Φ) : zW μ op u M pc L (.int y :: .long x :: st) Φ := by
  subst eq
  intro D cy base p l e s m args below meth c C H locs ls hM hS hl
  exact lv_lushr C.1 C.2.1 d rfl (k D cy base p l e s m args below meth c C H locs ls hM hS hl)
theorem zr_lshr {x : Int64} {y : Int32} (d : decode (uC μ) pc = .ok (.lshr, 1)) (eq : pc + 1 = q) (k : zW μ op u M q L (.long (jshr x y) :: st) Φ) : zW μ op u M pc L (.int y :: .long x :: st) Φ := by
  subst eq
  intro D cy base p l e s m args below meth c C H locs ls hM hS hl
  exact lv_lshr C.1 C.2.1 d rfl (k D cy base p l e s m args below meth c C H locs ls hM hS hl)
theorem zr_lshl {x : Int64} {y : Int32} (d : decode (uC μ) pc = .ok (.lshl, 1)) (eq : pc + 1 = q) (k : zW μ op u M q L (.long (jshl x y) :: st) Φ) : zW μ op u M pc L (.int y :: .long x :: st) Φ := by
  subst eq
  intro D cy base p l e s m args below meth c C H locs ls hM hS hl
  exact lv_lshl C.1 C.2.1 d rfl (k D cy base p l e s m args below meth c C H locs ls hM hS hl)
theorem zr_i2l {x : Int32} (d : decode (uC μ) pc = .ok (.i2l, 1)) (eq : pc + 1 = q) (k : zW μ op u M q L (.long x.toInt64 :: st) Φ) : zW μ op u M pc L (.int x :: st) Φ := by
  subst eq
  intro D cy base p l e s m args below meth c C H locs ls hM hS hl
  exact lv_i2l C.1 C.2.1 d rfl (k D cy base p l e s m args below meth c C H locs ls hM hS hl)
theorem zr_l2i {x : Int64} (d : decode (uC μ) pc = .ok (.l2i, 1)) (eq : pc + 1 = q) (k : zW μ op u M q L (.int x.toInt32 :: st) Φ) : zW μ op u M pc L (.long x :: st) Φ := by
  subst eq
  intro D cy base p l e s m args below meth c C H locs ls hM hS hl
  exact lv_l2i C.1 C.2.1 d rfl (k D cy base p l e s m args below meth c C H locs ls hM hS hl)
theorem zr_lcmp {x y : Int64} (d : decode (uC μ) pc = .ok (.lcmp, 1)) (eq : pc + 1 = q) (k : zW μ op u M q L (.int (lg_cmp x y) :: st) Φ) : zW μ op u M pc L (.long y :: .long x :: st) Φ := by
  subst eq
  intro D cy base p l e s m args below meth c C H locs ls hM hS hl
  exact W.lcmp C.1 C.2.1 d (k D cy base p l e s m args below meth c C H locs ls hM hS hl)
theorem zr_dup {v : Value} (d : decode (uC μ) pc = .ok (.dup, 1)) (eq : pc + 1 = q) (hv : v.category = 1) (k : zW μ op u M q L (v :: v :: st) Φ) : zW μ op u M pc L (v :: st) Φ := by
  subst eq
  intro D cy base p l e s m args below meth c C H locs ls hM hS hl
  exact lv_dup C.1 C.2.1 d ((zv_cat base v).trans hv) (k D cy base p l e s m args below meth c C H locs ls hM hS hl)
theorem zr_pop {v : Value} (d : decode (uC μ) pc = .ok (.pop, 1)) (eq : pc + 1 = q) (hv : v.category = 1) (k : zW μ op u M q L (st) Φ) : zW μ op u M pc L (v :: st) Φ := by
  subst eq
  intro D cy base p l e s m args below meth c C H locs ls hM hS hl
  exact lv_pop C.1 C.2.1 d ((zv_cat base v).trans hv) (k D cy base p l e s m args below meth c C H locs ls hM hS hl)
theorem zr_dup2 {v w : Value} (d : decode (uC μ) pc = .ok (.dup2, 1)) (eq : pc + 1 = q) (hv : v.category = 1) (hw : w.category = 1) (k : zW μ op u M q L (v :: w :: v :: w :: st) Φ) : zW μ op u M pc L (v :: w :: st) Φ := by
  subst eq
  intro D cy base p l e s m args below meth c C H locs ls hM hS hl
  exact lv_dup2_11 C.1 C.2.1 d ((zv_cat base v).trans hv) ((zv_cat base w).trans hw) (k D cy base p l e s m args below meth c C H locs ls hM hS hl)
theorem zr_goto {off : Int} (d : decode (uC μ) pc = .ok (.goto off, 3)) (ht : (pc : Int) + off = (q : Int)) (k : zW μ op u M q L st Φ) : zW μ op u M pc L st Φ := by
  intro D cy base p l e s m args below meth c C H locs ls hM hS hl
  exact lv_goto C.1 C.2.1 d ht (k D cy base p l e s m args below meth c C H locs ls hM hS hl)
theorem zr_icmp_eq {x y : Int32} {off : Int} {tgt : Nat} (d : decode (uC μ) pc = .ok (.if_icmp .eq off, 3)) (eq : pc + 3 = q) (ht : (pc : Int) + off = (tgt : Int)) (kt : x = y → zW μ op u M tgt L st Φ) (kf : ¬ (x = y) → zW μ op u M q L st Φ) : zW μ op u M pc L (.int y :: .int x :: st) Φ := by
  subst eq
  intro D cy base p l e s m args below meth c C H locs ls hM hS hl
  exact lv_icmp_eq C.1 C.2.1 d ht (fun hc => kt hc D cy base p l e s m args below meth c C H locs ls hM hS hl) (fun hc => kf hc D cy base p l e s m args below meth c C H locs ls hM hS hl)
theorem zr_if_eq {x : Int32} {off : Int} {tgt : Nat} (d : decode (uC μ) pc = .ok (.ifCond .eq off, 3)) (eq : pc + 3 = q) (ht : (pc : Int) + off = (tgt : Int)) (kt : x = 0 → zW μ op u M tgt L st Φ) (kf : ¬ (x = 0) → zW μ op u M q L st Φ) : zW μ op u M pc L (.int x :: st) Φ := by
  subst eq
  intro D cy base p l e s m args below meth c C H locs ls hM hS hl
  exact lv_if_eq C.1 C.2.1 d ht (fun hc => kt hc D cy base p l e s m args below meth c C H locs ls hM hS hl) (fun hc => kf hc D cy base p l e s m args below meth c C H locs ls hM hS hl)
theorem zr_icmp_ne {x y : Int32} {off : Int} {tgt : Nat} (d : decode (uC μ) pc = .ok (.if_icmp .ne off, 3)) (eq : pc + 3 = q) (ht : (pc : Int) + off = (tgt : Int)) (kt : ¬ x = y → zW μ op u M tgt L st Φ) (kf : x = y → zW μ op u M q L st Φ) : zW μ op u M pc L (.int y :: .int x :: st) Φ := by
  subst eq
  intro D cy base p l e s m args below meth c C H locs ls hM hS hl
  exact lv_icmp_ne C.1 C.2.1 d ht (fun hc => kt hc D cy base p l e s m args below meth c C H locs ls hM hS hl) (fun hc => kf hc D cy base p l e s m args below meth c C H locs ls hM hS hl)
theorem zr_if_ne {x : Int32} {off : Int} {tgt : Nat} (d : decode (uC μ) pc = .ok (.ifCond .ne off, 3)) (eq : pc + 3 = q) (ht : (pc : Int) + off = (tgt : Int)) (kt : ¬ x = 0 → zW μ op u M tgt L st Φ) (kf : x = 0 → zW μ op u M q L st Φ) : zW μ op u M pc L (.int x :: st) Φ := by
  subst eq
  intro D cy base p l e s m args below meth c C H locs ls hM hS hl
  exact lv_if_ne C.1 C.2.1 d ht (fun hc => kt hc D cy base p l e s m args below meth c C H locs ls hM hS hl) (fun hc => kf hc D cy base p l e s m args below meth c C H locs ls hM hS hl)
theorem zr_icmp_lt {x y : Int32} {off : Int} {tgt : Nat} (d : decode (uC μ) pc = .ok (.if_icmp .lt off, 3)) (eq : pc + 3 = q) (ht : (pc : Int) + off = (tgt : Int)) (kt : x < y → zW μ op u M tgt L st Φ) (kf : ¬ (x < y) → zW μ op u M q L st Φ) : zW μ op u M pc L (.int y :: .int x :: st) Φ := by
  subst eq
  intro D cy base p l e s m args below meth c C H locs ls hM hS hl
  exact lv_icmp_lt C.1 C.2.1 d ht (fun hc => kt hc D cy base p l e s m args below meth c C H locs ls hM hS hl) (fun hc => kf hc D cy base p l e s m args below meth c C H locs ls hM hS hl)
theorem zr_if_lt {x : Int32} {off : Int} {tgt : Nat} (d : decode (uC μ) pc = .ok (.ifCond .lt off, 3)) (eq : pc + 3 = q) (ht : (pc : Int) + off = (tgt : Int)) (kt : x < 0 → zW μ op u M tgt L st Φ) (kf : ¬ (x < 0) → zW μ op u M q L st Φ) : zW μ op u M pc L (.int x :: st) Φ := by
  subst eq
  intro D cy base p l e s m args below meth c C H locs ls hM hS hl
  exact lv_if_lt C.1 C.2.1 d ht (fun hc => kt hc D cy base p l e s m args below meth c C H locs ls hM hS hl) (fun hc => kf hc D cy base p l e s m args below meth c C H locs ls hM hS hl)
theorem zr_icmp_ge {x y : Int32} {off : Int} {tgt : Nat} (d : decode (uC μ) pc = .ok (.if_icmp .ge off, 3)) (eq : pc + 3 = q) (ht : (pc : Int) + off = (tgt : Int)) (kt : y ≤ x → zW μ op u M tgt L st Φ) (kf : ¬ (y ≤ x) → zW μ op u M q L st Φ) : zW μ op u M pc L (.int y :: .int x :: st) Φ := by
  subst eq
  intro D cy base p l e s m args below meth c C H locs ls hM hS hl
  exact lv_icmp_ge C.1 C.2.1 d ht (fun hc => kt hc D cy base p l e s m args below meth c C H locs ls hM hS hl) (fun hc => kf hc D cy base p l e s m args below meth c C H locs ls hM hS hl)
theorem zr_if_ge {x : Int32} {off : Int} {tgt : Nat} (d : decode (uC μ) pc = .ok (.ifCond .ge off, 3)) (eq : pc + 3 = q) (ht : (pc : Int) + off = (tgt : Int)) (kt : 0 ≤ x → zW μ op u M tgt L st Φ) (kf : ¬ (0 ≤ x) → zW μ op u M q L st Φ) : zW μ op u M pc L (.int x :: st) Φ := by
  subst eq
  intro D cy base p l e s m args below meth c C H locs ls hM hS hl
  exact lv_if_ge C.1 C.2.1 d ht (fun hc => kt hc D cy base p l e s m args below meth c C H locs ls hM hS hl) (fun hc => kf hc D cy base p l e s m args below meth c C H locs ls hM hS hl)
theorem zr_icmp_gt {x y : Int32} {off : Int} {tgt : Nat} (d : decode (uC μ) pc = .ok (.if_icmp .gt off, 3)) (eq : pc + 3 = q) (ht : (pc : Int) + off = (tgt : Int)) (kt : y < x → zW μ op u M tgt L st Φ) (kf : ¬ (y < x) → zW μ op u M q L st Φ) : zW μ op u M pc L (.int y :: .int x :: st) Φ := by
  subst eq
  intro D cy base p l e s m args below meth c C H locs ls hM hS hl
  exact lv_icmp_gt C.1 C.2.1 d ht (fun hc => kt hc D cy base p l e s m args below meth c C H locs ls hM hS hl) (fun hc => kf hc D cy base p l e s m args below meth c C H locs ls hM hS hl)
theorem zr_if_gt {x : Int32} {off : Int} {tgt : Nat} (d : decode (uC μ) pc = .ok (.ifCond .gt off, 3)) (eq : pc + 3 = q) (ht : (pc : Int) + off = (tgt : Int)) (kt : 0 < x → zW μ op u M tgt L st Φ) (kf : ¬ (0 < x) → zW μ op u M q L st Φ) : zW μ op u M pc L (.int x :: st) Φ := by
  subst eq
  intro D cy base p l e s m args below meth c C H locs ls hM hS hl
  exact lv_if_gt C.1 C.2.1 d ht (fun hc => kt hc D cy base p l e s m args below meth c C H locs ls hM hS hl) (fun hc => kf hc D cy base p l e s m args below meth c C H locs ls hM hS hl)
theorem zr_icmp_le {x y : Int32} {off : Int} {tgt : Nat} (d : decode (uC μ) pc = .ok (.if_icmp .le off, 3)) (eq : pc + 3 = q) (ht : (pc : Int) + off = (tgt : Int)) (kt : x ≤ y → zW μ op u M tgt L st Φ) (kf : ¬ (x ≤ y) → zW μ op u M q L st Φ) : zW μ op u M pc L (.int y :: .int x :: st) Φ := by
  subst eq
  intro D cy base p l e s m args below meth c C H locs ls hM hS hl
  exact lv_icmp_le C.1 C.2.1 d ht (fun hc => kt hc D cy base p l e s m args below meth c C H locs ls hM hS hl) (fun hc => kf hc D cy base p l e s m args below meth c C H locs ls hM hS hl)
theorem zr_if_le {x : Int32} {off : Int} {tgt : Nat} (d : decode (uC μ) pc = .ok (.ifCond .le off, 3)) (eq : pc + 3 = q) (ht : (pc : Int) + off = (tgt : Int)) (kt : x ≤ 0 → zW μ op u M tgt L st Φ) (kf : ¬ (x ≤ 0) → zW μ op u M q L st Φ) : zW μ op u M pc L (.int x :: st) Φ := by
  subst eq
  intro D cy base p l e s m args below meth c C H locs ls hM hS hl
  exact lv_if_le C.1 C.2.1 d ht (fun hc => kt hc D cy base p l e s m args below meth c C H locs ls hM hS hl) (fun hc => kf hc D cy base p l e s m args below meth c C H locs ls hM hS hl)
theorem zr_ifnonnull {x : Option Nat} {off : Int} {tgt : Nat} (d : decode (uC μ) pc = .ok (.ifnonnull off, 3)) (eq : pc + 3 = q) (ht : (pc : Int) + off = (tgt : Int)) (kt : ∀ b, x = some b → zW μ op u M tgt L st Φ) (kf : x = none → zW μ op u M q L st Φ) : zW μ op u M pc L (va_rf x :: st) Φ := by
  subst eq
  intro D cy base p l e s m args below meth c C H locs ls hM hS hl
  cases x with
  | none => exact lv_ifnonnullN C.1 C.2.1 d (kf rfl D cy base p l e s m args below meth c C H locs ls hM hS hl)
  | some b => exact lv_ifnonnull C.1 C.2.1 d ht (kt b rfl D cy base p l e s m args below meth c C H locs ls hM hS hl)
theorem zr_acmp_eq {x y : Option Nat} {off : Int} {tgt : Nat} (d : decode (uC μ) pc = .ok (.if_acmp .eq off, 3)) (eq : pc + 3 = q) (ht : (pc : Int) + off = (tgt : Int)) (kt : x = y → zW μ op u M tgt L st Φ) (kf : ¬ x = y → zW μ op u M q L st Φ) : zW μ op u M pc L (va_rf y :: va_rf x :: st) Φ := by
  subst eq
  intro D cy base p l e s m args below meth c C H locs ls hM hS hl
  have hinj : x.map (fun r => zad base r) = y.map (fun r => zad base r) → x = y := by
    cases x <;> cases y <;> simp
    exact zad_inj C.2.2.2.2.2.1.2.1.2.1
  have h := lv_acmp_eq (rx := x.map (fun r => zad base r)) (ry := y.map (fun r => zad base r)) (rest := st.map (zv base)) C.1 C.2.1 d ht (fun hc => kt (hinj hc) D cy base p l e s m args below meth c C H locs ls hM hS hl) (fun hc => kf (fun h => hc (by rw [h])) D cy base p l e s m args below meth c C H locs ls hM hS hl)
  rw [← zv_rf, ← zv_rf] at h
  exact h
theorem zr_lookup {dflt : Int} {ps : Array (Int × Int)} {len : Nat} {x : Int32} {off : Int} {tgt : Nat} (d : decode (uC μ) pc = .ok (.lookupswitch dflt ps, len)) (hp : (ps.toList.zip (ps.toList.drop 1)).all (fun (a, next) => a.1 < next.1) = true) (ho : Op.lookupswitch.offset ps.toList dflt x.toInt = off) (ht : (pc : Int) + off = (tgt : Int)) (k : zW μ op u M tgt L st Φ) : zW μ op u M pc L (.int x :: st) Φ := by
  intro D cy base p l e s m args below meth c C H locs ls hM hS hl
  exact lv_lookup C.1 C.2.1 d hp ho ht (k D cy base p l e s m args below meth c C H locs ls hM hS hl)
theorem zr_nmI {x y : Int32} (e : x = y) (k : zW μ op u M pc L (.int y :: st) Φ) : zW μ op u M pc L (.int x :: st) Φ := by rw [e]; exact k
theorem zr_nmL {x y : Int64} (e : x = y) (k : zW μ op u M pc L (.long y :: st) Φ) : zW μ op u M pc L (.long x :: st) Φ := by rw [e]; exact k
theorem zr_nmA {x y : Nat} (e : x = y) (k : zW μ op u M pc L (.ref y :: st) Φ) : zW μ op u M pc L (.ref x :: st) Φ := by rw [e]; exact k
theorem zr_mem {M1 : zM} (e : M = M1) (k : zW μ op u M1 pc L st Φ) : zW μ op u M pc L st Φ := by rw [e]; exact k
theorem zr_pick (ks : List Nat) {L' : List (Nat × Value)} (hL : lv_pick L ks = L') (k : zW μ op u M pc L' st Φ) : zW μ op u M pc L st Φ := by
  subst hL
  intro D cy base p l e s m args below meth c C H locs ls hM hS hl
  refine k D cy base p l e s m args below meth c C H locs ls hM hS (lv_sub hl ks ?_)
  simp only [lv_pick, zl, List.getElem?_map, List.map_filterMap]
def chk {α : Type} (b : Bool) (k : Option α) : Option α := bif b then k else none
def bnd {α β : Type} (x : Option α) (f : α → Option β) : Option β := match x with
  | some a => f a
  | none => none
def bnd2 {α β γ : Type} (x : Option (α × γ)) (f : α → γ → Option β) : Option β := match x with
  | some (a, c) => f a c
  | none => none
def bndT {α β : Type} (x : Option ((α ⊕ String) × zM)) (f : α → zM → Option ((β ⊕ String) × zM)) : Option ((β ⊕ String) × zM) := match x with
  | some (.inl a, c) => f a c
  | some (.inr E, c) => some (.inr E, c)
  | none => none
def app {α β : Type} (x : α) (f : α → β) : β := f x
theorem chk_some {α : Type} {b : Bool} {k : Option α} {r : α} (h : chk b k = some r) : b = true ∧ k = some r := by
  cases b with
  | true => exact ⟨rfl, h⟩
  | false => cases h
theorem bnd_some {α β : Type} {x : Option α} {f : α → Option β} {r : β} (h : bnd x f = some r) : ∃ a, x = some a ∧ f a = some r := by
  cases x with
  | none => cases h
  | some a => exact ⟨a, rfl, h⟩
theorem bnd2_some {α β γ : Type} {x : Option (α × γ)} {f : α → γ → Option β} {r : β} (h : bnd2 x f = some r) : ∃ a c, x = some (a, c) ∧ f a c = some r := by
  cases x with
  | none => cases h
  | some a => exact ⟨a.1, a.2, rfl, h⟩
theorem bndT_some {α β : Type} {x : Option ((α ⊕ String) × zM)} {f : α → zM → Option ((β ⊕ String) × zM)} {r : (β ⊕ String) × zM} (h : bndT x f = some r) : (∃ a c, x = some (.inl a, c) ∧ f a c = some r) ∨ ∃ E c, x = some (.inr E, c) ∧ some (.inr E, c) = some r := by
  cases x with
  | none => cases h
  | some a =>
    obtain ⟨a, c⟩ := a
    cases a with
    | inl a => exact Or.inl ⟨a, c, rfl, h⟩
    | inr E => exact Or.inr ⟨E, c, rfl, h⟩
theorem app_some {α β : Type} {x : α} {f : α → Option β} {r : β} (h : app x f = some r) : ∃ y, x = y ∧ f y = some r := ⟨x, rfl, h⟩
theorem ite_t {α : Type} {c : Prop} [Decidable c] {a b r : α} (hc : c) (h : (if c then a else b) = r) : a = r := by rw [if_pos hc] at h; exact h
theorem ite_f {α : Type} {c : Prop} [Decidable c] {a b r : α} (hc : ¬ c) (h : (if c then a else b) = r) : b = r := by rw [if_neg hc] at h; exact h
def z01 (x : Int32) : Bool := x == 0 || x == 1
theorem z01_or {x : Int32} (h : z01 x = true) : x = 0 ∨ x = 1 := by
  unfold z01 at h
  rw [Bool.or_eq_true] at h
  exact h.imp eq_of_beq eq_of_beq
/-- outcomes -/
abbrev oI (x : Int32) : Option Value ⊕ String := .inl (some (.int x))
abbrev oL (x : Int64) : Option Value ⊕ String := .inl (some (.long x))
abbrev oA (x : Nat) : Option Value ⊕ String := .inl (some (.ref x))
abbrev oV (_ : Unit) : Option Value ⊕ String := .inl none
abbrev tI (x : Int32 ⊕ String) : Option Value ⊕ String := match x with
  | .inl v => .inl (some (.int v))
  | .inr E => .inr E
abbrev tA (x : Nat ⊕ String) : Option Value ⊕ String := match x with
  | .inl v => .inl (some (.ref v))
  | .inr E => .inr E
abbrev tV (x : Unit ⊕ String) : Option Value ⊕ String := match x with
  | .inl _ => .inl none
  | .inr E => .inr E
def zE (o : Option Value ⊕ String) (M' : zM) : zPhi := fun o1 M1 => o1 = o ∧ M1 = M'
end ZRULES
end
section
/-! RULES for fields, arrays and making. -/
section ZHEAP
variable {μ : zMu} {op : Option Nat} {u : Nat × Nat} {M : zM} {pc q : Nat} {L : List (Nat × Value)} {st : List Value} {Φ : zPhi}
theorem zo_I (cy : Nat → ClassId) (base : zB) (M : zM) (a k : Nat) (x : Int32) (b : Nat) (hb : b ≠ a) : zcell cy base (wI M a k x) b = zcell cy base M b := zcell_eq cy base rfl rfl (fun j => by rw [mI_wI, if_neg (fun h => hb h.1)]) (fun _ => rfl) (fun _ => rfl)
theorem zo_L (cy : Nat → ClassId) (base : zB) (M : zM) (a k : Nat) (x : Int64) (b : Nat) (hb : b ≠ a) : zcell cy base (wL M a k x) b = zcell cy base M b := zcell_eq cy base rfl rfl (fun _ => rfl) (fun j => by rw [mL_wL, if_neg (fun h => hb h.1)]) (fun _ => rfl)
theorem zo_R (cy : Nat → ClassId) (base : zB) (M : zM) (a k : Nat) (x : Option Nat) (b : Nat) (hb : b ≠ a) : zcell cy base (wR M a k x) b = zcell cy base M b := zcell_eq cy base rfl rfl (fun _ => rfl) (fun _ => rfl) (fun j => by rw [mR_wR, if_neg (fun h => hb h.1)])
theorem zo_Ir (cy : Nat → ClassId) (base : zB) (M : zM) (a : Nat) (f : Nat → Int32) (b : Nat) (hb : b ≠ a) : zcell cy base (wIr M a f) b = zcell cy base M b := zcell_eq cy base rfl rfl (fun j => by rw [mI_wIr, if_neg hb]) (fun _ => rfl) (fun _ => rfl)
theorem zj_I (M : zM) (a k : Nat) (x : Int32) (ty : FieldType) (j : Nat) (hj : j ≠ k) : zf (wI M a k x) a ty j = zf M a ty j := by cases ty <;> simp [zf, mI_wI, mL_wI, mR_wI, hj]
theorem zj_L (M : zM) (a k : Nat) (x : Int64) (ty : FieldType) (j : Nat) (hj : j ≠ k) : zf (wL M a k x) a ty j = zf M a ty j := by cases ty <;> simp [zf, mI_wL, mL_wL, mR_wL, hj]
theorem zj_R (M : zM) (a k : Nat) (x : Option Nat) (ty : FieldType) (j : Nat) (hj : j ≠ k) : zf (wR M a k x) a ty j = zf M a ty j := by cases ty <;> simp [zf, mI_wR, mL_wR, mR_wR, hj]
/-- a write to a field, in the world -/
theorem zset (cy : Nat → ClassId) (base : zB) {M M' : zM} {a ci k : Nat} {v : Value} (h0 : 0 < a) (hk : mK M a = ci) (h11 : ci < 11) (h1 : M'.1 = M.1) (ho : ∀ b, b ≠ a → zcell cy base M' b = zcell cy base M b) (hv : zf M' a (zty ci k) k = v) (hj : ∀ j, j ≠ k → zf M' a (zty ci j) j = zf M a (zty ci j) j) :
    (zw cy base M).set (a - 1) (zad base a, .inr (ci, ((List.range (znf ci)).map (fun j => zv base (zf M a (zty ci j) j))).set k (zv base v))) = zw cy base M' := by
  have hk' : mK M' a = ci := by rw [← hk]; unfold mK; rw [h1]
  rw [zw_put cy base M M' a h0 (by rw [h1]) ho, zcell_o cy base hk' h11, zfs_set base hv hj]
theorem z0 {D : va_G} {cy : Nat → ClassId} {base : zB} {H : Heap} {a : Nat} (hM : zS D cy base M H) (h : mK M a ≠ 16) : 0 < a := by
  rcases Nat.eq_zero_or_pos a with rfl | q
  · exact absurd hM.2.1 h
  · exact q
theorem zr_get {a ci k idx N : Nat} {C : String} {T : u_T} {v : Value} (d : decode (uC μ) pc = .ok (.getfield idx, 3)) (eq : pc + 3 = q) (hk : mK M a = ci) (hc : vwCl[ci]? = some (C, T, N)) (h11 : ci < 11) (hN : znf ci = N) (hin : ∀ w ∈ u_ws C T N, w ∈ zBig) (hkN : k < N)
    (hlink : Cond.fieldLink (uY μ).cls idx (T k).1 (T k).2.1 (T k).2.2.1 ∈ zBig) (hv : zf M a (zty ci k) k = v) (kk : zW μ op u M q L (v :: st) Φ) : zW μ op u M pc L (.ref a :: st) Φ := by
  subst eq
  intro D cy base p l e s m args below meth c C0 H locs ls hM hS hl
  have h0 : 0 < a := z0 hM (by omega)
  have hg := zw_get cy base M h0 (mK_lt (by omega : mK M a < 99))
  rw [zcell_o cy base hk h11] at hg
  subst hN
  exact va_get C0.1 C0.2.1 C0.2.2.2.2.1 hin C0.2.2.2.1 C0.2.2.2.2.2.1.1 hM.1 (a - 1) hg hc k hkN (C0.2.2.2.2.1 _ hlink) (fun _ h9 => h9) (v := zv base v) (by simp [hkN, hv]) d (kk D cy base p l e s m args below meth c C0 H locs ls hM hS hl)
theorem zr_getr {a ci k idx N b : Nat} {C : String} {T : u_T} (d : decode (uC μ) pc = .ok (.getfield idx, 3)) (eq : pc + 3 = q) (hk : mK M a = ci) (hc : vwCl[ci]? = some (C, T, N)) (h11 : ci < 11) (hN : znf ci = N) (hin : ∀ w ∈ u_ws C T N, w ∈ zBig) (hkN : k < N)
    (hlink : Cond.fieldLink (uY μ).cls idx (T k).1 (T k).2.1 (T k).2.2.1 ∈ zBig) (hz : zf M a (zty ci k) k = va_rf (mR M a k)) (hv : mR M a k = some b) (kk : zW μ op u M q L (.ref b :: st) Φ) : zW μ op u M pc L (.ref a :: st) Φ :=
  zr_get d eq hk hc h11 hN hin hkN hlink (v := .ref b) (by rw [hz, hv]; rfl) kk
theorem zS_up {D : va_G} {cy : Nat → ClassId} {base : zB} {H H1 : Heap} {M' : zM} (hM : zS D cy base M H) (h1 : M'.1 = M.1) (h2 : ∀ j, mI M' 0 j = mI M 0 j) (hP : va_P D vwCl (zw cy base M') H1) : zS D cy base M' H1 := ⟨hP, by unfold mK; rw [h1]; exact hM.2.1, by unfold mN; rw [h1]; exact hM.2.2.1, fun j => (h2 j).trans (hM.2.2.2 j)⟩
/-- a write: the machine's part -/
theorem zr_putG {a ci k idx N : Nat} {C : String} {T : u_T} {v : Value} {M' : zM} (d : decode (uC μ) pc = .ok (.putfield idx, 3)) (eq : pc + 3 = q) (hk : mK M a = ci) (hc : vwCl[ci]? = some (C, T, N)) (h11 : ci < 11) (hN : znf ci = N) (hin : ∀ w ∈ u_ws C T N, w ∈ zBig) (hok : ∀ k, k < N → parseFieldDescriptor (T k).2.2.1 = some (zty ci k)) (hnm : ∀ a, a < N → ∀ b, b < N → a ≠ b → (T a).2.1 ≠ (T b).2.1) (hkN : k < N)
    (hlink : Cond.fieldLink (uY μ).cls idx (T k).1 (T k).2.1 (T k).2.2.1 ∈ zBig) (hfin : (T k).2.2.2 = false ∨ ((T k).2.2.2 = true ∧ (uY μ).name = "<init>" ∧ (T k).1 = (uY μ).cls)) (hn : ∀ base, narrow (zty ci k) (zv base v) = zv base v) (hfit : ∀ base, fits (zty ci k) (zv base v) = true) (h1 : M'.1 = M.1) (hr0 : 0 < a → ∀ j, mI M' 0 j = mI M 0 j) (ho : ∀ cy base b, b ≠ a → zcell cy base M' b = zcell cy base M b) (hv : zf M' a (zty ci k) k = v) (hj : ∀ j, j ≠ k → zf M' a (zty ci j) j = zf M a (zty ci j) j)
    (kk : zW μ op u M' q L st Φ) : zW μ op u M pc L (v :: .ref a :: st) Φ := by
  subst eq
  intro D cy base p l e s m args below meth c C0 H locs ls hM hS hl
  have h0 : 0 < a := z0 hM (by omega)
  have hg := zw_get cy base M h0 (mK_lt (by omega : mK M a < 99))
  rw [zcell_o cy base hk h11] at hg
  subst hN
  have hset := zset cy base (k := k) h0 hk h11 h1 (ho cy base) hv hj
  rcases hfin with hf | ⟨hf, hi, hd⟩
  · refine va_put C0.1 C0.2.1 C0.2.2.2.2.1 hin (zty ci) hok hnm C0.2.2.2.1 C0.2.2.2.2.2.1.1 hM.1 (zw_D cy base M) hS (a - 1) hg hc k hkN (C0.2.2.2.2.1 _ hlink) (fun _ h9 => h9) hf (hok k hkN) (hn base) (hfit base) (by simpa using hkN) d (fun H1 locs1 hP1 hD1 hS1 => ?_)
    rw [hset] at hP1
    exact kk D cy base p l e s m args below meth c C0 H1 locs1 ls (zS_up hM h1 (hr0 h0) hP1) hS1 hl
  · refine va_putF C0.1 C0.2.1 C0.2.2.2.2.1 hin (zty ci) hok hnm C0.2.2.2.1 C0.2.2.2.2.2.1.1 hM.1 (zw_D cy base M) hS (a - 1) hg hc k hkN (C0.2.2.2.2.1 _ hlink) (fun _ h9 => h9) hf (C0.2.2.2.2.2.2.2.2.2.2.1.trans hi) hd (hok k hkN) (hn base) (hfit base) (by simpa using hkN) d (fun H1 locs1 hP1 hD1 hS1 => ?_)
    rw [hset] at hP1
    exact kk D cy base p l e s m args below meth c C0 H1 locs1 ls (zS_up hM h1 (hr0 h0) hP1) hS1 hl
theorem zr_putI {a ci k idx N : Nat} {C : String} {T : u_T} {x : Int32} (d : decode (uC μ) pc = .ok (.putfield idx, 3)) (eq : pc + 3 = q) (hk : mK M a = ci) (hc : vwCl[ci]? = some (C, T, N)) (h11 : ci < 11) (hN : znf ci = N) (hin : ∀ w ∈ u_ws C T N, w ∈ zBig) (hok : ∀ k, k < N → parseFieldDescriptor (T k).2.2.1 = some (zty ci k)) (hnm : ∀ a, a < N → ∀ b, b < N → a ≠ b → (T a).2.1 ≠ (T b).2.1) (hkN : k < N)
    (hlink : Cond.fieldLink (uY μ).cls idx (T k).1 (T k).2.1 (T k).2.2.1 ∈ zBig) (hfin : (T k).2.2.2 = false ∨ ((T k).2.2.2 = true ∧ (uY μ).name = "<init>" ∧ (T k).1 = (uY μ).cls)) (hty : zty ci k = .int) (kk : zW μ op u (wI M a k x) q L st Φ) : zW μ op u M pc L (.int x :: .ref a :: st) Φ :=
  zr_putG (M' := (wI M a k x)) (v := .int x) d eq hk hc h11 hN hin hok hnm hkN hlink hfin (fun _ => by rw [hty]; rfl) (fun _ => by rw [hty]; rfl) rfl (fun h0 j => by rw [mI_wI, if_neg (fun h => by omega)]) (fun cy base b hb => zo_I cy base M a k x b hb) (by rw [hty]; simp [zf, mI_wI]) (fun j hj => zj_I M a k x _ j hj) kk
theorem zr_putZ {a ci k idx N : Nat} {C : String} {T : u_T} {x : Int32} (d : decode (uC μ) pc = .ok (.putfield idx, 3)) (eq : pc + 3 = q) (hk : mK M a = ci) (hc : vwCl[ci]? = some (C, T, N)) (h11 : ci < 11) (hN : znf ci = N) (hin : ∀ w ∈ u_ws C T N, w ∈ zBig) (hok : ∀ k, k < N → parseFieldDescriptor (T k).2.2.1 = some (zty ci k)) (hnm : ∀ a, a < N → ∀ b, b < N → a ≠ b → (T a).2.1 ≠ (T b).2.1) (hkN : k < N)
    (hlink : Cond.fieldLink (uY μ).cls idx (T k).1 (T k).2.1 (T k).2.2.1 ∈ zBig) (hfin : (T k).2.2.2 = false ∨ ((T k).2.2.2 = true ∧ (uY μ).name = "<init>" ∧ (T k).1 = (uY μ).cls)) (hty : zty ci k = .boolean) (hx : x = 0 ∨ x = 1) (kk : zW μ op u (wI M a k x) q L st Φ) : zW μ op u M pc L (.int x :: .ref a :: st) Φ :=
  zr_putG (M' := (wI M a k x)) (v := .int x) d eq hk hc h11 hN hin hok hnm hkN hlink hfin (fun _ => by rw [hty]; rcases hx with rfl | rfl <;> rfl) (fun _ => by rw [hty]; rcases hx with rfl | rfl <;> rfl) rfl (fun h0 j => by rw [mI_wI, if_neg (fun h => by omega)]) (fun cy base b hb => zo_I cy base M a k x b hb) (by rw [hty]; simp [zf, mI_wI]) (fun j hj => zj_I M a k x _ j hj) kk
theorem zr_putL {a ci k idx N : Nat} {C : String} {T : u_T} {x : Int64} (d : decode (uC μ) pc = .ok (.putfield idx, 3)) (eq : pc + 3 = q) (hk : mK M a = ci) (hc : vwCl[ci]? = some (C, T, N)) (h11 : ci < 11) (hN : znf ci = N) (hin : ∀ w ∈ u_ws C T N, w ∈ zBig) (hok : ∀ k, k < N → parseFieldDescriptor (T k).2.2.1 = some (zty ci k)) (hnm : ∀ a, a < N → ∀ b, b < N → a ≠ b → (T a).2.1 ≠ (T b).2.1) (hkN : k < N)
    (hlink : Cond.fieldLink (uY μ).cls idx (T k).1 (T k).2.1 (T k).2.2.1 ∈ zBig) (hfin : (T k).2.2.2 = false ∨ ((T k).2.2.2 = true ∧ (uY μ).name = "<init>" ∧ (T k).1 = (uY μ).cls)) (hty : zty ci k = .long) (kk : zW μ op u (wL M a k x) q L st Φ) : zW μ op u M pc L (.long x :: .ref a :: st) Φ :=
  zr_putG (M' := (wL M a k x)) (v := .long x) d eq hk hc h11 hN hin hok hnm hkN hlink hfin (fun _ => by rw [hty]; rfl) (fun _ => by rw [hty]; rfl) rfl (fun _ _ => rfl) (fun cy base b hb => zo_L cy base M a k x b hb) (by rw [hty]; simp [zf, mL_wL]) (fun j hj => zj_L M a k x _ j hj) kk
def zisR (ty : FieldType) : Bool := match ty with
  | .object _ => true
  | .array _ => true
  | _ => false
theorem zr_putR {a ci k idx N x : Nat} {C : String} {T : u_T} (d : decode (uC μ) pc = .ok (.putfield idx, 3)) (eq : pc + 3 = q) (hk : mK M a = ci) (hc : vwCl[ci]? = some (C, T, N)) (h11 : ci < 11) (hN : znf ci = N) (hin : ∀ w ∈ u_ws C T N, w ∈ zBig) (hok : ∀ k, k < N → parseFieldDescriptor (T k).2.2.1 = some (zty ci k)) (hnm : ∀ a, a < N → ∀ b, b < N → a ≠ b → (T a).2.1 ≠ (T b).2.1) (hkN : k < N)
    (hlink : Cond.fieldLink (uY μ).cls idx (T k).1 (T k).2.1 (T k).2.2.1 ∈ zBig) (hfin : (T k).2.2.2 = false ∨ ((T k).2.2.2 = true ∧ (uY μ).name = "<init>" ∧ (T k).1 = (uY μ).cls)) (hty : zisR (zty ci k) = true) (kk : zW μ op u (wR M a k (some x)) q L st Φ) : zW μ op u M pc L (.ref x :: .ref a :: st) Φ := by
  have h1 : ∀ M' : zM, zf M' a (zty ci k) k = va_rf (mR M' a k) := fun M' => by generalize zty ci k = ty at hty; cases ty <;> first | rfl | cases hty
  exact zr_putG (M' := (wR M a k (some x))) (v := .ref x) d eq hk hc h11 hN hin hok hnm hkN hlink hfin (fun _ => by generalize zty ci k = ty at hty; cases ty <;> first | rfl | cases hty) (fun _ => by generalize zty ci k = ty at hty; cases ty <;> first | rfl | cases hty) rfl (fun _ _ => rfl) (fun cy base b hb => zo_R cy base M a k (some x) b hb) (by rw [h1, mR_wR, if_pos ⟨rfl, rfl⟩]; rfl) (fun j hj => zj_R M a k (some x) _ j hj) kk
/-! arrays -/
theorem zr_iald {a : Nat} {i : Int32} (d : decode (uC μ) pc = .ok (.iaload, 1)) (eq : pc + 1 = q) (hk : mK M a = 11) (hi : zin i (mN M a) = true) (kk : zW μ op u M q L (.int (mI M a i.toNatClampNeg) :: st) Φ) : zW μ op u M pc L (.int i :: .ref a :: st) Φ := by
  subst eq
  intro D cy base p l e s m args below meth c C0 H locs ls hM hS hl
  have h0 : 0 < a := z0 hM (by omega)
  have hg := zw_get cy base M h0 (mK_lt (by omega : mK M a < 99))
  rw [zcell_i cy base hk] at hg
  exact va_iald C0.1 C0.2.1 C0.2.2.2.2.2.1.1 hM.1 (a - 1) 0 hg rfl (zin_in hi) d (kk D cy base p l e s m args below meth c C0 H locs ls hM hS hl)
theorem zr_zald {a : Nat} {i : Int32} (d : decode (uC μ) pc = .ok (.baload, 1)) (eq : pc + 1 = q) (hk : mK M a = 13) (hi : zin i (mN M a) = true) (kk : zW μ op u M q L (.int (mI M a i.toNatClampNeg) :: st) Φ) : zW μ op u M pc L (.int i :: .ref a :: st) Φ := by
  subst eq
  intro D cy base p l e s m args below meth c C0 H locs ls hM hS hl
  have h0 : 0 < a := z0 hM (by omega)
  have hg := zw_get cy base M h0 (mK_lt (by omega : mK M a < 99))
  rw [zcell_z cy base hk] at hg
  exact va_zald C0.1 C0.2.1 C0.2.2.2.2.2.1.1 hM.1 (a - 1) 2 hg rfl (zin_in hi) d (kk D cy base p l e s m args below meth c C0 H locs ls hM hS hl)
theorem zr_lald {a : Nat} {i : Int32} (d : decode (uC μ) pc = .ok (.laload, 1)) (eq : pc + 1 = q) (hk : mK M a = 12) (hi : zin i (mN M a) = true) (kk : zW μ op u M q L (.long (mL M a i.toNatClampNeg) :: st) Φ) : zW μ op u M pc L (.int i :: .ref a :: st) Φ := by
  subst eq
  intro D cy base p l e s m args below meth c C0 H locs ls hM hS hl
  have h0 : 0 < a := z0 hM (by omega)
  have hg := zw_get cy base M h0 (mK_lt (by omega : mK M a < 99))
  rw [zcell_l cy base hk] at hg
  exact va_lald C0.1 C0.2.1 C0.2.2.2.2.2.1.1 hM.1 (a - 1) 1 hg rfl (zin_in hi) d (kk D cy base p l e s m args below meth c C0 H locs ls hM hS hl)
theorem zr_aald {a kd b : Nat} {i : Int32} (d : decode (uC μ) pc = .ok (.aaload, 1)) (eq : pc + 1 = q) (hk : mK M a = kd) (hkd : kd = 14 ∨ kd = 15) (hi : zin i (mN M a) = true) (hv : mR M a i.toNatClampNeg = some b) (kk : zW μ op u M q L (.ref b :: st) Φ) : zW μ op u M pc L (.int i :: .ref a :: st) Φ := by
  subst eq
  intro D cy base p l e s m args below meth c C0 H locs ls hM hS hl
  have h0 : 0 < a := z0 hM (by omega)
  have hg := zw_get cy base M h0 (mK_lt (by omega : mK M a < 99))
  rw [zcell_q cy base hk (by omega)] at hg
  have h := kk D cy base p l e s m args below meth c C0 H locs ls hM hS hl
  have e1 : zv base (.ref b) = va_rf ((mR M a i.toNatClampNeg).map (fun r => zad base r)) := by rw [hv]; rfl
  rw [List.map_cons, e1] at h
  rcases hkd with rfl | rfl
  · exact va_aldq C0.1 C0.2.1 C0.2.2.2.2.2.1.1 hM.1 (a - 1) 3 hg rfl (zin_in hi) d h
  · exact va_aldq C0.1 C0.2.1 C0.2.2.2.2.2.1.1 hM.1 (a - 1) 4 hg rfl (zin_in hi) d h
/-- an element that may be null -/
theorem zr_aaldN {a kd : Nat} {i : Int32} (d : decode (uC μ) pc = .ok (.aaload, 1)) (eq : pc + 1 = q) (hk : mK M a = kd) (hkd : kd = 14 ∨ kd = 15) (hi : zin i (mN M a) = true) (kk : zW μ op u M q L (va_rf (mR M a i.toNatClampNeg) :: st) Φ) : zW μ op u M pc L (.int i :: .ref a :: st) Φ := by
  subst eq
  intro D cy base p l e s m args below meth c C0 H locs ls hM hS hl
  have h0 : 0 < a := z0 hM (by omega)
  have hg := zw_get cy base M h0 (mK_lt (by omega : mK M a < 99))
  rw [zcell_q cy base hk (by omega)] at hg
  have h := kk D cy base p l e s m args below meth c C0 H locs ls hM hS hl
  rw [List.map_cons, zv_rf] at h
  rcases hkd with rfl | rfl
  · exact va_aldq C0.1 C0.2.1 C0.2.2.2.2.2.1.1 hM.1 (a - 1) 3 hg rfl (zin_in hi) d h
  · exact va_aldq C0.1 C0.2.1 C0.2.2.2.2.2.1.1 hM.1 (a - 1) 4 hg rfl (zin_in hi) d h
theorem zr_iast {a : Nat} {i x : Int32} (d : decode (uC μ) pc = .ok (.iastore, 1)) (eq : pc + 1 = q) (hk : mK M a = 11) (hi : zin i (mN M a) = true) (kk : zW μ op u (wI M a i.toNatClampNeg x) q L st Φ) : zW μ op u M pc L (.int x :: .int i :: .ref a :: st) Φ := by
  subst eq
  intro D cy base p l e s m args below meth c C0 H locs ls hM hS hl
  have h0 : 0 < a := z0 hM (by omega)
  have hg := zw_get cy base M h0 (mK_lt (by omega : mK M a < 99))
  rw [zcell_i cy base hk] at hg
  refine va_iast C0.1 C0.2.1 C0.2.2.2.2.2.1.1 hM.1 (zw_D cy base M) hS (a - 1) 0 hg rfl (zin_in hi) d (fun H1 locs1 hP1 hD1 hS1 => ?_)
  have e1 : zcell cy base (wI M a i.toNatClampNeg x) a = .inl (cy 0, mN M a, .inl (upd (mI M a) i.toNatClampNeg x)) := by
    rw [zcell_i cy base (show mK (wI M a i.toNatClampNeg x) a = 11 from hk)]
    have : mI (wI M a i.toNatClampNeg x) a = upd (mI M a) i.toNatClampNeg x := by funext j; simp [mI_wI, upd]
    rw [this]; rfl
  rw [← e1, ← zw_put cy base M (wI M a i.toNatClampNeg x) a h0 rfl (fun b hb => zo_I cy base M a _ x b hb)] at hP1
  exact kk D cy base p l e s m args below meth c C0 H1 locs1 ls (zS_up hM rfl (fun j => by rw [mI_wI, if_neg (fun h => by omega)]) hP1) hS1 hl
theorem zr_zast {a : Nat} {i x : Int32} (d : decode (uC μ) pc = .ok (.bastore, 1)) (eq : pc + 1 = q) (hk : mK M a = 13) (hi : zin i (mN M a) = true) (kk : zW μ op u (wI M a i.toNatClampNeg (vp_nar .boolean x)) q L st Φ) : zW μ op u M pc L (.int x :: .int i :: .ref a :: st) Φ := by
  subst eq
  intro D cy base p l e s m args below meth c C0 H locs ls hM hS hl
  have h0 : 0 < a := z0 hM (by omega)
  have hg := zw_get cy base M h0 (mK_lt (by omega : mK M a < 99))
  rw [zcell_z cy base hk] at hg
  refine va_zast C0.1 C0.2.1 C0.2.2.2.2.2.1.1 hM.1 (zw_D cy base M) hS (a - 1) 2 hg rfl (zin_in hi) d (fun H1 locs1 hP1 hD1 hS1 => ?_)
  have e1 : zcell cy base (wI M a i.toNatClampNeg (vp_nar .boolean x)) a = .inl (cy 2, mN M a, .inl (upd (mI M a) i.toNatClampNeg (vp_nar .boolean x))) := by
    rw [zcell_z cy base (show mK (wI M a i.toNatClampNeg (vp_nar .boolean x)) a = 13 from hk)]
    have : mI (wI M a i.toNatClampNeg (vp_nar .boolean x)) a = upd (mI M a) i.toNatClampNeg (vp_nar .boolean x) := by funext j; simp [mI_wI, upd]
    rw [this]; rfl
  rw [← e1, ← zw_put cy base M (wI M a i.toNatClampNeg (vp_nar .boolean x)) a h0 rfl (fun b hb => zo_I cy base M a _ _ b hb)] at hP1
  exact kk D cy base p l e s m args below meth c C0 H1 locs1 ls (zS_up hM rfl (fun j => by rw [mI_wI, if_neg (fun h => by omega)]) hP1) hS1 hl
theorem zr_last {a : Nat} {i : Int32} {x : Int64} (d : decode (uC μ) pc = .ok (.lastore, 1)) (eq : pc + 1 = q) (hk : mK M a = 12) (hi : zin i (mN M a) = true) (kk : zW μ op u (wL M a i.toNatClampNeg x) q L st Φ) : zW μ op u M pc L (.long x :: .int i :: .ref a :: st) Φ := by
  subst eq
  intro D cy base p l e s m args below meth c C0 H locs ls hM hS hl
  have h0 : 0 < a := z0 hM (by omega)
  have hg := zw_get cy base M h0 (mK_lt (by omega : mK M a < 99))
  rw [zcell_l cy base hk] at hg
  refine va_last C0.1 C0.2.1 C0.2.2.2.2.2.1.1 hM.1 (zw_D cy base M) hS (a - 1) 1 hg rfl (zin_in hi) d (fun H1 locs1 hP1 hD1 hS1 => ?_)
  have e1 : zcell cy base (wL M a i.toNatClampNeg x) a = .inl (cy 1, mN M a, .inr (.inl (vp_updL (mL M a) i.toNatClampNeg x))) := by
    rw [zcell_l cy base (show mK (wL M a i.toNatClampNeg x) a = 12 from hk)]
    have : mL (wL M a i.toNatClampNeg x) a = vp_updL (mL M a) i.toNatClampNeg x := by funext j; simp [mL_wL, vp_updL]
    rw [this]; rfl
  rw [← e1, ← zw_put cy base M (wL M a i.toNatClampNeg x) a h0 rfl (fun b hb => zo_L cy base M a _ x b hb)] at hP1
  exact kk D cy base p l e s m args below meth c C0 H1 locs1 ls (zS_up hM rfl (fun _ => rfl) hP1) hS1 hl
theorem zr_alen {a kd : Nat} (d : decode (uC μ) pc = .ok (.arraylength, 1)) (eq : pc + 1 = q) (hk : mK M a = kd) (hkd : kd = 14) (kk : zW μ op u M q L (.int (nI (mN M a)) :: st) Φ) : zW μ op u M pc L (.ref a :: st) Φ := by
  subst eq
  subst hkd
  intro D cy base p l e s m args below meth c C0 H locs ls hM hS hl
  have h0 : 0 < a := z0 hM (by omega)
  have hg := zw_get cy base M h0 (mK_lt (by omega : mK M a < 99))
  rw [zcell_q cy base hk (by omega)] at hg
  exact va_alen C0.1 C0.2.1 C0.2.2.2.2.2.1.1 hM.1 (a - 1) 3 hg (ty := .object "PatternHouse$Pattern") rfl rfl d (kk D cy base p l e s m args below meth c C0 H locs ls hM hS hl)
/-- the script -/
theorem zr_sld {a : Nat} {i : Int32} (d : decode (uC μ) pc = .ok (.iaload, 1)) (eq : pc + 1 = q) (ha : a = 0) (hi : zin i (mN M 0) = true) (kk : zW μ op u M q L (.int (mI M 0 i.toNatClampNeg) :: st) Φ) : zW μ op u M pc L (.int i :: .ref a :: st) Φ := by
  subst eq; subst ha
  intro D cy base p l e s m args below meth c C0 H locs ls hM hS hl
  have hG := C0.2.2.2.2.2.1
  have h := kk D cy base p l e s m args below meth c C0 H locs ls hM hS hl
  rw [List.map_cons, hM.2.2.2] at h
  rw [hM.2.2.1] at hi
  exact va_sld C0.1 C0.2.1 hG.2.1.2.2 (Nat.lt_of_le_of_lt hG.2.1.2.1 hG.2.1.1) (Nat.not_lt.mpr hG.2.1.2.1) hS (zin_in hi) d h
theorem zr_slen {a : Nat} (d : decode (uC μ) pc = .ok (.arraylength, 1)) (eq : pc + 1 = q) (ha : a = 0) (kk : zW μ op u M q L (.int (nI (mN M 0)) :: st) Φ) : zW μ op u M pc L (.ref a :: st) Φ := by
  subst eq; subst ha
  intro D cy base p l e s m args below meth c C0 H locs ls hM hS hl
  have hG := C0.2.2.2.2.2.1
  have h := kk D cy base p l e s m args below meth c C0 H locs ls hM hS hl
  rw [List.map_cons, hM.2.2.1] at h
  exact va_slen C0.1 C0.2.1 hG.2.1.2.2 (Nat.lt_of_le_of_lt hG.2.1.2.1 hG.2.1.1) (Nat.not_lt.mpr hG.2.1.2.1) hS d h
end ZHEAP
end
section
/-! RULES for calls, returns, throws, making. -/
section ZCALLS
variable {μ μ' : zMu} {op : Option Nat} {u : Nat × Nat} {M : zM} {pc q : Nat} {L : List (Nat × Value)} {st st0 : List Value} {Φ Φ' : zPhi}
theorem zsize {D : va_G} {cy : Nat → ClassId} {base : zB} {H : Heap} (hM : zS D cy base M H) (h0 : base.1 < H.size) : base.1 + M.1.length ≤ H.size := by
  cases hn : M.1.length with
  | zero => omega
  | succ n =>
    cases n with
    | zero => omega
    | succ n =>
      have := (hM.1 (n + 1 - 1) _ (zw_get cy base M (a := n + 1) (by omega) (by omega))).lt
      dsimp only at this
      simp [zad] at this
      omega
theorem zcats (base : zB) (st : List Value) : ((st.map (zv base)).map fun v => v.category) = st.map fun v => v.category := by
  rw [List.map_map]
  exact List.map_congr_left (fun v _ => zv_cat base v)
theorem zgoodB {ws : List Cond} (hk : uK μ' ∈ zBig) (h : ∀ w ∈ ws, w ∈ zBig) : GoodIn zBig (ws ++ uW μ') := fun w hw => by
  have h1 : w ∈ zBig := (List.mem_append.mp hw).elim (h w) (fun h9 => (List.mem_cons.mp h9).elim (fun e => by rw [e]; exact hk) (fun h8 => h8))
  exact ⟨h1, good_of_word (zb_good h1)⟩
theorem zm3 {a b c : Cond} (h1 : a ∈ zBig) (h2 : b ∈ zBig) (h3 : c ∈ zBig) : ∀ w ∈ [a, b, c], w ∈ zBig := List.forall_mem_cons.mpr ⟨h1, List.forall_mem_cons.mpr ⟨h2, List.forall_mem_cons.mpr ⟨h3, fun _ h => by cases h⟩⟩⟩
theorem zm4 {a b c d : Cond} (h0 : a ∈ zBig) (h1 : b ∈ zBig) (h2 : c ∈ zBig) (h3 : d ∈ zBig) : ∀ w ∈ [a, b, c, d], w ∈ zBig := List.forall_mem_cons.mpr ⟨h0, zm3 h1 h2 h3⟩
theorem zstk (base : zB) (r : Option Value) (st : List Value) : (r.map (zv base)).toList ++ st.map (zv base) = (r.toList ++ st).map (zv base) := by cases r <;> rfl
theorem zpre {D : va_G} {cy : Nat → ClassId} {base : zB} {s : State} {H : Heap} {locs : List Loc} {As : List Value} {b : Bool} (hG : zG D cy base s) (hM : zS D cy base M H) (hS : va_S (zA base) s.heap H locs) (hz : b = true → H.size = base.1 + M.1.length) : ∀ U : State, U.heap = H → s.WarmedH U.vm → zP b D cy base M As (As.map (zv base)).toArray U := fun U hU hW =>
  ⟨rfl, zG_moved hG hW (by rw [hU]; exact hS.1) (fun a h1 h2 => by rw [hU]; exact hS.2.1 a h1 h2), by rw [hU]; exact hM, fun h => by rw [hU]; exact hz h⟩
set_option maxHeartbeats 4000000 in
theorem zr_callV {T : u_T} {N ci a idx n : Nat} {As : List Value} (hc : zMet μ' false M (.ref a :: As) Φ') (d : decode (uC μ) pc = .ok (.invokevirtual idx, 3)) (eq : pc + 3 = q)
    (hH' : uH μ' = []) (hb : Cond.code (uY μ') (uC μ') (uL μ') (uR μ') ∈ zBig ∧ Cond.methodLink (uY μ).cls idx (uY μ') ∈ zBig ∧ Cond.instanceMethod (uY μ') ∈ zBig ∧ Cond.selects (uY μ').cls (uY μ') (uY μ') ∈ zBig ∧ Cond.initialized (uY μ').cls ∈ zBig)
    (hd : (uY μ').cls ≠ "java/lang/invoke/MethodHandle" ∧ (uY μ').cls ≠ "java/lang/invoke/VarHandle" ∧ (parseMethodDescriptor (uY μ').desc).map (fun d => d.parameters.length) = some n)
    (hR : (uM μ').frames + 1 ≤ (uM μ).frames ∧ 8 + (uL μ' + 11) + (uM μ').locals ≤ (uM μ).locals) (hf : u.1 + (uM μ').cells ≤ (uM μ).cells ∧ u.2 + (uM μ').slots ≤ (uM μ).slots)
    (hk : mK M a = ci) (h11 : ci < 11) (hci : vwCl[ci]? = some ((uY μ').cls, T, N)) (hn : As.length = n) (hst : As.reverse ++ .ref a :: st = st0) (hrest : (st.map fun v => v.category).sum ≤ 8) (hH : uH μ = [])
    (kx : ∀ E M', Φ' (.inr E) M' → Φ (.inr E) M')
    (kk : ∀ r M', Φ' (.inl r) M' → zW μ op (u.1 + (uM μ').cells, u.2 + (uM μ').slots) M' q L (r.toList ++ st) Φ) : zW μ op u M pc L st0 Φ := by
  subst eq; subst hst
  intro D cy base p l e s m args below meth c C0 H locs ls hM hS hl
  obtain ⟨hx, hbc, hml, hown, hts, hG, hlocks, hr, hlt, htab, hnm, hop⟩ := id C0
  have h0a : 0 < a := z0 hM (by omega)
  have hw : uW μ' = Cond.code (uY μ') (uC μ') (uL μ') (uR μ') :: zBig := by unfold uW uK; rw [hH']
  have hk' : uK μ' ∈ zBig := by unfold uK; rw [hH']; exact hb.1
  have hgd : GoodIn zBig (wsV (uY μ).cls idx (uY μ').cls (uY μ') (uW μ')) := zgoodB hk' (zm4 hb.2.1 hb.2.2.1 hb.2.2.2.1 hb.2.2.2.2)
  have hgc := zw_get cy base M h0a (mK_lt (by omega : mK M a < 99))
  rw [zcell_o cy base hk h11] at hgc
  have hrecv := va_recv hG.1 hM.1 (ci := ci) (q0 := a - 1) hci hgc
  have run := vx_runV (p := p) (l := l) (e := e) (R := uM μ) (below := below) (meth := meth) (locs := locs) (cells := u.1) (slots := u.2) (As := As.map (zv base)) (rest := st.map (zv base)) (b := zad base a) (g := F0 m pc ls ((As.reverse ++ .ref a :: st).map (zv base))) ⟨hx, hbc, hml, hown, fun w hw9 => hts w hw9⟩ (hc l D cy base hlt) (cwV (Ts := zBig) n hts hgd hw rfl rfl ⟨rfl, hd⟩ hR) ⟨zblind, hrecv, zpre (As := .ref a :: As) hG hM hS (fun h => by cases h)⟩ rfl (by simpa using hn) hl.1 (by simp [zv]) (lv_room (by rw [zcats]; exact hrest)) d hf
  intro T0 hT X
  rcases run T0 hT X with ⟨v, st₀, t, T', L', h0, X', hL, e1, e2, ⟨r, M', hv, hΦ, hM', hF⟩, stp⟩ | ⟨q9, st₀, t, T', L', E, ce, h0, X', hL, e1, e2, ⟨M', hΦ, hM', hF⟩, hce, hcv, hcl, stp⟩
  · obtain ⟨k1, k2, k3⟩ := vx_keep h0 e1 hS (fun q _ h => h) (fun q h => h) hL hF
    cases hv
    obtain ⟨t2, a1, b1⟩ := kk r M' hΦ D cy base p l e s m args below meth c C0 T'.heap (locs ++ L') ls (by rw [e1]; exact hM') k3 hl T' rfl X'
    rw [← zstk] at a1
    exact ⟨t2, stp t2 a1, b1⟩
  · obtain ⟨k1, k2, k3⟩ := vx_keep h0 e1 hS (fun q _ h => h) (fun q h => h) hL hF
    have hout : ∀ x ∈ c.exceptionTable.toList, covers x pc = false := fun x hx9 => by rw [htab, hH] at hx9; cases hx9
    have hxw := vx_out (p := p) (l := l) (e := e) (R := uM μ) (s := s) (m := m) (args := args) (below := below) (meth := meth) (c := c) (H := T'.heap) (Qc := zQ D cy base Φ) (XC := zX D cy base Φ) (free := zA base) (ls := ls) (rest := st.map (zv base)) (pc := pc) (locs := locs ++ L') (cells := u.1 + (uM μ').cells) (slots := u.2 + (uM μ').slots) (mc := (uM μ).cells) (ms := (uM μ).slots) (E := E) (ce := ce) (q := q9) hout hlocks (by rw [e1]; exact hce) hcv hcl (fun t1 ht1 hal => ⟨M', kx E M' hΦ, by rw [ht1, e1]; exact hM', k3.F ht1⟩) k3.2.2 hf.1 hf.2
    obtain ⟨t2, a1, b1⟩ := hxw T' rfl X'
    exact ⟨t2, stp.trans a1, b1⟩
/-- behind a call that doesn't throw -/
theorem zafter {D : va_G} {cy : Nat → ClassId} {base : zB} {p : Program} {l : Launch} {e : Env} {s : State} {m : MethodId} {args : Array Value} {below : List Frame} {meth : Method} {c : Code} (C0 : zC μ op l D cy base p s m args meth c) {H : Heap} {locs : List Loc} {ls : Array Slot} {stm : List Value} {a9 : Array Value} {mc ms : Nat} (hS : va_S (zA base) s.heap H locs) (hl : lv_has ls (uL μ) (zl base L))
    (run : va_Run p l e (uM μ) s m args below meth c H locs u.1 u.2 mc ms (F0 m pc ls stm) (st.map (zv base)) (zQ D cy base Φ' a9) (zA base))
    (kk : ∀ r M', Φ' (.inl r) M' → zW μ op (u.1 + mc, u.2 + ms) M' (pc + 3) L (r.toList ++ st) Φ) : W p l e (uM μ) s m args below meth c H locs u.1 u.2 (vx_MQ below (zQ D cy base Φ) (zX D cy base Φ) args s (uM μ).cells (uM μ).slots (zA base)) (F0 m pc ls stm) := by
  intro T0 hT X
  obtain ⟨v, st₀, t, T', L', h0, X', hL, e1, e2, ⟨r, M', hv, hΦ, hM', hF⟩, stp⟩ := run T0 hT X
  obtain ⟨k1, k2, k3⟩ := vx_keep h0 e1 hS (fun q _ h => h) (fun q h => h) hL hF
  cases hv
  obtain ⟨t2, a1, b1⟩ := kk r M' hΦ D cy base p l e s m args below meth c C0 T'.heap (locs ++ L') ls (by rw [e1]; exact hM') k3 hl T' rfl X'
  rw [← zstk] at a1
  exact ⟨t2, stp t2 a1, b1⟩
set_option maxHeartbeats 4000000 in
theorem zr_callS {idx n : Nat} {As : List Value} (hc : zMet μ' false M As Φ') (hno : ∀ E M', ¬ Φ' (.inr E) M') (d : decode (uC μ) pc = .ok (.invokestatic idx, 3)) (eq : pc + 3 = q)
    (hH' : uH μ' = []) (hb : Cond.code (uY μ') (uC μ') (uL μ') (uR μ') ∈ zBig ∧ Cond.methodLink (uY μ).cls idx (uY μ') ∈ zBig ∧ Cond.static (uY μ') ∈ zBig ∧ Cond.initialized (uY μ').cls ∈ zBig)
    (hd : (uY μ').cls ≠ "java/lang/invoke/MethodHandle" ∧ (uY μ').cls ≠ "java/lang/invoke/VarHandle" ∧ (parseMethodDescriptor (uY μ').desc).map (fun d => d.parameters.length) = some n)
    (hR : (uM μ').frames + 1 ≤ (uM μ).frames ∧ 8 + (uL μ' + 11) + (uM μ').locals ≤ (uM μ).locals) (hf : u.1 + (uM μ').cells ≤ (uM μ).cells ∧ u.2 + (uM μ').slots ≤ (uM μ).slots)
    (hn : As.length = n) (hst : As.reverse ++ st = st0) (hrest : (st.map fun v => v.category).sum ≤ 8)
    (kk : ∀ r M', Φ' (.inl r) M' → zW μ op (u.1 + (uM μ').cells, u.2 + (uM μ').slots) M' q L (r.toList ++ st) Φ) : zW μ op u M pc L st0 Φ := by
  subst eq; subst hst
  intro D cy base p l e s m args below meth c C0 H locs ls hM hS hl
  obtain ⟨hx, hbc, hml, hown, hts, hG, hlocks, hr, hlt, htab, hnm, hop⟩ := id C0
  have hw : uW μ' = Cond.code (uY μ') (uC μ') (uL μ') (uR μ') :: zBig := by unfold uW uK; rw [hH']
  have hk' : uK μ' ∈ zBig := by unfold uK; rw [hH']; exact hb.1
  have hgd : GoodIn zBig (va_wsS (uY μ).cls idx (uY μ') (uW μ')) := zgoodB hk' (zm3 hb.2.1 hb.2.2.1 hb.2.2.2)
  refine zafter C0 hS hl (va_runS (p := p) (l := l) (e := e) (R := uM μ) (below := below) (meth := meth) (locs := locs) (cells := u.1) (slots := u.2) (As := As.map (zv base)) (rest := st.map (zv base)) (g := F0 m pc ls ((As.reverse ++ st).map (zv base))) ⟨hx, hbc, hml, hown, fun w hw9 => hts w hw9⟩ (zMet_met hc hno l D cy base hlt) (va_cwS (Ts := zBig) n hts hgd hw rfl rfl hd hR) ⟨zblind, zpre hG hM hS (fun h => by cases h)⟩ rfl (by simpa using hn) hl.1 (by simp) (lv_room (by rw [zcats]; exact hrest)) d hf) kk
set_option maxHeartbeats 4000000 in
theorem zr_callSN {idx n : Nat} {As : List Value} (hc : zMet μ' false M As Φ') (hno : ∀ E M', ¬ Φ' (.inr E) M') (d : decode (uC μ) pc = .ok (.invokestatic idx, 3)) (eq : pc + 3 = q)
    (hH' : uH μ' = []) (hnl : ((uY μ).cls, idx, uY μ', RX9) ∈ zNl) (hb : Cond.code (uY μ') (uC μ') (uL μ') (uR μ') ∈ zBig ∧ Cond.static (uY μ') ∈ zBig ∧ Cond.initialized (uY μ').cls ∈ zBig)
    (hd : (uY μ').cls ≠ "java/lang/invoke/MethodHandle" ∧ (uY μ').cls ≠ "java/lang/invoke/VarHandle" ∧ (parseMethodDescriptor (uY μ').desc).map (fun d => d.parameters.length) = some n)
    (hR : (uM μ').frames + 1 ≤ (uM μ).frames ∧ 8 + (uL μ' + 11) + (uM μ').locals ≤ (uM μ).locals) (hf : u.1 + (uM μ').cells ≤ (uM μ).cells ∧ u.2 + (uM μ').slots ≤ (uM μ).slots)
    (hn : As.length = n) (hst : As.reverse ++ st = st0) (hrest : (st.map fun v => v.category).sum ≤ 8)
    (kk : ∀ r M', Φ' (.inl r) M' → zW μ op (u.1 + (uM μ').cells, u.2 + (uM μ').slots) M' q L (r.toList ++ st) Φ) : zW μ op u M pc L st0 Φ := by
  subst eq; subst hst
  intro D cy base p l e s m args below meth c C0 H locs ls hM hS hl
  obtain ⟨hx, hbc, hml, hown, hts, hG, hlocks, hr, hlt, htab, hnm, hop⟩ := id C0
  have hnw : va_Nw (.methodLinkNest (uY μ).cls idx (uY μ') RX9) s := hG.2.2.2.2.1 _ hnl
  have hw : uW μ' = Cond.code (uY μ') (uC μ') (uL μ') (uR μ') :: zBig := by unfold uW uK; rw [hH']
  have hk' : uK μ' ∈ zBig := by unfold uK; rw [hH']; exact hb.1
  refine zafter C0 hS hl (va_runSN (p := p) (l := l) (e := e) (R := uM μ) (below := below) (meth := meth) (locs := locs) (cells := u.1) (slots := u.2) (As := As.map (zv base)) (rest := st.map (zv base)) (g := F0 m pc ls ((As.reverse ++ st).map (zv base))) ⟨hx, hbc, hml, hown, fun w hw9 => hts w hw9⟩ (zMet_met hc hno l D cy base hlt) ⟨va_cnB (Ts := zBig) n hts (zgoodB (ws := []) hk' (fun w h9 => by cases h9)) hw rfl rfl hnw (hts _ hb.2.2) hd hR, hts _ hb.2.1, trivial⟩ ⟨zblind, zpre hG hM hS (fun h => by cases h)⟩ rfl (by simpa using hn) hl.1 (by simp) (lv_room (by rw [zcats]; exact hrest)) d hf) kk
/-! the calls by what comes back -/
theorem zr_callVI {T : u_T} {N ci a idx n : Nat} {As : List Value} {u' : Nat × Nat} {r1 : Int32} {M1 : zM} (hc : zMet μ' false M (.ref a :: As) (zE (oI r1) M1)) (d : decode (uC μ) pc = .ok (.invokevirtual idx, 3)) (eq : pc + 3 = q) (hH' : uH μ' = []) (hb : Cond.code (uY μ') (uC μ') (uL μ') (uR μ') ∈ zBig ∧ Cond.methodLink (uY μ).cls idx (uY μ') ∈ zBig ∧ Cond.instanceMethod (uY μ') ∈ zBig ∧ Cond.selects (uY μ').cls (uY μ') (uY μ') ∈ zBig ∧ Cond.initialized (uY μ').cls ∈ zBig) (hd : (uY μ').cls ≠ "java/lang/invoke/MethodHandle" ∧ (uY μ').cls ≠ "java/lang/invoke/VarHandle" ∧ (parseMethodDescriptor (uY μ').desc).map (fun d => d.parameters.length) = some n) (hR : (uM μ').frames + 1 ≤ (uM μ).frames ∧ 8 + (uL μ' + 11) + (uM μ').locals ≤ (uM μ).locals) (hf : u.1 + (uM μ').cells ≤ (uM μ).cells ∧ u.2 + (uM μ').slots ≤ (uM μ).slots) (hk : mK M a = ci) (h11 : ci < 11) (hci : vwCl[ci]? = some ((uY μ').cls, T, N)) (hn : As.length = n) (hst : As.reverse ++ .ref a :: st = st0) (hrest : (st.map fun v => v.category).sum ≤ 8) (hH : uH μ = []) (hu : (u.1 + (uM μ').cells, u.2 + (uM μ').slots) = u') (kk : zW μ op u' M1 q L (.int r1 :: st) Φ) : zW μ op u M pc L st0 Φ := by
  subst hu
  exact zr_callV hc d eq hH' hb hd hR hf hk h11 hci hn hst hrest hH (fun E M' e => by cases e.1) (fun r M' e => by
    obtain ⟨e1, e2⟩ := e
    cases e1; subst e2; exact kk)
theorem zr_callSI {idx n : Nat} {As : List Value} {u' : Nat × Nat} {r1 : Int32} {M1 : zM} (hc : zMet μ' false M As (zE (oI r1) M1)) (d : decode (uC μ) pc = .ok (.invokestatic idx, 3)) (eq : pc + 3 = q) (hH' : uH μ' = []) (hb : Cond.code (uY μ') (uC μ') (uL μ') (uR μ') ∈ zBig ∧ Cond.methodLink (uY μ).cls idx (uY μ') ∈ zBig ∧ Cond.static (uY μ') ∈ zBig ∧ Cond.initialized (uY μ').cls ∈ zBig) (hd : (uY μ').cls ≠ "java/lang/invoke/MethodHandle" ∧ (uY μ').cls ≠ "java/lang/invoke/VarHandle" ∧ (parseMethodDescriptor (uY μ').desc).map (fun d => d.parameters.length) = some n) (hR : (uM μ').frames + 1 ≤ (uM μ).frames ∧ 8 + (uL μ' + 11) + (uM μ').locals ≤ (uM μ).locals) (hf : u.1 + (uM μ').cells ≤ (uM μ).cells ∧ u.2 + (uM μ').slots ≤ (uM μ).slots) (hn : As.length = n) (hst : As.reverse ++ st = st0) (hrest : (st.map fun v => v.category).sum ≤ 8) (hu : (u.1 + (uM μ').cells, u.2 + (uM μ').slots) = u') (kk : zW μ op u' M1 q L (.int r1 :: st) Φ) : zW μ op u M pc L st0 Φ := by
  subst hu
  exact zr_callS hc (fun E M' e => by cases e.1) d eq hH' hb hd hR hf hn hst hrest (fun r M' e => by
    obtain ⟨e1, e2⟩ := e
    cases e1; subst e2; exact kk)
theorem zr_callSNI {idx n : Nat} {As : List Value} {u' : Nat × Nat} {r1 : Int32} {M1 : zM} (hc : zMet μ' false M As (zE (oI r1) M1)) (d : decode (uC μ) pc = .ok (.invokestatic idx, 3)) (eq : pc + 3 = q) (hH' : uH μ' = []) (hnl : ((uY μ).cls, idx, uY μ', RX9) ∈ zNl) (hb : Cond.code (uY μ') (uC μ') (uL μ') (uR μ') ∈ zBig ∧ Cond.static (uY μ') ∈ zBig ∧ Cond.initialized (uY μ').cls ∈ zBig) (hd : (uY μ').cls ≠ "java/lang/invoke/MethodHandle" ∧ (uY μ').cls ≠ "java/lang/invoke/VarHandle" ∧ (parseMethodDescriptor (uY μ').desc).map (fun d => d.parameters.length) = some n) (hR : (uM μ').frames + 1 ≤ (uM μ).frames ∧ 8 + (uL μ' + 11) + (uM μ').locals ≤ (uM μ).locals) (hf : u.1 + (uM μ').cells ≤ (uM μ).cells ∧ u.2 + (uM μ').slots ≤ (uM μ).slots) (hn : As.length = n) (hst : As.reverse ++ st = st0) (hrest : (st.map fun v => v.category).sum ≤ 8) (hu : (u.1 + (uM μ').cells, u.2 + (uM μ').slots) = u') (kk : zW μ op u' M1 q L (.int r1 :: st) Φ) : zW μ op u M pc L st0 Φ := by
  subst hu
  exact zr_callSN hc (fun E M' e => by cases e.1) d eq hH' hnl hb hd hR hf hn hst hrest (fun r M' e => by
    obtain ⟨e1, e2⟩ := e
    cases e1; subst e2; exact kk)
theorem zr_callVL {T : u_T} {N ci a idx n : Nat} {As : List Value} {u' : Nat × Nat} {r1 : Int64} {M1 : zM} (hc : zMet μ' false M (.ref a :: As) (zE (oL r1) M1)) (d : decode (uC μ) pc = .ok (.invokevirtual idx, 3)) (eq : pc + 3 = q) (hH' : uH μ' = []) (hb : Cond.code (uY μ') (uC μ') (uL μ') (uR μ') ∈ zBig ∧ Cond.methodLink (uY μ).cls idx (uY μ') ∈ zBig ∧ Cond.instanceMethod (uY μ') ∈ zBig ∧ Cond.selects (uY μ').cls (uY μ') (uY μ') ∈ zBig ∧ Cond.initialized (uY μ').cls ∈ zBig) (hd : (uY μ').cls ≠ "java/lang/invoke/MethodHandle" ∧ (uY μ').cls ≠ "java/lang/invoke/VarHandle" ∧ (parseMethodDescriptor (uY μ').desc).map (fun d => d.parameters.length) = some n) (hR : (uM μ').frames + 1 ≤ (uM μ).frames ∧ 8 + (uL μ' + 11) + (uM μ').locals ≤ (uM μ).locals) (hf : u.1 + (uM μ').cells ≤ (uM μ).cells ∧ u.2 + (uM μ').slots ≤ (uM μ).slots) (hk : mK M a = ci) (h11 : ci < 11) (hci : vwCl[ci]? = some ((uY μ').cls, T, N)) (hn : As.length = n) (hst : As.reverse ++ .ref a :: st = st0) (hrest : (st.map fun v => v.category).sum ≤ 8) (hH : uH μ = []) (hu : (u.1 + (uM μ').cells, u.2 + (uM μ').slots) = u') (kk : zW μ op u' M1 q L (.long r1 :: st) Φ) : zW μ op u M pc L st0 Φ := by
  subst hu
  exact zr_callV hc d eq hH' hb hd hR hf hk h11 hci hn hst hrest hH (fun E M' e => by cases e.1) (fun r M' e => by
    obtain ⟨e1, e2⟩ := e
    cases e1; subst e2; exact kk)
theorem zr_callSL {idx n : Nat} {As : List Value} {u' : Nat × Nat} {r1 : Int64} {M1 : zM} (hc : zMet μ' false M As (zE (oL r1) M1)) (d : decode (uC μ) pc = .ok (.invokestatic idx, 3)) (eq : pc + 3 = q) (hH' : uH μ' = []) (hb : Cond.code (uY μ') (uC μ') (uL μ') (uR μ') ∈ zBig ∧ Cond.methodLink (uY μ).cls idx (uY μ') ∈ zBig ∧ Cond.static (uY μ') ∈ zBig ∧ Cond.initialized (uY μ').cls ∈ zBig) (hd : (uY μ').cls ≠ "java/lang/invoke/MethodHandle" ∧ (uY μ').cls ≠ "java/lang/invoke/VarHandle" ∧ (parseMethodDescriptor (uY μ').desc).map (fun d => d.parameters.length) = some n) (hR : (uM μ').frames + 1 ≤ (uM μ).frames ∧ 8 + (uL μ' + 11) + (uM μ').locals ≤ (uM μ).locals) (hf : u.1 + (uM μ').cells ≤ (uM μ).cells ∧ u.2 + (uM μ').slots ≤ (uM μ).slots) (hn : As.length = n) (hst : As.reverse ++ st = st0) (hrest : (st.map fun v => v.category).sum ≤ 8) (hu : (u.1 + (uM μ').cells, u.2 + (uM μ').slots) = u') (kk : zW μ op u' M1 q L (.long r1 :: st) Φ) : zW μ op u M pc L st0 Φ := by
  subst hu
  exact zr_callS hc (fun E M' e => by cases e.1) d eq hH' hb hd hR hf hn hst hrest (fun r M' e => by
    obtain ⟨e1, e2⟩ := e
    cases e1; subst e2; exact kk)
theorem zr_callSNL {idx n : Nat} {As : List Value} {u' : Nat × Nat} {r1 : Int64} {M1 : zM} (hc : zMet μ' false M As (zE (oL r1) M1)) (d : decode (uC μ) pc = .ok (.invokestatic idx, 3)) (eq : pc + 3 = q) (hH' : uH μ' = []) (hnl : ((uY μ).cls, idx, uY μ', RX9) ∈ zNl) (hb : Cond.code (uY μ') (uC μ') (uL μ') (uR μ') ∈ zBig ∧ Cond.static (uY μ') ∈ zBig ∧ Cond.initialized (uY μ').cls ∈ zBig) (hd : (uY μ').cls ≠ "java/lang/invoke/MethodHandle" ∧ (uY μ').cls ≠ "java/lang/invoke/VarHandle" ∧ (parseMethodDescriptor (uY μ').desc).map (fun d => d.parameters.length) = some n) (hR : (uM μ').frames + 1 ≤ (uM μ).frames ∧ 8 + (uL μ' + 11) + (uM μ').locals ≤ (uM μ).locals) (hf : u.1 + (uM μ').cells ≤ (uM μ).cells ∧ u.2 + (uM μ').slots ≤ (uM μ).slots) (hn : As.length = n) (hst : As.reverse ++ st = st0) (hrest : (st.map fun v => v.category).sum ≤ 8) (hu : (u.1 + (uM μ').cells, u.2 + (uM μ').slots) = u') (kk : zW μ op u' M1 q L (.long r1 :: st) Φ) : zW μ op u M pc L st0 Φ := by
  subst hu
  exact zr_callSN hc (fun E M' e => by cases e.1) d eq hH' hnl hb hd hR hf hn hst hrest (fun r M' e => by
    obtain ⟨e1, e2⟩ := e
    cases e1; subst e2; exact kk)
theorem zr_callVA {T : u_T} {N ci a idx n : Nat} {As : List Value} {u' : Nat × Nat} {r1 : Nat} {M1 : zM} (hc : zMet μ' false M (.ref a :: As) (zE (oA r1) M1)) (d : decode (uC μ) pc = .ok (.invokevirtual idx, 3)) (eq : pc + 3 = q) (hH' : uH μ' = []) (hb : Cond.code (uY μ') (uC μ') (uL μ') (uR μ') ∈ zBig ∧ Cond.methodLink (uY μ).cls idx (uY μ') ∈ zBig ∧ Cond.instanceMethod (uY μ') ∈ zBig ∧ Cond.selects (uY μ').cls (uY μ') (uY μ') ∈ zBig ∧ Cond.initialized (uY μ').cls ∈ zBig) (hd : (uY μ').cls ≠ "java/lang/invoke/MethodHandle" ∧ (uY μ').cls ≠ "java/lang/invoke/VarHandle" ∧ (parseMethodDescriptor (uY μ').desc).map (fun d => d.parameters.length) = some n) (hR : (uM μ').frames + 1 ≤ (uM μ).frames ∧ 8 + (uL μ' + 11) + (uM μ').locals ≤ (uM μ).locals) (hf : u.1 + (uM μ').cells ≤ (uM μ).cells ∧ u.2 + (uM μ').slots ≤ (uM μ).slots) (hk : mK M a = ci) (h11 : ci < 11) (hci : vwCl[ci]? = some ((uY μ').cls, T, N)) (hn : As.length = n) (hst : As.reverse ++ .ref a :: st = st0) (hrest : (st.map fun v => v.category).sum ≤ 8) (hH : uH μ = []) (hu : (u.1 + (uM μ').cells, u.2 + (uM μ').slots) = u') (kk : zW μ op u' M1 q L (.ref r1 :: st) Φ) : zW μ op u M pc L st0 Φ := by
  subst hu
  exact zr_callV hc d eq hH' hb hd hR hf hk h11 hci hn hst hrest hH (fun E M' e => by cases e.1) (fun r M' e => by
    obtain ⟨e1, e2⟩ := e
    cases e1; subst e2; exact kk)
theorem zr_callSA {idx n : Nat} {As : List Value} {u' : Nat × Nat} {r1 : Nat} {M1 : zM} (hc : zMet μ' false M As (zE (oA r1) M1)) (d : decode (uC μ) pc = .ok (.invokestatic idx, 3)) (eq : pc + 3 = q) (hH' : uH μ' = []) (hb : Cond.code (uY μ') (uC μ') (uL μ') (uR μ') ∈ zBig ∧ Cond.methodLink (uY μ).cls idx (uY μ') ∈ zBig ∧ Cond.static (uY μ') ∈ zBig ∧ Cond.initialized (uY μ').cls ∈ zBig) (hd : (uY μ').cls ≠ "java/lang/invoke/MethodHandle" ∧ (uY μ').cls ≠ "java/lang/invoke/VarHandle" ∧ (parseMethodDescriptor (uY μ').desc).map (fun d => d.parameters.length) = some n) (hR : (uM μ').frames + 1 ≤ (uM μ).frames ∧ 8 + (uL μ' + 11) + (uM μ').locals ≤ (uM μ).locals) (hf : u.1 + (uM μ').cells ≤ (uM μ).cells ∧ u.2 + (uM μ').slots ≤ (uM μ).slots) (hn : As.length = n) (hst : As.reverse ++ st = st0) (hrest : (st.map fun v => v.category).sum ≤ 8) (hu : (u.1 + (uM μ').cells, u.2 + (uM μ').slots) = u') (kk : zW μ op u' M1 q L (.ref r1 :: st) Φ) : zW μ op u M pc L st0 Φ := by
  subst hu
  exact zr_callS hc (fun E M' e => by cases e.1) d eq hH' hb hd hR hf hn hst hrest (fun r M' e => by
    obtain ⟨e1, e2⟩ := e
    cases e1; subst e2; exact kk)
theorem zr_callSNA {idx n : Nat} {As : List Value} {u' : Nat × Nat} {r1 : Nat} {M1 : zM} (hc : zMet μ' false M As (zE (oA r1) M1)) (d : decode (uC μ) pc = .ok (.invokestatic idx, 3)) (eq : pc + 3 = q) (hH' : uH μ' = []) (hnl : ((uY μ).cls, idx, uY μ', RX9) ∈ zNl) (hb : Cond.code (uY μ') (uC μ') (uL μ') (uR μ') ∈ zBig ∧ Cond.static (uY μ') ∈ zBig ∧ Cond.initialized (uY μ').cls ∈ zBig) (hd : (uY μ').cls ≠ "java/lang/invoke/MethodHandle" ∧ (uY μ').cls ≠ "java/lang/invoke/VarHandle" ∧ (parseMethodDescriptor (uY μ').desc).map (fun d => d.parameters.length) = some n) (hR : (uM μ').frames + 1 ≤ (uM μ).frames ∧ 8 + (uL μ' + 11) + (uM μ').locals ≤ (uM μ).locals) (hf : u.1 + (uM μ').cells ≤ (uM μ).cells ∧ u.2 + (uM μ').slots ≤ (uM μ).slots) (hn : As.length = n) (hst : As.reverse ++ st = st0) (hrest : (st.map fun v => v.category).sum ≤ 8) (hu : (u.1 + (uM μ').cells, u.2 + (uM μ').slots) = u') (kk : zW μ op u' M1 q L (.ref r1 :: st) Φ) : zW μ op u M pc L st0 Φ := by
  subst hu
  exact zr_callSN hc (fun E M' e => by cases e.1) d eq hH' hnl hb hd hR hf hn hst hrest (fun r M' e => by
    obtain ⟨e1, e2⟩ := e
    cases e1; subst e2; exact kk)
theorem zr_callVV {T : u_T} {N ci a idx n : Nat} {As : List Value} {u' : Nat × Nat} {r1 : Unit} {M1 : zM} (hc : zMet μ' false M (.ref a :: As) (zE (oV r1) M1)) (d : decode (uC μ) pc = .ok (.invokevirtual idx, 3)) (eq : pc + 3 = q) (hH' : uH μ' = []) (hb : Cond.code (uY μ') (uC μ') (uL μ') (uR μ') ∈ zBig ∧ Cond.methodLink (uY μ).cls idx (uY μ') ∈ zBig ∧ Cond.instanceMethod (uY μ') ∈ zBig ∧ Cond.selects (uY μ').cls (uY μ') (uY μ') ∈ zBig ∧ Cond.initialized (uY μ').cls ∈ zBig) (hd : (uY μ').cls ≠ "java/lang/invoke/MethodHandle" ∧ (uY μ').cls ≠ "java/lang/invoke/VarHandle" ∧ (parseMethodDescriptor (uY μ').desc).map (fun d => d.parameters.length) = some n) (hR : (uM μ').frames + 1 ≤ (uM μ).frames ∧ 8 + (uL μ' + 11) + (uM μ').locals ≤ (uM μ).locals) (hf : u.1 + (uM μ').cells ≤ (uM μ).cells ∧ u.2 + (uM μ').slots ≤ (uM μ).slots) (hk : mK M a = ci) (h11 : ci < 11) (hci : vwCl[ci]? = some ((uY μ').cls, T, N)) (hn : As.length = n) (hst : As.reverse ++ .ref a :: st = st0) (hrest : (st.map fun v => v.category).sum ≤ 8) (hH : uH μ = []) (hu : (u.1 + (uM μ').cells, u.2 + (uM μ').slots) = u') (kk : zW μ op u' M1 q L (st) Φ) : zW μ op u M pc L st0 Φ := by
  subst hu
  exact zr_callV hc d eq hH' hb hd hR hf hk h11 hci hn hst hrest hH (fun E M' e => by cases e.1) (fun r M' e => by
    obtain ⟨e1, e2⟩ := e
    cases e1; subst e2; exact kk)
theorem zr_callSV {idx n : Nat} {As : List Value} {u' : Nat × Nat} {r1 : Unit} {M1 : zM} (hc : zMet μ' false M As (zE (oV r1) M1)) (d : decode (uC μ) pc = .ok (.invokestatic idx, 3)) (eq : pc + 3 = q) (hH' : uH μ' = []) (hb : Cond.code (uY μ') (uC μ') (uL μ') (uR μ') ∈ zBig ∧ Cond.methodLink (uY μ).cls idx (uY μ') ∈ zBig ∧ Cond.static (uY μ') ∈ zBig ∧ Cond.initialized (uY μ').cls ∈ zBig) (hd : (uY μ').cls ≠ "java/lang/invoke/MethodHandle" ∧ (uY μ').cls ≠ "java/lang/invoke/VarHandle" ∧ (parseMethodDescriptor (uY μ').desc).map (fun d => d.parameters.length) = some n) (hR : (uM μ').frames + 1 ≤ (uM μ).frames ∧ 8 + (uL μ' + 11) + (uM μ').locals ≤ (uM μ).locals) (hf : u.1 + (uM μ').cells ≤ (uM μ).cells ∧ u.2 + (uM μ').slots ≤ (uM μ).slots) (hn : As.length = n) (hst : As.reverse ++ st = st0) (hrest : (st.map fun v => v.category).sum ≤ 8) (hu : (u.1 + (uM μ').cells, u.2 + (uM μ').slots) = u') (kk : zW μ op u' M1 q L (st) Φ) : zW μ op u M pc L st0 Φ := by
  subst hu
  exact zr_callS hc (fun E M' e => by cases e.1) d eq hH' hb hd hR hf hn hst hrest (fun r M' e => by
    obtain ⟨e1, e2⟩ := e
    cases e1; subst e2; exact kk)
theorem zr_callSNV {idx n : Nat} {As : List Value} {u' : Nat × Nat} {r1 : Unit} {M1 : zM} (hc : zMet μ' false M As (zE (oV r1) M1)) (d : decode (uC μ) pc = .ok (.invokestatic idx, 3)) (eq : pc + 3 = q) (hH' : uH μ' = []) (hnl : ((uY μ).cls, idx, uY μ', RX9) ∈ zNl) (hb : Cond.code (uY μ') (uC μ') (uL μ') (uR μ') ∈ zBig ∧ Cond.static (uY μ') ∈ zBig ∧ Cond.initialized (uY μ').cls ∈ zBig) (hd : (uY μ').cls ≠ "java/lang/invoke/MethodHandle" ∧ (uY μ').cls ≠ "java/lang/invoke/VarHandle" ∧ (parseMethodDescriptor (uY μ').desc).map (fun d => d.parameters.length) = some n) (hR : (uM μ').frames + 1 ≤ (uM μ).frames ∧ 8 + (uL μ' + 11) + (uM μ').locals ≤ (uM μ).locals) (hf : u.1 + (uM μ').cells ≤ (uM μ).cells ∧ u.2 + (uM μ').slots ≤ (uM μ).slots) (hn : As.length = n) (hst : As.reverse ++ st = st0) (hrest : (st.map fun v => v.category).sum ≤ 8) (hu : (u.1 + (uM μ').cells, u.2 + (uM μ').slots) = u') (kk : zW μ op u' M1 q L (st) Φ) : zW μ op u M pc L st0 Φ := by
  subst hu
  exact zr_callSN hc (fun E M' e => by cases e.1) d eq hH' hnl hb hd hR hf hn hst hrest (fun r M' e => by
    obtain ⟨e1, e2⟩ := e
    cases e1; subst e2; exact kk)
theorem zr_callVX {T : u_T} {N ci a idx n : Nat} {As : List Value} {u' : Nat × Nat} {E : String} {M1 : zM} (hc : zMet μ' false M (.ref a :: As) (zE (.inr E) M1)) (d : decode (uC μ) pc = .ok (.invokevirtual idx, 3)) (eq : pc + 3 = q) (hH' : uH μ' = []) (hb : Cond.code (uY μ') (uC μ') (uL μ') (uR μ') ∈ zBig ∧ Cond.methodLink (uY μ).cls idx (uY μ') ∈ zBig ∧ Cond.instanceMethod (uY μ') ∈ zBig ∧ Cond.selects (uY μ').cls (uY μ') (uY μ') ∈ zBig ∧ Cond.initialized (uY μ').cls ∈ zBig) (hd : (uY μ').cls ≠ "java/lang/invoke/MethodHandle" ∧ (uY μ').cls ≠ "java/lang/invoke/VarHandle" ∧ (parseMethodDescriptor (uY μ').desc).map (fun d => d.parameters.length) = some n) (hR : (uM μ').frames + 1 ≤ (uM μ).frames ∧ 8 + (uL μ' + 11) + (uM μ').locals ≤ (uM μ).locals) (hf : u.1 + (uM μ').cells ≤ (uM μ).cells ∧ u.2 + (uM μ').slots ≤ (uM μ).slots) (hk : mK M a = ci) (h11 : ci < 11) (hci : vwCl[ci]? = some ((uY μ').cls, T, N)) (hn : As.length = n) (hst : As.reverse ++ .ref a :: st = st0) (hrest : (st.map fun v => v.category).sum ≤ 8) (hH : uH μ = []) (hu : (u.1 + (uM μ').cells, u.2 + (uM μ').slots) = u') (kk : Φ (.inr E) M1) : zW μ op u M pc L st0 Φ := by
  exact zr_callV hc d eq hH' hb hd hR hf hk h11 hci hn hst hrest hH (fun E9 M' e => by
    obtain ⟨e1, e2⟩ := e
    cases e1; subst e2; exact kk) (fun r M' e => by cases e.1)
/-! ends -/
theorem zr_ireturn {v : Int32} (d : decode (uC μ) pc = .ok (.ireturn, 1)) (hr : uR μ = some .int) (hu : u.1 ≤ (uM μ).cells ∧ u.2 ≤ (uM μ).slots) (h : Φ (.inl (some (.int v))) M) : zW μ op u M pc L [.int v] Φ := by
  intro D cy base p l e s m args below meth c C0 H locs ls hM hS hl
  obtain ⟨hx, hbc, hml, hown, hts, hG, hlocks, hrt, hlt, htab, hnm, hop⟩ := id C0
  exact W.widen hu.1 hu.2 (vx_ret (W.iret (v := v) hx hbc (hrt.trans hr) (fun t ht hW => ⟨some (.int v), M, rfl, h, by rw [ht]; exact hM, hS.F ht⟩) hS.2.2 d hlocks))
theorem zr_zreturn {v : Int32} (d : decode (uC μ) pc = .ok (.ireturn, 1)) (hr : uR μ = some .boolean) (hv : v = 0 ∨ v = 1) (hu : u.1 ≤ (uM μ).cells ∧ u.2 ≤ (uM μ).slots) (h : Φ (.inl (some (.int v))) M) : zW μ op u M pc L [.int v] Φ := by
  intro D cy base p l e s m args below meth c C0 H locs ls hM hS hl
  obtain ⟨hx, hbc, hml, hown, hts, hG, hlocks, hrt, hlt, htab, hnm, hop⟩ := id C0
  exact W.widen hu.1 hu.2 (vx_ret (W.zret (v := v) hx hbc (hrt.trans hr) (by rcases hv with rfl | rfl <;> rfl) (fun t ht hW => ⟨some (.int v), M, rfl, h, by rw [ht]; exact hM, hS.F ht⟩) hS.2.2 d hlocks))
theorem zr_lreturn {v : Int64} (d : decode (uC μ) pc = .ok (.lreturn, 1)) (hr : uR μ = some .long) (hu : u.1 ≤ (uM μ).cells ∧ u.2 ≤ (uM μ).slots) (h : Φ (.inl (some (.long v))) M) : zW μ op u M pc L [.long v] Φ := by
  intro D cy base p l e s m args below meth c C0 H locs ls hM hS hl
  obtain ⟨hx, hbc, hml, hown, hts, hG, hlocks, hrt, hlt, htab, hnm, hop⟩ := id C0
  exact W.widen hu.1 hu.2 (vx_ret (W.lret (v := v) hx hbc (hrt.trans hr) (fun t ht hW => ⟨some (.long v), M, rfl, h, by rw [ht]; exact hM, hS.F ht⟩) hS.2.2 d hlocks))
theorem zr_areturn {v : Nat} {C : String} (d : decode (uC μ) pc = .ok (.areturn, 1)) (hr : uR μ = some (.object C)) (hu : u.1 ≤ (uM μ).cells ∧ u.2 ≤ (uM μ).slots) (h : Φ (.inl (some (.ref v))) M) : zW μ op u M pc L [.ref v] Φ := by
  intro D cy base p l e s m args below meth c C0 H locs ls hM hS hl
  obtain ⟨hx, hbc, hml, hown, hts, hG, hlocks, hrt, hlt, htab, hnm, hop⟩ := id C0
  exact W.widen hu.1 hu.2 (vx_ret (W.aret (v := .ref (zad base v)) hx hbc (hrt.trans hr) (Or.inl ⟨C, rfl⟩) (Or.inr ⟨_, rfl⟩) (fun t ht hW => ⟨some (.ref v), M, rfl, h, by rw [ht]; exact hM, hS.F ht⟩) hS.2.2 d hlocks))
theorem zr_return (d : decode (uC μ) pc = .ok (.return_, 1)) (hr : uR μ = none) (hu : u.1 ≤ (uM μ).cells ∧ u.2 ≤ (uM μ).slots) (h : Φ (.inl none) M) : zW μ op u M pc L [] Φ := by
  intro D cy base p l e s m args below meth c C0 H locs ls hM hS hl
  obtain ⟨hx, hbc, hml, hown, hts, hG, hlocks, hrt, hlt, htab, hnm, hop⟩ := id C0
  exact W.widen hu.1 hu.2 (vx_ret (W.vret hx hbc (hrt.trans hr) (fun t ht hW => ⟨none, M, rfl, h, by rw [ht]; exact hM, hS.F ht⟩) hS.2.2 d hlocks))
end ZCALLS
end
section
/-! 'throw new E()' -/
section ZTHROW
variable {μ μ' : zMu} {op : Option Nat} {u : Nat × Nat} {M : zM} {pc q : Nat} {L : List (Nat × Value)} {st st0 : List Value} {Φ Φ' : zPhi}
def zNs : List String := ["java/lang/RuntimeException", "java/lang/Exception"]
/-- the words of a throw in PatternHouse -/
def zTh (own : String) (ik ic : Nat) (E : String) : Prop := (∀ w ∈ (vx_at0 own ic E zNs).filter goodWord, w ∈ zBig) ∧ (∀ w ∈ (vx_at0 own ic E zNs).filter (fun w => !goodWord w), w ∈ Cond.castable E E :: zSup.map (fun Y => Cond.declares (Bundle.init0 Y))) ∧ E ∈ zEx ∧ Cond.classLink own ik E ∈ zBig ∧ Cond.initialized E ∈ zBig ∧ Bundle.fit E = true ∧ ∀ w ∈ Cond.classLink own ik E :: Cond.initialized E :: vx_at0 own ic E zNs, vx_ot w = true
set_option maxHeartbeats 4000000 in
theorem zr_throw0 {E : String} {ik ic : Nat} (hth : zTh (uY μ).cls ik ic E) (d0 : decode (uC μ) pc = .ok (.new ik, 3)) (d3 : decode (uC μ) (pc + 3) = .ok (.dup, 1)) (d4 : decode (uC μ) (pc + 4) = .ok (.invokespecial ic, 3)) (d7 : decode (uC μ) (pc + 7) = .ok (.athrow, 1)) (hH : uH μ = [])
    (hfr : 6 ≤ (uM μ).frames) (hlo : (st.map fun v => v.category).sum + 81 ≤ (uM μ).locals) (hu : u.1 + 1 ≤ (uM μ).cells ∧ u.2 + 6 ≤ (uM μ).slots) (h : Φ (.inr E) M) : zW μ op u M pc L st Φ := by
  intro D cy base p l e s m args below meth c C0 H locs ls hM hS hl
  obtain ⟨hx, hbc, hml, hown, hts, hG, hlocks, hrt, hlt, htab, hnm, hop⟩ := id C0
  obtain ⟨t1, t2, t3, t4, t5, t6, t7⟩ := hth
  have hcast : ∀ w ∈ Cond.castable E E :: zSup.map (fun Y => Cond.declares (Bundle.init0 Y)), w.before args s = true := fun w hw => by
    rcases List.mem_cons.mp hw with e9 | hw
    · rw [e9]
      exact va_Nw.use rfl (hG.2.2.2.2.2.1 E t3)
    · obtain ⟨Y, hY, e9⟩ := List.mem_map.mp hw
      rw [← e9]
      exact va_Nw.use rfl (hG.2.2.2.2.2.2.2.2.2 Y hY)
  have hat : ∀ w ∈ vx_at0 (uY μ).cls ic E zNs, w.before args s = true := vx_hat (fun w hw => hts w (t1 w hw)) t2 hcast
  refine vx_throw0 (names := zNs) (A := zA base) hx hbc hlt hown t6 (by decide +kernel) (hts _ t4) (hts _ t5) hat t7 hG.2.2.1 hG.2.2.2.1 hS (hl.1.trans hml.symm) d0 d3 d4 d7 (fun x hx9 => by rw [htab, hH] at hx9; cases hx9) (Nat.lt_of_lt_of_le (by decide) hfr) (by rw [zcats]; exact hlo) hu.1 hu.2 hlocks (fun t hal hz hk => ?_) hS.2.2 hu.1 hu.2
  refine ⟨M, h, ⟨hM.1.kept (fun k x hx9 => hk x.1 ((hM.1 k x hx9).lt)), hM.2⟩, ⟨Nat.le_trans hS.1 hz, fun q9 h1 h2 => (hk q9 (Nat.lt_of_lt_of_le h1 hS.1)).trans (hS.2.1 q9 h1 h2)⟩⟩
set_option maxRecDepth 100000 in
theorem zth_IAE : zTh RX9 51 53 "java/lang/IllegalArgumentException" := ⟨zb_all (by decide +kernel), by decide +kernel, by decide +kernel, zb_of (by decide +kernel) (by decide +kernel), zb_of (by decide +kernel) (by decide +kernel), by decide +kernel, by decide +kernel⟩
set_option maxRecDepth 100000 in
theorem zth_ISE : zTh RX9 58 60 "java/lang/IllegalStateException" := ⟨zb_all (by decide +kernel), by decide +kernel, by decide +kernel, zb_of (by decide +kernel) (by decide +kernel), zb_of (by decide +kernel) (by decide +kernel), by decide +kernel, by decide +kernel⟩
set_option maxRecDepth 100000 in
theorem zth_IOB : zTh RX9 93 95 "java/lang/IndexOutOfBoundsException" := ⟨zb_all (by decide +kernel), by decide +kernel, by decide +kernel, zb_of (by decide +kernel) (by decide +kernel), zb_of (by decide +kernel) (by decide +kernel), by decide +kernel, by decide +kernel⟩
end ZTHROW
end
section
/-! RULES for constructors: making things and calling constructors, while the heap ends with the memory. -/
section ZMAKE
variable {μ μ' : zMu} {op : Option Nat} {u u' : Nat × Nat} {M : zM} {pc q : Nat} {L : List (Nat × Value)} {st st0 : List Value} {Φ Φ' : zPhi}
theorem zheap {D : va_G} {cy : Nat → ClassId} {base : zB} {p : Program} {l : Launch} {e : Env} {s : State} {m : MethodId} {args : Array Value} {below : List Frame} {meth : Method} {c : Code} (C0 : zC μ op l D cy base p s m args meth c) {H : Heap} {locs : List Loc} {T0 : State} {n0 : Nat} (hop : op = some n0) (hn : M.1.length = n0 + u.1) (hM : zS D cy base M H) (hS : va_S (zA base) s.heap H locs) (hT : T0.heap = H) (X : Stand p l e (uM μ) s m args below meth c T0 locs u.1 u.2) : H.size = base.1 + M.1.length := by
  have h1 := X.heapSize
  rw [hT, C0.2.2.2.2.2.2.2.2.2.2.2 n0 hop] at h1
  have h2 := zsize hM (Nat.lt_of_lt_of_le C0.2.2.2.2.2.1.2.1.1 hS.1)
  omega
theorem mNew_K (M : zM) (kd len a : Nat) : mK (mNew M kd len) a = if a < M.1.length then mK M a else if a = M.1.length then kd else 99 := by
  simp only [mK, mNew, List.getD_eq_getElem?_getD, List.getElem?_append]
  by_cases h : a < M.1.length
  · simp [h]
  · rw [if_neg h, if_neg h]
    by_cases h2 : a = M.1.length
    · subst h2; simp
    · rw [if_neg h2]
      obtain ⟨c, hc⟩ : ∃ c, a - M.1.length = c + 1 := ⟨a - M.1.length - 1, by omega⟩
      rw [hc]; rfl
theorem mNew_N (M : zM) (kd len a : Nat) : mN (mNew M kd len) a = if a < M.1.length then mN M a else if a = M.1.length then len else 0 := by
  simp only [mN, mNew, List.getD_eq_getElem?_getD, List.getElem?_append]
  by_cases h : a < M.1.length
  · simp [h]
  · rw [if_neg h, if_neg h]
    by_cases h2 : a = M.1.length
    · subst h2; simp
    · rw [if_neg h2]
      obtain ⟨c, hc⟩ : ∃ c, a - M.1.length = c + 1 := ⟨a - M.1.length - 1, by omega⟩
      rw [hc]; rfl
theorem mNew_I (M : zM) (kd len a j : Nat) : mI (mNew M kd len) a j = if a = M.1.length then 0 else mI M a j := rfl
theorem mNew_L (M : zM) (kd len a j : Nat) : mL (mNew M kd len) a j = if a = M.1.length then 0 else mL M a j := rfl
theorem mNew_R (M : zM) (kd len a j : Nat) : mR (mNew M kd len) a j = if a = M.1.length then none else mR M a j := rfl
theorem mNew_len (M : zM) (kd len : Nat) : (mNew M kd len).1.length = M.1.length + 1 := by simp [mNew]
theorem zo_new (cy : Nat → ClassId) (base : zB) (M : zM) (kd len b : Nat) (hb : b < M.1.length) : zcell cy base (mNew M kd len) b = zcell cy base M b :=
  zcell_eq cy base (by rw [mNew_K, if_pos hb]) (by rw [mNew_N, if_pos hb]) (fun j => by rw [mNew_I, if_neg (by omega)]) (fun j => by rw [mNew_L, if_neg (by omega)]) (fun j => by rw [mNew_R, if_neg (by omega)])
/-- one cell more at the heap's end -/
theorem zS_new {D : va_G} {cy : Nat → ClassId} {base : zB} {H H1 : Heap} {kd len : Nat} (hM : zS D cy base M H) (hz : H.size = base.1 + M.1.length) (ho : ∀ q, q < base.1 + M.1.length → H1[q]? = H[q]?)
    (hat : va_at D vwCl (base.1 + M.1.length, zcell cy base (mNew M kd len) M.1.length) H1) : zS D cy base (mNew M kd len) H1 := by
  have hl : 0 < M.1.length := mK_lt (by rw [hM.2.1]; decide)
  refine ⟨fun k x hx => ?_, by rw [mNew_K, if_pos hl]; exact hM.2.1, by rw [mNew_N, if_pos hl]; exact hM.2.2.1, fun j => by rw [mNew_I, if_neg (by omega)]; exact hM.2.2.2 j⟩
  have hk : k < M.1.length := by
    have := (List.getElem?_eq_some_iff.mp hx).1
    simp [zw, mNew_len] at this
    exact this
  have hx2 := zw_get cy base (mNew M kd len) (a := k + 1) (by omega) (by rw [mNew_len]; omega)
  rw [Nat.add_sub_cancel] at hx2
  rw [hx2] at hx
  cases hx
  by_cases h : k + 1 < M.1.length
  · rw [zo_new cy base M kd len _ h]
    have h3 := hM.1 (k + 1 - 1) _ (zw_get cy base M (by omega) h)
    refine h3.kept (ho _ ?_)
    simp [zad]; omega
  · have e1 : k + 1 = M.1.length := by omega
    rw [e1]
    have : zad base M.1.length = base.1 + M.1.length := by unfold zad; rw [if_neg (by omega)]
    rw [this]
    exact hat
theorem zS_S {base : zB} {s : State} {H H1 : Heap} {locs : List Loc} {n : Nat} (hS : va_S (zA base) s.heap H locs) (hz : H.size = n) (z1 : H1.size = n + 1) (ho : ∀ q, q < n → H1[q]? = H[q]?) : va_S (zA base) s.heap H1 locs :=
  ⟨Nat.le_trans hS.1 (by omega), fun x h1 h2 => (ho x (by have := hS.1; omega)).trans (hS.2.1 x h1 h2), hS.2.2⟩
def zgt (ty : FieldType) : Bool := match ty with
  | .int => true
  | .boolean => true
  | .long => true
  | .object _ => true
  | .array _ => true
  | _ => false
set_option maxHeartbeats 4000000 in
theorem zr_new {idx ci N n0 : Nat} {C : String} {T : u_T} (hop : op = some n0) (hn : M.1.length = n0 + u.1) (d : decode (uC μ) pc = .ok (.new idx, 3)) (eq : pc + 3 = q) (hc : vwCl[ci]? = some (C, T, N)) (h11 : ci < 11) (hN : znf ci = N) (hin : ∀ w ∈ u_ws C T N, w ∈ zBig) (hok : ∀ k, k < N → parseFieldDescriptor (T k).2.2.1 = some (zty ci k)) (hgt : ∀ k, k < N → zgt (zty ci k) = true)
    (hb : Cond.classLink (uY μ).cls idx C ∈ zBig ∧ Cond.instantiable C N ∈ zBig ∧ Cond.initialized C ∈ zBig) (hf : u.1 + 1 ≤ (uM μ).cells ∧ u.2 + N ≤ (uM μ).slots) (hu : (u.1 + 1, u.2 + N) = u') (kk : zW μ op u' (mNew M ci 0) q L (.ref M.1.length :: st) Φ) : zW μ op u M pc L st Φ := by
  subst eq; subst hu; subst hN
  intro D cy base p l e s m args below meth c C0 H locs ls hM hS hl T0 hT X
  obtain ⟨hx, hbc, hml, hown, hts, hG, hlocks, hrt, hlt, htab, hnm, hop2⟩ := id C0
  have hz := zheap C0 hop hn hM hS hT X
  have hKn := hG.1.1 ci _ hc
  have hl0 : 0 < M.1.length := mK_lt (by rw [hM.2.1]; decide)
  refine (W.newcK hx hbc hown (hts _ hb.1) (hts _ hb.2.1) (hts _ hb.2.2) (g := F0 m pc ls (st.map (zv base))) rfl d hf.1 hf.2 hKn.2.1 hz fun H1 kC hkC e1 z1 o1 => ?_) T0 hT X
  have hM1 : zS D cy base (mNew M ci 0) H1 := by
    refine zS_new hM hz o1 ?_
    rw [zcell_o cy base (ci := ci) (by rw [mNew_K, if_neg (by omega), if_pos rfl]) h11]
    refine ⟨_, hc, (u_born (zty ci) hts hin hKn hkC e1 hok).to (fun j hj => ?_)⟩
    have hg := hgt j hj
    simp only [vp_V]
    rw [List.getD_eq_getElem?_getD, List.getElem?_map, List.getElem?_range hj]
    simp only [Option.map_some, Option.getD_some]
    generalize zty ci j = ty at hg
    cases ty <;> first | (cases hg; done) | simp [zf, mNew_I, mNew_L, mNew_R, zv, va_rf, defaultValue]
  have h9 := kk D cy base p l e s m args below meth c C0 H1 locs ls hM1 (zS_S hS hz z1 o1) hl
  have e9 : zv base (.ref M.1.length) = .ref (base.1 + M.1.length) := by simp only [zv, zad]; rw [if_neg (by omega)]
  rw [List.map_cons, e9] at h9
  exact h9
set_option maxHeartbeats 4000000 in
theorem zr_objInit {a idx : Nat} (d : decode (uC μ) pc = .ok (.invokespecial idx, 3)) (eq : pc + 3 = q) (hb : Cond.methodLink (uY μ).cls idx Lib.objectInit ∈ zBig ∧ Cond.instanceMethod Lib.objectInit ∈ zBig ∧ Cond.code Lib.objectInit ⟨#[0xb1]⟩ 1 none ∈ zBig) (hR : 1 ≤ (uM μ).frames ∧ (st.map fun v => v.category).sum + 12 ≤ (uM μ).locals) (kk : zW μ op u M q L st Φ) : zW μ op u M pc L (.ref a :: st) Φ := by
  subst eq
  intro D cy base p l e s m args below meth c C0 H locs ls hM hS hl
  obtain ⟨hx, hbc, hml, hown, hts, hG, hlocks, hrt, hlt, htab, hnm, hop2⟩ := id C0
  refine W.objInit hx hbc hown (hts _ hb.1) (hts _ hb.2.1) (hts _ hb.2.2) (g := F0 m pc ls ((.ref a :: st).map (zv base))) rfl (hl.1.trans hml.symm) (a := zad base a) (rest := st.map (zv base)) rfl d hR.1 (by rw [zcats]; exact (by simpa using hR.2)) (kk D cy base p l e s m args below meth c C0 H locs ls hM hS hl)
end ZMAKE
end
section
/-! words, by program: wip/mk_code.py -/
set_option maxRecDepth 100000 in
theorem zbX0 : ∀ w ∈ u_ws RX0 TX0 6, w ∈ zBig := zb_all (by decide +kernel)
set_option maxRecDepth 100000 in
theorem zbX1 : ∀ w ∈ u_ws RX1 TX1 9, w ∈ zBig := zb_all (by decide +kernel)
set_option maxRecDepth 100000 in
theorem zbX2 : ∀ w ∈ u_ws RX2 TX2 2, w ∈ zBig := zb_all (by decide +kernel)
set_option maxRecDepth 100000 in
theorem zbX3 : ∀ w ∈ u_ws RX3 TX3 7, w ∈ zBig := zb_all (by decide +kernel)
set_option maxRecDepth 100000 in
theorem zbX4 : ∀ w ∈ u_ws RX4 TX4 8, w ∈ zBig := zb_all (by decide +kernel)
set_option maxRecDepth 100000 in
theorem zbX5 : ∀ w ∈ u_ws RX5 TX5 4, w ∈ zBig := zb_all (by decide +kernel)
set_option maxRecDepth 100000 in
theorem zbX6 : ∀ w ∈ u_ws RX6 TX6 13, w ∈ zBig := zb_all (by decide +kernel)
set_option maxRecDepth 100000 in
theorem zbX7 : ∀ w ∈ u_ws RX7 TX7 4, w ∈ zBig := zb_all (by decide +kernel)
set_option maxRecDepth 100000 in
theorem zbX8 : ∀ w ∈ u_ws RX8 TX8 6, w ∈ zBig := zb_all (by decide +kernel)
set_option maxRecDepth 100000 in
theorem zbX9 : ∀ w ∈ u_ws RX9 TX9 8, w ∈ zBig := zb_all (by decide +kernel)
set_option maxRecDepth 100000 in
theorem zbX10 : ∀ w ∈ u_ws RX10 TX10 43, w ∈ zBig := zb_all (by decide +kernel)
set_option maxRecDepth 100000 in
theorem zb_0 : Cond.fieldLink RX0 15 "PatternHouse$Automaton" "ways" "[I" ∈ zBig := zb_of (by decide +kernel) (by decide +kernel)
set_option maxRecDepth 100000 in
theorem zb_1 : Cond.fieldLink RX7 22 "PatternHouse$Register" "size" "I" ∈ zBig := zb_of (by decide +kernel) (by decide +kernel)
set_option maxRecDepth 100000 in
theorem zb_2 : Cond.fieldLink RX7 19 "PatternHouse$Register" "slots" "[I" ∈ zBig := zb_of (by decide +kernel) (by decide +kernel)
set_option maxRecDepth 100000 in
theorem zb_3 : Cond.fieldLink RX7 15 "PatternHouse$Register" "slotOf" "[I" ∈ zBig := zb_of (by decide +kernel) (by decide +kernel)
set_option maxRecDepth 100000 in
theorem zb_4 : Cond.constantLong RX7 34 (-7046029254386353131) ∈ zBig := zb_of (by decide +kernel) (by decide +kernel)
set_option maxRecDepth 100000 in
theorem zb_5 : Cond.fieldLink RX7 9 "PatternHouse$Register" "keys" "[J" ∈ zBig := zb_of (by decide +kernel) (by decide +kernel)
set_option maxRecDepth 100000 in
theorem zb_6 : Cond.code yX7_enter cX7_enter 5 (some .int) ∈ zBig := zb_of (by decide +kernel) (by decide +kernel)
set_option maxRecDepth 100000 in
theorem zb_7 : Cond.methodLink RX7 30 yX7_enter ∈ zBig := zb_of (by decide +kernel) (by decide +kernel)
set_option maxRecDepth 100000 in
theorem zb_8 : Cond.instanceMethod yX7_enter ∈ zBig := zb_of (by decide +kernel) (by decide +kernel)
set_option maxRecDepth 100000 in
theorem zb_9 : Cond.selects RX7 yX7_enter yX7_enter ∈ zBig := zb_of (by decide +kernel) (by decide +kernel)
set_option maxRecDepth 100000 in
theorem zb_10 : Cond.initialized RX7 ∈ zBig := zb_of (by decide +kernel) (by decide +kernel)
set_option maxRecDepth 100000 in
theorem zb_11 : Cond.code yX7_homeOf cX7_homeOf 4 (some .int) ∈ zBig := zb_of (by decide +kernel) (by decide +kernel)
set_option maxRecDepth 100000 in
theorem zb_12 : Cond.methodLink RX7 26 yX7_homeOf ∈ zBig := zb_of (by decide +kernel) (by decide +kernel)
set_option maxRecDepth 100000 in
theorem zb_13 : Cond.static yX7_homeOf ∈ zBig := zb_of (by decide +kernel) (by decide +kernel)
set_option maxRecDepth 100000 in
theorem zb_14 : Cond.fieldLink RX0 24 "PatternHouse$Automaton" "goesBeyond" "Z" ∈ zBig := zb_of (by decide +kernel) (by decide +kernel)
set_option maxRecDepth 100000 in
theorem zb_15 : Cond.fieldLink RX0 69 "PatternHouse$Register" "size" "I" ∈ zBig := zb_of (by decide +kernel) (by decide +kernel)
set_option maxRecDepth 100000 in
theorem zb_16 : Cond.fieldLink RX0 32 "PatternHouse$Automaton" "size" "I" ∈ zBig := zb_of (by decide +kernel) (by decide +kernel)
set_option maxRecDepth 100000 in
theorem zb_17 : Cond.fieldLink RX0 62 "PatternHouse$Pattern" "havers" "[J" ∈ zBig := zb_of (by decide +kernel) (by decide +kernel)
set_option maxRecDepth 100000 in
theorem zb_18 : Cond.code yX7_numberOf cX7_numberOf 8 (some .int) ∈ zBig := zb_of (by decide +kernel) (by decide +kernel)
set_option maxRecDepth 100000 in
theorem zb_19 : Cond.methodLink RX0 65 yX7_numberOf ∈ zBig := zb_of (by decide +kernel) (by decide +kernel)
set_option maxRecDepth 100000 in
theorem zb_20 : Cond.instanceMethod yX7_numberOf ∈ zBig := zb_of (by decide +kernel) (by decide +kernel)
set_option maxRecDepth 100000 in
theorem zb_21 : Cond.selects RX7 yX7_numberOf yX7_numberOf ∈ zBig := zb_of (by decide +kernel) (by decide +kernel)
set_option maxRecDepth 100000 in
theorem zb_22 : Cond.fieldLink RX4 28 "PatternHouse$Pattern" "size" "I" ∈ zBig := zb_of (by decide +kernel) (by decide +kernel)
set_option maxRecDepth 100000 in
theorem zb_23 : Cond.code yX9_holds cX9_holds 3 (some .boolean) ∈ zBig := zb_of (by decide +kernel) (by decide +kernel)
set_option maxRecDepth 100000 in
theorem zb_24 : Cond.static yX9_holds ∈ zBig := zb_of (by decide +kernel) (by decide +kernel)
set_option maxRecDepth 100000 in
theorem zb_25 : Cond.initialized RX9 ∈ zBig := zb_of (by decide +kernel) (by decide +kernel)
set_option maxRecDepth 100000 in
theorem zb_26 : Cond.fieldLink RX4 9 "PatternHouse$Pattern" "behind" "[J" ∈ zBig := zb_of (by decide +kernel) (by decide +kernel)
set_option maxRecDepth 100000 in
theorem zb_27 : Cond.code yX4_behindAny cX4_behindAny 6 (some .long) ∈ zBig := zb_of (by decide +kernel) (by decide +kernel)
set_option maxRecDepth 100000 in
theorem zb_28 : Cond.methodLink RX0 55 yX4_behindAny ∈ zBig := zb_of (by decide +kernel) (by decide +kernel)
set_option maxRecDepth 100000 in
theorem zb_29 : Cond.instanceMethod yX4_behindAny ∈ zBig := zb_of (by decide +kernel) (by decide +kernel)
set_option maxRecDepth 100000 in
theorem zb_30 : Cond.selects RX4 yX4_behindAny yX4_behindAny ∈ zBig := zb_of (by decide +kernel) (by decide +kernel)
set_option maxRecDepth 100000 in
theorem zb_31 : Cond.initialized RX4 ∈ zBig := zb_of (by decide +kernel) (by decide +kernel)
set_option maxRecDepth 100000 in
theorem zb_32 : Cond.code yX0_layWays cX0_layWays 8 none ∈ zBig := zb_of (by decide +kernel) (by decide +kernel)
set_option maxRecDepth 100000 in
theorem zb_33 : Cond.methodLink RX0 44 yX0_layWays ∈ zBig := zb_of (by decide +kernel) (by decide +kernel)
set_option maxRecDepth 100000 in
theorem zb_34 : Cond.instanceMethod yX0_layWays ∈ zBig := zb_of (by decide +kernel) (by decide +kernel)
set_option maxRecDepth 100000 in
theorem zb_35 : Cond.selects RX0 yX0_layWays yX0_layWays ∈ zBig := zb_of (by decide +kernel) (by decide +kernel)
set_option maxRecDepth 100000 in
theorem zb_36 : Cond.initialized RX0 ∈ zBig := zb_of (by decide +kernel) (by decide +kernel)
set_option maxRecDepth 100000 in
theorem zb_37 : Cond.fieldLink RX0 59 "PatternHouse$Automaton" "isBuilt" "Z" ∈ zBig := zb_of (by decide +kernel) (by decide +kernel)
set_option maxRecDepth 100000 in
theorem zb_38 : Cond.fieldLink RX0 48 "PatternHouse$Register" "keys" "[J" ∈ zBig := zb_of (by decide +kernel) (by decide +kernel)
set_option maxRecDepth 100000 in
theorem zb_39 : Cond.fieldLink RX0 9 "PatternHouse$Automaton" "isGood" "[Z" ∈ zBig := zb_of (by decide +kernel) (by decide +kernel)
set_option maxRecDepth 100000 in
theorem zb_40 : Cond.fieldLink RX0 52 "PatternHouse$Pattern" "lasts" "J" ∈ zBig := zb_of (by decide +kernel) (by decide +kernel)
set_option maxRecDepth 100000 in
theorem zb_41 : Cond.code yX7_forgetAll cX7_forgetAll 2 none ∈ zBig := zb_of (by decide +kernel) (by decide +kernel)
set_option maxRecDepth 100000 in
theorem zb_42 : Cond.methodLink RX0 19 yX7_forgetAll ∈ zBig := zb_of (by decide +kernel) (by decide +kernel)
set_option maxRecDepth 100000 in
theorem zb_43 : Cond.instanceMethod yX7_forgetAll ∈ zBig := zb_of (by decide +kernel) (by decide +kernel)
set_option maxRecDepth 100000 in
theorem zb_44 : Cond.selects RX7 yX7_forgetAll yX7_forgetAll ∈ zBig := zb_of (by decide +kernel) (by decide +kernel)
set_option maxRecDepth 100000 in
theorem zb_45 : Cond.fieldLink RX0 28 "PatternHouse$Automaton" "groups" "I" ∈ zBig := zb_of (by decide +kernel) (by decide +kernel)
set_option maxRecDepth 100000 in
theorem zb_46 : Cond.fieldLink RX0 35 "PatternHouse$Pattern" "hasEmptyWord" "Z" ∈ zBig := zb_of (by decide +kernel) (by decide +kernel)
set_option maxRecDepth 100000 in
theorem zb_47 : Cond.fieldLink RX0 40 "PatternHouse$Pattern" "firsts" "J" ∈ zBig := zb_of (by decide +kernel) (by decide +kernel)
set_option maxRecDepth 100000 in
theorem zb_48 : Cond.fieldLink RX1 15 "PatternHouse$Comparison" "familyOf" "[I" ∈ zBig := zb_of (by decide +kernel) (by decide +kernel)
set_option maxRecDepth 100000 in
theorem zb_49 : Cond.fieldLink RX1 18 "PatternHouse$Comparison" "lefts" "[I" ∈ zBig := zb_of (by decide +kernel) (by decide +kernel)
set_option maxRecDepth 100000 in
theorem zb_50 : Cond.fieldLink RX1 50 "PatternHouse$Comparison" "pairs" "I" ∈ zBig := zb_of (by decide +kernel) (by decide +kernel)
set_option maxRecDepth 100000 in
theorem zb_51 : Cond.fieldLink RX1 21 "PatternHouse$Comparison" "rights" "[I" ∈ zBig := zb_of (by decide +kernel) (by decide +kernel)
set_option maxRecDepth 100000 in
theorem zb_52 : Cond.code yX1_join cX1_join 6 none ∈ zBig := zb_of (by decide +kernel) (by decide +kernel)
set_option maxRecDepth 100000 in
theorem zb_53 : Cond.methodLink RX1 61 yX1_join ∈ zBig := zb_of (by decide +kernel) (by decide +kernel)
set_option maxRecDepth 100000 in
theorem zb_54 : Cond.instanceMethod yX1_join ∈ zBig := zb_of (by decide +kernel) (by decide +kernel)
set_option maxRecDepth 100000 in
theorem zb_55 : Cond.selects RX1 yX1_join yX1_join ∈ zBig := zb_of (by decide +kernel) (by decide +kernel)
set_option maxRecDepth 100000 in
theorem zb_56 : Cond.initialized RX1 ∈ zBig := zb_of (by decide +kernel) (by decide +kernel)
set_option maxRecDepth 100000 in
theorem zb_57 : Cond.fieldLink RX1 30 "PatternHouse$Comparison" "lengths" "[I" ∈ zBig := zb_of (by decide +kernel) (by decide +kernel)
set_option maxRecDepth 100000 in
theorem zb_58 : Cond.code yX0_wayFrom cX0_wayFrom 3 (some .int) ∈ zBig := zb_of (by decide +kernel) (by decide +kernel)
set_option maxRecDepth 100000 in
theorem zb_59 : Cond.methodLink RX1 65 yX0_wayFrom ∈ zBig := zb_of (by decide +kernel) (by decide +kernel)
set_option maxRecDepth 100000 in
theorem zb_60 : Cond.instanceMethod yX0_wayFrom ∈ zBig := zb_of (by decide +kernel) (by decide +kernel)
set_option maxRecDepth 100000 in
theorem zb_61 : Cond.selects RX0 yX0_wayFrom yX0_wayFrom ∈ zBig := zb_of (by decide +kernel) (by decide +kernel)
set_option maxRecDepth 100000 in
theorem zb_62 : Cond.fieldLink RX1 24 "PatternHouse$Comparison" "cameFrom" "[I" ∈ zBig := zb_of (by decide +kernel) (by decide +kernel)
set_option maxRecDepth 100000 in
theorem zb_63 : Cond.fieldLink RX1 27 "PatternHouse$Comparison" "byLetter" "[I" ∈ zBig := zb_of (by decide +kernel) (by decide +kernel)
set_option maxRecDepth 100000 in
theorem zb_64 : Cond.fieldLink RX1 46 "PatternHouse$Automaton" "isGood" "[Z" ∈ zBig := zb_of (by decide +kernel) (by decide +kernel)
set_option maxRecDepth 100000 in
theorem zb_65 : Cond.fieldLink RX1 11 "PatternHouse$Comparison" "word" "[I" ∈ zBig := zb_of (by decide +kernel) (by decide +kernel)
set_option maxRecDepth 100000 in
theorem zb_66 : Cond.fieldLink RX1 33 "PatternHouse$Comparison" "wordLength" "I" ∈ zBig := zb_of (by decide +kernel) (by decide +kernel)
set_option maxRecDepth 100000 in
theorem zb_67 : Cond.code yX1_tellsApart cX1_tellsApart 7 (some .boolean) ∈ zBig := zb_of (by decide +kernel) (by decide +kernel)
set_option maxRecDepth 100000 in
theorem zb_68 : Cond.methodLink RX1 53 yX1_tellsApart ∈ zBig := zb_of (by decide +kernel) (by decide +kernel)
set_option maxRecDepth 100000 in
theorem zb_69 : Cond.instanceMethod yX1_tellsApart ∈ zBig := zb_of (by decide +kernel) (by decide +kernel)
set_option maxRecDepth 100000 in
theorem zb_70 : Cond.selects RX1 yX1_tellsApart yX1_tellsApart ∈ zBig := zb_of (by decide +kernel) (by decide +kernel)
set_option maxRecDepth 100000 in
theorem zb_71 : Cond.code yX1_spell cX1_spell 4 none ∈ zBig := zb_of (by decide +kernel) (by decide +kernel)
set_option maxRecDepth 100000 in
theorem zb_72 : Cond.methodLink RX1 57 yX1_spell ∈ zBig := zb_of (by decide +kernel) (by decide +kernel)
set_option maxRecDepth 100000 in
theorem zb_73 : Cond.instanceMethod yX1_spell ∈ zBig := zb_of (by decide +kernel) (by decide +kernel)
set_option maxRecDepth 100000 in
theorem zb_74 : Cond.selects RX1 yX1_spell yX1_spell ∈ zBig := zb_of (by decide +kernel) (by decide +kernel)
set_option maxRecDepth 100000 in
theorem zb_75 : Cond.fieldLink RX1 37 "PatternHouse$Automaton" "goesBeyond" "Z" ∈ zBig := zb_of (by decide +kernel) (by decide +kernel)
set_option maxRecDepth 100000 in
theorem zb_76 : Cond.code yX1_begin cX1_begin 2 none ∈ zBig := zb_of (by decide +kernel) (by decide +kernel)
set_option maxRecDepth 100000 in
theorem zb_77 : Cond.methodLink RX1 43 yX1_begin ∈ zBig := zb_of (by decide +kernel) (by decide +kernel)
set_option maxRecDepth 100000 in
theorem zb_78 : Cond.instanceMethod yX1_begin ∈ zBig := zb_of (by decide +kernel) (by decide +kernel)
set_option maxRecDepth 100000 in
theorem zb_79 : Cond.selects RX1 yX1_begin yX1_begin ∈ zBig := zb_of (by decide +kernel) (by decide +kernel)
set_option maxRecDepth 100000 in
theorem zb_80 : Cond.methodLink RX2 41 yX7_numberOf ∈ zBig := zb_of (by decide +kernel) (by decide +kernel)
set_option maxRecDepth 100000 in
theorem zb_81 : Cond.fieldLink RX2 22 "PatternHouse$Automaton" "size" "I" ∈ zBig := zb_of (by decide +kernel) (by decide +kernel)
set_option maxRecDepth 100000 in
theorem zb_82 : Cond.fieldLink RX2 45 "PatternHouse$Register" "size" "I" ∈ zBig := zb_of (by decide +kernel) (by decide +kernel)
set_option maxRecDepth 100000 in
theorem zb_83 : Cond.fieldLink RX2 9 "PatternHouse$Grouping" "groupOf" "[I" ∈ zBig := zb_of (by decide +kernel) (by decide +kernel)
set_option maxRecDepth 100000 in
theorem zb_84 : Cond.fieldLink RX2 37 "PatternHouse$Automaton" "isGood" "[Z" ∈ zBig := zb_of (by decide +kernel) (by decide +kernel)
set_option maxRecDepth 100000 in
theorem zb_85 : Cond.methodLink RX2 32 yX7_forgetAll ∈ zBig := zb_of (by decide +kernel) (by decide +kernel)
set_option maxRecDepth 100000 in
theorem zb_86 : Cond.fieldLink RX2 15 "PatternHouse$Grouping" "finerOf" "[I" ∈ zBig := zb_of (by decide +kernel) (by decide +kernel)
set_option maxRecDepth 100000 in
theorem zb_87 : Cond.methodLink RX2 52 arraycopyName ∈ zBig := zb_of (by decide +kernel) (by decide +kernel)
set_option maxRecDepth 100000 in
theorem zb_88 : Cond.native arraycopyName ∈ zBig := zb_of (by decide +kernel) (by decide +kernel)
set_option maxRecDepth 100000 in
theorem zb_89 : Cond.static arraycopyName ∈ zBig := zb_of (by decide +kernel) (by decide +kernel)
set_option maxRecDepth 100000 in
theorem zb_90 : Cond.initialized "java/lang/System" ∈ zBig := zb_of (by decide +kernel) (by decide +kernel)
set_option maxRecDepth 100000 in
theorem zb_91 : Cond.methodLink RX2 46 yX0_wayFrom ∈ zBig := zb_of (by decide +kernel) (by decide +kernel)
set_option maxRecDepth 100000 in
theorem zb_92 : Cond.constantLong RX2 50 (300) ∈ zBig := zb_of (by decide +kernel) (by decide +kernel)
set_option maxRecDepth 100000 in
theorem zb_93 : Cond.code yX2_groupByWay cX2_groupByWay 7 (some .int) ∈ zBig := zb_of (by decide +kernel) (by decide +kernel)
set_option maxRecDepth 100000 in
theorem zb_94 : Cond.methodLink RX2 28 yX2_groupByWay ∈ zBig := zb_of (by decide +kernel) (by decide +kernel)
set_option maxRecDepth 100000 in
theorem zb_95 : Cond.instanceMethod yX2_groupByWay ∈ zBig := zb_of (by decide +kernel) (by decide +kernel)
set_option maxRecDepth 100000 in
theorem zb_96 : Cond.selects RX2 yX2_groupByWay yX2_groupByWay ∈ zBig := zb_of (by decide +kernel) (by decide +kernel)
set_option maxRecDepth 100000 in
theorem zb_97 : Cond.initialized RX2 ∈ zBig := zb_of (by decide +kernel) (by decide +kernel)
set_option maxRecDepth 100000 in
theorem zb_98 : Cond.code yX2_groupByGood cX2_groupByGood 4 (some .int) ∈ zBig := zb_of (by decide +kernel) (by decide +kernel)
set_option maxRecDepth 100000 in
theorem zb_99 : Cond.methodLink RX2 18 yX2_groupByGood ∈ zBig := zb_of (by decide +kernel) (by decide +kernel)
set_option maxRecDepth 100000 in
theorem zb_100 : Cond.instanceMethod yX2_groupByGood ∈ zBig := zb_of (by decide +kernel) (by decide +kernel)
set_option maxRecDepth 100000 in
theorem zb_101 : Cond.selects RX2 yX2_groupByGood yX2_groupByGood ∈ zBig := zb_of (by decide +kernel) (by decide +kernel)
set_option maxRecDepth 100000 in
theorem zb_102 : Cond.fieldLink RX4 24 "PatternHouse$Pattern" "automaton" "LPatternHouse$Automaton;" ∈ zBig := zb_of (by decide +kernel) (by decide +kernel)
set_option maxRecDepth 100000 in
theorem zb_103 : Cond.fieldLink RX4 32 "PatternHouse$Automaton" "isBuilt" "Z" ∈ zBig := zb_of (by decide +kernel) (by decide +kernel)
set_option maxRecDepth 100000 in
theorem zb_104 : Cond.fieldLink RX5 7 "PatternHouse$Piece" "from" "I" ∈ zBig := zb_of (by decide +kernel) (by decide +kernel)
set_option maxRecDepth 100000 in
theorem zb_105 : Cond.fieldLink RX5 13 "PatternHouse$Piece" "hasEmptyWord" "Z" ∈ zBig := zb_of (by decide +kernel) (by decide +kernel)
set_option maxRecDepth 100000 in
theorem zb_106 : Cond.fieldLink RX5 17 "PatternHouse$Piece" "firsts" "J" ∈ zBig := zb_of (by decide +kernel) (by decide +kernel)
set_option maxRecDepth 100000 in
theorem zb_107 : Cond.fieldLink RX5 21 "PatternHouse$Piece" "lasts" "J" ∈ zBig := zb_of (by decide +kernel) (by decide +kernel)
set_option maxRecDepth 100000 in
theorem zb_108 : Cond.fieldLink RX3 21 "PatternHouse$Layer" "rows" "[LPatternHouse$Piece;" ∈ zBig := zb_of (by decide +kernel) (by decide +kernel)
set_option maxRecDepth 100000 in
theorem zb_109 : Cond.fieldLink RX3 37 "PatternHouse$Layer" "depth" "I" ∈ zBig := zb_of (by decide +kernel) (by decide +kernel)
set_option maxRecDepth 100000 in
theorem zb_110 : Cond.fieldLink RX3 28 "PatternHouse$Layer" "pattern" "LPatternHouse$Pattern;" ∈ zBig := zb_of (by decide +kernel) (by decide +kernel)
set_option maxRecDepth 100000 in
theorem zb_111 : Cond.fieldLink RX3 44 "PatternHouse$Pattern" "size" "I" ∈ zBig := zb_of (by decide +kernel) (by decide +kernel)
set_option maxRecDepth 100000 in
theorem zb_112 : Cond.code yX5_set cX5_set 7 none ∈ zBig := zb_of (by decide +kernel) (by decide +kernel)
set_option maxRecDepth 100000 in
theorem zb_113 : Cond.methodLink RX3 47 yX5_set ∈ zBig := zb_of (by decide +kernel) (by decide +kernel)
set_option maxRecDepth 100000 in
theorem zb_114 : Cond.instanceMethod yX5_set ∈ zBig := zb_of (by decide +kernel) (by decide +kernel)
set_option maxRecDepth 100000 in
theorem zb_115 : Cond.selects RX5 yX5_set yX5_set ∈ zBig := zb_of (by decide +kernel) (by decide +kernel)
set_option maxRecDepth 100000 in
theorem zb_116 : Cond.initialized RX5 ∈ zBig := zb_of (by decide +kernel) (by decide +kernel)
set_option maxRecDepth 100000 in
theorem zb_117 : Cond.fieldLink RX3 54 "PatternHouse$Layer" "hasPart" "Z" ∈ zBig := zb_of (by decide +kernel) (by decide +kernel)
set_option maxRecDepth 100000 in
theorem zb_118 : Cond.fieldLink RX3 25 "PatternHouse$Layer" "choices" "[LPatternHouse$Piece;" ∈ zBig := zb_of (by decide +kernel) (by decide +kernel)
set_option maxRecDepth 100000 in
theorem zb_119 : Cond.code yX3_beginRow cX3_beginRow 1 none ∈ zBig := zb_of (by decide +kernel) (by decide +kernel)
set_option maxRecDepth 100000 in
theorem zb_120 : Cond.methodLink RX3 51 yX3_beginRow ∈ zBig := zb_of (by decide +kernel) (by decide +kernel)
set_option maxRecDepth 100000 in
theorem zb_121 : Cond.instanceMethod yX3_beginRow ∈ zBig := zb_of (by decide +kernel) (by decide +kernel)
set_option maxRecDepth 100000 in
theorem zb_122 : Cond.selects RX3 yX3_beginRow yX3_beginRow ∈ zBig := zb_of (by decide +kernel) (by decide +kernel)
set_option maxRecDepth 100000 in
theorem zb_123 : Cond.initialized RX3 ∈ zBig := zb_of (by decide +kernel) (by decide +kernel)
set_option maxRecDepth 100000 in
theorem zb_124 : Cond.code yX4_wipe cX4_wipe 1 none ∈ zBig := zb_of (by decide +kernel) (by decide +kernel)
set_option maxRecDepth 100000 in
theorem zb_125 : Cond.methodLink RX3 32 yX4_wipe ∈ zBig := zb_of (by decide +kernel) (by decide +kernel)
set_option maxRecDepth 100000 in
theorem zb_126 : Cond.instanceMethod yX4_wipe ∈ zBig := zb_of (by decide +kernel) (by decide +kernel)
set_option maxRecDepth 100000 in
theorem zb_127 : Cond.selects RX4 yX4_wipe yX4_wipe ∈ zBig := zb_of (by decide +kernel) (by decide +kernel)
set_option maxRecDepth 100000 in
theorem zb_128 : Cond.code yX3_beginChoices cX3_beginChoices 1 none ∈ zBig := zb_of (by decide +kernel) (by decide +kernel)
set_option maxRecDepth 100000 in
theorem zb_129 : Cond.methodLink RX3 41 yX3_beginChoices ∈ zBig := zb_of (by decide +kernel) (by decide +kernel)
set_option maxRecDepth 100000 in
theorem zb_130 : Cond.instanceMethod yX3_beginChoices ∈ zBig := zb_of (by decide +kernel) (by decide +kernel)
set_option maxRecDepth 100000 in
theorem zb_131 : Cond.selects RX3 yX3_beginChoices yX3_beginChoices ∈ zBig := zb_of (by decide +kernel) (by decide +kernel)
set_option maxRecDepth 100000 in
theorem zb_132 : Cond.code yX4_connect cX4_connect 6 none ∈ zBig := zb_of (by decide +kernel) (by decide +kernel)
set_option maxRecDepth 100000 in
theorem zb_133 : Cond.methodLink RX5 24 yX4_connect ∈ zBig := zb_of (by decide +kernel) (by decide +kernel)
set_option maxRecDepth 100000 in
theorem zb_134 : Cond.instanceMethod yX4_connect ∈ zBig := zb_of (by decide +kernel) (by decide +kernel)
set_option maxRecDepth 100000 in
theorem zb_135 : Cond.selects RX4 yX4_connect yX4_connect ∈ zBig := zb_of (by decide +kernel) (by decide +kernel)
set_option maxRecDepth 100000 in
theorem zb_136 : Cond.fieldLink RX3 12 "PatternHouse$Layer" "part" "LPatternHouse$Piece;" ∈ zBig := zb_of (by decide +kernel) (by decide +kernel)
set_option maxRecDepth 100000 in
theorem zb_137 : Cond.code yX5_append cX5_append 3 none ∈ zBig := zb_of (by decide +kernel) (by decide +kernel)
set_option maxRecDepth 100000 in
theorem zb_138 : Cond.methodLink RX3 58 yX5_append ∈ zBig := zb_of (by decide +kernel) (by decide +kernel)
set_option maxRecDepth 100000 in
theorem zb_139 : Cond.instanceMethod yX5_append ∈ zBig := zb_of (by decide +kernel) (by decide +kernel)
set_option maxRecDepth 100000 in
theorem zb_140 : Cond.selects RX5 yX5_append yX5_append ∈ zBig := zb_of (by decide +kernel) (by decide +kernel)
set_option maxRecDepth 100000 in
theorem zb_141 : Cond.code yX3_endPart cX3_endPart 1 none ∈ zBig := zb_of (by decide +kernel) (by decide +kernel)
set_option maxRecDepth 100000 in
theorem zb_142 : Cond.methodLink RX3 62 yX3_endPart ∈ zBig := zb_of (by decide +kernel) (by decide +kernel)
set_option maxRecDepth 100000 in
theorem zb_143 : Cond.instanceMethod yX3_endPart ∈ zBig := zb_of (by decide +kernel) (by decide +kernel)
set_option maxRecDepth 100000 in
theorem zb_144 : Cond.selects RX3 yX3_endPart yX3_endPart ∈ zBig := zb_of (by decide +kernel) (by decide +kernel)
set_option maxRecDepth 100000 in
theorem zb_145 : Cond.code yX5_orElse cX5_orElse 2 none ∈ zBig := zb_of (by decide +kernel) (by decide +kernel)
set_option maxRecDepth 100000 in
theorem zb_146 : Cond.methodLink RX3 65 yX5_orElse ∈ zBig := zb_of (by decide +kernel) (by decide +kernel)
set_option maxRecDepth 100000 in
theorem zb_147 : Cond.instanceMethod yX5_orElse ∈ zBig := zb_of (by decide +kernel) (by decide +kernel)
set_option maxRecDepth 100000 in
theorem zb_148 : Cond.selects RX5 yX5_orElse yX5_orElse ∈ zBig := zb_of (by decide +kernel) (by decide +kernel)
set_option maxRecDepth 100000 in
theorem zb_149 : Cond.fieldLink RX4 15 "PatternHouse$Pattern" "lettersOf" "[J" ∈ zBig := zb_of (by decide +kernel) (by decide +kernel)
set_option maxRecDepth 100000 in
theorem zb_150 : Cond.code yX4_addPosition cX4_addPosition 3 none ∈ zBig := zb_of (by decide +kernel) (by decide +kernel)
set_option maxRecDepth 100000 in
theorem zb_151 : Cond.methodLink RX3 69 yX4_addPosition ∈ zBig := zb_of (by decide +kernel) (by decide +kernel)
set_option maxRecDepth 100000 in
theorem zb_152 : Cond.instanceMethod yX4_addPosition ∈ zBig := zb_of (by decide +kernel) (by decide +kernel)
set_option maxRecDepth 100000 in
theorem zb_153 : Cond.selects RX4 yX4_addPosition yX4_addPosition ∈ zBig := zb_of (by decide +kernel) (by decide +kernel)
set_option maxRecDepth 100000 in
theorem zb_154 : Cond.fieldLink RX3 73 "PatternHouse$Piece" "from" "I" ∈ zBig := zb_of (by decide +kernel) (by decide +kernel)
set_option maxRecDepth 100000 in
theorem zb_155 : Cond.fieldLink RX3 76 "PatternHouse$Piece" "hasEmptyWord" "Z" ∈ zBig := zb_of (by decide +kernel) (by decide +kernel)
set_option maxRecDepth 100000 in
theorem zb_156 : Cond.fieldLink RX3 79 "PatternHouse$Piece" "firsts" "J" ∈ zBig := zb_of (by decide +kernel) (by decide +kernel)
set_option maxRecDepth 100000 in
theorem zb_157 : Cond.fieldLink RX3 83 "PatternHouse$Piece" "lasts" "J" ∈ zBig := zb_of (by decide +kernel) (by decide +kernel)
set_option maxRecDepth 100000 in
theorem zb_158 : Cond.methodLink RX3 86 yX4_connect ∈ zBig := zb_of (by decide +kernel) (by decide +kernel)
set_option maxRecDepth 100000 in
theorem zb_159 : Cond.fieldLink RX3 18 "PatternHouse$Layer" "copy" "LPatternHouse$Piece;" ∈ zBig := zb_of (by decide +kernel) (by decide +kernel)
set_option maxRecDepth 100000 in
theorem zb_160 : Cond.code yX4_copyPositions cX4_copyPositions 6 none ∈ zBig := zb_of (by decide +kernel) (by decide +kernel)
set_option maxRecDepth 100000 in
theorem zb_161 : Cond.methodLink RX3 90 yX4_copyPositions ∈ zBig := zb_of (by decide +kernel) (by decide +kernel)
set_option maxRecDepth 100000 in
theorem zb_162 : Cond.instanceMethod yX4_copyPositions ∈ zBig := zb_of (by decide +kernel) (by decide +kernel)
set_option maxRecDepth 100000 in
theorem zb_163 : Cond.selects RX4 yX4_copyPositions yX4_copyPositions ∈ zBig := zb_of (by decide +kernel) (by decide +kernel)
set_option maxRecDepth 100000 in
theorem zb_164 : Cond.fieldLink RX4 18 "PatternHouse$Pattern" "havers" "[J" ∈ zBig := zb_of (by decide +kernel) (by decide +kernel)
set_option maxRecDepth 100000 in
theorem zb_165 : Cond.code yX4_haversOf cX4_haversOf 5 (some .long) ∈ zBig := zb_of (by decide +kernel) (by decide +kernel)
set_option maxRecDepth 100000 in
theorem zb_166 : Cond.methodLink RX4 51 yX4_haversOf ∈ zBig := zb_of (by decide +kernel) (by decide +kernel)
set_option maxRecDepth 100000 in
theorem zb_167 : Cond.instanceMethod yX4_haversOf ∈ zBig := zb_of (by decide +kernel) (by decide +kernel)
set_option maxRecDepth 100000 in
theorem zb_168 : Cond.selects RX4 yX4_haversOf yX4_haversOf ∈ zBig := zb_of (by decide +kernel) (by decide +kernel)
set_option maxRecDepth 100000 in
theorem zb_169 : Cond.fieldLink RX4 36 "PatternHouse$Piece" "hasEmptyWord" "Z" ∈ zBig := zb_of (by decide +kernel) (by decide +kernel)
set_option maxRecDepth 100000 in
theorem zb_170 : Cond.fieldLink RX4 41 "PatternHouse$Pattern" "hasEmptyWord" "Z" ∈ zBig := zb_of (by decide +kernel) (by decide +kernel)
set_option maxRecDepth 100000 in
theorem zb_171 : Cond.fieldLink RX4 42 "PatternHouse$Piece" "firsts" "J" ∈ zBig := zb_of (by decide +kernel) (by decide +kernel)
set_option maxRecDepth 100000 in
theorem zb_172 : Cond.fieldLink RX4 46 "PatternHouse$Pattern" "firsts" "J" ∈ zBig := zb_of (by decide +kernel) (by decide +kernel)
set_option maxRecDepth 100000 in
theorem zb_173 : Cond.fieldLink RX4 47 "PatternHouse$Piece" "lasts" "J" ∈ zBig := zb_of (by decide +kernel) (by decide +kernel)
set_option maxRecDepth 100000 in
theorem zb_174 : Cond.fieldLink RX4 50 "PatternHouse$Pattern" "lasts" "J" ∈ zBig := zb_of (by decide +kernel) (by decide +kernel)
set_option maxRecDepth 100000 in
theorem zb_175 : Cond.code yX3_endRow cX3_endRow 1 none ∈ zBig := zb_of (by decide +kernel) (by decide +kernel)
set_option maxRecDepth 100000 in
theorem zb_176 : Cond.methodLink RX3 94 yX3_endRow ∈ zBig := zb_of (by decide +kernel) (by decide +kernel)
set_option maxRecDepth 100000 in
theorem zb_177 : Cond.instanceMethod yX3_endRow ∈ zBig := zb_of (by decide +kernel) (by decide +kernel)
set_option maxRecDepth 100000 in
theorem zb_178 : Cond.selects RX3 yX3_endRow yX3_endRow ∈ zBig := zb_of (by decide +kernel) (by decide +kernel)
set_option maxRecDepth 100000 in
theorem zb_179 : Cond.code yX4_complete cX4_complete 3 none ∈ zBig := zb_of (by decide +kernel) (by decide +kernel)
set_option maxRecDepth 100000 in
theorem zb_180 : Cond.methodLink RX3 97 yX4_complete ∈ zBig := zb_of (by decide +kernel) (by decide +kernel)
set_option maxRecDepth 100000 in
theorem zb_181 : Cond.instanceMethod yX4_complete ∈ zBig := zb_of (by decide +kernel) (by decide +kernel)
set_option maxRecDepth 100000 in
theorem zb_182 : Cond.selects RX4 yX4_complete yX4_complete ∈ zBig := zb_of (by decide +kernel) (by decide +kernel)
set_option maxRecDepth 100000 in
theorem zb_183 : Cond.fieldLink RX6 26 "PatternHouse$Reader" "length" "I" ∈ zBig := zb_of (by decide +kernel) (by decide +kernel)
set_option maxRecDepth 100000 in
theorem zb_184 : Cond.fieldLink RX6 15 "PatternHouse$Reader" "characters" "[I" ∈ zBig := zb_of (by decide +kernel) (by decide +kernel)
set_option maxRecDepth 100000 in
theorem zb_185 : Cond.code yX9_byteOf cX9_byteOf 3 (some .int) ∈ zBig := zb_of (by decide +kernel) (by decide +kernel)
set_option maxRecDepth 100000 in
theorem zb_186 : Cond.static yX9_byteOf ∈ zBig := zb_of (by decide +kernel) (by decide +kernel)
set_option maxRecDepth 100000 in
theorem zb_187 : Cond.fieldLink RX6 33 "PatternHouse$Reader" "fault" "I" ∈ zBig := zb_of (by decide +kernel) (by decide +kernel)
set_option maxRecDepth 100000 in
theorem zb_188 : Cond.fieldLink RX6 9 "PatternHouse$Reader" "faultPlace" "I" ∈ zBig := zb_of (by decide +kernel) (by decide +kernel)
set_option maxRecDepth 100000 in
theorem zb_189 : Cond.code yX6_fail cX6_fail 3 none ∈ zBig := zb_of (by decide +kernel) (by decide +kernel)
set_option maxRecDepth 100000 in
theorem zb_190 : Cond.methodLink RX6 56 yX6_fail ∈ zBig := zb_of (by decide +kernel) (by decide +kernel)
set_option maxRecDepth 100000 in
theorem zb_191 : Cond.instanceMethod yX6_fail ∈ zBig := zb_of (by decide +kernel) (by decide +kernel)
set_option maxRecDepth 100000 in
theorem zb_192 : Cond.selects RX6 yX6_fail yX6_fail ∈ zBig := zb_of (by decide +kernel) (by decide +kernel)
set_option maxRecDepth 100000 in
theorem zb_193 : Cond.initialized RX6 ∈ zBig := zb_of (by decide +kernel) (by decide +kernel)
set_option maxRecDepth 100000 in
theorem zb_194 : Cond.fieldLink RX6 103 "PatternHouse$Reader" "openedAt" "I" ∈ zBig := zb_of (by decide +kernel) (by decide +kernel)
set_option maxRecDepth 100000 in
theorem zb_195 : Cond.fieldLink RX6 106 "PatternHouse$Reader" "set" "J" ∈ zBig := zb_of (by decide +kernel) (by decide +kernel)
set_option maxRecDepth 100000 in
theorem zb_196 : Cond.fieldLink RX6 110 "PatternHouse$Reader" "negated" "Z" ∈ zBig := zb_of (by decide +kernel) (by decide +kernel)
set_option maxRecDepth 100000 in
theorem zb_197 : Cond.fieldLink RX6 36 "PatternHouse$Reader" "mode" "I" ∈ zBig := zb_of (by decide +kernel) (by decide +kernel)
set_option maxRecDepth 100000 in
theorem zb_198 : Cond.fieldLink RX6 22 "PatternHouse$Reader" "layer" "LPatternHouse$Layer;" ∈ zBig := zb_of (by decide +kernel) (by decide +kernel)
set_option maxRecDepth 100000 in
theorem zb_199 : Cond.code yX3_allowNone cX3_allowNone 1 none ∈ zBig := zb_of (by decide +kernel) (by decide +kernel)
set_option maxRecDepth 100000 in
theorem zb_200 : Cond.methodLink RX6 100 yX3_allowNone ∈ zBig := zb_of (by decide +kernel) (by decide +kernel)
set_option maxRecDepth 100000 in
theorem zb_201 : Cond.instanceMethod yX3_allowNone ∈ zBig := zb_of (by decide +kernel) (by decide +kernel)
set_option maxRecDepth 100000 in
theorem zb_202 : Cond.selects RX3 yX3_allowNone yX3_allowNone ∈ zBig := zb_of (by decide +kernel) (by decide +kernel)
set_option maxRecDepth 100000 in
theorem zb_203 : Cond.code yX3_allowMore cX3_allowMore 1 none ∈ zBig := zb_of (by decide +kernel) (by decide +kernel)
set_option maxRecDepth 100000 in
theorem zb_204 : Cond.methodLink RX6 97 yX3_allowMore ∈ zBig := zb_of (by decide +kernel) (by decide +kernel)
set_option maxRecDepth 100000 in
theorem zb_205 : Cond.instanceMethod yX3_allowMore ∈ zBig := zb_of (by decide +kernel) (by decide +kernel)
set_option maxRecDepth 100000 in
theorem zb_206 : Cond.selects RX3 yX3_allowMore yX3_allowMore ∈ zBig := zb_of (by decide +kernel) (by decide +kernel)
set_option maxRecDepth 100000 in
theorem zb_207 : Cond.fieldLink RX6 90 "PatternHouse$Layer" "hasPart" "Z" ∈ zBig := zb_of (by decide +kernel) (by decide +kernel)
set_option maxRecDepth 100000 in
theorem zb_208 : Cond.code yX6_takeSuffix cX6_takeSuffix 3 none ∈ zBig := zb_of (by decide +kernel) (by decide +kernel)
set_option maxRecDepth 100000 in
theorem zb_209 : Cond.methodLink RX6 94 yX6_takeSuffix ∈ zBig := zb_of (by decide +kernel) (by decide +kernel)
set_option maxRecDepth 100000 in
theorem zb_210 : Cond.instanceMethod yX6_takeSuffix ∈ zBig := zb_of (by decide +kernel) (by decide +kernel)
set_option maxRecDepth 100000 in
theorem zb_211 : Cond.selects RX6 yX6_takeSuffix yX6_takeSuffix ∈ zBig := zb_of (by decide +kernel) (by decide +kernel)
set_option maxRecDepth 100000 in
theorem zb_212 : Cond.code yX9_letterOf cX9_letterOf 1 (some .int) ∈ zBig := zb_of (by decide +kernel) (by decide +kernel)
set_option maxRecDepth 100000 in
theorem zb_213 : Cond.static yX9_letterOf ∈ zBig := zb_of (by decide +kernel) (by decide +kernel)
set_option maxRecDepth 100000 in
theorem zb_214 : Cond.fieldLink RX6 53 "PatternHouse$Layer" "depth" "I" ∈ zBig := zb_of (by decide +kernel) (by decide +kernel)
set_option maxRecDepth 100000 in
theorem zb_215 : Cond.methodLink RX6 84 yX3_endRow ∈ zBig := zb_of (by decide +kernel) (by decide +kernel)
set_option maxRecDepth 100000 in
theorem zb_216 : Cond.code yX3_closeBracket cX3_closeBracket 2 none ∈ zBig := zb_of (by decide +kernel) (by decide +kernel)
set_option maxRecDepth 100000 in
theorem zb_217 : Cond.methodLink RX6 87 yX3_closeBracket ∈ zBig := zb_of (by decide +kernel) (by decide +kernel)
set_option maxRecDepth 100000 in
theorem zb_218 : Cond.instanceMethod yX3_closeBracket ∈ zBig := zb_of (by decide +kernel) (by decide +kernel)
set_option maxRecDepth 100000 in
theorem zb_219 : Cond.selects RX3 yX3_closeBracket yX3_closeBracket ∈ zBig := zb_of (by decide +kernel) (by decide +kernel)
set_option maxRecDepth 100000 in
theorem zb_220 : Cond.code yX3_openBracket cX3_openBracket 1 (some .boolean) ∈ zBig := zb_of (by decide +kernel) (by decide +kernel)
set_option maxRecDepth 100000 in
theorem zb_221 : Cond.methodLink RX6 80 yX3_openBracket ∈ zBig := zb_of (by decide +kernel) (by decide +kernel)
set_option maxRecDepth 100000 in
theorem zb_222 : Cond.instanceMethod yX3_openBracket ∈ zBig := zb_of (by decide +kernel) (by decide +kernel)
set_option maxRecDepth 100000 in
theorem zb_223 : Cond.selects RX3 yX3_openBracket yX3_openBracket ∈ zBig := zb_of (by decide +kernel) (by decide +kernel)
set_option maxRecDepth 100000 in
theorem zb_224 : Cond.code yX6_failUnless cX6_failUnless 4 none ∈ zBig := zb_of (by decide +kernel) (by decide +kernel)
set_option maxRecDepth 100000 in
theorem zb_225 : Cond.methodLink RX6 70 yX6_failUnless ∈ zBig := zb_of (by decide +kernel) (by decide +kernel)
set_option maxRecDepth 100000 in
theorem zb_226 : Cond.instanceMethod yX6_failUnless ∈ zBig := zb_of (by decide +kernel) (by decide +kernel)
set_option maxRecDepth 100000 in
theorem zb_227 : Cond.selects RX6 yX6_failUnless yX6_failUnless ∈ zBig := zb_of (by decide +kernel) (by decide +kernel)
set_option maxRecDepth 100000 in
theorem zb_228 : Cond.code yX6_openSet cX6_openSet 2 none ∈ zBig := zb_of (by decide +kernel) (by decide +kernel)
set_option maxRecDepth 100000 in
theorem zb_229 : Cond.methodLink RX6 76 yX6_openSet ∈ zBig := zb_of (by decide +kernel) (by decide +kernel)
set_option maxRecDepth 100000 in
theorem zb_230 : Cond.instanceMethod yX6_openSet ∈ zBig := zb_of (by decide +kernel) (by decide +kernel)
set_option maxRecDepth 100000 in
theorem zb_231 : Cond.selects RX6 yX6_openSet yX6_openSet ∈ zBig := zb_of (by decide +kernel) (by decide +kernel)
set_option maxRecDepth 100000 in
theorem zb_232 : Cond.constantLong RX6 74 (68719476735) ∈ zBig := zb_of (by decide +kernel) (by decide +kernel)
set_option maxRecDepth 100000 in
theorem zb_233 : Cond.code yX3_addAtom cX3_addAtom 5 (some .boolean) ∈ zBig := zb_of (by decide +kernel) (by decide +kernel)
set_option maxRecDepth 100000 in
theorem zb_234 : Cond.methodLink RX6 66 yX3_addAtom ∈ zBig := zb_of (by decide +kernel) (by decide +kernel)
set_option maxRecDepth 100000 in
theorem zb_235 : Cond.instanceMethod yX3_addAtom ∈ zBig := zb_of (by decide +kernel) (by decide +kernel)
set_option maxRecDepth 100000 in
theorem zb_236 : Cond.selects RX3 yX3_addAtom yX3_addAtom ∈ zBig := zb_of (by decide +kernel) (by decide +kernel)
set_option maxRecDepth 100000 in
theorem zb_237 : Cond.fieldLink RX6 118 "PatternHouse$Reader" "latestLetter" "I" ∈ zBig := zb_of (by decide +kernel) (by decide +kernel)
set_option maxRecDepth 100000 in
theorem zb_238 : Cond.constantLong RX6 124 (2) ∈ zBig := zb_of (by decide +kernel) (by decide +kernel)
set_option maxRecDepth 100000 in
theorem zb_239 : Cond.fieldLink RX6 121 "PatternHouse$Reader" "latestAt" "I" ∈ zBig := zb_of (by decide +kernel) (by decide +kernel)
set_option maxRecDepth 100000 in
theorem zb_240 : Cond.constantLong RX6 116 (-1) ∈ zBig := zb_of (by decide +kernel) (by decide +kernel)
set_option maxRecDepth 100000 in
theorem zb_241 : Cond.code yX6_takeSetLetter cX6_takeSetLetter 3 none ∈ zBig := zb_of (by decide +kernel) (by decide +kernel)
set_option maxRecDepth 100000 in
theorem zb_242 : Cond.methodLink RX6 113 yX6_takeSetLetter ∈ zBig := zb_of (by decide +kernel) (by decide +kernel)
set_option maxRecDepth 100000 in
theorem zb_243 : Cond.instanceMethod yX6_takeSetLetter ∈ zBig := zb_of (by decide +kernel) (by decide +kernel)
set_option maxRecDepth 100000 in
theorem zb_244 : Cond.selects RX6 yX6_takeSetLetter yX6_takeSetLetter ∈ zBig := zb_of (by decide +kernel) (by decide +kernel)
set_option maxRecDepth 100000 in
theorem zb_245 : Cond.fieldLink RX6 126 "PatternHouse$Reader" "least" "I" ∈ zBig := zb_of (by decide +kernel) (by decide +kernel)
set_option maxRecDepth 100000 in
theorem zb_246 : Cond.fieldLink RX6 129 "PatternHouse$Reader" "most" "I" ∈ zBig := zb_of (by decide +kernel) (by decide +kernel)
set_option maxRecDepth 100000 in
theorem zb_247 : Cond.code yX3_repeat cX3_repeat 11 (some .boolean) ∈ zBig := zb_of (by decide +kernel) (by decide +kernel)
set_option maxRecDepth 100000 in
theorem zb_248 : Cond.methodLink RX6 135 yX3_repeat ∈ zBig := zb_of (by decide +kernel) (by decide +kernel)
set_option maxRecDepth 100000 in
theorem zb_249 : Cond.instanceMethod yX3_repeat ∈ zBig := zb_of (by decide +kernel) (by decide +kernel)
set_option maxRecDepth 100000 in
theorem zb_250 : Cond.selects RX3 yX3_repeat yX3_repeat ∈ zBig := zb_of (by decide +kernel) (by decide +kernel)
set_option maxRecDepth 100000 in
theorem zb_251 : Cond.code yX6_closeTimes cX6_closeTimes 1 none ∈ zBig := zb_of (by decide +kernel) (by decide +kernel)
set_option maxRecDepth 100000 in
theorem zb_252 : Cond.methodLink RX6 132 yX6_closeTimes ∈ zBig := zb_of (by decide +kernel) (by decide +kernel)
set_option maxRecDepth 100000 in
theorem zb_253 : Cond.instanceMethod yX6_closeTimes ∈ zBig := zb_of (by decide +kernel) (by decide +kernel)
set_option maxRecDepth 100000 in
theorem zb_254 : Cond.selects RX6 yX6_closeTimes yX6_closeTimes ∈ zBig := zb_of (by decide +kernel) (by decide +kernel)
set_option maxRecDepth 100000 in
theorem zb_255 : Cond.code yX3_finish cX3_finish 1 none ∈ zBig := zb_of (by decide +kernel) (by decide +kernel)
set_option maxRecDepth 100000 in
theorem zb_256 : Cond.methodLink RX6 59 yX3_finish ∈ zBig := zb_of (by decide +kernel) (by decide +kernel)
set_option maxRecDepth 100000 in
theorem zb_257 : Cond.instanceMethod yX3_finish ∈ zBig := zb_of (by decide +kernel) (by decide +kernel)
set_option maxRecDepth 100000 in
theorem zb_258 : Cond.selects RX3 yX3_finish yX3_finish ∈ zBig := zb_of (by decide +kernel) (by decide +kernel)
set_option maxRecDepth 100000 in
theorem zb_259 : Cond.code yX6_takeInTimes cX6_takeInTimes 4 none ∈ zBig := zb_of (by decide +kernel) (by decide +kernel)
set_option maxRecDepth 100000 in
theorem zb_260 : Cond.methodLink RX6 50 yX6_takeInTimes ∈ zBig := zb_of (by decide +kernel) (by decide +kernel)
set_option maxRecDepth 100000 in
theorem zb_261 : Cond.instanceMethod yX6_takeInTimes ∈ zBig := zb_of (by decide +kernel) (by decide +kernel)
set_option maxRecDepth 100000 in
theorem zb_262 : Cond.selects RX6 yX6_takeInTimes yX6_takeInTimes ∈ zBig := zb_of (by decide +kernel) (by decide +kernel)
set_option maxRecDepth 100000 in
theorem zb_263 : Cond.code yX6_takeInSet cX6_takeInSet 4 none ∈ zBig := zb_of (by decide +kernel) (by decide +kernel)
set_option maxRecDepth 100000 in
theorem zb_264 : Cond.methodLink RX6 47 yX6_takeInSet ∈ zBig := zb_of (by decide +kernel) (by decide +kernel)
set_option maxRecDepth 100000 in
theorem zb_265 : Cond.instanceMethod yX6_takeInSet ∈ zBig := zb_of (by decide +kernel) (by decide +kernel)
set_option maxRecDepth 100000 in
theorem zb_266 : Cond.selects RX6 yX6_takeInSet yX6_takeInSet ∈ zBig := zb_of (by decide +kernel) (by decide +kernel)
set_option maxRecDepth 100000 in
theorem zb_267 : Cond.code yX6_takeInRow cX6_takeInRow 4 none ∈ zBig := zb_of (by decide +kernel) (by decide +kernel)
set_option maxRecDepth 100000 in
theorem zb_268 : Cond.methodLink RX6 43 yX6_takeInRow ∈ zBig := zb_of (by decide +kernel) (by decide +kernel)
set_option maxRecDepth 100000 in
theorem zb_269 : Cond.instanceMethod yX6_takeInRow ∈ zBig := zb_of (by decide +kernel) (by decide +kernel)
set_option maxRecDepth 100000 in
theorem zb_270 : Cond.selects RX6 yX6_takeInRow yX6_takeInRow ∈ zBig := zb_of (by decide +kernel) (by decide +kernel)
set_option maxRecDepth 100000 in
theorem zb_271 : Cond.code yX3_begin cX3_begin 2 none ∈ zBig := zb_of (by decide +kernel) (by decide +kernel)
set_option maxRecDepth 100000 in
theorem zb_272 : Cond.methodLink RX6 39 yX3_begin ∈ zBig := zb_of (by decide +kernel) (by decide +kernel)
set_option maxRecDepth 100000 in
theorem zb_273 : Cond.instanceMethod yX3_begin ∈ zBig := zb_of (by decide +kernel) (by decide +kernel)
set_option maxRecDepth 100000 in
theorem zb_274 : Cond.selects RX3 yX3_begin yX3_begin ∈ zBig := zb_of (by decide +kernel) (by decide +kernel)
set_option maxRecDepth 100000 in
theorem zb_275 : Cond.fieldLink RX8 33 "PatternHouse$Text" "looked" "Z" ∈ zBig := zb_of (by decide +kernel) (by decide +kernel)
set_option maxRecDepth 100000 in
theorem zb_276 : Cond.fieldLink RX8 21 "PatternHouse$Text" "length" "I" ∈ zBig := zb_of (by decide +kernel) (by decide +kernel)
set_option maxRecDepth 100000 in
theorem zb_277 : Cond.fieldLink RX8 18 "PatternHouse$Text" "letters" "[I" ∈ zBig := zb_of (by decide +kernel) (by decide +kernel)
set_option maxRecDepth 100000 in
theorem zb_278 : Cond.methodLink RX8 53 yX4_behindAny ∈ zBig := zb_of (by decide +kernel) (by decide +kernel)
set_option maxRecDepth 100000 in
theorem zb_279 : Cond.fieldLink RX8 46 "PatternHouse$Pattern" "havers" "[J" ∈ zBig := zb_of (by decide +kernel) (by decide +kernel)
set_option maxRecDepth 100000 in
theorem zb_280 : Cond.fieldLink RX8 50 "PatternHouse$Pattern" "lasts" "J" ∈ zBig := zb_of (by decide +kernel) (by decide +kernel)
set_option maxRecDepth 100000 in
theorem zb_281 : Cond.fieldLink RX8 37 "PatternHouse$Pattern" "hasEmptyWord" "Z" ∈ zBig := zb_of (by decide +kernel) (by decide +kernel)
set_option maxRecDepth 100000 in
theorem zb_282 : Cond.fieldLink RX8 42 "PatternHouse$Pattern" "firsts" "J" ∈ zBig := zb_of (by decide +kernel) (by decide +kernel)
set_option maxRecDepth 100000 in
theorem zb_283 : Cond.fieldLink RX8 9 "PatternHouse$Text" "begins" "[I" ∈ zBig := zb_of (by decide +kernel) (by decide +kernel)
set_option maxRecDepth 100000 in
theorem zb_284 : Cond.fieldLink RX8 57 "PatternHouse$Text" "found" "I" ∈ zBig := zb_of (by decide +kernel) (by decide +kernel)
set_option maxRecDepth 100000 in
theorem zb_285 : Cond.fieldLink RX8 15 "PatternHouse$Text" "ends" "[I" ∈ zBig := zb_of (by decide +kernel) (by decide +kernel)
set_option maxRecDepth 100000 in
theorem zb_286 : Cond.code yX8_longestEnd cX8_longestEnd 9 (some .int) ∈ zBig := zb_of (by decide +kernel) (by decide +kernel)
set_option maxRecDepth 100000 in
theorem zb_287 : Cond.methodLink RX8 60 yX8_longestEnd ∈ zBig := zb_of (by decide +kernel) (by decide +kernel)
set_option maxRecDepth 100000 in
theorem zb_288 : Cond.instanceMethod yX8_longestEnd ∈ zBig := zb_of (by decide +kernel) (by decide +kernel)
set_option maxRecDepth 100000 in
theorem zb_289 : Cond.selects RX8 yX8_longestEnd yX8_longestEnd ∈ zBig := zb_of (by decide +kernel) (by decide +kernel)
set_option maxRecDepth 100000 in
theorem zb_290 : Cond.initialized RX8 ∈ zBig := zb_of (by decide +kernel) (by decide +kernel)
set_option maxRecDepth 100000 in
theorem zb_291 : Cond.fieldLink RX9 10 "PatternHouse" "reader" "LPatternHouse$Reader;" ∈ zBig := zb_of (by decide +kernel) (by decide +kernel)
set_option maxRecDepth 100000 in
theorem zb_292 : Cond.fieldLink RX9 54 "PatternHouse$Reader" "length" "I" ∈ zBig := zb_of (by decide +kernel) (by decide +kernel)
set_option maxRecDepth 100000 in
theorem zb_293 : Cond.code yX6_append cX6_append 5 none ∈ zBig := zb_of (by decide +kernel) (by decide +kernel)
set_option maxRecDepth 100000 in
theorem zb_294 : Cond.methodLink RX9 61 yX6_append ∈ zBig := zb_of (by decide +kernel) (by decide +kernel)
set_option maxRecDepth 100000 in
theorem zb_295 : Cond.instanceMethod yX6_append ∈ zBig := zb_of (by decide +kernel) (by decide +kernel)
set_option maxRecDepth 100000 in
theorem zb_296 : Cond.selects RX6 yX6_append yX6_append ∈ zBig := zb_of (by decide +kernel) (by decide +kernel)
set_option maxRecDepth 100000 in
theorem zb_297 : Cond.fieldLink RX9 47 "PatternHouse" "patterns" "[LPatternHouse$Pattern;" ∈ zBig := zb_of (by decide +kernel) (by decide +kernel)
set_option maxRecDepth 100000 in
theorem zb_298 : Cond.fieldLink RX9 73 "PatternHouse" "current" "LPatternHouse$Pattern;" ∈ zBig := zb_of (by decide +kernel) (by decide +kernel)
set_option maxRecDepth 100000 in
theorem zb_299 : Cond.fieldLink RX9 165 "PatternHouse" "kept" "LPatternHouse$Pattern;" ∈ zBig := zb_of (by decide +kernel) (by decide +kernel)
set_option maxRecDepth 100000 in
theorem zb_300 : Cond.code yX9_freePattern cX9_freePattern 3 (some (.object "PatternHouse$Pattern")) ∈ zBig := zb_of (by decide +kernel) (by decide +kernel)
set_option maxRecDepth 100000 in
theorem zb_301 : Cond.methodLink RX9 65 yX9_freePattern ∈ zBig := zb_of (by decide +kernel) (by decide +kernel)
set_option maxRecDepth 100000 in
theorem zb_302 : Cond.instanceMethod yX9_freePattern ∈ zBig := zb_of (by decide +kernel) (by decide +kernel)
set_option maxRecDepth 100000 in
theorem zb_303 : Cond.selects RX9 yX9_freePattern yX9_freePattern ∈ zBig := zb_of (by decide +kernel) (by decide +kernel)
set_option maxRecDepth 100000 in
theorem zb_304 : Cond.code yX6_layOut cX6_layOut 4 (some .int) ∈ zBig := zb_of (by decide +kernel) (by decide +kernel)
set_option maxRecDepth 100000 in
theorem zb_305 : Cond.methodLink RX9 69 yX6_layOut ∈ zBig := zb_of (by decide +kernel) (by decide +kernel)
set_option maxRecDepth 100000 in
theorem zb_306 : Cond.instanceMethod yX6_layOut ∈ zBig := zb_of (by decide +kernel) (by decide +kernel)
set_option maxRecDepth 100000 in
theorem zb_307 : Cond.selects RX6 yX6_layOut yX6_layOut ∈ zBig := zb_of (by decide +kernel) (by decide +kernel)
set_option maxRecDepth 100000 in
theorem zb_308 : Cond.fieldLink RX9 19 "PatternHouse" "text" "LPatternHouse$Text;" ∈ zBig := zb_of (by decide +kernel) (by decide +kernel)
set_option maxRecDepth 100000 in
theorem zb_309 : Cond.code yX8_forgetFinds cX8_forgetFinds 1 none ∈ zBig := zb_of (by decide +kernel) (by decide +kernel)
set_option maxRecDepth 100000 in
theorem zb_310 : Cond.methodLink RX9 77 yX8_forgetFinds ∈ zBig := zb_of (by decide +kernel) (by decide +kernel)
set_option maxRecDepth 100000 in
theorem zb_311 : Cond.instanceMethod yX8_forgetFinds ∈ zBig := zb_of (by decide +kernel) (by decide +kernel)
set_option maxRecDepth 100000 in
theorem zb_312 : Cond.selects RX8 yX8_forgetFinds yX8_forgetFinds ∈ zBig := zb_of (by decide +kernel) (by decide +kernel)
set_option maxRecDepth 100000 in
theorem zb_313 : Cond.fieldLink RX9 80 "PatternHouse$Reader" "faultPlace" "I" ∈ zBig := zb_of (by decide +kernel) (by decide +kernel)
set_option maxRecDepth 100000 in
theorem zb_314 : Cond.code yX9_thePattern cX9_thePattern 1 (some (.object "PatternHouse$Pattern")) ∈ zBig := zb_of (by decide +kernel) (by decide +kernel)
set_option maxRecDepth 100000 in
theorem zb_315 : Cond.methodLink RX9 83 yX9_thePattern ∈ zBig := zb_of (by decide +kernel) (by decide +kernel)
set_option maxRecDepth 100000 in
theorem zb_316 : Cond.instanceMethod yX9_thePattern ∈ zBig := zb_of (by decide +kernel) (by decide +kernel)
set_option maxRecDepth 100000 in
theorem zb_317 : Cond.selects RX9 yX9_thePattern yX9_thePattern ∈ zBig := zb_of (by decide +kernel) (by decide +kernel)
set_option maxRecDepth 100000 in
theorem zb_318 : Cond.fieldLink RX9 86 "PatternHouse$Pattern" "size" "I" ∈ zBig := zb_of (by decide +kernel) (by decide +kernel)
set_option maxRecDepth 100000 in
theorem zb_319 : Cond.fieldLink RX9 89 "PatternHouse$Pattern" "hasEmptyWord" "Z" ∈ zBig := zb_of (by decide +kernel) (by decide +kernel)
set_option maxRecDepth 100000 in
theorem zb_320 : Cond.methodLink RX9 103 yX9_holds ∈ zBig := zb_of (by decide +kernel) (by decide +kernel)
set_option maxRecDepth 100000 in
theorem zb_321 : Cond.fieldLink RX9 100 "PatternHouse$Pattern" "lasts" "J" ∈ zBig := zb_of (by decide +kernel) (by decide +kernel)
set_option maxRecDepth 100000 in
theorem zb_322 : Cond.fieldLink RX9 96 "PatternHouse$Pattern" "firsts" "J" ∈ zBig := zb_of (by decide +kernel) (by decide +kernel)
set_option maxRecDepth 100000 in
theorem zb_323 : Cond.fieldLink RX9 107 "PatternHouse$Pattern" "behind" "[J" ∈ zBig := zb_of (by decide +kernel) (by decide +kernel)
set_option maxRecDepth 100000 in
theorem zb_324 : Cond.fieldLink RX9 111 "PatternHouse$Pattern" "lettersOf" "[J" ∈ zBig := zb_of (by decide +kernel) (by decide +kernel)
set_option maxRecDepth 100000 in
theorem zb_325 : Cond.methodLink RX9 189 yX9_byteOf ∈ zBig := zb_of (by decide +kernel) (by decide +kernel)
set_option maxRecDepth 100000 in
theorem zb_326 : Cond.methodLink RX9 193 yX9_letterOf ∈ zBig := zb_of (by decide +kernel) (by decide +kernel)
set_option maxRecDepth 100000 in
theorem zb_327 : Cond.code yX9_allLetters cX9_allLetters 4 (some .boolean) ∈ zBig := zb_of (by decide +kernel) (by decide +kernel)
set_option maxRecDepth 100000 in
theorem zb_328 : Cond.methodLink RX9 114 yX9_allLetters ∈ zBig := zb_of (by decide +kernel) (by decide +kernel)
set_option maxRecDepth 100000 in
theorem zb_329 : Cond.static yX9_allLetters ∈ zBig := zb_of (by decide +kernel) (by decide +kernel)
set_option maxRecDepth 100000 in
theorem zb_330 : Cond.fieldLink RX9 117 "PatternHouse$Text" "length" "I" ∈ zBig := zb_of (by decide +kernel) (by decide +kernel)
set_option maxRecDepth 100000 in
theorem zb_331 : Cond.code yX8_append cX8_append 5 none ∈ zBig := zb_of (by decide +kernel) (by decide +kernel)
set_option maxRecDepth 100000 in
theorem zb_332 : Cond.methodLink RX9 118 yX8_append ∈ zBig := zb_of (by decide +kernel) (by decide +kernel)
set_option maxRecDepth 100000 in
theorem zb_333 : Cond.instanceMethod yX8_append ∈ zBig := zb_of (by decide +kernel) (by decide +kernel)
set_option maxRecDepth 100000 in
theorem zb_334 : Cond.selects RX8 yX8_append yX8_append ∈ zBig := zb_of (by decide +kernel) (by decide +kernel)
set_option maxRecDepth 100000 in
theorem zb_335 : Cond.code yX8_cutOff cX8_cutOff 1 none ∈ zBig := zb_of (by decide +kernel) (by decide +kernel)
set_option maxRecDepth 100000 in
theorem zb_336 : Cond.methodLink RX9 119 yX8_cutOff ∈ zBig := zb_of (by decide +kernel) (by decide +kernel)
set_option maxRecDepth 100000 in
theorem zb_337 : Cond.instanceMethod yX8_cutOff ∈ zBig := zb_of (by decide +kernel) (by decide +kernel)
set_option maxRecDepth 100000 in
theorem zb_338 : Cond.selects RX8 yX8_cutOff yX8_cutOff ∈ zBig := zb_of (by decide +kernel) (by decide +kernel)
set_option maxRecDepth 100000 in
theorem zb_339 : Cond.code yX8_isWordOf cX8_isWordOf 8 (some .boolean) ∈ zBig := zb_of (by decide +kernel) (by decide +kernel)
set_option maxRecDepth 100000 in
theorem zb_340 : Cond.methodLink RX9 122 yX8_isWordOf ∈ zBig := zb_of (by decide +kernel) (by decide +kernel)
set_option maxRecDepth 100000 in
theorem zb_341 : Cond.instanceMethod yX8_isWordOf ∈ zBig := zb_of (by decide +kernel) (by decide +kernel)
set_option maxRecDepth 100000 in
theorem zb_342 : Cond.selects RX8 yX8_isWordOf yX8_isWordOf ∈ zBig := zb_of (by decide +kernel) (by decide +kernel)
set_option maxRecDepth 100000 in
theorem zb_343 : Cond.code yX8_lookFor cX8_lookFor 5 none ∈ zBig := zb_of (by decide +kernel) (by decide +kernel)
set_option maxRecDepth 100000 in
theorem zb_344 : Cond.methodLink RX9 126 yX8_lookFor ∈ zBig := zb_of (by decide +kernel) (by decide +kernel)
set_option maxRecDepth 100000 in
theorem zb_345 : Cond.instanceMethod yX8_lookFor ∈ zBig := zb_of (by decide +kernel) (by decide +kernel)
set_option maxRecDepth 100000 in
theorem zb_346 : Cond.selects RX8 yX8_lookFor yX8_lookFor ∈ zBig := zb_of (by decide +kernel) (by decide +kernel)
set_option maxRecDepth 100000 in
theorem zb_347 : Cond.fieldLink RX9 130 "PatternHouse$Text" "found" "I" ∈ zBig := zb_of (by decide +kernel) (by decide +kernel)
set_option maxRecDepth 100000 in
theorem zb_348 : Cond.fieldLink RX9 137 "PatternHouse$Text" "begins" "[I" ∈ zBig := zb_of (by decide +kernel) (by decide +kernel)
set_option maxRecDepth 100000 in
theorem zb_349 : Cond.fieldLink RX9 133 "PatternHouse$Text" "ends" "[I" ∈ zBig := zb_of (by decide +kernel) (by decide +kernel)
set_option maxRecDepth 100000 in
theorem zb_350 : Cond.fieldLink RX9 178 "PatternHouse$Pattern" "automaton" "LPatternHouse$Automaton;" ∈ zBig := zb_of (by decide +kernel) (by decide +kernel)
set_option maxRecDepth 100000 in
theorem zb_351 : Cond.fieldLink RX9 182 "PatternHouse$Automaton" "isBuilt" "Z" ∈ zBig := zb_of (by decide +kernel) (by decide +kernel)
set_option maxRecDepth 100000 in
theorem zb_352 : Cond.fieldLink RX9 26 "PatternHouse" "register" "LPatternHouse$Register;" ∈ zBig := zb_of (by decide +kernel) (by decide +kernel)
set_option maxRecDepth 100000 in
theorem zb_353 : Cond.code yX0_build cX0_build 6 none ∈ zBig := zb_of (by decide +kernel) (by decide +kernel)
set_option maxRecDepth 100000 in
theorem zb_354 : Cond.methodLink RX9 185 yX0_build ∈ zBig := zb_of (by decide +kernel) (by decide +kernel)
set_option maxRecDepth 100000 in
theorem zb_355 : Cond.instanceMethod yX0_build ∈ zBig := zb_of (by decide +kernel) (by decide +kernel)
set_option maxRecDepth 100000 in
theorem zb_356 : Cond.selects RX0 yX0_build yX0_build ∈ zBig := zb_of (by decide +kernel) (by decide +kernel)
set_option maxRecDepth 100000 in
theorem zb_357 : Cond.code yX9_automatonOf cX9_automatonOf 3 (some (.object "PatternHouse$Automaton")) ∈ zBig := zb_of (by decide +kernel) (by decide +kernel)
set_option maxRecDepth 100000 in
theorem zb_358 : Cond.methodLink RX9 140 yX9_automatonOf ∈ zBig := zb_of (by decide +kernel) (by decide +kernel)
set_option maxRecDepth 100000 in
theorem zb_359 : Cond.instanceMethod yX9_automatonOf ∈ zBig := zb_of (by decide +kernel) (by decide +kernel)
set_option maxRecDepth 100000 in
theorem zb_360 : Cond.selects RX9 yX9_automatonOf yX9_automatonOf ∈ zBig := zb_of (by decide +kernel) (by decide +kernel)
set_option maxRecDepth 100000 in
theorem zb_361 : Cond.fieldLink RX9 144 "PatternHouse$Automaton" "size" "I" ∈ zBig := zb_of (by decide +kernel) (by decide +kernel)
set_option maxRecDepth 100000 in
theorem zb_362 : Cond.methodLink RX9 147 yX0_wayFrom ∈ zBig := zb_of (by decide +kernel) (by decide +kernel)
set_option maxRecDepth 100000 in
theorem zb_363 : Cond.fieldLink RX9 151 "PatternHouse$Automaton" "isGood" "[Z" ∈ zBig := zb_of (by decide +kernel) (by decide +kernel)
set_option maxRecDepth 100000 in
theorem zb_364 : Cond.fieldLink RX9 155 "PatternHouse$Automaton" "goesBeyond" "Z" ∈ zBig := zb_of (by decide +kernel) (by decide +kernel)
set_option maxRecDepth 100000 in
theorem zb_365 : Cond.fieldLink RX9 158 "PatternHouse$Automaton" "groups" "I" ∈ zBig := zb_of (by decide +kernel) (by decide +kernel)
set_option maxRecDepth 100000 in
theorem zb_366 : Cond.fieldLink RX9 33 "PatternHouse" "grouping" "LPatternHouse$Grouping;" ∈ zBig := zb_of (by decide +kernel) (by decide +kernel)
set_option maxRecDepth 100000 in
theorem zb_367 : Cond.code yX2_countGroups cX2_countGroups 7 (some .int) ∈ zBig := zb_of (by decide +kernel) (by decide +kernel)
set_option maxRecDepth 100000 in
theorem zb_368 : Cond.methodLink RX9 161 yX2_countGroups ∈ zBig := zb_of (by decide +kernel) (by decide +kernel)
set_option maxRecDepth 100000 in
theorem zb_369 : Cond.instanceMethod yX2_countGroups ∈ zBig := zb_of (by decide +kernel) (by decide +kernel)
set_option maxRecDepth 100000 in
theorem zb_370 : Cond.selects RX2 yX2_countGroups yX2_countGroups ∈ zBig := zb_of (by decide +kernel) (by decide +kernel)
set_option maxRecDepth 100000 in
theorem zb_371 : Cond.fieldLink RX9 40 "PatternHouse" "comparison" "LPatternHouse$Comparison;" ∈ zBig := zb_of (by decide +kernel) (by decide +kernel)
set_option maxRecDepth 100000 in
theorem zb_372 : Cond.code yX1_compare cX1_compare 4 (some .int) ∈ zBig := zb_of (by decide +kernel) (by decide +kernel)
set_option maxRecDepth 100000 in
theorem zb_373 : Cond.methodLink RX9 168 yX1_compare ∈ zBig := zb_of (by decide +kernel) (by decide +kernel)
set_option maxRecDepth 100000 in
theorem zb_374 : Cond.instanceMethod yX1_compare ∈ zBig := zb_of (by decide +kernel) (by decide +kernel)
set_option maxRecDepth 100000 in
theorem zb_375 : Cond.selects RX1 yX1_compare yX1_compare ∈ zBig := zb_of (by decide +kernel) (by decide +kernel)
set_option maxRecDepth 100000 in
theorem zb_376 : Cond.fieldLink RX9 172 "PatternHouse$Comparison" "wordLength" "I" ∈ zBig := zb_of (by decide +kernel) (by decide +kernel)
set_option maxRecDepth 100000 in
theorem zb_377 : Cond.fieldLink RX9 175 "PatternHouse$Comparison" "word" "[I" ∈ zBig := zb_of (by decide +kernel) (by decide +kernel)
set_option maxRecDepth 100000 in
theorem zb_378 : Cond.fieldLink RX10 116 "PatternHouseModel" "code" "I" ∈ zBig := zb_of (by decide +kernel) (by decide +kernel)
set_option maxRecDepth 100000 in
theorem zb_379 : Cond.fieldLink RX10 119 "PatternHouseModel" "typedSize" "I" ∈ zBig := zb_of (by decide +kernel) (by decide +kernel)
set_option maxRecDepth 100000 in
theorem zb_380 : Cond.fieldLink RX10 7 "PatternHouseModel" "typed" "[I" ∈ zBig := zb_of (by decide +kernel) (by decide +kernel)
set_option maxRecDepth 100000 in
theorem zb_381 : Cond.constantLong RX10 122 (255) ∈ zBig := zb_of (by decide +kernel) (by decide +kernel)
set_option maxRecDepth 100000 in
theorem zb_382 : Cond.fieldLink RX10 124 "PatternHouseModel" "fault" "I" ∈ zBig := zb_of (by decide +kernel) (by decide +kernel)
set_option maxRecDepth 100000 in
theorem zb_383 : Cond.fieldLink RX10 16 "PatternHouseModel" "where" "I" ∈ zBig := zb_of (by decide +kernel) (by decide +kernel)
set_option maxRecDepth 100000 in
theorem zb_384 : Cond.fieldLink RX10 127 "PatternHouseModel" "at" "I" ∈ zBig := zb_of (by decide +kernel) (by decide +kernel)
set_option maxRecDepth 100000 in
theorem zb_385 : Cond.code yX10_fail cX10_fail 3 none ∈ zBig := zb_of (by decide +kernel) (by decide +kernel)
set_option maxRecDepth 100000 in
theorem zb_386 : Cond.methodLink RX10 130 yX10_fail ∈ zBig := zb_of (by decide +kernel) (by decide +kernel)
set_option maxRecDepth 100000 in
theorem zb_387 : Cond.instanceMethod yX10_fail ∈ zBig := zb_of (by decide +kernel) (by decide +kernel)
set_option maxRecDepth 100000 in
theorem zb_388 : Cond.selects RX10 yX10_fail yX10_fail ∈ zBig := zb_of (by decide +kernel) (by decide +kernel)
set_option maxRecDepth 100000 in
theorem zb_389 : Cond.initialized RX10 ∈ zBig := zb_of (by decide +kernel) (by decide +kernel)
set_option maxRecDepth 100000 in
theorem zb_390 : Cond.fieldLink RX10 43 "PatternHouseModel" "rowEmpty" "[Z" ∈ zBig := zb_of (by decide +kernel) (by decide +kernel)
set_option maxRecDepth 100000 in
theorem zb_391 : Cond.fieldLink RX10 134 "PatternHouseModel" "depth" "I" ∈ zBig := zb_of (by decide +kernel) (by decide +kernel)
set_option maxRecDepth 100000 in
theorem zb_392 : Cond.fieldLink RX10 46 "PatternHouseModel" "rowFirst" "[J" ∈ zBig := zb_of (by decide +kernel) (by decide +kernel)
set_option maxRecDepth 100000 in
theorem zb_393 : Cond.fieldLink RX10 49 "PatternHouseModel" "rowLast" "[J" ∈ zBig := zb_of (by decide +kernel) (by decide +kernel)
set_option maxRecDepth 100000 in
theorem zb_394 : Cond.fieldLink RX10 52 "PatternHouseModel" "partIs" "[Z" ∈ zBig := zb_of (by decide +kernel) (by decide +kernel)
set_option maxRecDepth 100000 in
theorem zb_395 : Cond.fieldLink RX10 67 "PatternHouseModel" "choiceEmpty" "[Z" ∈ zBig := zb_of (by decide +kernel) (by decide +kernel)
set_option maxRecDepth 100000 in
theorem zb_396 : Cond.fieldLink RX10 70 "PatternHouseModel" "choiceFirst" "[J" ∈ zBig := zb_of (by decide +kernel) (by decide +kernel)
set_option maxRecDepth 100000 in
theorem zb_397 : Cond.fieldLink RX10 73 "PatternHouseModel" "choiceLast" "[J" ∈ zBig := zb_of (by decide +kernel) (by decide +kernel)
set_option maxRecDepth 100000 in
theorem zb_398 : Cond.fieldLink RX10 76 "PatternHouseModel" "openBase" "[I" ∈ zBig := zb_of (by decide +kernel) (by decide +kernel)
set_option maxRecDepth 100000 in
theorem zb_399 : Cond.fieldLink RX10 137 "PatternHouseModel" "total" "I" ∈ zBig := zb_of (by decide +kernel) (by decide +kernel)
set_option maxRecDepth 100000 in
theorem zb_400 : Cond.code yX10_beginRow cX10_beginRow 1 none ∈ zBig := zb_of (by decide +kernel) (by decide +kernel)
set_option maxRecDepth 100000 in
theorem zb_401 : Cond.methodLink RX10 140 yX10_beginRow ∈ zBig := zb_of (by decide +kernel) (by decide +kernel)
set_option maxRecDepth 100000 in
theorem zb_402 : Cond.instanceMethod yX10_beginRow ∈ zBig := zb_of (by decide +kernel) (by decide +kernel)
set_option maxRecDepth 100000 in
theorem zb_403 : Cond.selects RX10 yX10_beginRow yX10_beginRow ∈ zBig := zb_of (by decide +kernel) (by decide +kernel)
set_option maxRecDepth 100000 in
theorem zb_404 : Cond.code yX10_hasBit cX10_hasBit 3 (some .boolean) ∈ zBig := zb_of (by decide +kernel) (by decide +kernel)
set_option maxRecDepth 100000 in
theorem zb_405 : Cond.methodLink RX10 143 yX10_hasBit ∈ zBig := zb_of (by decide +kernel) (by decide +kernel)
set_option maxRecDepth 100000 in
theorem zb_406 : Cond.static yX10_hasBit ∈ zBig := zb_of (by decide +kernel) (by decide +kernel)
set_option maxRecDepth 100000 in
theorem zb_407 : Cond.fieldLink RX10 37 "PatternHouseModel" "follow" "[J" ∈ zBig := zb_of (by decide +kernel) (by decide +kernel)
set_option maxRecDepth 100000 in
theorem zb_408 : Cond.fieldLink RX10 58 "PatternHouseModel" "partEmpty" "[Z" ∈ zBig := zb_of (by decide +kernel) (by decide +kernel)
set_option maxRecDepth 100000 in
theorem zb_409 : Cond.fieldLink RX10 64 "PatternHouseModel" "partLast" "[J" ∈ zBig := zb_of (by decide +kernel) (by decide +kernel)
set_option maxRecDepth 100000 in
theorem zb_410 : Cond.fieldLink RX10 61 "PatternHouseModel" "partFirst" "[J" ∈ zBig := zb_of (by decide +kernel) (by decide +kernel)
set_option maxRecDepth 100000 in
theorem zb_411 : Cond.code yX10_link cX10_link 6 none ∈ zBig := zb_of (by decide +kernel) (by decide +kernel)
set_option maxRecDepth 100000 in
theorem zb_412 : Cond.methodLink RX10 147 yX10_link ∈ zBig := zb_of (by decide +kernel) (by decide +kernel)
set_option maxRecDepth 100000 in
theorem zb_413 : Cond.instanceMethod yX10_link ∈ zBig := zb_of (by decide +kernel) (by decide +kernel)
set_option maxRecDepth 100000 in
theorem zb_414 : Cond.selects RX10 yX10_link yX10_link ∈ zBig := zb_of (by decide +kernel) (by decide +kernel)
set_option maxRecDepth 100000 in
theorem zb_415 : Cond.code yX10_joinPart cX10_joinPart 2 none ∈ zBig := zb_of (by decide +kernel) (by decide +kernel)
set_option maxRecDepth 100000 in
theorem zb_416 : Cond.methodLink RX10 151 yX10_joinPart ∈ zBig := zb_of (by decide +kernel) (by decide +kernel)
set_option maxRecDepth 100000 in
theorem zb_417 : Cond.instanceMethod yX10_joinPart ∈ zBig := zb_of (by decide +kernel) (by decide +kernel)
set_option maxRecDepth 100000 in
theorem zb_418 : Cond.selects RX10 yX10_joinPart yX10_joinPart ∈ zBig := zb_of (by decide +kernel) (by decide +kernel)
set_option maxRecDepth 100000 in
theorem zb_419 : Cond.fieldLink RX10 55 "PatternHouseModel" "partBase" "[I" ∈ zBig := zb_of (by decide +kernel) (by decide +kernel)
set_option maxRecDepth 100000 in
theorem zb_420 : Cond.fieldLink RX10 40 "PatternHouseModel" "sets" "[J" ∈ zBig := zb_of (by decide +kernel) (by decide +kernel)
set_option maxRecDepth 100000 in
theorem zb_421 : Cond.code yX10_setPart cX10_setPart 7 none ∈ zBig := zb_of (by decide +kernel) (by decide +kernel)
set_option maxRecDepth 100000 in
theorem zb_422 : Cond.methodLink RX10 154 yX10_setPart ∈ zBig := zb_of (by decide +kernel) (by decide +kernel)
set_option maxRecDepth 100000 in
theorem zb_423 : Cond.instanceMethod yX10_setPart ∈ zBig := zb_of (by decide +kernel) (by decide +kernel)
set_option maxRecDepth 100000 in
theorem zb_424 : Cond.selects RX10 yX10_setPart yX10_setPart ∈ zBig := zb_of (by decide +kernel) (by decide +kernel)
set_option maxRecDepth 100000 in
theorem zb_425 : Cond.code yX10_atom cX10_atom 4 none ∈ zBig := zb_of (by decide +kernel) (by decide +kernel)
set_option maxRecDepth 100000 in
theorem zb_426 : Cond.methodLink RX10 175 yX10_atom ∈ zBig := zb_of (by decide +kernel) (by decide +kernel)
set_option maxRecDepth 100000 in
theorem zb_427 : Cond.instanceMethod yX10_atom ∈ zBig := zb_of (by decide +kernel) (by decide +kernel)
set_option maxRecDepth 100000 in
theorem zb_428 : Cond.selects RX10 yX10_atom yX10_atom ∈ zBig := zb_of (by decide +kernel) (by decide +kernel)
set_option maxRecDepth 100000 in
theorem zb_429 : Cond.code yX10_upTo cX10_upTo 5 (some .long) ∈ zBig := zb_of (by decide +kernel) (by decide +kernel)
set_option maxRecDepth 100000 in
theorem zb_430 : Cond.methodLink RX10 169 yX10_upTo ∈ zBig := zb_of (by decide +kernel) (by decide +kernel)
set_option maxRecDepth 100000 in
theorem zb_431 : Cond.static yX10_upTo ∈ zBig := zb_of (by decide +kernel) (by decide +kernel)
set_option maxRecDepth 100000 in
theorem zb_432 : Cond.constantLong RX10 173 (-1) ∈ zBig := zb_of (by decide +kernel) (by decide +kernel)
set_option maxRecDepth 100000 in
theorem zb_433 : Cond.code yX10_failHere cX10_failHere 1 none ∈ zBig := zb_of (by decide +kernel) (by decide +kernel)
set_option maxRecDepth 100000 in
theorem zb_434 : Cond.methodLink RX10 166 yX10_failHere ∈ zBig := zb_of (by decide +kernel) (by decide +kernel)
set_option maxRecDepth 100000 in
theorem zb_435 : Cond.instanceMethod yX10_failHere ∈ zBig := zb_of (by decide +kernel) (by decide +kernel)
set_option maxRecDepth 100000 in
theorem zb_436 : Cond.selects RX10 yX10_failHere yX10_failHere ∈ zBig := zb_of (by decide +kernel) (by decide +kernel)
set_option maxRecDepth 100000 in
theorem zb_437 : Cond.code yX10_here cX10_here 1 (some .int) ∈ zBig := zb_of (by decide +kernel) (by decide +kernel)
set_option maxRecDepth 100000 in
theorem zb_438 : Cond.methodLink RX10 158 yX10_here ∈ zBig := zb_of (by decide +kernel) (by decide +kernel)
set_option maxRecDepth 100000 in
theorem zb_439 : Cond.instanceMethod yX10_here ∈ zBig := zb_of (by decide +kernel) (by decide +kernel)
set_option maxRecDepth 100000 in
theorem zb_440 : Cond.selects RX10 yX10_here yX10_here ∈ zBig := zb_of (by decide +kernel) (by decide +kernel)
set_option maxRecDepth 100000 in
theorem zb_441 : Cond.code yX10_letterOf cX10_letterOf 1 (some .int) ∈ zBig := zb_of (by decide +kernel) (by decide +kernel)
set_option maxRecDepth 100000 in
theorem zb_442 : Cond.methodLink RX10 162 yX10_letterOf ∈ zBig := zb_of (by decide +kernel) (by decide +kernel)
set_option maxRecDepth 100000 in
theorem zb_443 : Cond.static yX10_letterOf ∈ zBig := zb_of (by decide +kernel) (by decide +kernel)
set_option maxRecDepth 100000 in
theorem zb_444 : Cond.fieldLink RX10 79 "PatternHouseModel" "spare" "[J" ∈ zBig := zb_of (by decide +kernel) (by decide +kernel)
set_option maxRecDepth 100000 in
theorem zb_445 : Cond.code yX10_times cX10_times 19 none ∈ zBig := zb_of (by decide +kernel) (by decide +kernel)
set_option maxRecDepth 100000 in
theorem zb_446 : Cond.methodLink RX10 182 yX10_times ∈ zBig := zb_of (by decide +kernel) (by decide +kernel)
set_option maxRecDepth 100000 in
theorem zb_447 : Cond.instanceMethod yX10_times ∈ zBig := zb_of (by decide +kernel) (by decide +kernel)
set_option maxRecDepth 100000 in
theorem zb_448 : Cond.selects RX10 yX10_times yX10_times ∈ zBig := zb_of (by decide +kernel) (by decide +kernel)
set_option maxRecDepth 100000 in
theorem zb_449 : Cond.code yX10_digit cX10_digit 2 (some .int) ∈ zBig := zb_of (by decide +kernel) (by decide +kernel)
set_option maxRecDepth 100000 in
theorem zb_450 : Cond.methodLink RX10 179 yX10_digit ∈ zBig := zb_of (by decide +kernel) (by decide +kernel)
set_option maxRecDepth 100000 in
theorem zb_451 : Cond.instanceMethod yX10_digit ∈ zBig := zb_of (by decide +kernel) (by decide +kernel)
set_option maxRecDepth 100000 in
theorem zb_452 : Cond.selects RX10 yX10_digit yX10_digit ∈ zBig := zb_of (by decide +kernel) (by decide +kernel)
set_option maxRecDepth 100000 in
theorem zb_453 : Cond.code yX10_readTimes cX10_readTimes 5 none ∈ zBig := zb_of (by decide +kernel) (by decide +kernel)
set_option maxRecDepth 100000 in
theorem zb_454 : Cond.methodLink RX10 186 yX10_readTimes ∈ zBig := zb_of (by decide +kernel) (by decide +kernel)
set_option maxRecDepth 100000 in
theorem zb_455 : Cond.instanceMethod yX10_readTimes ∈ zBig := zb_of (by decide +kernel) (by decide +kernel)
set_option maxRecDepth 100000 in
theorem zb_456 : Cond.selects RX10 yX10_readTimes yX10_readTimes ∈ zBig := zb_of (by decide +kernel) (by decide +kernel)
set_option maxRecDepth 100000 in
theorem zb_457 : Cond.code yX10_endRow cX10_endRow 1 none ∈ zBig := zb_of (by decide +kernel) (by decide +kernel)
set_option maxRecDepth 100000 in
theorem zb_458 : Cond.methodLink RX10 189 yX10_endRow ∈ zBig := zb_of (by decide +kernel) (by decide +kernel)
set_option maxRecDepth 100000 in
theorem zb_459 : Cond.instanceMethod yX10_endRow ∈ zBig := zb_of (by decide +kernel) (by decide +kernel)
set_option maxRecDepth 100000 in
theorem zb_460 : Cond.selects RX10 yX10_endRow yX10_endRow ∈ zBig := zb_of (by decide +kernel) (by decide +kernel)
set_option maxRecDepth 100000 in
theorem zb_461 : Cond.code yX10_suffix cX10_suffix 3 none ∈ zBig := zb_of (by decide +kernel) (by decide +kernel)
set_option maxRecDepth 100000 in
theorem zb_462 : Cond.methodLink RX10 201 yX10_suffix ∈ zBig := zb_of (by decide +kernel) (by decide +kernel)
set_option maxRecDepth 100000 in
theorem zb_463 : Cond.instanceMethod yX10_suffix ∈ zBig := zb_of (by decide +kernel) (by decide +kernel)
set_option maxRecDepth 100000 in
theorem zb_464 : Cond.selects RX10 yX10_suffix yX10_suffix ∈ zBig := zb_of (by decide +kernel) (by decide +kernel)
set_option maxRecDepth 100000 in
theorem zb_465 : Cond.code yX10_close cX10_close 7 none ∈ zBig := zb_of (by decide +kernel) (by decide +kernel)
set_option maxRecDepth 100000 in
theorem zb_466 : Cond.methodLink RX10 198 yX10_close ∈ zBig := zb_of (by decide +kernel) (by decide +kernel)
set_option maxRecDepth 100000 in
theorem zb_467 : Cond.instanceMethod yX10_close ∈ zBig := zb_of (by decide +kernel) (by decide +kernel)
set_option maxRecDepth 100000 in
theorem zb_468 : Cond.selects RX10 yX10_close yX10_close ∈ zBig := zb_of (by decide +kernel) (by decide +kernel)
set_option maxRecDepth 100000 in
theorem zb_469 : Cond.code yX10_beginChoices cX10_beginChoices 1 none ∈ zBig := zb_of (by decide +kernel) (by decide +kernel)
set_option maxRecDepth 100000 in
theorem zb_470 : Cond.methodLink RX10 195 yX10_beginChoices ∈ zBig := zb_of (by decide +kernel) (by decide +kernel)
set_option maxRecDepth 100000 in
theorem zb_471 : Cond.instanceMethod yX10_beginChoices ∈ zBig := zb_of (by decide +kernel) (by decide +kernel)
set_option maxRecDepth 100000 in
theorem zb_472 : Cond.selects RX10 yX10_beginChoices yX10_beginChoices ∈ zBig := zb_of (by decide +kernel) (by decide +kernel)
set_option maxRecDepth 100000 in
theorem zb_473 : Cond.code yX10_readSet cX10_readSet 10 none ∈ zBig := zb_of (by decide +kernel) (by decide +kernel)
set_option maxRecDepth 100000 in
theorem zb_474 : Cond.methodLink RX10 192 yX10_readSet ∈ zBig := zb_of (by decide +kernel) (by decide +kernel)
set_option maxRecDepth 100000 in
theorem zb_475 : Cond.instanceMethod yX10_readSet ∈ zBig := zb_of (by decide +kernel) (by decide +kernel)
set_option maxRecDepth 100000 in
theorem zb_476 : Cond.selects RX10 yX10_readSet yX10_readSet ∈ zBig := zb_of (by decide +kernel) (by decide +kernel)
set_option maxRecDepth 100000 in
theorem zb_477 : Cond.fieldLink RX10 20 "PatternHouseModel" "is" "[Z" ∈ zBig := zb_of (by decide +kernel) (by decide +kernel)
set_option maxRecDepth 100000 in
theorem zb_478 : Cond.fieldLink RX10 24 "PatternHouseModel" "count" "[I" ∈ zBig := zb_of (by decide +kernel) (by decide +kernel)
set_option maxRecDepth 100000 in
theorem zb_479 : Cond.fieldLink RX10 27 "PatternHouseModel" "hasEmpty" "[Z" ∈ zBig := zb_of (by decide +kernel) (by decide +kernel)
set_option maxRecDepth 100000 in
theorem zb_480 : Cond.fieldLink RX10 30 "PatternHouseModel" "first" "[J" ∈ zBig := zb_of (by decide +kernel) (by decide +kernel)
set_option maxRecDepth 100000 in
theorem zb_481 : Cond.fieldLink RX10 34 "PatternHouseModel" "last" "[J" ∈ zBig := zb_of (by decide +kernel) (by decide +kernel)
set_option maxRecDepth 100000 in
theorem zb_482 : Cond.code yX10_copy cX10_copy 4 none ∈ zBig := zb_of (by decide +kernel) (by decide +kernel)
set_option maxRecDepth 100000 in
theorem zb_483 : Cond.methodLink RX10 208 yX10_copy ∈ zBig := zb_of (by decide +kernel) (by decide +kernel)
set_option maxRecDepth 100000 in
theorem zb_484 : Cond.instanceMethod yX10_copy ∈ zBig := zb_of (by decide +kernel) (by decide +kernel)
set_option maxRecDepth 100000 in
theorem zb_485 : Cond.selects RX10 yX10_copy yX10_copy ∈ zBig := zb_of (by decide +kernel) (by decide +kernel)
set_option maxRecDepth 100000 in
theorem zb_486 : Cond.code yX10_readOne cX10_readOne 2 none ∈ zBig := zb_of (by decide +kernel) (by decide +kernel)
set_option maxRecDepth 100000 in
theorem zb_487 : Cond.methodLink RX10 205 yX10_readOne ∈ zBig := zb_of (by decide +kernel) (by decide +kernel)
set_option maxRecDepth 100000 in
theorem zb_488 : Cond.instanceMethod yX10_readOne ∈ zBig := zb_of (by decide +kernel) (by decide +kernel)
set_option maxRecDepth 100000 in
theorem zb_489 : Cond.selects RX10 yX10_readOne yX10_readOne ∈ zBig := zb_of (by decide +kernel) (by decide +kernel)
set_option maxRecDepth 100000 in
theorem zb_490 : Cond.code yX10_none cX10_none 1 (some .boolean) ∈ zBig := zb_of (by decide +kernel) (by decide +kernel)
set_option maxRecDepth 100000 in
theorem zb_491 : Cond.methodLink RX10 211 yX10_none ∈ zBig := zb_of (by decide +kernel) (by decide +kernel)
set_option maxRecDepth 100000 in
theorem zb_492 : Cond.instanceMethod yX10_none ∈ zBig := zb_of (by decide +kernel) (by decide +kernel)
set_option maxRecDepth 100000 in
theorem zb_493 : Cond.selects RX10 yX10_none yX10_none ∈ zBig := zb_of (by decide +kernel) (by decide +kernel)
set_option maxRecDepth 100000 in
theorem zb_494 : Cond.code yX10_noPosition cX10_noPosition 2 (some .boolean) ∈ zBig := zb_of (by decide +kernel) (by decide +kernel)
set_option maxRecDepth 100000 in
theorem zb_495 : Cond.methodLink RX10 215 yX10_noPosition ∈ zBig := zb_of (by decide +kernel) (by decide +kernel)
set_option maxRecDepth 100000 in
theorem zb_496 : Cond.instanceMethod yX10_noPosition ∈ zBig := zb_of (by decide +kernel) (by decide +kernel)
set_option maxRecDepth 100000 in
theorem zb_497 : Cond.selects RX10 yX10_noPosition yX10_noPosition ∈ zBig := zb_of (by decide +kernel) (by decide +kernel)
set_option maxRecDepth 100000 in
theorem zb_498 : Cond.fieldLink RX10 219 "PatternHouseModel" "textSize" "I" ∈ zBig := zb_of (by decide +kernel) (by decide +kernel)
set_option maxRecDepth 100000 in
theorem zb_499 : Cond.fieldLink RX10 13 "PatternHouseModel" "text" "[I" ∈ zBig := zb_of (by decide +kernel) (by decide +kernel)
set_option maxRecDepth 100000 in
theorem zb_500 : Cond.code yX10_goOn cX10_goOn 9 (some .long) ∈ zBig := zb_of (by decide +kernel) (by decide +kernel)
set_option maxRecDepth 100000 in
theorem zb_501 : Cond.methodLink RX10 222 yX10_goOn ∈ zBig := zb_of (by decide +kernel) (by decide +kernel)
set_option maxRecDepth 100000 in
theorem zb_502 : Cond.instanceMethod yX10_goOn ∈ zBig := zb_of (by decide +kernel) (by decide +kernel)
set_option maxRecDepth 100000 in
theorem zb_503 : Cond.selects RX10 yX10_goOn yX10_goOn ∈ zBig := zb_of (by decide +kernel) (by decide +kernel)
set_option maxRecDepth 100000 in
theorem zb_504 : Cond.code yX10_longest cX10_longest 6 (some .int) ∈ zBig := zb_of (by decide +kernel) (by decide +kernel)
set_option maxRecDepth 100000 in
theorem zb_505 : Cond.methodLink RX10 229 yX10_longest ∈ zBig := zb_of (by decide +kernel) (by decide +kernel)
set_option maxRecDepth 100000 in
theorem zb_506 : Cond.instanceMethod yX10_longest ∈ zBig := zb_of (by decide +kernel) (by decide +kernel)
set_option maxRecDepth 100000 in
theorem zb_507 : Cond.selects RX10 yX10_longest yX10_longest ∈ zBig := zb_of (by decide +kernel) (by decide +kernel)
set_option maxRecDepth 100000 in
theorem zb_508 : Cond.fieldLink RX10 113 "PatternHouseModel" "begins" "[I" ∈ zBig := zb_of (by decide +kernel) (by decide +kernel)
set_option maxRecDepth 100000 in
theorem zb_509 : Cond.fieldLink RX10 226 "PatternHouseModel" "findCount" "I" ∈ zBig := zb_of (by decide +kernel) (by decide +kernel)
set_option maxRecDepth 100000 in
theorem zb_510 : Cond.fieldLink RX10 110 "PatternHouseModel" "ends" "[I" ∈ zBig := zb_of (by decide +kernel) (by decide +kernel)
set_option maxRecDepth 100000 in
theorem zb_511 : Cond.code yX10_findAll cX10_findAll 3 none ∈ zBig := zb_of (by decide +kernel) (by decide +kernel)
set_option maxRecDepth 100000 in
theorem zb_512 : Cond.methodLink RX10 232 yX10_findAll ∈ zBig := zb_of (by decide +kernel) (by decide +kernel)
set_option maxRecDepth 100000 in
theorem zb_513 : Cond.instanceMethod yX10_findAll ∈ zBig := zb_of (by decide +kernel) (by decide +kernel)
set_option maxRecDepth 100000 in
theorem zb_514 : Cond.selects RX10 yX10_findAll yX10_findAll ∈ zBig := zb_of (by decide +kernel) (by decide +kernel)
set_option maxRecDepth 100000 in
theorem zb_515 : Cond.fieldLink RX10 88 "PatternHouseModel" "stateCount" "[I" ∈ zBig := zb_of (by decide +kernel) (by decide +kernel)
set_option maxRecDepth 100000 in
theorem zb_516 : Cond.fieldLink RX10 82 "PatternHouseModel" "states" "[J" ∈ zBig := zb_of (by decide +kernel) (by decide +kernel)
set_option maxRecDepth 100000 in
theorem zb_517 : Cond.fieldLink RX10 91 "PatternHouseModel" "beyond" "[Z" ∈ zBig := zb_of (by decide +kernel) (by decide +kernel)
set_option maxRecDepth 100000 in
theorem zb_518 : Cond.fieldLink RX10 85 "PatternHouseModel" "ways" "[I" ∈ zBig := zb_of (by decide +kernel) (by decide +kernel)
set_option maxRecDepth 100000 in
theorem zb_519 : Cond.code yX10_stateOf cX10_stateOf 5 (some .int) ∈ zBig := zb_of (by decide +kernel) (by decide +kernel)
set_option maxRecDepth 100000 in
theorem zb_520 : Cond.methodLink RX10 235 yX10_stateOf ∈ zBig := zb_of (by decide +kernel) (by decide +kernel)
set_option maxRecDepth 100000 in
theorem zb_521 : Cond.instanceMethod yX10_stateOf ∈ zBig := zb_of (by decide +kernel) (by decide +kernel)
set_option maxRecDepth 100000 in
theorem zb_522 : Cond.selects RX10 yX10_stateOf yX10_stateOf ∈ zBig := zb_of (by decide +kernel) (by decide +kernel)
set_option maxRecDepth 100000 in
theorem zb_523 : Cond.code yX10_build cX10_build 6 none ∈ zBig := zb_of (by decide +kernel) (by decide +kernel)
set_option maxRecDepth 100000 in
theorem zb_524 : Cond.methodLink RX10 239 yX10_build ∈ zBig := zb_of (by decide +kernel) (by decide +kernel)
set_option maxRecDepth 100000 in
theorem zb_525 : Cond.instanceMethod yX10_build ∈ zBig := zb_of (by decide +kernel) (by decide +kernel)
set_option maxRecDepth 100000 in
theorem zb_526 : Cond.selects RX10 yX10_build yX10_build ∈ zBig := zb_of (by decide +kernel) (by decide +kernel)
set_option maxRecDepth 100000 in
theorem zb_527 : Cond.code yX10_noState cX10_noState 2 (some .boolean) ∈ zBig := zb_of (by decide +kernel) (by decide +kernel)
set_option maxRecDepth 100000 in
theorem zb_528 : Cond.methodLink RX10 242 yX10_noState ∈ zBig := zb_of (by decide +kernel) (by decide +kernel)
set_option maxRecDepth 100000 in
theorem zb_529 : Cond.instanceMethod yX10_noState ∈ zBig := zb_of (by decide +kernel) (by decide +kernel)
set_option maxRecDepth 100000 in
theorem zb_530 : Cond.selects RX10 yX10_noState yX10_noState ∈ zBig := zb_of (by decide +kernel) (by decide +kernel)
set_option maxRecDepth 100000 in
theorem zb_531 : Cond.code yX10_isGood cX10_isGood 3 (some .boolean) ∈ zBig := zb_of (by decide +kernel) (by decide +kernel)
set_option maxRecDepth 100000 in
theorem zb_532 : Cond.methodLink RX10 245 yX10_isGood ∈ zBig := zb_of (by decide +kernel) (by decide +kernel)
set_option maxRecDepth 100000 in
theorem zb_533 : Cond.instanceMethod yX10_isGood ∈ zBig := zb_of (by decide +kernel) (by decide +kernel)
set_option maxRecDepth 100000 in
theorem zb_534 : Cond.selects RX10 yX10_isGood yX10_isGood ∈ zBig := zb_of (by decide +kernel) (by decide +kernel)
set_option maxRecDepth 100000 in
theorem zb_535 : Cond.fieldLink RX10 95 "PatternHouseModel" "apart" "[Z" ∈ zBig := zb_of (by decide +kernel) (by decide +kernel)
set_option maxRecDepth 100000 in
theorem zb_536 : Cond.code yX10_nowApart cX10_nowApart 5 (some .boolean) ∈ zBig := zb_of (by decide +kernel) (by decide +kernel)
set_option maxRecDepth 100000 in
theorem zb_537 : Cond.methodLink RX10 249 yX10_nowApart ∈ zBig := zb_of (by decide +kernel) (by decide +kernel)
set_option maxRecDepth 100000 in
theorem zb_538 : Cond.instanceMethod yX10_nowApart ∈ zBig := zb_of (by decide +kernel) (by decide +kernel)
set_option maxRecDepth 100000 in
theorem zb_539 : Cond.selects RX10 yX10_nowApart yX10_nowApart ∈ zBig := zb_of (by decide +kernel) (by decide +kernel)
set_option maxRecDepth 100000 in
theorem zb_540 : Cond.code yX10_partMore cX10_partMore 5 (some .boolean) ∈ zBig := zb_of (by decide +kernel) (by decide +kernel)
set_option maxRecDepth 100000 in
theorem zb_541 : Cond.methodLink RX10 252 yX10_partMore ∈ zBig := zb_of (by decide +kernel) (by decide +kernel)
set_option maxRecDepth 100000 in
theorem zb_542 : Cond.instanceMethod yX10_partMore ∈ zBig := zb_of (by decide +kernel) (by decide +kernel)
set_option maxRecDepth 100000 in
theorem zb_543 : Cond.selects RX10 yX10_partMore yX10_partMore ∈ zBig := zb_of (by decide +kernel) (by decide +kernel)
set_option maxRecDepth 100000 in
theorem zb_544 : Cond.constant RX10 94 (90000) ∈ zBig := zb_of (by decide +kernel) (by decide +kernel)
set_option maxRecDepth 100000 in
theorem zb_545 : Cond.fieldLink RX10 107 "PatternHouseModel" "word" "[I" ∈ zBig := zb_of (by decide +kernel) (by decide +kernel)
set_option maxRecDepth 100000 in
theorem zb_546 : Cond.fieldLink RX10 104 "PatternHouseModel" "by" "[I" ∈ zBig := zb_of (by decide +kernel) (by decide +kernel)
set_option maxRecDepth 100000 in
theorem zb_547 : Cond.fieldLink RX10 101 "PatternHouseModel" "before" "[I" ∈ zBig := zb_of (by decide +kernel) (by decide +kernel)
set_option maxRecDepth 100000 in
theorem zb_548 : Cond.fieldLink RX10 255 "PatternHouseModel" "wordSize" "I" ∈ zBig := zb_of (by decide +kernel) (by decide +kernel)
set_option maxRecDepth 100000 in
theorem zb_549 : Cond.fieldLink RX10 98 "PatternHouseModel" "pairs" "[I" ∈ zBig := zb_of (by decide +kernel) (by decide +kernel)
set_option maxRecDepth 100000 in
theorem zb_550 : Cond.code yX10_spell cX10_spell 4 none ∈ zBig := zb_of (by decide +kernel) (by decide +kernel)
set_option maxRecDepth 100000 in
theorem zb_551 : Cond.methodLink RX10 258 yX10_spell ∈ zBig := zb_of (by decide +kernel) (by decide +kernel)
set_option maxRecDepth 100000 in
theorem zb_552 : Cond.instanceMethod yX10_spell ∈ zBig := zb_of (by decide +kernel) (by decide +kernel)
set_option maxRecDepth 100000 in
theorem zb_553 : Cond.selects RX10 yX10_spell yX10_spell ∈ zBig := zb_of (by decide +kernel) (by decide +kernel)
end
section
/-! by program: wip/decomp.py, wip/mk_code.py -/
def uX9_holds : zMu := (yX9_holds, cX9_holds, 3, (some .boolean), { frames := 0, cells := 0, slots := 0, locals := 0 }, [])
theorem zd_X9_holds : (uY uX9_holds).cls ≠ "java/lang/invoke/MethodHandle" ∧ (uY uX9_holds).cls ≠ "java/lang/invoke/VarHandle" ∧ (parseMethodDescriptor (uY uX9_holds).desc).map (fun d => d.parameters.length) = some 2 := by decide +kernel
def fX9_holds (n : Nat) (M : zM) (v0 : Int64) (v2 : Int32) : Option (Int32 × zM) :=
  if (lg_cmp ((jushr v0 v2) &&& (1 : Int64)) (0 : Int64)) = (0 : Int32) then
    some ((0 : Int32), M)
  else
  some ((1 : Int32), M)
set_option maxHeartbeats 4000000 in
theorem tX9_holds (n : Nat) (M : zM) (v0 : Int64) (v2 : Int32) (r : Int32) (M' : zM) (h : fX9_holds n M v0 v2 = some (r, M')) : zMet uX9_holds false M [.long v0, .int v2] (zE (oI r) M') := by
  refine zMet_of (L := [(0, .long v0), (2, .int v2)]) (by decide +kernel) rfl rfl (Nat.le_of_ble_eq_true rfl) ?_
  show zW uX9_holds none (0, 0) M 0 [(0, .long v0), (2, .int v2)] [] (zE (oI r) M')
  unfold fX9_holds at h
  refine zr_lload_n (q := 1) dX9_holds_0 rfl rfl 0 rfl ?_
  refine zr_iload_n (q := 2) dX9_holds_1 rfl rfl 1 rfl ?_
  refine zr_lushr (q := 3) dX9_holds_2 rfl ?_
  refine zr_lconst (q := 4) (v := 1) dX9_holds_3 rfl (by decide) ?_
  refine zr_land (q := 5) dX9_holds_4 rfl ?_
  refine zr_lconst (q := 6) (v := 0) dX9_holds_5 rfl (by decide) ?_
  refine zr_lcmp (q := 7) dX9_holds_6 rfl ?_
  refine zr_if_eq (q := 10) (tgt := 14) dX9_holds_7 rfl (by decide) (fun c_1 => ?_) (fun c_1 => ?_)
  · replace h := ite_t c_1 h
    refine zr_iconst (q := 15) (v := 0) dX9_holds_14 rfl (by decide) ?_
    cases h
    exact zr_zreturn dX9_holds_15 rfl (Or.inl rfl) ⟨by decide, by decide⟩ ⟨rfl, rfl⟩
  · replace h := ite_f c_1 h
    refine zr_iconst (q := 11) (v := 1) dX9_holds_10 rfl (by decide) ?_
    refine zr_goto (q := 15) dX9_holds_11 (by decide) ?_
    cases h
    exact zr_zreturn dX9_holds_15 rfl (Or.inr rfl) ⟨by decide, by decide⟩ ⟨rfl, rfl⟩

def uX9_byteOf : zMu := (yX9_byteOf, cX9_byteOf, 3, (some .int), { frames := 0, cells := 0, slots := 0, locals := 0 }, [])
theorem zd_X9_byteOf : (uY uX9_byteOf).cls ≠ "java/lang/invoke/MethodHandle" ∧ (uY uX9_byteOf).cls ≠ "java/lang/invoke/VarHandle" ∧ (parseMethodDescriptor (uY uX9_byteOf).desc).map (fun d => d.parameters.length) = some 2 := by decide +kernel
def fX9_byteOf (n : Nat) (M : zM) (v0 : Int64) (v2 : Int32) : Option (Int32 × zM) :=
  some (((Int64.toInt32 (jushr v0 ((8 : Int32) * v2))) &&& (255 : Int32)), M)
set_option maxHeartbeats 4000000 in
theorem tX9_byteOf (n : Nat) (M : zM) (v0 : Int64) (v2 : Int32) (r : Int32) (M' : zM) (h : fX9_byteOf n M v0 v2 = some (r, M')) : zMet uX9_byteOf false M [.long v0, .int v2] (zE (oI r) M') := by
  refine zMet_of (L := [(0, .long v0), (2, .int v2)]) (by decide +kernel) rfl rfl (Nat.le_of_ble_eq_true rfl) ?_
  show zW uX9_byteOf none (0, 0) M 0 [(0, .long v0), (2, .int v2)] [] (zE (oI r) M')
  unfold fX9_byteOf at h
  refine zr_lload_n (q := 1) dX9_byteOf_0 rfl rfl 0 rfl ?_
  refine zr_bipush (q := 3) (v := 8) dX9_byteOf_1 rfl (by decide) ?_
  refine zr_iload_n (q := 4) dX9_byteOf_3 rfl rfl 1 rfl ?_
  refine zr_imul (q := 5) dX9_byteOf_4 rfl ?_
  refine zr_lushr (q := 6) dX9_byteOf_5 rfl ?_
  refine zr_l2i (q := 7) dX9_byteOf_6 rfl ?_
  refine zr_sipush (q := 10) (v := 255) dX9_byteOf_7 rfl (by decide) ?_
  refine zr_iand (q := 11) dX9_byteOf_10 rfl ?_
  cases h
  exact zr_ireturn dX9_byteOf_11 rfl ⟨by decide, by decide⟩ ⟨rfl, rfl⟩

def uX9_letterOf : zMu := (yX9_letterOf, cX9_letterOf, 1, (some .int), { frames := 0, cells := 0, slots := 0, locals := 0 }, [])
theorem zd_X9_letterOf : (uY uX9_letterOf).cls ≠ "java/lang/invoke/MethodHandle" ∧ (uY uX9_letterOf).cls ≠ "java/lang/invoke/VarHandle" ∧ (parseMethodDescriptor (uY uX9_letterOf).desc).map (fun d => d.parameters.length) = some 1 := by decide +kernel
def fX9_letterOf_17 (n : Nat) (M : zM) (v0 : Int32) : Option (Int32 × zM) :=
  if v0 < (48 : Int32) then
    some ((-1 : Int32), M)
  else
  if (57 : Int32) < v0 then
    some ((-1 : Int32), M)
  else
  some (((v0 - (48 : Int32)) + (26 : Int32)), M)
set_option maxHeartbeats 4000000 in
theorem tX9_letterOf_17 (n : Nat) (M : zM) (v0 : Int32) (r : Int32) (M' : zM) (h : fX9_letterOf_17 n M v0 = some (r, M')) : zW uX9_letterOf none (0, 0) M 17 [(0, .int v0)] [] (zE (oI r) M') := by
  unfold fX9_letterOf_17 at h
  refine zr_iload_n (q := 18) dX9_letterOf_17 rfl rfl 0 rfl ?_
  refine zr_bipush (q := 20) (v := 48) dX9_letterOf_18 rfl (by decide) ?_
  refine zr_icmp_lt (q := 23) (tgt := 37) dX9_letterOf_20 rfl (by decide) (fun c_1 => ?_) (fun c_1 => ?_)
  · replace h := ite_t c_1 h
    refine zr_iconst (q := 38) (v := -1) dX9_letterOf_37 rfl (by decide) ?_
    cases h
    exact zr_ireturn dX9_letterOf_38 rfl ⟨by decide, by decide⟩ ⟨rfl, rfl⟩
  · replace h := ite_f c_1 h
    refine zr_iload_n (q := 24) dX9_letterOf_23 rfl rfl 0 rfl ?_
    refine zr_bipush (q := 26) (v := 57) dX9_letterOf_24 rfl (by decide) ?_
    refine zr_icmp_gt (q := 29) (tgt := 37) dX9_letterOf_26 rfl (by decide) (fun c_2 => ?_) (fun c_2 => ?_)
    · replace h := ite_t c_2 h
      refine zr_iconst (q := 38) (v := -1) dX9_letterOf_37 rfl (by decide) ?_
      cases h
      exact zr_ireturn dX9_letterOf_38 rfl ⟨by decide, by decide⟩ ⟨rfl, rfl⟩
    · replace h := ite_f c_2 h
      refine zr_iload_n (q := 30) dX9_letterOf_29 rfl rfl 0 rfl ?_
      refine zr_bipush (q := 32) (v := 48) dX9_letterOf_30 rfl (by decide) ?_
      refine zr_isub (q := 33) dX9_letterOf_32 rfl ?_
      refine zr_bipush (q := 35) (v := 26) dX9_letterOf_33 rfl (by decide) ?_
      refine zr_iadd (q := 36) dX9_letterOf_35 rfl ?_
      cases h
      exact zr_ireturn dX9_letterOf_36 rfl ⟨by decide, by decide⟩ ⟨rfl, rfl⟩
def fX9_letterOf (n : Nat) (M : zM) (v0 : Int32) : Option (Int32 × zM) :=
  if v0 < (97 : Int32) then
    fX9_letterOf_17 n M v0
  else
  if (122 : Int32) < v0 then
    fX9_letterOf_17 n M v0
  else
  some ((v0 - (97 : Int32)), M)
set_option maxHeartbeats 4000000 in
theorem tX9_letterOf (n : Nat) (M : zM) (v0 : Int32) (r : Int32) (M' : zM) (h : fX9_letterOf n M v0 = some (r, M')) : zMet uX9_letterOf false M [.int v0] (zE (oI r) M') := by
  refine zMet_of (L := [(0, .int v0)]) (by decide +kernel) rfl rfl (Nat.le_of_ble_eq_true rfl) ?_
  show zW uX9_letterOf none (0, 0) M 0 [(0, .int v0)] [] (zE (oI r) M')
  unfold fX9_letterOf at h
  refine zr_iload_n (q := 1) dX9_letterOf_0 rfl rfl 0 rfl ?_
  refine zr_bipush (q := 3) (v := 97) dX9_letterOf_1 rfl (by decide) ?_
  refine zr_icmp_lt (q := 6) (tgt := 17) dX9_letterOf_3 rfl (by decide) (fun c_1 => ?_) (fun c_1 => ?_)
  · replace h := ite_t c_1 h
    exact zr_pick [0] rfl (tX9_letterOf_17 n M v0 _ _ h)
  · replace h := ite_f c_1 h
    refine zr_iload_n (q := 7) dX9_letterOf_6 rfl rfl 0 rfl ?_
    refine zr_bipush (q := 9) (v := 122) dX9_letterOf_7 rfl (by decide) ?_
    refine zr_icmp_gt (q := 12) (tgt := 17) dX9_letterOf_9 rfl (by decide) (fun c_2 => ?_) (fun c_2 => ?_)
    · replace h := ite_t c_2 h
      exact zr_pick [0] rfl (tX9_letterOf_17 n M v0 _ _ h)
    · replace h := ite_f c_2 h
      refine zr_iload_n (q := 13) dX9_letterOf_12 rfl rfl 0 rfl ?_
      refine zr_bipush (q := 15) (v := 97) dX9_letterOf_13 rfl (by decide) ?_
      refine zr_isub (q := 16) dX9_letterOf_15 rfl ?_
      cases h
      exact zr_ireturn dX9_letterOf_16 rfl ⟨by decide, by decide⟩ ⟨rfl, rfl⟩

def uX9_allLetters : zMu := (yX9_allLetters, cX9_allLetters, 4, (some .boolean), { frames := 1, cells := 0, slots := 0, locals := 22 }, [])
theorem zd_X9_allLetters : (uY uX9_allLetters).cls ≠ "java/lang/invoke/MethodHandle" ∧ (uY uX9_allLetters).cls ≠ "java/lang/invoke/VarHandle" ∧ (parseMethodDescriptor (uY uX9_allLetters).desc).map (fun d => d.parameters.length) = some 2 := by decide +kernel
def fX9_allLetters_2 : Nat → zM → Int64 → Int32 → Int32 → Option (Int32 × zM)
  | 0, _, _, _, _ => none
  | n + 1, M, v0, v2, v3 =>
    if v2 ≤ v3 then
      some ((1 : Int32), M)
    else
    bnd2 (fX9_byteOf n M v0 v3) fun r_2 M_3 =>
    bnd2 (fX9_letterOf n M_3 r_2) fun r_5 M_6 =>
    if r_5 = (-1 : Int32) then
      some ((0 : Int32), M_6)
    else
    app (v3 + (1 : Int32)) fun v3_9 : Int32 =>
    (fX9_allLetters_2 n) M_6 v0 v2 v3_9
set_option maxHeartbeats 4000000 in
theorem tX9_allLetters_2 : ∀ (n : Nat) (M : zM) (v0 : Int64) (v2 : Int32) (v3 : Int32) (r : Int32) (M' : zM), fX9_allLetters_2 n M v0 v2 v3 = some (r, M') → zW uX9_allLetters none (0, 0) M 2 [(0, .long v0), (2, .int v2), (3, .int v3)] [] (zE (oI r) M') := by
  intro n
  induction n with
  | zero => intro M v0 v2 v3 r M' h; cases h
  | succ n ih =>
    intro M v0 v2 v3 r M' h
    rw [fX9_allLetters_2] at h
    refine zr_iload_n (q := 3) dX9_allLetters_2 rfl rfl 2 rfl ?_
    refine zr_iload_n (q := 4) dX9_allLetters_3 rfl rfl 1 rfl ?_
    refine zr_icmp_ge (q := 7) (tgt := 27) dX9_allLetters_4 rfl (by decide) (fun c_1 => ?_) (fun c_1 => ?_)
    · replace h := ite_t c_1 h
      refine zr_iconst (q := 28) (v := 1) dX9_allLetters_27 rfl (by decide) ?_
      cases h
      exact zr_zreturn dX9_allLetters_28 rfl (Or.inr rfl) ⟨by decide, by decide⟩ ⟨rfl, rfl⟩
    · replace h := ite_f c_1 h
      refine zr_lload_n (q := 8) dX9_allLetters_7 rfl rfl 0 rfl ?_
      refine zr_iload_n (q := 9) dX9_allLetters_8 rfl rfl 2 rfl ?_
      obtain ⟨r_2, M_3, hc_4, h⟩ := bnd2_some h
      refine zr_callSI (μ' := uX9_byteOf) (q := 12) (n := 2) (As := [.long v0, .int v3]) (u' := (0, 0)) (tX9_byteOf n M v0 v3 _ _ hc_4) dX9_allLetters_9 rfl rfl ⟨zb_185, zb_325, zb_186, zb_25⟩ zd_X9_byteOf ⟨by decide, by decide⟩ ⟨by decide, by decide⟩ rfl rfl (Nat.le_of_ble_eq_true rfl) rfl ?_
      obtain ⟨r_5, M_6, hc_7, h⟩ := bnd2_some h
      refine zr_callSI (μ' := uX9_letterOf) (q := 15) (n := 1) (As := [.int r_2]) (u' := (0, 0)) (tX9_letterOf n M_3 r_2 _ _ hc_7) dX9_allLetters_12 rfl rfl ⟨zb_212, zb_326, zb_213, zb_25⟩ zd_X9_letterOf ⟨by decide, by decide⟩ ⟨by decide, by decide⟩ rfl rfl (Nat.le_of_ble_eq_true rfl) rfl ?_
      refine zr_iconst (q := 16) (v := -1) dX9_allLetters_15 rfl (by decide) ?_
      refine zr_icmp_ne (q := 19) (tgt := 21) dX9_allLetters_16 rfl (by decide) (fun c_8 => ?_) (fun c_8 => ?_)
      · replace h := ite_f c_8 h
        obtain ⟨v3_9, e_10, h⟩ := app_some h
        refine zr_iinc (q := 24) (v := v3_9) (L' := [(3, .int v3_9), (0, .long v0), (2, .int v2)]) dX9_allLetters_21 rfl 2 rfl (by rw [← e_10]; rfl) (by decide) rfl ?_
        refine zr_goto (q := 2) dX9_allLetters_24 (by decide) ?_
        exact zr_pick [1, 2, 0] rfl (ih M_6 v0 v2 v3_9 _ _ h)
      · replace h := ite_t c_8 h
        refine zr_iconst (q := 20) (v := 0) dX9_allLetters_19 rfl (by decide) ?_
        cases h
        exact zr_zreturn dX9_allLetters_20 rfl (Or.inl rfl) ⟨by decide, by decide⟩ ⟨rfl, rfl⟩
def fX9_allLetters (n : Nat) (M : zM) (v0 : Int64) (v2 : Int32) : Option (Int32 × zM) :=
  fX9_allLetters_2 n M v0 v2 (0 : Int32)
set_option maxHeartbeats 4000000 in
theorem tX9_allLetters (n : Nat) (M : zM) (v0 : Int64) (v2 : Int32) (r : Int32) (M' : zM) (h : fX9_allLetters n M v0 v2 = some (r, M')) : zMet uX9_allLetters false M [.long v0, .int v2] (zE (oI r) M') := by
  refine zMet_of (L := [(0, .long v0), (2, .int v2)]) (by decide +kernel) rfl rfl (Nat.le_of_ble_eq_true rfl) ?_
  show zW uX9_allLetters none (0, 0) M 0 [(0, .long v0), (2, .int v2)] [] (zE (oI r) M')
  unfold fX9_allLetters at h
  refine zr_iconst (q := 1) (v := 0) dX9_allLetters_0 rfl (by decide) ?_
  refine zr_istore_n (q := 2) (L' := [(3, .int (0 : Int32)), (0, .long v0), (2, .int v2)]) dX9_allLetters_1 rfl rfl (by decide) rfl ?_
  exact zr_pick [1, 2, 0] rfl (tX9_allLetters_2 n M v0 v2 (0 : Int32) _ _ h)
end
section
/-! by program: wip/decomp.py, wip/mk_code.py -/
def uX7_forgetAll : zMu := (yX7_forgetAll, cX7_forgetAll, 2, none, { frames := 0, cells := 0, slots := 0, locals := 0 }, [])
theorem zd_X7_forgetAll : (uY uX7_forgetAll).cls ≠ "java/lang/invoke/MethodHandle" ∧ (uY uX7_forgetAll).cls ≠ "java/lang/invoke/VarHandle" ∧ (parseMethodDescriptor (uY uX7_forgetAll).desc).map (fun d => d.parameters.length) = some 0 := by decide +kernel
def fX7_forgetAll_2 : Nat → zM → Nat → Int32 → Option (Unit × zM)
  | 0, _, _, _ => none
  | n + 1, M, v0, v1 =>
    chk (mK M v0 == 7) <|
    if (mI M v0 0) ≤ v1 then
      chk (mK M v0 == 7) <|
      app (wI M v0 0 (0 : Int32)) fun M_4 : zM =>
      some ((), M_4)
    else
    chk (mK M v0 == 7) <|
    bnd (mR M v0 3) fun a_7 =>
    chk (mK M v0 == 7) <|
    bnd (mR M v0 2) fun a_10 =>
    chk (mK M a_10 == 11) <|
    chk (zin v1 (mN M a_10)) <|
    chk (mK M a_7 == 11) <|
    chk (zin (mI M a_10 (Int32.toNatClampNeg v1)) (mN M a_7)) <|
    app (wI M a_7 (Int32.toNatClampNeg (mI M a_10 (Int32.toNatClampNeg v1))) (0 : Int32)) fun M_16 : zM =>
    app (v1 + (1 : Int32)) fun v1_18 : Int32 =>
    (fX7_forgetAll_2 n) M_16 v0 v1_18
set_option maxHeartbeats 4000000 in
theorem tX7_forgetAll_2 : ∀ (n : Nat) (M : zM) (v0 : Nat) (v1 : Int32) (r : Unit) (M' : zM), fX7_forgetAll_2 n M v0 v1 = some (r, M') → zW uX7_forgetAll none (0, 0) M 2 [(0, .ref v0), (1, .int v1)] [] (zE (oV r) M') := by
  intro n
  induction n with
  | zero => intro M v0 v1 r M' h; cases h
  | succ n ih =>
    intro M v0 v1 r M' h
    rw [fX7_forgetAll_2] at h
    refine zr_iload_n (q := 3) dX7_forgetAll_2 rfl rfl 1 rfl ?_
    refine zr_aload_n (q := 4) dX7_forgetAll_3 rfl rfl 0 rfl ?_
    obtain ⟨c_1, h⟩ := chk_some h
    refine zr_get (q := 7) (ci := 7) (k := 0) dX7_forgetAll_4 rfl (eq_of_beq c_1) rfl (by decide) rfl zbX7 (by decide) zb_1 rfl ?_
    refine zr_icmp_ge (q := 10) (tgt := 28) dX7_forgetAll_7 rfl (by decide) (fun c_2 => ?_) (fun c_2 => ?_)
    · replace h := ite_t c_2 h
      refine zr_aload_n (q := 29) dX7_forgetAll_28 rfl rfl 0 rfl ?_
      refine zr_iconst (q := 30) (v := 0) dX7_forgetAll_29 rfl (by decide) ?_
      obtain ⟨c_3, h⟩ := chk_some h
      obtain ⟨M_4, e_5, h⟩ := app_some h
      refine zr_putI (q := 33) (ci := 7) (k := 0) dX7_forgetAll_30 rfl (eq_of_beq c_3) rfl (by decide) rfl zbX7 tyX7_ok nmX7 (by decide) zb_1 (Or.inl rfl) rfl ?_
      refine zr_mem e_5 ?_
      cases h
      exact zr_return dX7_forgetAll_33 rfl ⟨by decide, by decide⟩ ⟨rfl, rfl⟩
    · replace h := ite_f c_2 h
      refine zr_aload_n (q := 11) dX7_forgetAll_10 rfl rfl 0 rfl ?_
      obtain ⟨c_6, h⟩ := chk_some h
      obtain ⟨a_7, e_8, h⟩ := bnd_some h
      refine zr_getr (q := 14) (ci := 7) (k := 3) dX7_forgetAll_11 rfl (eq_of_beq c_6) rfl (by decide) rfl zbX7 (by decide) zb_2 rfl e_8 ?_
      refine zr_aload_n (q := 15) dX7_forgetAll_14 rfl rfl 0 rfl ?_
      obtain ⟨c_9, h⟩ := chk_some h
      obtain ⟨a_10, e_11, h⟩ := bnd_some h
      refine zr_getr (q := 18) (ci := 7) (k := 2) dX7_forgetAll_15 rfl (eq_of_beq c_9) rfl (by decide) rfl zbX7 (by decide) zb_3 rfl e_11 ?_
      refine zr_iload_n (q := 19) dX7_forgetAll_18 rfl rfl 1 rfl ?_
      obtain ⟨c_12, h⟩ := chk_some h
      obtain ⟨c_13, h⟩ := chk_some h
      refine zr_iald (q := 20) dX7_forgetAll_19 rfl (eq_of_beq c_12) c_13 ?_
      refine zr_iconst (q := 21) (v := 0) dX7_forgetAll_20 rfl (by decide) ?_
      obtain ⟨c_14, h⟩ := chk_some h
      obtain ⟨c_15, h⟩ := chk_some h
      obtain ⟨M_16, e_17, h⟩ := app_some h
      refine zr_iast (q := 22) dX7_forgetAll_21 rfl (eq_of_beq c_14) c_15 ?_
      refine zr_mem e_17 ?_
      obtain ⟨v1_18, e_19, h⟩ := app_some h
      refine zr_iinc (q := 25) (v := v1_18) (L' := [(1, .int v1_18), (0, .ref v0)]) dX7_forgetAll_22 rfl 1 rfl (by rw [← e_19]; rfl) (by decide) rfl ?_
      refine zr_goto (q := 2) dX7_forgetAll_25 (by decide) ?_
      exact zr_pick [1, 0] rfl (ih M_16 v0 v1_18 _ _ h)
def fX7_forgetAll (n : Nat) (M : zM) (v0 : Nat) : Option (Unit × zM) :=
  fX7_forgetAll_2 n M v0 (0 : Int32)
set_option maxHeartbeats 4000000 in
theorem tX7_forgetAll (n : Nat) (M : zM) (v0 : Nat) (r : Unit) (M' : zM) (h : fX7_forgetAll n M v0 = some (r, M')) : zMet uX7_forgetAll false M [.ref v0] (zE (oV r) M') := by
  refine zMet_of (L := [(0, .ref v0)]) (by decide +kernel) rfl rfl (Nat.le_of_ble_eq_true rfl) ?_
  show zW uX7_forgetAll none (0, 0) M 0 [(0, .ref v0)] [] (zE (oV r) M')
  unfold fX7_forgetAll at h
  refine zr_iconst (q := 1) (v := 0) dX7_forgetAll_0 rfl (by decide) ?_
  refine zr_istore_n (q := 2) (L' := [(1, .int (0 : Int32)), (0, .ref v0)]) dX7_forgetAll_1 rfl rfl (by decide) rfl ?_
  exact zr_pick [1, 0] rfl (tX7_forgetAll_2 n M v0 (0 : Int32) _ _ h)

def uX7_homeOf : zMu := (yX7_homeOf, cX7_homeOf, 4, (some .int), { frames := 0, cells := 0, slots := 0, locals := 0 }, [])
theorem zd_X7_homeOf : (uY uX7_homeOf).cls ≠ "java/lang/invoke/MethodHandle" ∧ (uY uX7_homeOf).cls ≠ "java/lang/invoke/VarHandle" ∧ (parseMethodDescriptor (uY uX7_homeOf).desc).map (fun d => d.parameters.length) = some 1 := by decide +kernel
def fX7_homeOf (n : Nat) (M : zM) (v0 : Int64) : Option (Int32 × zM) :=
  app (v0 * (-7046029254386353131 : Int64)) fun v2_1 : Int64 =>
  some ((Int64.toInt32 (jushr v2_1 (54 : Int32))), M)
set_option maxHeartbeats 4000000 in
theorem tX7_homeOf (n : Nat) (M : zM) (v0 : Int64) (r : Int32) (M' : zM) (h : fX7_homeOf n M v0 = some (r, M')) : zMet uX7_homeOf false M [.long v0] (zE (oI r) M') := by
  refine zMet_of (L := [(0, .long v0)]) (by decide +kernel) rfl rfl (Nat.le_of_ble_eq_true rfl) ?_
  show zW uX7_homeOf none (0, 0) M 0 [(0, .long v0)] [] (zE (oI r) M')
  unfold fX7_homeOf at h
  refine zr_lload_n (q := 1) dX7_homeOf_0 rfl rfl 0 rfl ?_
  refine zr_ldc2 (q := 4) (v := -7046029254386353131) dX7_homeOf_1 rfl zb_4 ?_
  refine zr_lmul (q := 5) dX7_homeOf_4 rfl ?_
  obtain ⟨v2_1, e_2, h⟩ := app_some h
  refine zr_nmL e_2 ?_
  refine zr_lstore_n (q := 6) (L' := [(2, .long v2_1), (0, .long v0)]) dX7_homeOf_5 rfl rfl (by decide) rfl ?_
  refine zr_lload_n (q := 7) dX7_homeOf_6 rfl rfl 0 rfl ?_
  refine zr_bipush (q := 9) (v := 54) dX7_homeOf_7 rfl (by decide) ?_
  refine zr_lushr (q := 10) dX7_homeOf_9 rfl ?_
  refine zr_l2i (q := 11) dX7_homeOf_10 rfl ?_
  cases h
  exact zr_ireturn dX7_homeOf_11 rfl ⟨by decide, by decide⟩ ⟨rfl, rfl⟩

def uX7_enter : zMu := (yX7_enter, cX7_enter, 5, (some .int), { frames := 0, cells := 0, slots := 0, locals := 0 }, [])
theorem zd_X7_enter : (uY uX7_enter).cls ≠ "java/lang/invoke/MethodHandle" ∧ (uY uX7_enter).cls ≠ "java/lang/invoke/VarHandle" ∧ (parseMethodDescriptor (uY uX7_enter).desc).map (fun d => d.parameters.length) = some 2 := by decide +kernel
def fX7_enter (n : Nat) (M : zM) (v0 : Nat) (v1 : Int64) (v3 : Int32) : Option (Int32 × zM) :=
  chk (mK M v0 == 7) <|
  app (mI M v0 0) fun v4_2 : Int32 =>
  chk (mK M v0 == 7) <|
  bnd (mR M v0 1) fun a_5 =>
  chk (mK M a_5 == 12) <|
  chk (zin v4_2 (mN M a_5)) <|
  app (wL M a_5 (Int32.toNatClampNeg v4_2) v1) fun M_9 : zM =>
  chk (mK M_9 v0 == 7) <|
  bnd (mR M_9 v0 2) fun a_12 =>
  chk (mK M_9 a_12 == 11) <|
  chk (zin v4_2 (mN M_9 a_12)) <|
  app (wI M_9 a_12 (Int32.toNatClampNeg v4_2) v3) fun M_16 : zM =>
  chk (mK M_16 v0 == 7) <|
  bnd (mR M_16 v0 3) fun a_19 =>
  chk (mK M_16 a_19 == 11) <|
  chk (zin v3 (mN M_16 a_19)) <|
  app (wI M_16 a_19 (Int32.toNatClampNeg v3) (v4_2 + (1 : Int32))) fun M_23 : zM =>
  chk (mK M_23 v0 == 7) <|
  chk (mK M_23 v0 == 7) <|
  app (wI M_23 v0 0 ((mI M_23 v0 0) + (1 : Int32))) fun M_27 : zM =>
  some (v4_2, M_27)
set_option maxHeartbeats 4000000 in
theorem tX7_enter (n : Nat) (M : zM) (v0 : Nat) (v1 : Int64) (v3 : Int32) (r : Int32) (M' : zM) (h : fX7_enter n M v0 v1 v3 = some (r, M')) : zMet uX7_enter false M [.ref v0, .long v1, .int v3] (zE (oI r) M') := by
  refine zMet_of (L := [(0, .ref v0), (1, .long v1), (3, .int v3)]) (by decide +kernel) rfl rfl (Nat.le_of_ble_eq_true rfl) ?_
  show zW uX7_enter none (0, 0) M 0 [(0, .ref v0), (1, .long v1), (3, .int v3)] [] (zE (oI r) M')
  unfold fX7_enter at h
  refine zr_aload_n (q := 1) dX7_enter_0 rfl rfl 0 rfl ?_
  obtain ⟨c_1, h⟩ := chk_some h
  refine zr_get (q := 4) (ci := 7) (k := 0) dX7_enter_1 rfl (eq_of_beq c_1) rfl (by decide) rfl zbX7 (by decide) zb_1 rfl ?_
  obtain ⟨v4_2, e_3, h⟩ := app_some h
  refine zr_nmI e_3 ?_
  refine zr_istore (q := 6) (L' := [(4, .int v4_2), (0, .ref v0), (1, .long v1), (3, .int v3)]) dX7_enter_4 rfl (by decide) rfl ?_
  refine zr_aload_n (q := 7) dX7_enter_6 rfl rfl 1 rfl ?_
  obtain ⟨c_4, h⟩ := chk_some h
  obtain ⟨a_5, e_6, h⟩ := bnd_some h
  refine zr_getr (q := 10) (ci := 7) (k := 1) dX7_enter_7 rfl (eq_of_beq c_4) rfl (by decide) rfl zbX7 (by decide) zb_5 rfl e_6 ?_
  refine zr_iload (q := 12) dX7_enter_10 rfl 0 rfl ?_
  refine zr_lload_n (q := 13) dX7_enter_12 rfl rfl 2 rfl ?_
  obtain ⟨c_7, h⟩ := chk_some h
  obtain ⟨c_8, h⟩ := chk_some h
  obtain ⟨M_9, e_10, h⟩ := app_some h
  refine zr_last (q := 14) dX7_enter_13 rfl (eq_of_beq c_7) c_8 ?_
  refine zr_mem e_10 ?_
  refine zr_aload_n (q := 15) dX7_enter_14 rfl rfl 1 rfl ?_
  obtain ⟨c_11, h⟩ := chk_some h
  obtain ⟨a_12, e_13, h⟩ := bnd_some h
  refine zr_getr (q := 18) (ci := 7) (k := 2) dX7_enter_15 rfl (eq_of_beq c_11) rfl (by decide) rfl zbX7 (by decide) zb_3 rfl e_13 ?_
  refine zr_iload (q := 20) dX7_enter_18 rfl 0 rfl ?_
  refine zr_iload_n (q := 21) dX7_enter_20 rfl rfl 3 rfl ?_
  obtain ⟨c_14, h⟩ := chk_some h
  obtain ⟨c_15, h⟩ := chk_some h
  obtain ⟨M_16, e_17, h⟩ := app_some h
  refine zr_iast (q := 22) dX7_enter_21 rfl (eq_of_beq c_14) c_15 ?_
  refine zr_mem e_17 ?_
  refine zr_aload_n (q := 23) dX7_enter_22 rfl rfl 1 rfl ?_
  obtain ⟨c_18, h⟩ := chk_some h
  obtain ⟨a_19, e_20, h⟩ := bnd_some h
  refine zr_getr (q := 26) (ci := 7) (k := 3) dX7_enter_23 rfl (eq_of_beq c_18) rfl (by decide) rfl zbX7 (by decide) zb_2 rfl e_20 ?_
  refine zr_iload_n (q := 27) dX7_enter_26 rfl rfl 3 rfl ?_
  refine zr_iload (q := 29) dX7_enter_27 rfl 0 rfl ?_
  refine zr_iconst (q := 30) (v := 1) dX7_enter_29 rfl (by decide) ?_
  refine zr_iadd (q := 31) dX7_enter_30 rfl ?_
  obtain ⟨c_21, h⟩ := chk_some h
  obtain ⟨c_22, h⟩ := chk_some h
  obtain ⟨M_23, e_24, h⟩ := app_some h
  refine zr_iast (q := 32) dX7_enter_31 rfl (eq_of_beq c_21) c_22 ?_
  refine zr_mem e_24 ?_
  refine zr_aload_n (q := 33) dX7_enter_32 rfl rfl 1 rfl ?_
  refine zr_dup (q := 34) dX7_enter_33 rfl rfl ?_
  obtain ⟨c_25, h⟩ := chk_some h
  refine zr_get (q := 37) (ci := 7) (k := 0) dX7_enter_34 rfl (eq_of_beq c_25) rfl (by decide) rfl zbX7 (by decide) zb_1 rfl ?_
  refine zr_iconst (q := 38) (v := 1) dX7_enter_37 rfl (by decide) ?_
  refine zr_iadd (q := 39) dX7_enter_38 rfl ?_
  obtain ⟨c_26, h⟩ := chk_some h
  obtain ⟨M_27, e_28, h⟩ := app_some h
  refine zr_putI (q := 42) (ci := 7) (k := 0) dX7_enter_39 rfl (eq_of_beq c_26) rfl (by decide) rfl zbX7 tyX7_ok nmX7 (by decide) zb_1 (Or.inl rfl) rfl ?_
  refine zr_mem e_28 ?_
  refine zr_iload (q := 44) dX7_enter_42 rfl 0 rfl ?_
  cases h
  exact zr_ireturn dX7_enter_44 rfl ⟨by decide, by decide⟩ ⟨rfl, rfl⟩

def uX7_numberOf : zMu := (yX7_numberOf, cX7_numberOf, 8, (some .int), { frames := 1, cells := 0, slots := 0, locals := 24 }, [])
theorem zd_X7_numberOf : (uY uX7_numberOf).cls ≠ "java/lang/invoke/MethodHandle" ∧ (uY uX7_numberOf).cls ≠ "java/lang/invoke/VarHandle" ∧ (parseMethodDescriptor (uY uX7_numberOf).desc).map (fun d => d.parameters.length) = some 2 := by decide +kernel
def fX7_numberOf_72 (n : Nat) (M : zM)  : Option (Int32 × zM) :=
  some ((-1 : Int32), M)
set_option maxHeartbeats 4000000 in
theorem tX7_numberOf_72 (n : Nat) (M : zM)  (r : Int32) (M' : zM) (h : fX7_numberOf_72 n M = some (r, M')) : zW uX7_numberOf none (0, 0) M 72 [] [] (zE (oI r) M') := by
  unfold fX7_numberOf_72 at h
  refine zr_iconst (q := 73) (v := -1) dX7_numberOf_72 rfl (by decide) ?_
  cases h
  exact zr_ireturn dX7_numberOf_73 rfl ⟨by decide, by decide⟩ ⟨rfl, rfl⟩
def fX7_numberOf_9 : Nat → zM → Nat → Int64 → Int32 → Int32 → Int32 → Option (Int32 × zM)
  | 0, _, _, _, _, _, _ => none
  | n + 1, M, v0, v1, v3, v4, v5 =>
    if (1024 : Int32) ≤ v5 then
      some ((-1 : Int32), M)
    else
    app ((v4 + v5) &&& (1023 : Int32)) fun v6_2 : Int32 =>
    chk (mK M v0 == 7) <|
    bnd (mR M v0 3) fun a_5 =>
    chk (mK M a_5 == 11) <|
    chk (zin v6_2 (mN M a_5)) <|
    app ((mI M a_5 (Int32.toNatClampNeg v6_2)) - (1 : Int32)) fun v7_9 : Int32 =>
    if (0 : Int32) ≤ v7_9 then
      chk (mK M v0 == 7) <|
      bnd (mR M v0 1) fun a_13 =>
      chk (mK M a_13 == 12) <|
      chk (zin v7_9 (mN M a_13)) <|
      if (lg_cmp (mL M a_13 (Int32.toNatClampNeg v7_9)) v1) = (0 : Int32) then
        some (v7_9, M)
      else
      app (v5 + (1 : Int32)) fun v5_18 : Int32 =>
      (fX7_numberOf_9 n) M v0 v1 v3 v4 v5_18
    else
    chk (mK M v0 == 7) <|
    if v3 ≤ (mI M v0 0) then
      fX7_numberOf_72 n M
    else
    chk (mK M v0 == 7) <|
    if (300 : Int32) ≤ (mI M v0 0) then
      fX7_numberOf_72 n M
    else
    chk (mK M v0 == 7) <|
    bnd2 (fX7_enter n M v0 v1 v6_2) fun r_24 M_25 =>
    some (r_24, M_25)
set_option maxHeartbeats 4000000 in
theorem tX7_numberOf_9 : ∀ (n : Nat) (M : zM) (v0 : Nat) (v1 : Int64) (v3 : Int32) (v4 : Int32) (v5 : Int32) (r : Int32) (M' : zM), fX7_numberOf_9 n M v0 v1 v3 v4 v5 = some (r, M') → zW uX7_numberOf none (0, 0) M 9 [(0, .ref v0), (1, .long v1), (3, .int v3), (4, .int v4), (5, .int v5)] [] (zE (oI r) M') := by
  intro n
  induction n with
  | zero => intro M v0 v1 v3 v4 v5 r M' h; cases h
  | succ n ih =>
    intro M v0 v1 v3 v4 v5 r M' h
    rw [fX7_numberOf_9] at h
    refine zr_iload (q := 11) dX7_numberOf_9 rfl 4 rfl ?_
    refine zr_sipush (q := 14) (v := 1024) dX7_numberOf_11 rfl (by decide) ?_
    refine zr_icmp_ge (q := 17) (tgt := 95) dX7_numberOf_14 rfl (by decide) (fun c_1 => ?_) (fun c_1 => ?_)
    · replace h := ite_t c_1 h
      refine zr_iconst (q := 96) (v := -1) dX7_numberOf_95 rfl (by decide) ?_
      cases h
      exact zr_ireturn dX7_numberOf_96 rfl ⟨by decide, by decide⟩ ⟨rfl, rfl⟩
    · replace h := ite_f c_1 h
      refine zr_iload (q := 19) dX7_numberOf_17 rfl 3 rfl ?_
      refine zr_iload (q := 21) dX7_numberOf_19 rfl 4 rfl ?_
      refine zr_iadd (q := 22) dX7_numberOf_21 rfl ?_
      refine zr_sipush (q := 25) (v := 1023) dX7_numberOf_22 rfl (by decide) ?_
      refine zr_iand (q := 26) dX7_numberOf_25 rfl ?_
      obtain ⟨v6_2, e_3, h⟩ := app_some h
      refine zr_nmI e_3 ?_
      refine zr_istore (q := 28) (L' := [(6, .int v6_2), (0, .ref v0), (1, .long v1), (3, .int v3), (4, .int v4), (5, .int v5)]) dX7_numberOf_26 rfl (by decide) rfl ?_
      refine zr_aload_n (q := 29) dX7_numberOf_28 rfl rfl 1 rfl ?_
      obtain ⟨c_4, h⟩ := chk_some h
      obtain ⟨a_5, e_6, h⟩ := bnd_some h
      refine zr_getr (q := 32) (ci := 7) (k := 3) dX7_numberOf_29 rfl (eq_of_beq c_4) rfl (by decide) rfl zbX7 (by decide) zb_2 rfl e_6 ?_
      refine zr_iload (q := 34) dX7_numberOf_32 rfl 0 rfl ?_
      obtain ⟨c_7, h⟩ := chk_some h
      obtain ⟨c_8, h⟩ := chk_some h
      refine zr_iald (q := 35) dX7_numberOf_34 rfl (eq_of_beq c_7) c_8 ?_
      refine zr_iconst (q := 36) (v := 1) dX7_numberOf_35 rfl (by decide) ?_
      refine zr_isub (q := 37) dX7_numberOf_36 rfl ?_
      obtain ⟨v7_9, e_10, h⟩ := app_some h
      refine zr_nmI e_10 ?_
      refine zr_istore (q := 39) (L' := [(7, .int v7_9), (6, .int v6_2), (0, .ref v0), (1, .long v1), (3, .int v3), (4, .int v4), (5, .int v5)]) dX7_numberOf_37 rfl (by decide) rfl ?_
      refine zr_iload (q := 41) dX7_numberOf_39 rfl 0 rfl ?_
      refine zr_if_ge (q := 44) (tgt := 74) dX7_numberOf_41 rfl (by decide) (fun c_11 => ?_) (fun c_11 => ?_)
      · replace h := ite_t c_11 h
        refine zr_aload_n (q := 75) dX7_numberOf_74 rfl rfl 2 rfl ?_
        obtain ⟨c_12, h⟩ := chk_some h
        obtain ⟨a_13, e_14, h⟩ := bnd_some h
        refine zr_getr (q := 78) (ci := 7) (k := 1) dX7_numberOf_75 rfl (eq_of_beq c_12) rfl (by decide) rfl zbX7 (by decide) zb_5 rfl e_14 ?_
        refine zr_iload (q := 80) dX7_numberOf_78 rfl 0 rfl ?_
        obtain ⟨c_15, h⟩ := chk_some h
        obtain ⟨c_16, h⟩ := chk_some h
        refine zr_lald (q := 81) dX7_numberOf_80 rfl (eq_of_beq c_15) c_16 ?_
        refine zr_lload_n (q := 82) dX7_numberOf_81 rfl rfl 3 rfl ?_
        refine zr_lcmp (q := 83) dX7_numberOf_82 rfl ?_
        refine zr_if_ne (q := 86) (tgt := 89) dX7_numberOf_83 rfl (by decide) (fun c_17 => ?_) (fun c_17 => ?_)
        · replace h := ite_f c_17 h
          obtain ⟨v5_18, e_19, h⟩ := app_some h
          refine zr_iinc (q := 92) (v := v5_18) (L' := [(5, .int v5_18), (7, .int v7_9), (6, .int v6_2), (0, .ref v0), (1, .long v1), (3, .int v3), (4, .int v4)]) dX7_numberOf_89 rfl 6 rfl (by rw [← e_19]; rfl) (by decide) rfl ?_
          refine zr_goto (q := 9) dX7_numberOf_92 (by decide) ?_
          exact zr_pick [3, 4, 5, 6, 0] rfl (ih M v0 v1 v3 v4 v5_18 _ _ h)
        · replace h := ite_t c_17 h
          refine zr_iload (q := 88) dX7_numberOf_86 rfl 0 rfl ?_
          cases h
          exact zr_ireturn dX7_numberOf_88 rfl ⟨by decide, by decide⟩ ⟨rfl, rfl⟩
      · replace h := ite_f c_11 h
        refine zr_aload_n (q := 45) dX7_numberOf_44 rfl rfl 2 rfl ?_
        obtain ⟨c_20, h⟩ := chk_some h
        refine zr_get (q := 48) (ci := 7) (k := 0) dX7_numberOf_45 rfl (eq_of_beq c_20) rfl (by decide) rfl zbX7 (by decide) zb_1 rfl ?_
        refine zr_iload_n (q := 49) dX7_numberOf_48 rfl rfl 4 rfl ?_
        refine zr_icmp_ge (q := 52) (tgt := 72) dX7_numberOf_49 rfl (by decide) (fun c_21 => ?_) (fun c_21 => ?_)
        · replace h := ite_t c_21 h
          exact zr_pick [] rfl (tX7_numberOf_72 n M _ _ h)
        · replace h := ite_f c_21 h
          refine zr_aload_n (q := 53) dX7_numberOf_52 rfl rfl 2 rfl ?_
          obtain ⟨c_22, h⟩ := chk_some h
          refine zr_get (q := 56) (ci := 7) (k := 0) dX7_numberOf_53 rfl (eq_of_beq c_22) rfl (by decide) rfl zbX7 (by decide) zb_1 rfl ?_
          refine zr_sipush (q := 59) (v := 300) dX7_numberOf_56 rfl (by decide) ?_
          refine zr_icmp_ge (q := 62) (tgt := 72) dX7_numberOf_59 rfl (by decide) (fun c_23 => ?_) (fun c_23 => ?_)
          · replace h := ite_t c_23 h
            exact zr_pick [] rfl (tX7_numberOf_72 n M _ _ h)
          · replace h := ite_f c_23 h
            refine zr_aload_n (q := 63) dX7_numberOf_62 rfl rfl 2 rfl ?_
            refine zr_lload_n (q := 64) dX7_numberOf_63 rfl rfl 3 rfl ?_
            refine zr_iload (q := 66) dX7_numberOf_64 rfl 1 rfl ?_
            obtain ⟨c_27, h⟩ := chk_some h
            obtain ⟨r_24, M_25, hc_26, h⟩ := bnd2_some h
            refine zr_callVI (μ' := uX7_enter) (q := 69) (n := 2) (ci := 7) (As := [.long v1, .int v6_2]) (u' := (0, 0)) (tX7_enter n M v0 v1 v6_2 _ _ hc_26) dX7_numberOf_66 rfl rfl ⟨zb_6, zb_7, zb_8, zb_9, zb_10⟩ zd_X7_enter ⟨by decide, by decide⟩ ⟨by decide, by decide⟩ (eq_of_beq c_27) (by decide) rfl rfl rfl (Nat.le_of_ble_eq_true rfl) rfl rfl ?_
            refine zr_goto (q := 73) dX7_numberOf_69 (by decide) ?_
            cases h
            exact zr_ireturn dX7_numberOf_73 rfl ⟨by decide, by decide⟩ ⟨rfl, rfl⟩
def fX7_numberOf (n : Nat) (M : zM) (v0 : Nat) (v1 : Int64) (v3 : Int32) : Option (Int32 × zM) :=
  bnd2 (fX7_homeOf n M v1) fun r_1 M_2 =>
  fX7_numberOf_9 n M_2 v0 v1 v3 r_1 (0 : Int32)
set_option maxHeartbeats 4000000 in
theorem tX7_numberOf (n : Nat) (M : zM) (v0 : Nat) (v1 : Int64) (v3 : Int32) (r : Int32) (M' : zM) (h : fX7_numberOf n M v0 v1 v3 = some (r, M')) : zMet uX7_numberOf false M [.ref v0, .long v1, .int v3] (zE (oI r) M') := by
  refine zMet_of (L := [(0, .ref v0), (1, .long v1), (3, .int v3)]) (by decide +kernel) rfl rfl (Nat.le_of_ble_eq_true rfl) ?_
  show zW uX7_numberOf none (0, 0) M 0 [(0, .ref v0), (1, .long v1), (3, .int v3)] [] (zE (oI r) M')
  unfold fX7_numberOf at h
  refine zr_lload_n (q := 1) dX7_numberOf_0 rfl rfl 1 rfl ?_
  obtain ⟨r_1, M_2, hc_3, h⟩ := bnd2_some h
  refine zr_callSI (μ' := uX7_homeOf) (q := 4) (n := 1) (As := [.long v1]) (u' := (0, 0)) (tX7_homeOf n M v1 _ _ hc_3) dX7_numberOf_1 rfl rfl ⟨zb_11, zb_12, zb_13, zb_10⟩ zd_X7_homeOf ⟨by decide, by decide⟩ ⟨by decide, by decide⟩ rfl rfl (Nat.le_of_ble_eq_true rfl) rfl ?_
  refine zr_istore (q := 6) (L' := [(4, .int r_1), (0, .ref v0), (1, .long v1), (3, .int v3)]) dX7_numberOf_4 rfl (by decide) rfl ?_
  refine zr_iconst (q := 7) (v := 0) dX7_numberOf_6 rfl (by decide) ?_
  refine zr_istore (q := 9) (L' := [(5, .int (0 : Int32)), (4, .int r_1), (0, .ref v0), (1, .long v1), (3, .int v3)]) dX7_numberOf_7 rfl (by decide) rfl ?_
  exact zr_pick [2, 3, 4, 1, 0] rfl (tX7_numberOf_9 n M_2 v0 v1 v3 r_1 (0 : Int32) _ _ h)
end
