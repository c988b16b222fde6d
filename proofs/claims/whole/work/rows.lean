section
-- ===== PART A: goes FIRST, ahead of the names: the tables' words, and 'selects' of the private methods out of them =====
/-- a private method of a class that the tables say can be made, by its rows of tables_1 -/
def lw_okq (q : MethodName × Nat) : Prop := (q.1.cls ≠ "java/lang/invoke/MethodHandle" ∧ q.1.cls ≠ "java/lang/invoke/VarHandle") ∧ Cond.instantiable q.1.cls q.2 ∈ tables_1 ∧ Cond.privateMethod q.1 ∈ tables_1 ∧ Cond.instanceMethod q.1 ∈ tables_1
theorem lw_p0 : lw_okq (⟨"ArmCounts$Sheets", "hasItem", "(II)Z"⟩, 4) := ⟨⟨by decide +kernel, by decide +kernel⟩, List.mem_of_getElem? (i := 23) (by decide +kernel), List.mem_of_getElem? (i := 228) (by decide +kernel), List.mem_of_getElem? (i := 229) (by decide +kernel)⟩
theorem lw_p1 : lw_okq (⟨"ArmCounts", "isPoint", "(IIII)Z"⟩, 6) := ⟨⟨by decide +kernel, by decide +kernel⟩, List.mem_of_getElem? (i := 15) (by decide +kernel), List.mem_of_getElem? (i := 316) (by decide +kernel), List.mem_of_getElem? (i := 317) (by decide +kernel)⟩
theorem lw_p2 : lw_okq (⟨"ArmCounts$Riddle", "prepare", "(LArmCounts$Counts;)V"⟩, 7) := ⟨⟨by decide +kernel, by decide +kernel⟩, List.mem_of_getElem? (i := 71) (by decide +kernel), List.mem_of_getElem? (i := 384) (by decide +kernel), List.mem_of_getElem? (i := 385) (by decide +kernel)⟩
theorem lw_p3 : lw_okq (⟨"ArmCounts$Riddle", "allClues", "()I"⟩, 7) := ⟨⟨by decide +kernel, by decide +kernel⟩, List.mem_of_getElem? (i := 71) (by decide +kernel), List.mem_of_getElem? (i := 393) (by decide +kernel), List.mem_of_getElem? (i := 394) (by decide +kernel)⟩
theorem lw_p4 : lw_okq (⟨"ArmCounts$Riddle", "search", "(II)V"⟩, 7) := ⟨⟨by decide +kernel, by decide +kernel⟩, List.mem_of_getElem? (i := 71) (by decide +kernel), List.mem_of_getElem? (i := 397) (by decide +kernel), List.mem_of_getElem? (i := 398) (by decide +kernel)⟩
theorem lw_p5 : lw_okq (⟨"ArmCounts$Riddle", "alone", "(II)J"⟩, 7) := ⟨⟨by decide +kernel, by decide +kernel⟩, List.mem_of_getElem? (i := 71) (by decide +kernel), List.mem_of_getElem? (i := 401) (by decide +kernel), List.mem_of_getElem? (i := 402) (by decide +kernel)⟩
theorem lw_p6 : lw_okq (⟨"ArmCounts$Riddle", "narrow", "(JI)J"⟩, 7) := ⟨⟨by decide +kernel, by decide +kernel⟩, List.mem_of_getElem? (i := 71) (by decide +kernel), List.mem_of_getElem? (i := 415) (by decide +kernel), List.mem_of_getElem? (i := 416) (by decide +kernel)⟩
theorem lw_p7 : lw_okq (⟨"ArmCounts$Riddle", "bySum", "(III)J"⟩, 7) := ⟨⟨by decide +kernel, by decide +kernel⟩, List.mem_of_getElem? (i := 71) (by decide +kernel), List.mem_of_getElem? (i := 419) (by decide +kernel), List.mem_of_getElem? (i := 420) (by decide +kernel)⟩
theorem lw_p8 : lw_okq (⟨"ArmCounts$Riddle", "known", "(I)I"⟩, 7) := ⟨⟨by decide +kernel, by decide +kernel⟩, List.mem_of_getElem? (i := 71) (by decide +kernel), List.mem_of_getElem? (i := 426) (by decide +kernel), List.mem_of_getElem? (i := 427) (by decide +kernel)⟩
theorem lw_p9 : lw_okq (⟨"ArmCounts$Riddle", "byLess", "(II)J"⟩, 7) := ⟨⟨by decide +kernel, by decide +kernel⟩, List.mem_of_getElem? (i := 71) (by decide +kernel), List.mem_of_getElem? (i := 431) (by decide +kernel), List.mem_of_getElem? (i := 432) (by decide +kernel)⟩
theorem lw_p10 : lw_okq (⟨"ArmCounts$Riddle", "meet", "(JI)Z"⟩, 7) := ⟨⟨by decide +kernel, by decide +kernel⟩, List.mem_of_getElem? (i := 71) (by decide +kernel), List.mem_of_getElem? (i := 435) (by decide +kernel), List.mem_of_getElem? (i := 436) (by decide +kernel)⟩
theorem lw_p11 : lw_okq (⟨"ArmCounts$Riddle", "hasSolution", "(I)Z"⟩, 7) := ⟨⟨by decide +kernel, by decide +kernel⟩, List.mem_of_getElem? (i := 71) (by decide +kernel), List.mem_of_getElem? (i := 473) (by decide +kernel), List.mem_of_getElem? (i := 474) (by decide +kernel)⟩
theorem lw_p12 : lw_okq (⟨"ArmCounts$Debts", "findRow", "()I"⟩, 4) := ⟨⟨by decide +kernel, by decide +kernel⟩, List.mem_of_getElem? (i := 101) (by decide +kernel), List.mem_of_getElem? (i := 551) (by decide +kernel), List.mem_of_getElem? (i := 552) (by decide +kernel)⟩
theorem lw_p13 : lw_okq (⟨"ArmCounts$Debts", "goOn", "(II)Z"⟩, 4) := ⟨⟨by decide +kernel, by decide +kernel⟩, List.mem_of_getElem? (i := 101) (by decide +kernel), List.mem_of_getElem? (i := 555) (by decide +kernel), List.mem_of_getElem? (i := 556) (by decide +kernel)⟩
theorem lw_p14 : lw_okq (⟨"ArmCounts$Debts", "inRow", "(II)Z"⟩, 4) := ⟨⟨by decide +kernel, by decide +kernel⟩, List.mem_of_getElem? (i := 101) (by decide +kernel), List.mem_of_getElem? (i := 560) (by decide +kernel), List.mem_of_getElem? (i := 561) (by decide +kernel)⟩
theorem lw_p15 : lw_okq (⟨"ArmCounts$Debts", "goOnWith", "(III)Z"⟩, 4) := ⟨⟨by decide +kernel, by decide +kernel⟩, List.mem_of_getElem? (i := 101) (by decide +kernel), List.mem_of_getElem? (i := 564) (by decide +kernel), List.mem_of_getElem? (i := 565) (by decide +kernel)⟩
def lw_privs_1 : List (MethodName × Nat) := [(⟨"ArmCounts$Sheets", "hasItem", "(II)Z"⟩, 4), (⟨"ArmCounts", "isPoint", "(IIII)Z"⟩, 6), (⟨"ArmCounts$Riddle", "prepare", "(LArmCounts$Counts;)V"⟩, 7), (⟨"ArmCounts$Riddle", "allClues", "()I"⟩, 7), (⟨"ArmCounts$Riddle", "search", "(II)V"⟩, 7), (⟨"ArmCounts$Riddle", "alone", "(II)J"⟩, 7), (⟨"ArmCounts$Riddle", "narrow", "(JI)J"⟩, 7), (⟨"ArmCounts$Riddle", "bySum", "(III)J"⟩, 7), (⟨"ArmCounts$Riddle", "known", "(I)I"⟩, 7), (⟨"ArmCounts$Riddle", "byLess", "(II)J"⟩, 7), (⟨"ArmCounts$Riddle", "meet", "(JI)Z"⟩, 7), (⟨"ArmCounts$Riddle", "hasSolution", "(I)Z"⟩, 7), (⟨"ArmCounts$Debts", "findRow", "()I"⟩, 4), (⟨"ArmCounts$Debts", "goOn", "(II)Z"⟩, 4), (⟨"ArmCounts$Debts", "inRow", "(II)Z"⟩, 4), (⟨"ArmCounts$Debts", "goOnWith", "(III)Z"⟩, 4)]
theorem lw_r1 : ∀ q ∈ lw_privs_1, lw_okq q := List.forall_mem_cons.mpr ⟨lw_p0, List.forall_mem_cons.mpr ⟨lw_p1, List.forall_mem_cons.mpr ⟨lw_p2, List.forall_mem_cons.mpr ⟨lw_p3, List.forall_mem_cons.mpr ⟨lw_p4, List.forall_mem_cons.mpr ⟨lw_p5, List.forall_mem_cons.mpr ⟨lw_p6, List.forall_mem_cons.mpr ⟨lw_p7, List.forall_mem_cons.mpr ⟨lw_p8, List.forall_mem_cons.mpr ⟨lw_p9, List.forall_mem_cons.mpr ⟨lw_p10, List.forall_mem_cons.mpr ⟨lw_p11, List.forall_mem_cons.mpr ⟨lw_p12, List.forall_mem_cons.mpr ⟨lw_p13, List.forall_mem_cons.mpr ⟨lw_p14, List.forall_mem_cons.mpr ⟨lw_p15, fun _ h => absurd h List.not_mem_nil⟩⟩⟩⟩⟩⟩⟩⟩⟩⟩⟩⟩⟩⟩⟩⟩
theorem lw_p16 : lw_okq (⟨"ArmCounts$Debts", "takeOff", "(I)V"⟩, 4) := ⟨⟨by decide +kernel, by decide +kernel⟩, List.mem_of_getElem? (i := 101) (by decide +kernel), List.mem_of_getElem? (i := 568) (by decide +kernel), List.mem_of_getElem? (i := 569) (by decide +kernel)⟩
theorem lw_p17 : lw_okq (⟨"ArmCounts$Debts", "nextOf", "(II)I"⟩, 4) := ⟨⟨by decide +kernel, by decide +kernel⟩, List.mem_of_getElem? (i := 101) (by decide +kernel), List.mem_of_getElem? (i := 572) (by decide +kernel), List.mem_of_getElem? (i := 573) (by decide +kernel)⟩
theorem lw_p18 : lw_okq (⟨"ArmCounts$Debts", "lessen", "(III)V"⟩, 4) := ⟨⟨by decide +kernel, by decide +kernel⟩, List.mem_of_getElem? (i := 101) (by decide +kernel), List.mem_of_getElem? (i := 579) (by decide +kernel), List.mem_of_getElem? (i := 580) (by decide +kernel)⟩
theorem lw_p19 : lw_okq (⟨"ArmCounts$Lists", "couldBeOfTens", "(II)Z"⟩, 6) := ⟨⟨by decide +kernel, by decide +kernel⟩, List.mem_of_getElem? (i := 121) (by decide +kernel), List.mem_of_getElem? (i := 643) (by decide +kernel), List.mem_of_getElem? (i := 644) (by decide +kernel)⟩
theorem lw_p20 : lw_okq (⟨"ArmCounts$Lists", "couldBeOfTwo", "(II)Z"⟩, 6) := ⟨⟨by decide +kernel, by decide +kernel⟩, List.mem_of_getElem? (i := 121) (by decide +kernel), List.mem_of_getElem? (i := 685) (by decide +kernel), List.mem_of_getElem? (i := 686) (by decide +kernel)⟩
theorem lw_p21 : lw_okq (⟨"ArmCounts$Lists", "wasSaid", "(III)Z"⟩, 6) := ⟨⟨by decide +kernel, by decide +kernel⟩, List.mem_of_getElem? (i := 121) (by decide +kernel), List.mem_of_getElem? (i := 715) (by decide +kernel), List.mem_of_getElem? (i := 716) (by decide +kernel)⟩
theorem lw_p22 : lw_okq (⟨"ArmCounts", "isTale", "(II)Z"⟩, 6) := ⟨⟨by decide +kernel, by decide +kernel⟩, List.mem_of_getElem? (i := 15) (by decide +kernel), List.mem_of_getElem? (i := 723) (by decide +kernel), List.mem_of_getElem? (i := 724) (by decide +kernel)⟩
theorem lw_p23 : lw_okq (⟨"ArmCounts", "missing", "(II)I"⟩, 6) := ⟨⟨by decide +kernel, by decide +kernel⟩, List.mem_of_getElem? (i := 15) (by decide +kernel), List.mem_of_getElem? (i := 727) (by decide +kernel), List.mem_of_getElem? (i := 728) (by decide +kernel)⟩
theorem lw_p24 : lw_okq (⟨"ArmCounts", "allWalks", "()I"⟩, 6) := ⟨⟨by decide +kernel, by decide +kernel⟩, List.mem_of_getElem? (i := 15) (by decide +kernel), List.mem_of_getElem? (i := 731) (by decide +kernel), List.mem_of_getElem? (i := 732) (by decide +kernel)⟩
theorem lw_p25 : lw_okq (⟨"ArmCounts", "isReading", "(III)Z"⟩, 6) := ⟨⟨by decide +kernel, by decide +kernel⟩, List.mem_of_getElem? (i := 15) (by decide +kernel), List.mem_of_getElem? (i := 739) (by decide +kernel), List.mem_of_getElem? (i := 740) (by decide +kernel)⟩
theorem lw_p26 : lw_okq (⟨"ArmCounts", "tells", "(IIIII)Z"⟩, 6) := ⟨⟨by decide +kernel, by decide +kernel⟩, List.mem_of_getElem? (i := 15) (by decide +kernel), List.mem_of_getElem? (i := 752) (by decide +kernel), List.mem_of_getElem? (i := 753) (by decide +kernel)⟩
theorem lw_p27 : lw_okq (⟨"ArmCounts", "isWalk", "(III)Z"⟩, 6) := ⟨⟨by decide +kernel, by decide +kernel⟩, List.mem_of_getElem? (i := 15) (by decide +kernel), List.mem_of_getElem? (i := 770) (by decide +kernel), List.mem_of_getElem? (i := 771) (by decide +kernel)⟩
theorem lw_p28 : lw_okq (⟨"ArmCounts$Speech", "readNumber", "(II)Z"⟩, 6) := ⟨⟨by decide +kernel, by decide +kernel⟩, List.mem_of_getElem? (i := 147) (by decide +kernel), List.mem_of_getElem? (i := 798) (by decide +kernel), List.mem_of_getElem? (i := 799) (by decide +kernel)⟩
theorem lw_p29 : lw_okq (⟨"ArmCounts$Speech", "isNext", "(C)Z"⟩, 6) := ⟨⟨by decide +kernel, by decide +kernel⟩, List.mem_of_getElem? (i := 147) (by decide +kernel), List.mem_of_getElem? (i := 802) (by decide +kernel), List.mem_of_getElem? (i := 803) (by decide +kernel)⟩
theorem lw_p30 : lw_okq (⟨"ArmCounts$Speech", "readFigures", "()I"⟩, 6) := ⟨⟨by decide +kernel, by decide +kernel⟩, List.mem_of_getElem? (i := 147) (by decide +kernel), List.mem_of_getElem? (i := 806) (by decide +kernel), List.mem_of_getElem? (i := 807) (by decide +kernel)⟩
theorem lw_p31 : lw_okq (⟨"ArmCounts$Speech", "figureHere", "()I"⟩, 6) := ⟨⟨by decide +kernel, by decide +kernel⟩, List.mem_of_getElem? (i := 147) (by decide +kernel), List.mem_of_getElem? (i := 810) (by decide +kernel), List.mem_of_getElem? (i := 811) (by decide +kernel)⟩
def lw_privs_2 : List (MethodName × Nat) := [(⟨"ArmCounts$Debts", "takeOff", "(I)V"⟩, 4), (⟨"ArmCounts$Debts", "nextOf", "(II)I"⟩, 4), (⟨"ArmCounts$Debts", "lessen", "(III)V"⟩, 4), (⟨"ArmCounts$Lists", "couldBeOfTens", "(II)Z"⟩, 6), (⟨"ArmCounts$Lists", "couldBeOfTwo", "(II)Z"⟩, 6), (⟨"ArmCounts$Lists", "wasSaid", "(III)Z"⟩, 6), (⟨"ArmCounts", "isTale", "(II)Z"⟩, 6), (⟨"ArmCounts", "missing", "(II)I"⟩, 6), (⟨"ArmCounts", "allWalks", "()I"⟩, 6), (⟨"ArmCounts", "isReading", "(III)Z"⟩, 6), (⟨"ArmCounts", "tells", "(IIIII)Z"⟩, 6), (⟨"ArmCounts", "isWalk", "(III)Z"⟩, 6), (⟨"ArmCounts$Speech", "readNumber", "(II)Z"⟩, 6), (⟨"ArmCounts$Speech", "isNext", "(C)Z"⟩, 6), (⟨"ArmCounts$Speech", "readFigures", "()I"⟩, 6), (⟨"ArmCounts$Speech", "figureHere", "()I"⟩, 6)]
theorem lw_r2 : ∀ q ∈ lw_privs_2, lw_okq q := List.forall_mem_cons.mpr ⟨lw_p16, List.forall_mem_cons.mpr ⟨lw_p17, List.forall_mem_cons.mpr ⟨lw_p18, List.forall_mem_cons.mpr ⟨lw_p19, List.forall_mem_cons.mpr ⟨lw_p20, List.forall_mem_cons.mpr ⟨lw_p21, List.forall_mem_cons.mpr ⟨lw_p22, List.forall_mem_cons.mpr ⟨lw_p23, List.forall_mem_cons.mpr ⟨lw_p24, List.forall_mem_cons.mpr ⟨lw_p25, List.forall_mem_cons.mpr ⟨lw_p26, List.forall_mem_cons.mpr ⟨lw_p27, List.forall_mem_cons.mpr ⟨lw_p28, List.forall_mem_cons.mpr ⟨lw_p29, List.forall_mem_cons.mpr ⟨lw_p30, List.forall_mem_cons.mpr ⟨lw_p31, fun _ h => absurd h List.not_mem_nil⟩⟩⟩⟩⟩⟩⟩⟩⟩⟩⟩⟩⟩⟩⟩⟩
theorem lw_p32 : lw_okq (⟨"ArmCounts", "touch", "(III)I"⟩, 6) := ⟨⟨by decide +kernel, by decide +kernel⟩, List.mem_of_getElem? (i := 15) (by decide +kernel), List.mem_of_getElem? (i := 855) (by decide +kernel), List.mem_of_getElem? (i := 856) (by decide +kernel)⟩
theorem lw_p33 : lw_okq (⟨"ArmCounts", "digestCounts", "(J)J"⟩, 6) := ⟨⟨by decide +kernel, by decide +kernel⟩, List.mem_of_getElem? (i := 15) (by decide +kernel), List.mem_of_getElem? (i := 934) (by decide +kernel), List.mem_of_getElem? (i := 935) (by decide +kernel)⟩
theorem lw_p34 : lw_okq (⟨"ArmCounts", "digestDebts", "(J)J"⟩, 6) := ⟨⟨by decide +kernel, by decide +kernel⟩, List.mem_of_getElem? (i := 15) (by decide +kernel), List.mem_of_getElem? (i := 939) (by decide +kernel), List.mem_of_getElem? (i := 940) (by decide +kernel)⟩
theorem lw_p35 : lw_okq (⟨"ArmCounts", "digestLists", "(J)J"⟩, 6) := ⟨⟨by decide +kernel, by decide +kernel⟩, List.mem_of_getElem? (i := 15) (by decide +kernel), List.mem_of_getElem? (i := 943) (by decide +kernel), List.mem_of_getElem? (i := 944) (by decide +kernel)⟩
theorem lw_p36 : lw_okq (⟨"ArmCountsModel", "meets", "(I)I"⟩, 32) := ⟨⟨by decide +kernel, by decide +kernel⟩, List.mem_of_getElem? (i := 948) (by decide +kernel), List.mem_of_getElem? (i := 1062) (by decide +kernel), List.mem_of_getElem? (i := 1063) (by decide +kernel)⟩
theorem lw_p37 : lw_okq (⟨"ArmCountsModel", "isCount", "(I)Z"⟩, 32) := ⟨⟨by decide +kernel, by decide +kernel⟩, List.mem_of_getElem? (i := 948) (by decide +kernel), List.mem_of_getElem? (i := 1073) (by decide +kernel), List.mem_of_getElem? (i := 1074) (by decide +kernel)⟩
theorem lw_p38 : lw_okq (⟨"ArmCountsModel", "aboutOf", "(II)I"⟩, 32) := ⟨⟨by decide +kernel, by decide +kernel⟩, List.mem_of_getElem? (i := 948) (by decide +kernel), List.mem_of_getElem? (i := 1081) (by decide +kernel), List.mem_of_getElem? (i := 1082) (by decide +kernel)⟩
theorem lw_p39 : lw_okq (⟨"ArmCountsModel", "totalOf", "(I)I"⟩, 32) := ⟨⟨by decide +kernel, by decide +kernel⟩, List.mem_of_getElem? (i := 948) (by decide +kernel), List.mem_of_getElem? (i := 1085) (by decide +kernel), List.mem_of_getElem? (i := 1086) (by decide +kernel)⟩
theorem lw_p40 : lw_okq (⟨"ArmCountsModel", "wordOf", "(II)I"⟩, 32) := ⟨⟨by decide +kernel, by decide +kernel⟩, List.mem_of_getElem? (i := 948) (by decide +kernel), List.mem_of_getElem? (i := 1093) (by decide +kernel), List.mem_of_getElem? (i := 1094) (by decide +kernel)⟩
theorem lw_p41 : lw_okq (⟨"ArmCountsModel", "sideOf", "(II)I"⟩, 32) := ⟨⟨by decide +kernel, by decide +kernel⟩, List.mem_of_getElem? (i := 948) (by decide +kernel), List.mem_of_getElem? (i := 1097) (by decide +kernel), List.mem_of_getElem? (i := 1098) (by decide +kernel)⟩
theorem lw_p42 : lw_okq (⟨"ArmCountsModel", "handOf", "(II)I"⟩, 32) := ⟨⟨by decide +kernel, by decide +kernel⟩, List.mem_of_getElem? (i := 948) (by decide +kernel), List.mem_of_getElem? (i := 1101) (by decide +kernel), List.mem_of_getElem? (i := 1102) (by decide +kernel)⟩
theorem lw_p43 : lw_okq (⟨"ArmCountsModel", "placeOf", "(II)I"⟩, 32) := ⟨⟨by decide +kernel, by decide +kernel⟩, List.mem_of_getElem? (i := 948) (by decide +kernel), List.mem_of_getElem? (i := 1109) (by decide +kernel), List.mem_of_getElem? (i := 1110) (by decide +kernel)⟩
theorem lw_p44 : lw_okq (⟨"ArmCountsModel", "menOf", "(II)I"⟩, 32) := ⟨⟨by decide +kernel, by decide +kernel⟩, List.mem_of_getElem? (i := 948) (by decide +kernel), List.mem_of_getElem? (i := 1113) (by decide +kernel), List.mem_of_getElem? (i := 1114) (by decide +kernel)⟩
theorem lw_p45 : lw_okq (⟨"ArmCountsModel", "isPoint", "(IIII)Z"⟩, 32) := ⟨⟨by decide +kernel, by decide +kernel⟩, List.mem_of_getElem? (i := 948) (by decide +kernel), List.mem_of_getElem? (i := 1125) (by decide +kernel), List.mem_of_getElem? (i := 1126) (by decide +kernel)⟩
theorem lw_p46 : lw_okq (⟨"ArmCountsModel", "mayMean", "(IIIII)Z"⟩, 32) := ⟨⟨by decide +kernel, by decide +kernel⟩, List.mem_of_getElem? (i := 948) (by decide +kernel), List.mem_of_getElem? (i := 1129) (by decide +kernel), List.mem_of_getElem? (i := 1130) (by decide +kernel)⟩
theorem lw_p47 : lw_okq (⟨"ArmCountsModel", "clueMore", "(IIIIII)I"⟩, 32) := ⟨⟨by decide +kernel, by decide +kernel⟩, List.mem_of_getElem? (i := 948) (by decide +kernel), List.mem_of_getElem? (i := 1148) (by decide +kernel), List.mem_of_getElem? (i := 1149) (by decide +kernel)⟩
def lw_privs_3 : List (MethodName × Nat) := [(⟨"ArmCounts", "touch", "(III)I"⟩, 6), (⟨"ArmCounts", "digestCounts", "(J)J"⟩, 6), (⟨"ArmCounts", "digestDebts", "(J)J"⟩, 6), (⟨"ArmCounts", "digestLists", "(J)J"⟩, 6), (⟨"ArmCountsModel", "meets", "(I)I"⟩, 32), (⟨"ArmCountsModel", "isCount", "(I)Z"⟩, 32), (⟨"ArmCountsModel", "aboutOf", "(II)I"⟩, 32), (⟨"ArmCountsModel", "totalOf", "(I)I"⟩, 32), (⟨"ArmCountsModel", "wordOf", "(II)I"⟩, 32), (⟨"ArmCountsModel", "sideOf", "(II)I"⟩, 32), (⟨"ArmCountsModel", "handOf", "(II)I"⟩, 32), (⟨"ArmCountsModel", "placeOf", "(II)I"⟩, 32), (⟨"ArmCountsModel", "menOf", "(II)I"⟩, 32), (⟨"ArmCountsModel", "isPoint", "(IIII)Z"⟩, 32), (⟨"ArmCountsModel", "mayMean", "(IIIII)Z"⟩, 32), (⟨"ArmCountsModel", "clueMore", "(IIIIII)I"⟩, 32)]
theorem lw_r3 : ∀ q ∈ lw_privs_3, lw_okq q := List.forall_mem_cons.mpr ⟨lw_p32, List.forall_mem_cons.mpr ⟨lw_p33, List.forall_mem_cons.mpr ⟨lw_p34, List.forall_mem_cons.mpr ⟨lw_p35, List.forall_mem_cons.mpr ⟨lw_p36, List.forall_mem_cons.mpr ⟨lw_p37, List.forall_mem_cons.mpr ⟨lw_p38, List.forall_mem_cons.mpr ⟨lw_p39, List.forall_mem_cons.mpr ⟨lw_p40, List.forall_mem_cons.mpr ⟨lw_p41, List.forall_mem_cons.mpr ⟨lw_p42, List.forall_mem_cons.mpr ⟨lw_p43, List.forall_mem_cons.mpr ⟨lw_p44, List.forall_mem_cons.mpr ⟨lw_p45, List.forall_mem_cons.mpr ⟨lw_p46, List.forall_mem_cons.mpr ⟨lw_p47, fun _ h => absurd h List.not_mem_nil⟩⟩⟩⟩⟩⟩⟩⟩⟩⟩⟩⟩⟩⟩⟩⟩
theorem lw_p48 : lw_okq (⟨"ArmCountsModel", "solutionsNow", "()I"⟩, 32) := ⟨⟨by decide +kernel, by decide +kernel⟩, List.mem_of_getElem? (i := 948) (by decide +kernel), List.mem_of_getElem? (i := 1172) (by decide +kernel), List.mem_of_getElem? (i := 1173) (by decide +kernel)⟩
theorem lw_p49 : lw_okq (⟨"ArmCountsModel", "tryOut", "(I)V"⟩, 32) := ⟨⟨by decide +kernel, by decide +kernel⟩, List.mem_of_getElem? (i := 948) (by decide +kernel), List.mem_of_getElem? (i := 1176) (by decide +kernel), List.mem_of_getElem? (i := 1177) (by decide +kernel)⟩
theorem lw_p50 : lw_okq (⟨"ArmCountsModel", "holding", "()I"⟩, 32) := ⟨⟨by decide +kernel, by decide +kernel⟩, List.mem_of_getElem? (i := 948) (by decide +kernel), List.mem_of_getElem? (i := 1180) (by decide +kernel), List.mem_of_getElem? (i := 1181) (by decide +kernel)⟩
theorem lw_p51 : lw_okq (⟨"ArmCountsModel", "holds", "(I)Z"⟩, 32) := ⟨⟨by decide +kernel, by decide +kernel⟩, List.mem_of_getElem? (i := 948) (by decide +kernel), List.mem_of_getElem? (i := 1184) (by decide +kernel), List.mem_of_getElem? (i := 1185) (by decide +kernel)⟩
theorem lw_p52 : lw_okq (⟨"ArmCountsModel", "heardAs", "(III)I"⟩, 32) := ⟨⟨by decide +kernel, by decide +kernel⟩, List.mem_of_getElem? (i := 948) (by decide +kernel), List.mem_of_getElem? (i := 1207) (by decide +kernel), List.mem_of_getElem? (i := 1208) (by decide +kernel)⟩
theorem lw_p53 : lw_okq (⟨"ArmCountsModel", "isPerson", "(I)Z"⟩, 32) := ⟨⟨by decide +kernel, by decide +kernel⟩, List.mem_of_getElem? (i := 948) (by decide +kernel), List.mem_of_getElem? (i := 1227) (by decide +kernel), List.mem_of_getElem? (i := 1228) (by decide +kernel)⟩
theorem lw_p54 : lw_okq (⟨"ArmCountsModel", "owe", "(III)V"⟩, 32) := ⟨⟨by decide +kernel, by decide +kernel⟩, List.mem_of_getElem? (i := 948) (by decide +kernel), List.mem_of_getElem? (i := 1231) (by decide +kernel), List.mem_of_getElem? (i := 1232) (by decide +kernel)⟩
theorem lw_p55 : lw_okq (⟨"ArmCountsModel", "owedBy", "(II)I"⟩, 32) := ⟨⟨by decide +kernel, by decide +kernel⟩, List.mem_of_getElem? (i := 948) (by decide +kernel), List.mem_of_getElem? (i := 1235) (by decide +kernel), List.mem_of_getElem? (i := 1236) (by decide +kernel)⟩
theorem lw_p56 : lw_okq (⟨"ArmCountsModel", "finds", "()I"⟩, 32) := ⟨⟨by decide +kernel, by decide +kernel⟩, List.mem_of_getElem? (i := 948) (by decide +kernel), List.mem_of_getElem? (i := 1251) (by decide +kernel), List.mem_of_getElem? (i := 1252) (by decide +kernel)⟩
theorem lw_p57 : lw_okq (⟨"ArmCountsModel", "goesRound", "(I)Z"⟩, 32) := ⟨⟨by decide +kernel, by decide +kernel⟩, List.mem_of_getElem? (i := 948) (by decide +kernel), List.mem_of_getElem? (i := 1255) (by decide +kernel), List.mem_of_getElem? (i := 1256) (by decide +kernel)⟩
theorem lw_p58 : lw_okq (⟨"ArmCountsModel", "mayStand", "(I)Z"⟩, 32) := ⟨⟨by decide +kernel, by decide +kernel⟩, List.mem_of_getElem? (i := 948) (by decide +kernel), List.mem_of_getElem? (i := 1259) (by decide +kernel), List.mem_of_getElem? (i := 1260) (by decide +kernel)⟩
theorem lw_p59 : lw_okq (⟨"ArmCountsModel", "isList", "(I)Z"⟩, 32) := ⟨⟨by decide +kernel, by decide +kernel⟩, List.mem_of_getElem? (i := 948) (by decide +kernel), List.mem_of_getElem? (i := 1276) (by decide +kernel), List.mem_of_getElem? (i := 1277) (by decide +kernel)⟩
theorem lw_p60 : lw_okq (⟨"ArmCountsModel", "listOf", "(II)I"⟩, 32) := ⟨⟨by decide +kernel, by decide +kernel⟩, List.mem_of_getElem? (i := 948) (by decide +kernel), List.mem_of_getElem? (i := 1284) (by decide +kernel), List.mem_of_getElem? (i := 1285) (by decide +kernel)⟩
theorem lw_p61 : lw_okq (⟨"ArmCountsModel", "tens", "(II)I"⟩, 32) := ⟨⟨by decide +kernel, by decide +kernel⟩, List.mem_of_getElem? (i := 948) (by decide +kernel), List.mem_of_getElem? (i := 1288) (by decide +kernel), List.mem_of_getElem? (i := 1289) (by decide +kernel)⟩
theorem lw_p62 : lw_okq (⟨"ArmCountsModel", "changesOf", "(II)I"⟩, 32) := ⟨⟨by decide +kernel, by decide +kernel⟩, List.mem_of_getElem? (i := 948) (by decide +kernel), List.mem_of_getElem? (i := 1296) (by decide +kernel), List.mem_of_getElem? (i := 1297) (by decide +kernel)⟩
theorem lw_p63 : lw_okq (⟨"ArmCountsModel", "motherOf", "(I)I"⟩, 32) := ⟨⟨by decide +kernel, by decide +kernel⟩, List.mem_of_getElem? (i := 948) (by decide +kernel), List.mem_of_getElem? (i := 1304) (by decide +kernel), List.mem_of_getElem? (i := 1305) (by decide +kernel)⟩
def lw_privs_4 : List (MethodName × Nat) := [(⟨"ArmCountsModel", "solutionsNow", "()I"⟩, 32), (⟨"ArmCountsModel", "tryOut", "(I)V"⟩, 32), (⟨"ArmCountsModel", "holding", "()I"⟩, 32), (⟨"ArmCountsModel", "holds", "(I)Z"⟩, 32), (⟨"ArmCountsModel", "heardAs", "(III)I"⟩, 32), (⟨"ArmCountsModel", "isPerson", "(I)Z"⟩, 32), (⟨"ArmCountsModel", "owe", "(III)V"⟩, 32), (⟨"ArmCountsModel", "owedBy", "(II)I"⟩, 32), (⟨"ArmCountsModel", "finds", "()I"⟩, 32), (⟨"ArmCountsModel", "goesRound", "(I)Z"⟩, 32), (⟨"ArmCountsModel", "mayStand", "(I)Z"⟩, 32), (⟨"ArmCountsModel", "isList", "(I)Z"⟩, 32), (⟨"ArmCountsModel", "listOf", "(II)I"⟩, 32), (⟨"ArmCountsModel", "tens", "(II)I"⟩, 32), (⟨"ArmCountsModel", "changesOf", "(II)I"⟩, 32), (⟨"ArmCountsModel", "motherOf", "(I)I"⟩, 32)]
theorem lw_r4 : ∀ q ∈ lw_privs_4, lw_okq q := List.forall_mem_cons.mpr ⟨lw_p48, List.forall_mem_cons.mpr ⟨lw_p49, List.forall_mem_cons.mpr ⟨lw_p50, List.forall_mem_cons.mpr ⟨lw_p51, List.forall_mem_cons.mpr ⟨lw_p52, List.forall_mem_cons.mpr ⟨lw_p53, List.forall_mem_cons.mpr ⟨lw_p54, List.forall_mem_cons.mpr ⟨lw_p55, List.forall_mem_cons.mpr ⟨lw_p56, List.forall_mem_cons.mpr ⟨lw_p57, List.forall_mem_cons.mpr ⟨lw_p58, List.forall_mem_cons.mpr ⟨lw_p59, List.forall_mem_cons.mpr ⟨lw_p60, List.forall_mem_cons.mpr ⟨lw_p61, List.forall_mem_cons.mpr ⟨lw_p62, List.forall_mem_cons.mpr ⟨lw_p63, fun _ h => absurd h List.not_mem_nil⟩⟩⟩⟩⟩⟩⟩⟩⟩⟩⟩⟩⟩⟩⟩⟩
theorem lw_p64 : lw_okq (⟨"ArmCountsModel", "mothersOf", "(I)I"⟩, 32) := ⟨⟨by decide +kernel, by decide +kernel⟩, List.mem_of_getElem? (i := 948) (by decide +kernel), List.mem_of_getElem? (i := 1312) (by decide +kernel), List.mem_of_getElem? (i := 1313) (by decide +kernel)⟩
theorem lw_p65 : lw_okq (⟨"ArmCountsModel", "mayBear", "(II)Z"⟩, 32) := ⟨⟨by decide +kernel, by decide +kernel⟩, List.mem_of_getElem? (i := 948) (by decide +kernel), List.mem_of_getElem? (i := 1316) (by decide +kernel), List.mem_of_getElem? (i := 1317) (by decide +kernel)⟩
theorem lw_p66 : lw_okq (⟨"ArmCountsModel", "strangeTo", "(III)I"⟩, 32) := ⟨⟨by decide +kernel, by decide +kernel⟩, List.mem_of_getElem? (i := 948) (by decide +kernel), List.mem_of_getElem? (i := 1320) (by decide +kernel), List.mem_of_getElem? (i := 1321) (by decide +kernel)⟩
theorem lw_p67 : lw_okq (⟨"ArmCountsModel", "refuses", "(II)I"⟩, 32) := ⟨⟨by decide +kernel, by decide +kernel⟩, List.mem_of_getElem? (i := 948) (by decide +kernel), List.mem_of_getElem? (i := 1340) (by decide +kernel), List.mem_of_getElem? (i := 1341) (by decide +kernel)⟩
theorem lw_p68 : lw_okq (⟨"ArmCountsModel", "readingOf", "(III)I"⟩, 32) := ⟨⟨by decide +kernel, by decide +kernel⟩, List.mem_of_getElem? (i := 948) (by decide +kernel), List.mem_of_getElem? (i := 1344) (by decide +kernel), List.mem_of_getElem? (i := 1345) (by decide +kernel)⟩
theorem lw_p69 : lw_okq (⟨"ArmCountsModel", "doesFit", "(IIIII)Z"⟩, 32) := ⟨⟨by decide +kernel, by decide +kernel⟩, List.mem_of_getElem? (i := 948) (by decide +kernel), List.mem_of_getElem? (i := 1348) (by decide +kernel), List.mem_of_getElem? (i := 1349) (by decide +kernel)⟩
theorem lw_p70 : lw_okq (⟨"ArmCountsModel", "faultNow", "()I"⟩, 32) := ⟨⟨by decide +kernel, by decide +kernel⟩, List.mem_of_getElem? (i := 948) (by decide +kernel), List.mem_of_getElem? (i := 1373) (by decide +kernel), List.mem_of_getElem? (i := 1374) (by decide +kernel)⟩
theorem lw_p71 : lw_okq (⟨"ArmCountsModel", "says", "()I"⟩, 32) := ⟨⟨by decide +kernel, by decide +kernel⟩, List.mem_of_getElem? (i := 948) (by decide +kernel), List.mem_of_getElem? (i := 1377) (by decide +kernel), List.mem_of_getElem? (i := 1378) (by decide +kernel)⟩
theorem lw_p72 : lw_okq (⟨"ArmCountsModel", "byteAt", "(I)I"⟩, 32) := ⟨⟨by decide +kernel, by decide +kernel⟩, List.mem_of_getElem? (i := 948) (by decide +kernel), List.mem_of_getElem? (i := 1381) (by decide +kernel), List.mem_of_getElem? (i := 1382) (by decide +kernel)⟩
theorem lw_p73 : lw_okq (⟨"ArmCountsModel", "figures", "()I"⟩, 32) := ⟨⟨by decide +kernel, by decide +kernel⟩, List.mem_of_getElem? (i := 948) (by decide +kernel), List.mem_of_getElem? (i := 1385) (by decide +kernel), List.mem_of_getElem? (i := 1386) (by decide +kernel)⟩
theorem lw_p74 : lw_okq (⟨"ArmCountsModel", "lacks", "(III)I"⟩, 32) := ⟨⟨by decide +kernel, by decide +kernel⟩, List.mem_of_getElem? (i := 948) (by decide +kernel), List.mem_of_getElem? (i := 1406) (by decide +kernel), List.mem_of_getElem? (i := 1407) (by decide +kernel)⟩
theorem lw_p75 : lw_okq (⟨"ArmCountsModel", "lay", "(III)V"⟩, 32) := ⟨⟨by decide +kernel, by decide +kernel⟩, List.mem_of_getElem? (i := 948) (by decide +kernel), List.mem_of_getElem? (i := 1410) (by decide +kernel), List.mem_of_getElem? (i := 1411) (by decide +kernel)⟩
def lw_privs_5 : List (MethodName × Nat) := [(⟨"ArmCountsModel", "mothersOf", "(I)I"⟩, 32), (⟨"ArmCountsModel", "mayBear", "(II)Z"⟩, 32), (⟨"ArmCountsModel", "strangeTo", "(III)I"⟩, 32), (⟨"ArmCountsModel", "refuses", "(II)I"⟩, 32), (⟨"ArmCountsModel", "readingOf", "(III)I"⟩, 32), (⟨"ArmCountsModel", "doesFit", "(IIIII)Z"⟩, 32), (⟨"ArmCountsModel", "faultNow", "()I"⟩, 32), (⟨"ArmCountsModel", "says", "()I"⟩, 32), (⟨"ArmCountsModel", "byteAt", "(I)I"⟩, 32), (⟨"ArmCountsModel", "figures", "()I"⟩, 32), (⟨"ArmCountsModel", "lacks", "(III)I"⟩, 32), (⟨"ArmCountsModel", "lay", "(III)V"⟩, 32)]
theorem lw_r5 : ∀ q ∈ lw_privs_5, lw_okq q := List.forall_mem_cons.mpr ⟨lw_p64, List.forall_mem_cons.mpr ⟨lw_p65, List.forall_mem_cons.mpr ⟨lw_p66, List.forall_mem_cons.mpr ⟨lw_p67, List.forall_mem_cons.mpr ⟨lw_p68, List.forall_mem_cons.mpr ⟨lw_p69, List.forall_mem_cons.mpr ⟨lw_p70, List.forall_mem_cons.mpr ⟨lw_p71, List.forall_mem_cons.mpr ⟨lw_p72, List.forall_mem_cons.mpr ⟨lw_p73, List.forall_mem_cons.mpr ⟨lw_p74, List.forall_mem_cons.mpr ⟨lw_p75, fun _ h => absurd h List.not_mem_nil⟩⟩⟩⟩⟩⟩⟩⟩⟩⟩⟩⟩
def lw_privs : List (MethodName × Nat) := lw_privs_1 ++ (lw_privs_2 ++ (lw_privs_3 ++ (lw_privs_4 ++ (lw_privs_5))))
def lw_tbl : List Cond := k2_sels lw_privs ++ tables_1
theorem lw_privs_ok : ∀ q ∈ lw_privs, lw_okq q := by
  show ∀ q ∈ lw_privs_1 ++ (lw_privs_2 ++ (lw_privs_3 ++ (lw_privs_4 ++ (lw_privs_5)))), lw_okq q
  exact List.forall_mem_append.mpr ⟨lw_r1, List.forall_mem_append.mpr ⟨lw_r2, List.forall_mem_append.mpr ⟨lw_r3, List.forall_mem_append.mpr ⟨lw_r4, lw_r5⟩⟩⟩⟩
end
section
def RX0 : String := "ArmCounts$Counts"
def TX0 : u_T := fun k => match k with
  | 0 => ("ArmCounts$Counts", "words", "[[I", true)
  | 1 => ("ArmCounts$Counts", "halves", "[I", true)
  | 2 => ("ArmCounts$Counts", "noses", "[I", true)
  | 3 => ("ArmCounts$Counts", "firsts", "[I", true)
  | _ => ("ArmCounts$Counts", "size", "I", false)
def tyX0 : Nat → FieldType := fun k => match k with
  | 0 => .array (.array .int)
  | 1 => .array .int
  | 2 => .array .int
  | 3 => .array .int
  | _ => .int
abbrev wsX00 : List Cond := u_ws RX0 TX0 5
theorem nmX0 : ∀ a, a < 5 → ∀ b, b < 5 → a ≠ b → (TX0 a).2.1 ≠ (TX0 b).2.1 := by decide +kernel
theorem tyX0_ok : ∀ k, k < 5 → parseFieldDescriptor (TX0 k).2.2.1 = some (tyX0 k) := by decide +kernel
abbrev cX0_init : ByteArray := prog_2_method_1_code
def yX0_init : MethodName := ⟨RX0, "<init>", "()V"⟩
abbrev cX0_size : ByteArray := prog_2_method_2_code
def yX0_size : MethodName := ⟨RX0, "size", "()I"⟩
abbrev cX0_isFull : ByteArray := prog_2_method_3_code
def yX0_isFull : MethodName := ⟨RX0, "isFull", "()Z"⟩
abbrev cX0_has : ByteArray := prog_2_method_4_code
def yX0_has : MethodName := ⟨RX0, "has", "(I)Z"⟩
abbrev cX0_learn : ByteArray := prog_2_method_5_code
def yX0_learn : MethodName := ⟨RX0, "learn", "(LArmCounts$Sheets;IIZ)I"⟩
abbrev cX0_beginOn : ByteArray := prog_2_method_6_code
def yX0_beginOn : MethodName := ⟨RX0, "beginOn", "(II)I"⟩
abbrev cX0_halfOf : ByteArray := prog_2_method_7_code
def yX0_halfOf : MethodName := ⟨RX0, "halfOf", "(I)I"⟩
abbrev cX0_noseOf : ByteArray := prog_2_method_8_code
def yX0_noseOf : MethodName := ⟨RX0, "noseOf", "(I)I"⟩
abbrev cX0_firstHand : ByteArray := prog_2_method_9_code
def yX0_firstHand : MethodName := ⟨RX0, "firstHand", "(I)I"⟩
abbrev cX0_places : ByteArray := prog_2_method_10_code
def yX0_places : MethodName := ⟨RX0, "places", "(I)I"⟩
abbrev cX0_sideAt : ByteArray := prog_2_method_11_code
def yX0_sideAt : MethodName := ⟨RX0, "sideAt", "(II)I"⟩
abbrev cX0_handAt : ByteArray := prog_2_method_12_code
def yX0_handAt : MethodName := ⟨RX0, "handAt", "(II)I"⟩
abbrev cX0_wordAt : ByteArray := prog_2_method_13_code
def yX0_wordAt : MethodName := ⟨RX0, "wordAt", "(II)I"⟩
abbrev cX0_menOf : ByteArray := prog_2_method_14_code
def yX0_menOf : MethodName := ⟨RX0, "menOf", "(II)I"⟩
abbrev cX0_placeOf : ByteArray := prog_2_method_15_code
def yX0_placeOf : MethodName := ⟨RX0, "placeOf", "(II)I"⟩
abbrev cX0_wordOf : ByteArray := prog_2_method_16_code
def yX0_wordOf : MethodName := ⟨RX0, "wordOf", "(II)I"⟩
abbrev cX0_means : ByteArray := prog_2_method_17_code
def yX0_means : MethodName := ⟨RX0, "means", "(IIIII)Z"⟩
abbrev cX0_heardAs : ByteArray := prog_2_method_18_code
def yX0_heardAs : MethodName := ⟨RX0, "heardAs", "(III)I"⟩
def RX1 : String := "ArmCounts$Debts"
def TX1 : u_T := fun k => match k with
  | 0 => ("ArmCounts$Debts", "owing", "[[I", true)
  | 1 => ("ArmCounts$Debts", "ways", "[I", true)
  | 2 => ("ArmCounts$Debts", "row", "[I", true)
  | _ => ("ArmCounts$Debts", "size", "I", false)
def tyX1 : Nat → FieldType := fun k => match k with
  | 0 => .array (.array .int)
  | 1 => .array .int
  | 2 => .array .int
  | _ => .int
abbrev wsX10 : List Cond := u_ws RX1 TX1 4
theorem nmX1 : ∀ a, a < 4 → ∀ b, b < 4 → a ≠ b → (TX1 a).2.1 ≠ (TX1 b).2.1 := by decide +kernel
theorem tyX1_ok : ∀ k, k < 4 → parseFieldDescriptor (TX1 k).2.2.1 = some (tyX1 k) := by decide +kernel
abbrev cX1_init : ByteArray := prog_3_method_1_code
def yX1_init : MethodName := ⟨RX1, "<init>", "()V"⟩
abbrev cX1_size : ByteArray := prog_3_method_2_code
def yX1_size : MethodName := ⟨RX1, "size", "()I"⟩
abbrev cX1_has : ByteArray := prog_3_method_3_code
def yX1_has : MethodName := ⟨RX1, "has", "(I)Z"⟩
abbrev cX1_areTwo : ByteArray := prog_3_method_4_code
def yX1_areTwo : MethodName := ⟨RX1, "areTwo", "(II)Z"⟩
abbrev cX1_welcome : ByteArray := prog_3_method_5_code
def yX1_welcome : MethodName := ⟨RX1, "welcome", "(I)I"⟩
abbrev cX1_countOf : ByteArray := prog_3_method_6_code
def yX1_countOf : MethodName := ⟨RX1, "countOf", "(I)I"⟩
abbrev cX1_left : ByteArray := prog_3_method_7_code
def yX1_left : MethodName := ⟨RX1, "left", "(II)I"⟩
abbrev cX1_give : ByteArray := prog_3_method_8_code
def yX1_give : MethodName := ⟨RX1, "give", "(III)I"⟩
abbrev cX1_balance : ByteArray := prog_3_method_9_code
def yX1_balance : MethodName := ⟨RX1, "balance", "(I)I"⟩
abbrev cX1_whole : ByteArray := prog_3_method_10_code
def yX1_whole : MethodName := ⟨RX1, "whole", "()I"⟩
abbrev cX1_closeAll : ByteArray := prog_3_method_11_code
def yX1_closeAll : MethodName := ⟨RX1, "closeAll", "()I"⟩
abbrev cX1_findRow : ByteArray := prog_3_method_12_code
def yX1_findRow : MethodName := ⟨RX1, "findRow", "()I"⟩
abbrev cX1_goOn : ByteArray := prog_3_method_13_code
def yX1_goOn : MethodName := ⟨RX1, "goOn", "(II)Z"⟩
abbrev cX1_goOnWith : ByteArray := prog_3_method_14_code
def yX1_goOnWith : MethodName := ⟨RX1, "goOnWith", "(III)Z"⟩
abbrev cX1_inRow : ByteArray := prog_3_method_15_code
def yX1_inRow : MethodName := ⟨RX1, "inRow", "(II)Z"⟩
abbrev cX1_takeOff : ByteArray := prog_3_method_16_code
def yX1_takeOff : MethodName := ⟨RX1, "takeOff", "(I)V"⟩
abbrev cX1_nextOf : ByteArray := prog_3_method_17_code
def yX1_nextOf : MethodName := ⟨RX1, "nextOf", "(II)I"⟩
abbrev cX1_lessen : ByteArray := prog_3_method_18_code
def yX1_lessen : MethodName := ⟨RX1, "lessen", "(III)V"⟩
def RX2 : String := "ArmCounts$Lists"
def TX2 : u_T := fun k => match k with
  | 0 => ("ArmCounts$Lists", "words", "[[I", true)
  | 1 => ("ArmCounts$Lists", "lengths", "[I", true)
  | 2 => ("ArmCounts$Lists", "years", "[I", true)
  | 3 => ("ArmCounts$Lists", "upper", "[I", true)
  | 4 => ("ArmCounts$Lists", "lower", "[I", true)
  | _ => ("ArmCounts$Lists", "size", "I", false)
def tyX2 : Nat → FieldType := fun k => match k with
  | 0 => .array (.array .int)
  | 1 => .array .int
  | 2 => .array .int
  | 3 => .array .int
  | 4 => .array .int
  | _ => .int
abbrev wsX20 : List Cond := u_ws RX2 TX2 6
theorem nmX2 : ∀ a, a < 6 → ∀ b, b < 6 → a ≠ b → (TX2 a).2.1 ≠ (TX2 b).2.1 := by decide +kernel
theorem tyX2_ok : ∀ k, k < 6 → parseFieldDescriptor (TX2 k).2.2.1 = some (tyX2 k) := by decide +kernel
abbrev cX2_init : ByteArray := prog_4_method_1_code
def yX2_init : MethodName := ⟨RX2, "<init>", "()V"⟩
abbrev cX2_size : ByteArray := prog_4_method_2_code
def yX2_size : MethodName := ⟨RX2, "size", "()I"⟩
abbrev cX2_isFull : ByteArray := prog_4_method_3_code
def yX2_isFull : MethodName := ⟨RX2, "isFull", "()Z"⟩
abbrev cX2_has : ByteArray := prog_4_method_4_code
def yX2_has : MethodName := ⟨RX2, "has", "(I)Z"⟩
abbrev cX2_lengthOf : ByteArray := prog_4_method_5_code
def yX2_lengthOf : MethodName := ⟨RX2, "lengthOf", "(I)I"⟩
abbrev cX2_yearOf : ByteArray := prog_4_method_6_code
def yX2_yearOf : MethodName := ⟨RX2, "yearOf", "(I)I"⟩
abbrev cX2_item : ByteArray := prog_4_method_7_code
def yX2_item : MethodName := ⟨RX2, "item", "(II)I"⟩
abbrev cX2_keep : ByteArray := prog_4_method_8_code
def yX2_keep : MethodName := ⟨RX2, "keep", "(LArmCounts$Sheets;III)I"⟩
abbrev cX2_gaps : ByteArray := prog_4_method_9_code
def yX2_gaps : MethodName := ⟨RX2, "gaps", "(I)I"⟩
abbrev cX2_couldBeOfTens : ByteArray := prog_4_method_10_code
def yX2_couldBeOfTens : MethodName := ⟨RX2, "couldBeOfTens", "(II)Z"⟩
abbrev cX2_ofTens : ByteArray := prog_4_method_11_code
def yX2_ofTens : MethodName := ⟨RX2, "ofTens", "(I)I"⟩
abbrev cX2_isShopped : ByteArray := prog_4_method_12_code
def yX2_isShopped : MethodName := ⟨RX2, "isShopped", "(I)Z"⟩
abbrev cX2_distance : ByteArray := prog_4_method_13_code
def yX2_distance : MethodName := ⟨RX2, "distance", "(II)I"⟩
abbrev cX2_unlike : ByteArray := prog_4_method_14_code
def yX2_unlike : MethodName := ⟨RX2, "unlike", "(II)I"⟩
abbrev cX2_motherOf : ByteArray := prog_4_method_15_code
def yX2_motherOf : MethodName := ⟨RX2, "motherOf", "(I)I"⟩
abbrev cX2_generations : ByteArray := prog_4_method_16_code
def yX2_generations : MethodName := ⟨RX2, "generations", "(I)I"⟩
abbrev cX2_couldBeOfTwo : ByteArray := prog_4_method_17_code
def yX2_couldBeOfTwo : MethodName := ⟨RX2, "couldBeOfTwo", "(II)Z"⟩
abbrev cX2_twoMothers : ByteArray := prog_4_method_18_code
def yX2_twoMothers : MethodName := ⟨RX2, "twoMothers", "(I)I"⟩
abbrev cX2_unlikeBoth : ByteArray := prog_4_method_19_code
def yX2_unlikeBoth : MethodName := ⟨RX2, "unlikeBoth", "(III)I"⟩
abbrev cX2_sharedSlips : ByteArray := prog_4_method_20_code
def yX2_sharedSlips : MethodName := ⟨RX2, "sharedSlips", "(II)I"⟩
abbrev cX2_wasSaid : ByteArray := prog_4_method_21_code
def yX2_wasSaid : MethodName := ⟨RX2, "wasSaid", "(III)Z"⟩
def RX3 : String := "ArmCounts$Riddle"
def TX3 : u_T := fun k => match k with
  | 0 => ("ArmCounts$Riddle", "clues", "[[I", true)
  | 1 => ("ArmCounts$Riddle", "allowed", "[J", true)
  | 2 => ("ArmCounts$Riddle", "met", "[J", true)
  | 3 => ("ArmCounts$Riddle", "now", "[I", true)
  | 4 => ("ArmCounts$Riddle", "size", "I", false)
  | 5 => ("ArmCounts$Riddle", "mat", "I", false)
  | _ => ("ArmCounts$Riddle", "total", "I", false)
def tyX3 : Nat → FieldType := fun k => match k with
  | 0 => .array (.array .int)
  | 1 => .array .long
  | 2 => .array .long
  | 3 => .array .int
  | 4 => .int
  | 5 => .int
  | _ => .int
abbrev wsX30 : List Cond := u_ws RX3 TX3 7
theorem nmX3 : ∀ a, a < 7 → ∀ b, b < 7 → a ≠ b → (TX3 a).2.1 ≠ (TX3 b).2.1 := by decide +kernel
theorem tyX3_ok : ∀ k, k < 7 → parseFieldDescriptor (TX3 k).2.2.1 = some (tyX3 k) := by decide +kernel
abbrev cX3_init : ByteArray := prog_5_method_1_code
def yX3_init : MethodName := ⟨RX3, "<init>", "()V"⟩
abbrev cX3_asks : ByteArray := prog_5_method_2_code
def yX3_asks : MethodName := ⟨RX3, "asks", "(I)Z"⟩
abbrev cX3_size : ByteArray := prog_5_method_3_code
def yX3_size : MethodName := ⟨RX3, "size", "()I"⟩
abbrev cX3_matSize : ByteArray := prog_5_method_4_code
def yX3_matSize : MethodName := ⟨RX3, "matSize", "()I"⟩
abbrev cX3_spread : ByteArray := prog_5_method_5_code
def yX3_spread : MethodName := ⟨RX3, "spread", "(I)I"⟩
abbrev cX3_empty : ByteArray := prog_5_method_6_code
def yX3_empty : MethodName := ⟨RX3, "empty", "()I"⟩
abbrev cX3_add : ByteArray := prog_5_method_7_code
def yX3_add : MethodName := ⟨RX3, "add", "(IIII)I"⟩
abbrev cX3_addPoint : ByteArray := prog_5_method_8_code
def yX3_addPoint : MethodName := ⟨RX3, "addPoint", "(IIIII)I"⟩
abbrev cX3_howMany : ByteArray := prog_5_method_9_code
def yX3_howMany : MethodName := ⟨RX3, "howMany", "(LArmCounts$Counts;)I"⟩
abbrev cX3_pick : ByteArray := prog_5_method_10_code
def yX3_pick : MethodName := ⟨RX3, "pick", "(LArmCounts$Counts;II)I"⟩
abbrev cX3_certain : ByteArray := prog_5_method_11_code
def yX3_certain : MethodName := ⟨RX3, "certain", "(LArmCounts$Counts;I)I"⟩
abbrev cX3_leastWithout : ByteArray := prog_5_method_12_code
def yX3_leastWithout : MethodName := ⟨RX3, "leastWithout", "(LArmCounts$Counts;)I"⟩
abbrev cX3_allClues : ByteArray := prog_5_method_13_code
def yX3_allClues : MethodName := ⟨RX3, "allClues", "()I"⟩
abbrev cX3_hasSolution : ByteArray := prog_5_method_14_code
def yX3_hasSolution : MethodName := ⟨RX3, "hasSolution", "(I)Z"⟩
abbrev cX3_prepare : ByteArray := prog_5_method_15_code
def yX3_prepare : MethodName := ⟨RX3, "prepare", "(LArmCounts$Counts;)V"⟩
abbrev cX3_allows : ByteArray := prog_5_method_16_code
def yX3_allows : MethodName := ⟨RX3, "allows", "([ILArmCounts$Counts;I)Z"⟩
abbrev cX3_inSet : ByteArray := prog_5_method_17_code
def yX3_inSet : MethodName := ⟨RX3, "inSet", "(II)Z"⟩
abbrev cX3_isAmong : ByteArray := prog_5_method_18_code
def yX3_isAmong : MethodName := ⟨RX3, "isAmong", "(JI)Z"⟩
abbrev cX3_alone : ByteArray := prog_5_method_19_code
def yX3_alone : MethodName := ⟨RX3, "alone", "(II)J"⟩
abbrev cX3_search : ByteArray := prog_5_method_20_code
def yX3_search : MethodName := ⟨RX3, "search", "(II)V"⟩
abbrev cX3_meet : ByteArray := prog_5_method_21_code
def yX3_meet : MethodName := ⟨RX3, "meet", "(JI)Z"⟩
abbrev cX3_nth : ByteArray := prog_5_method_22_code
def yX3_nth : MethodName := ⟨RX3, "nth", "(JI)I"⟩
abbrev cX3_narrow : ByteArray := prog_5_method_23_code
def yX3_narrow : MethodName := ⟨RX3, "narrow", "(JI)J"⟩
abbrev cX3_known : ByteArray := prog_5_method_24_code
def yX3_known : MethodName := ⟨RX3, "known", "(I)I"⟩
abbrev cX3_isLast : ByteArray := prog_5_method_25_code
def yX3_isLast : MethodName := ⟨RX3, "isLast", "(I)I"⟩
abbrev cX3_bySum : ByteArray := prog_5_method_26_code
def yX3_bySum : MethodName := ⟨RX3, "bySum", "(III)J"⟩
abbrev cX3_byLess : ByteArray := prog_5_method_27_code
def yX3_byLess : MethodName := ⟨RX3, "byLess", "(II)J"⟩
def RX4 : String := "ArmCounts$Sheets"
def TX4 : u_T := fun k => match k with
  | 0 => ("ArmCounts$Sheets", "items", "[[I", true)
  | 1 => ("ArmCounts$Sheets", "forms", "[I", true)
  | 2 => ("ArmCounts$Sheets", "sizes", "[I", true)
  | _ => ("ArmCounts$Sheets", "finding", "I", false)
def tyX4 : Nat → FieldType := fun k => match k with
  | 0 => .array (.array .int)
  | 1 => .array .int
  | 2 => .array .int
  | _ => .int
abbrev wsX40 : List Cond := u_ws RX4 TX4 4
theorem nmX4 : ∀ a, a < 4 → ∀ b, b < 4 → a ≠ b → (TX4 a).2.1 ≠ (TX4 b).2.1 := by decide +kernel
theorem tyX4_ok : ∀ k, k < 4 → parseFieldDescriptor (TX4 k).2.2.1 = some (tyX4 k) := by decide +kernel
abbrev cX4_init : ByteArray := prog_6_method_1_code
def yX4_init : MethodName := ⟨RX4, "<init>", "()V"⟩
abbrev cX4_isForm : ByteArray := prog_6_method_2_code
def yX4_isForm : MethodName := ⟨RX4, "isForm", "(I)Z"⟩
abbrev cX4_named : ByteArray := prog_6_method_3_code
def yX4_named : MethodName := ⟨RX4, "named", "(I)Z"⟩
abbrev cX4_lost : ByteArray := prog_6_method_4_code
def yX4_lost : MethodName := ⟨RX4, "lost", "(I)Z"⟩
abbrev cX4_sizeOf : ByteArray := prog_6_method_5_code
def yX4_sizeOf : MethodName := ⟨RX4, "sizeOf", "(I)I"⟩
abbrev cX4_formOf : ByteArray := prog_6_method_6_code
def yX4_formOf : MethodName := ⟨RX4, "formOf", "(I)I"⟩
abbrev cX4_hasItem : ByteArray := prog_6_method_7_code
def yX4_hasItem : MethodName := ⟨RX4, "hasItem", "(II)Z"⟩
abbrev cX4_item : ByteArray := prog_6_method_8_code
def yX4_item : MethodName := ⟨RX4, "item", "(II)I"⟩
abbrev cX4_wordAt : ByteArray := prog_6_method_9_code
def yX4_wordAt : MethodName := ⟨RX4, "wordAt", "(II)I"⟩
abbrev cX4_find : ByteArray := prog_6_method_10_code
def yX4_find : MethodName := ⟨RX4, "find", "(I)I"⟩
abbrev cX4_latest : ByteArray := prog_6_method_11_code
def yX4_latest : MethodName := ⟨RX4, "latest", "()I"⟩
abbrev cX4_inUse : ByteArray := prog_6_method_12_code
def yX4_inUse : MethodName := ⟨RX4, "inUse", "()I"⟩
abbrev cX4_renew : ByteArray := prog_6_method_13_code
def yX4_renew : MethodName := ⟨RX4, "renew", "(III)I"⟩
abbrev cX4_drop : ByteArray := prog_6_method_14_code
def yX4_drop : MethodName := ⟨RX4, "drop", "(I)I"⟩
abbrev cX4_store : ByteArray := prog_6_method_15_code
def yX4_store : MethodName := ⟨RX4, "store", "(III)V"⟩
abbrev cX4_cut : ByteArray := prog_6_method_16_code
def yX4_cut : MethodName := ⟨RX4, "cut", "(II)I"⟩
abbrev cX4_move : ByteArray := prog_6_method_17_code
def yX4_move : MethodName := ⟨RX4, "move", "(IIIII)Z"⟩
abbrev cX4_unlikeWords : ByteArray := prog_6_method_18_code
def yX4_unlikeWords : MethodName := ⟨RX4, "unlikeWords", "(II)Z"⟩
def RX5 : String := "ArmCounts$Speech"
def TX5 : u_T := fun k => match k with
  | 0 => ("ArmCounts$Speech", "bytes", "[I", true)
  | 1 => ("ArmCounts$Speech", "size", "I", false)
  | 2 => ("ArmCounts$Speech", "at", "I", false)
  | 3 => ("ArmCounts$Speech", "stop", "I", false)
  | 4 => ("ArmCounts$Speech", "total", "I", false)
  | _ => ("ArmCounts$Speech", "beyond", "Z", false)
def tyX5 : Nat → FieldType := fun k => match k with
  | 0 => .array .int
  | 1 => .int
  | 2 => .int
  | 3 => .int
  | 4 => .int
  | _ => .boolean
abbrev wsX50 : List Cond := u_ws RX5 TX5 6
theorem nmX5 : ∀ a, a < 6 → ∀ b, b < 6 → a ≠ b → (TX5 a).2.1 ≠ (TX5 b).2.1 := by decide +kernel
theorem tyX5_ok : ∀ k, k < 6 → parseFieldDescriptor (TX5 k).2.2.1 = some (tyX5 k) := by decide +kernel
abbrev cX5_init : ByteArray := prog_7_method_1_code
def yX5_init : MethodName := ⟨RX5, "<init>", "()V"⟩
abbrev cX5_size : ByteArray := prog_7_method_2_code
def yX5_size : MethodName := ⟨RX5, "size", "()I"⟩
abbrev cX5_append : ByteArray := prog_7_method_3_code
def yX5_append : MethodName := ⟨RX5, "append", "(I)I"⟩
abbrev cX5_empty : ByteArray := prog_7_method_4_code
def yX5_empty : MethodName := ⟨RX5, "empty", "()I"⟩
abbrev cX5_stop : ByteArray := prog_7_method_5_code
def yX5_stop : MethodName := ⟨RX5, "stop", "()I"⟩
abbrev cX5_isBeyond : ByteArray := prog_7_method_6_code
def yX5_isBeyond : MethodName := ⟨RX5, "isBeyond", "()Z"⟩
abbrev cX5_total : ByteArray := prog_7_method_7_code
def yX5_total : MethodName := ⟨RX5, "total", "()I"⟩
abbrev cX5_read : ByteArray := prog_7_method_8_code
def yX5_read : MethodName := ⟨RX5, "read", "(I)V"⟩
abbrev cX5_readNumber : ByteArray := prog_7_method_9_code
def yX5_readNumber : MethodName := ⟨RX5, "readNumber", "(II)Z"⟩
abbrev cX5_isNext : ByteArray := prog_7_method_10_code
def yX5_isNext : MethodName := ⟨RX5, "isNext", "(C)Z"⟩
abbrev cX5_figureHere : ByteArray := prog_7_method_11_code
def yX5_figureHere : MethodName := ⟨RX5, "figureHere", "()I"⟩
abbrev cX5_readFigures : ByteArray := prog_7_method_12_code
def yX5_readFigures : MethodName := ⟨RX5, "readFigures", "()I"⟩
def RX6 : String := "ArmCounts"
def TX6 : u_T := fun k => match k with
  | 0 => ("ArmCounts", "sheets", "LArmCounts$Sheets;", true)
  | 1 => ("ArmCounts", "counts", "LArmCounts$Counts;", true)
  | 2 => ("ArmCounts", "riddle", "LArmCounts$Riddle;", true)
  | 3 => ("ArmCounts", "debts", "LArmCounts$Debts;", true)
  | 4 => ("ArmCounts", "lists", "LArmCounts$Lists;", true)
  | _ => ("ArmCounts", "text", "LArmCounts$Speech;", true)
def tyX6 : Nat → FieldType := fun k => match k with
  | 0 => .object "ArmCounts$Sheets"
  | 1 => .object "ArmCounts$Counts"
  | 2 => .object "ArmCounts$Riddle"
  | 3 => .object "ArmCounts$Debts"
  | 4 => .object "ArmCounts$Lists"
  | _ => .object "ArmCounts$Speech"
abbrev wsX60 : List Cond := u_ws RX6 TX6 6
theorem nmX6 : ∀ a, a < 6 → ∀ b, b < 6 → a ≠ b → (TX6 a).2.1 ≠ (TX6 b).2.1 := by decide +kernel
theorem tyX6_ok : ∀ k, k < 6 → parseFieldDescriptor (TX6 k).2.2.1 = some (tyX6 k) := by decide +kernel
abbrev cX6_init : ByteArray := prog_1_method_1_code
def yX6_init : MethodName := ⟨RX6, "<init>", "()V"⟩
abbrev cX6_within : ByteArray := prog_1_method_2_code
def yX6_within : MethodName := ⟨RX6, "within", "(III)Z"⟩
abbrev cX6_countBy : ByteArray := prog_1_method_3_code
def yX6_countBy : MethodName := ⟨RX6, "countBy", "(IIZ)I"⟩
abbrev cX6_begins : ByteArray := prog_1_method_4_code
def yX6_begins : MethodName := ⟨RX6, "begins", "(II)I"⟩
abbrev cX6_about : ByteArray := prog_1_method_5_code
def yX6_about : MethodName := ⟨RX6, "about", "(II)I"⟩
abbrev cX6_place : ByteArray := prog_1_method_6_code
def yX6_place : MethodName := ⟨RX6, "place", "(III)I"⟩
abbrev cX6_number : ByteArray := prog_1_method_7_code
def yX6_number : MethodName := ⟨RX6, "number", "(III)I"⟩
abbrev cX6_value : ByteArray := prog_1_method_8_code
def yX6_value : MethodName := ⟨RX6, "value", "(III)I"⟩
abbrev cX6_isPoint : ByteArray := prog_1_method_9_code
def yX6_isPoint : MethodName := ⟨RX6, "isPoint", "(IIII)Z"⟩
abbrev cX6_meanings : ByteArray := prog_1_method_10_code
def yX6_meanings : MethodName := ⟨RX6, "meanings", "(IIIII)I"⟩
abbrev cX6_meaning : ByteArray := prog_1_method_11_code
def yX6_meaning : MethodName := ⟨RX6, "meaning", "(IIIII)I"⟩
abbrev cX6_mat : ByteArray := prog_1_method_12_code
def yX6_mat : MethodName := ⟨RX6, "mat", "(I)I"⟩
abbrev cX6_clue : ByteArray := prog_1_method_13_code
def yX6_clue : MethodName := ⟨RX6, "clue", "(IIIII)I"⟩
abbrev cX6_sum : ByteArray := prog_1_method_14_code
def yX6_sum : MethodName := ⟨RX6, "sum", "(III)I"⟩
abbrev cX6_less : ByteArray := prog_1_method_15_code
def yX6_less : MethodName := ⟨RX6, "less", "(II)I"⟩
abbrev cX6_mats : ByteArray := prog_1_method_16_code
def yX6_mats : MethodName := ⟨RX6, "mats", "(III)I"⟩
abbrev cX6_forget : ByteArray := prog_1_method_17_code
def yX6_forget : MethodName := ⟨RX6, "forget", "()I"⟩
abbrev cX6_solutions : ByteArray := prog_1_method_18_code
def yX6_solutions : MethodName := ⟨RX6, "solutions", "()I"⟩
abbrev cX6_solution : ByteArray := prog_1_method_19_code
def yX6_solution : MethodName := ⟨RX6, "solution", "(II)I"⟩
abbrev cX6_sure : ByteArray := prog_1_method_20_code
def yX6_sure : MethodName := ⟨RX6, "sure", "(I)I"⟩
abbrev cX6_quarrel : ByteArray := prog_1_method_21_code
def yX6_quarrel : MethodName := ⟨RX6, "quarrel", "()I"⟩
abbrev cX6_heard : ByteArray := prog_1_method_22_code
def yX6_heard : MethodName := ⟨RX6, "heard", "(III)I"⟩
abbrev cX6_clear : ByteArray := prog_1_method_23_code
def yX6_clear : MethodName := ⟨RX6, "clear", "(III)I"⟩
abbrev cX6_trap : ByteArray := prog_1_method_24_code
def yX6_trap : MethodName := ⟨RX6, "trap", "(II)I"⟩
abbrev cX6_person : ByteArray := prog_1_method_25_code
def yX6_person : MethodName := ⟨RX6, "person", "(I)I"⟩
abbrev cX6_gift : ByteArray := prog_1_method_26_code
def yX6_gift : MethodName := ⟨RX6, "gift", "(III)I"⟩
abbrev cX6_owed : ByteArray := prog_1_method_27_code
def yX6_owed : MethodName := ⟨RX6, "owed", "(II)I"⟩
abbrev cX6_told : ByteArray := prog_1_method_28_code
def yX6_told : MethodName := ⟨RX6, "told", "(II)I"⟩
abbrev cX6_close : ByteArray := prog_1_method_29_code
def yX6_close : MethodName := ⟨RX6, "close", "()I"⟩
abbrev cX6_worth : ByteArray := prog_1_method_30_code
def yX6_worth : MethodName := ⟨RX6, "worth", "(I)I"⟩
abbrev cX6_list : ByteArray := prog_1_method_31_code
def yX6_list : MethodName := ⟨RX6, "list", "(III)I"⟩
abbrev cX6_word : ByteArray := prog_1_method_32_code
def yX6_word : MethodName := ⟨RX6, "word", "(II)I"⟩
abbrev cX6_listIs : ByteArray := prog_1_method_33_code
def yX6_listIs : MethodName := ⟨RX6, "listIs", "(II)I"⟩
abbrev cX6_changes : ByteArray := prog_1_method_34_code
def yX6_changes : MethodName := ⟨RX6, "changes", "(II)I"⟩
abbrev cX6_mother : ByteArray := prog_1_method_35_code
def yX6_mother : MethodName := ⟨RX6, "mother", "(I)I"⟩
abbrev cX6_mothers : ByteArray := prog_1_method_36_code
def yX6_mothers : MethodName := ⟨RX6, "mothers", "(I)I"⟩
abbrev cX6_strange : ByteArray := prog_1_method_37_code
def yX6_strange : MethodName := ⟨RX6, "strange", "(I)I"⟩
abbrev cX6_age : ByteArray := prog_1_method_38_code
def yX6_age : MethodName := ⟨RX6, "age", "(I)I"⟩
abbrev cX6_slips : ByteArray := prog_1_method_39_code
def yX6_slips : MethodName := ⟨RX6, "slips", "(II)I"⟩
abbrev cX6_isTale : ByteArray := prog_1_method_40_code
def yX6_isTale : MethodName := ⟨RX6, "isTale", "(II)Z"⟩
abbrev cX6_missing : ByteArray := prog_1_method_41_code
def yX6_missing : MethodName := ⟨RX6, "missing", "(II)I"⟩
abbrev cX6_tells : ByteArray := prog_1_method_42_code
def yX6_tells : MethodName := ⟨RX6, "tells", "(IIIII)Z"⟩
abbrev cX6_countOfWalk : ByteArray := prog_1_method_43_code
def yX6_countOfWalk : MethodName := ⟨RX6, "countOfWalk", "(I)I"⟩
abbrev cX6_startOfWalk : ByteArray := prog_1_method_44_code
def yX6_startOfWalk : MethodName := ⟨RX6, "startOfWalk", "(I)I"⟩
abbrev cX6_stepOfWalk : ByteArray := prog_1_method_45_code
def yX6_stepOfWalk : MethodName := ⟨RX6, "stepOfWalk", "(I)I"⟩
abbrev cX6_allWalks : ByteArray := prog_1_method_46_code
def yX6_allWalks : MethodName := ⟨RX6, "allWalks", "()I"⟩
abbrev cX6_isReading : ByteArray := prog_1_method_47_code
def yX6_isReading : MethodName := ⟨RX6, "isReading", "(III)Z"⟩
abbrev cX6_readings : ByteArray := prog_1_method_48_code
def yX6_readings : MethodName := ⟨RX6, "readings", "(II)I"⟩
abbrev cX6_reading : ByteArray := prog_1_method_49_code
def yX6_reading : MethodName := ⟨RX6, "reading", "(III)I"⟩
abbrev cX6_fits : ByteArray := prog_1_method_50_code
def yX6_fits : MethodName := ⟨RX6, "fits", "(IIIII)I"⟩
abbrev cX6_isWalk : ByteArray := prog_1_method_51_code
def yX6_isWalk : MethodName := ⟨RX6, "isWalk", "(III)Z"⟩
abbrev cX6_type : ByteArray := prog_1_method_52_code
def yX6_type : MethodName := ⟨RX6, "type", "(I)I"⟩
abbrev cX6_hush : ByteArray := prog_1_method_53_code
def yX6_hush : MethodName := ⟨RX6, "hush", "()I"⟩
abbrev cX6_fault : ByteArray := prog_1_method_54_code
def yX6_fault : MethodName := ⟨RX6, "fault", "()I"⟩
abbrev cX6_speech : ByteArray := prog_1_method_55_code
def yX6_speech : MethodName := ⟨RX6, "speech", "(I)I"⟩
abbrev cX6_sheet : ByteArray := prog_1_method_56_code
def yX6_sheet : MethodName := ⟨RX6, "sheet", "(III)I"⟩
abbrev cX6_lose : ByteArray := prog_1_method_57_code
def yX6_lose : MethodName := ⟨RX6, "lose", "(I)I"⟩
abbrev cX6_touch : ByteArray := prog_1_method_58_code
def yX6_touch : MethodName := ⟨RX6, "touch", "(III)I"⟩
abbrev cX6_put : ByteArray := prog_1_method_59_code
def yX6_put : MethodName := ⟨RX6, "put", "(IIII)I"⟩
abbrev cX6_get : ByteArray := prog_1_method_60_code
def yX6_get : MethodName := ⟨RX6, "get", "(III)I"⟩
abbrev cX6_copy : ByteArray := prog_1_method_61_code
def yX6_copy : MethodName := ⟨RX6, "copy", "(IIIII)I"⟩
abbrev cX6_write : ByteArray := prog_1_method_62_code
def yX6_write : MethodName := ⟨RX6, "write", "(IIII)I"⟩
abbrev cX6_count : ByteArray := prog_1_method_63_code
def yX6_count : MethodName := ⟨RX6, "count", "(I)I"⟩
abbrev cX6_digest : ByteArray := prog_1_method_64_code
def yX6_digest : MethodName := ⟨RX6, "digest", "()J"⟩
abbrev cX6_digestCounts : ByteArray := prog_1_method_65_code
def yX6_digestCounts : MethodName := ⟨RX6, "digestCounts", "(J)J"⟩
abbrev cX6_digestDebts : ByteArray := prog_1_method_66_code
def yX6_digestDebts : MethodName := ⟨RX6, "digestDebts", "(J)J"⟩
abbrev cX6_digestLists : ByteArray := prog_1_method_67_code
def yX6_digestLists : MethodName := ⟨RX6, "digestLists", "(J)J"⟩
def RX7 : String := "ArmCountsModel"
def TX7 : u_T := fun k => match k with
  | 0 => ("ArmCountsModel", "counts", "I", false)
  | 1 => ("ArmCountsModel", "words", "[I", true)
  | 2 => ("ArmCountsModel", "sides", "[I", true)
  | 3 => ("ArmCountsModel", "hasNose", "[Z", true)
  | 4 => ("ArmCountsModel", "beginsOn", "[I", true)
  | 5 => ("ArmCountsModel", "mat", "I", false)
  | 6 => ("ArmCountsModel", "clues", "I", false)
  | 7 => ("ArmCountsModel", "clueOf", "[I", true)
  | 8 => ("ArmCountsModel", "tried", "[I", true)
  | 9 => ("ArmCountsModel", "canHold", "[Z", true)
  | 10 => ("ArmCountsModel", "persons", "I", false)
  | 11 => ("ArmCountsModel", "speaks", "[I", true)
  | 12 => ("ArmCountsModel", "owes", "[I", true)
  | 13 => ("ArmCountsModel", "round", "[I", true)
  | 14 => ("ArmCountsModel", "lists", "I", false)
  | 15 => ("ArmCountsModel", "listMany", "[I", true)
  | 16 => ("ArmCountsModel", "years", "[I", true)
  | 17 => ("ArmCountsModel", "listed", "[I", true)
  | 18 => ("ArmCountsModel", "costs", "[I", true)
  | 19 => ("ArmCountsModel", "strangest", "I", false)
  | 20 => ("ArmCountsModel", "found", "I", false)
  | 21 => ("ArmCountsModel", "typed", "I", false)
  | 22 => ("ArmCountsModel", "text", "[I", true)
  | 23 => ("ArmCountsModel", "at", "I", false)
  | 24 => ("ArmCountsModel", "saidMen", "I", false)
  | 25 => ("ArmCountsModel", "saidPlace", "I", false)
  | 26 => ("ArmCountsModel", "isThere", "[Z", true)
  | 27 => ("ArmCountsModel", "forms", "[I", true)
  | 28 => ("ArmCountsModel", "sizes", "[I", true)
  | 29 => ("ArmCountsModel", "items", "[I", true)
  | 30 => ("ArmCountsModel", "moved", "[I", true)
  | _ => ("ArmCountsModel", "finding", "I", false)
def tyX7 : Nat → FieldType := fun k => match k with
  | 0 => .int
  | 1 => .array .int
  | 2 => .array .int
  | 3 => .array .boolean
  | 4 => .array .int
  | 5 => .int
  | 6 => .int
  | 7 => .array .int
  | 8 => .array .int
  | 9 => .array .boolean
  | 10 => .int
  | 11 => .array .int
  | 12 => .array .int
  | 13 => .array .int
  | 14 => .int
  | 15 => .array .int
  | 16 => .array .int
  | 17 => .array .int
  | 18 => .array .int
  | 19 => .int
  | 20 => .int
  | 21 => .int
  | 22 => .array .int
  | 23 => .int
  | 24 => .int
  | 25 => .int
  | 26 => .array .boolean
  | 27 => .array .int
  | 28 => .array .int
  | 29 => .array .int
  | 30 => .array .int
  | _ => .int
abbrev wsX70 : List Cond := u_ws RX7 TX7 32
theorem nmX7 : ∀ a, a < 32 → ∀ b, b < 32 → a ≠ b → (TX7 a).2.1 ≠ (TX7 b).2.1 := by decide +kernel
theorem tyX7_ok : ∀ k, k < 32 → parseFieldDescriptor (TX7 k).2.2.1 = some (tyX7 k) := by decide +kernel
abbrev cX7_init : ByteArray := prog_9_method_1_code
def yX7_init : MethodName := ⟨RX7, "<init>", "()V"⟩
abbrev cX7_in : ByteArray := prog_9_method_3_code
def yX7_in : MethodName := ⟨RX7, "in", "(III)Z"⟩
abbrev cX7_isWord : ByteArray := prog_9_method_4_code
def yX7_isWord : MethodName := ⟨RX7, "isWord", "(I)Z"⟩
abbrev cX7_isCount : ByteArray := prog_9_method_5_code
def yX7_isCount : MethodName := ⟨RX7, "isCount", "(I)Z"⟩
abbrev cX7_countBy : ByteArray := prog_9_method_6_code
def yX7_countBy : MethodName := ⟨RX7, "countBy", "(IIZ)I"⟩
abbrev cX7_begins : ByteArray := prog_9_method_7_code
def yX7_begins : MethodName := ⟨RX7, "begins", "(II)I"⟩
abbrev cX7_totalOf : ByteArray := prog_9_method_8_code
def yX7_totalOf : MethodName := ⟨RX7, "totalOf", "(I)I"⟩
abbrev cX7_aboutOf : ByteArray := prog_9_method_9_code
def yX7_aboutOf : MethodName := ⟨RX7, "aboutOf", "(II)I"⟩
abbrev cX7_about : ByteArray := prog_9_method_10_code
def yX7_about : MethodName := ⟨RX7, "about", "(II)I"⟩
abbrev cX7_sideOf : ByteArray := prog_9_method_11_code
def yX7_sideOf : MethodName := ⟨RX7, "sideOf", "(II)I"⟩
abbrev cX7_wordOf : ByteArray := prog_9_method_12_code
def yX7_wordOf : MethodName := ⟨RX7, "wordOf", "(II)I"⟩
abbrev cX7_handOf : ByteArray := prog_9_method_13_code
def yX7_handOf : MethodName := ⟨RX7, "handOf", "(II)I"⟩
abbrev cX7_place : ByteArray := prog_9_method_14_code
def yX7_place : MethodName := ⟨RX7, "place", "(III)I"⟩
abbrev cX7_menOf : ByteArray := prog_9_method_15_code
def yX7_menOf : MethodName := ⟨RX7, "menOf", "(II)I"⟩
abbrev cX7_placeOf : ByteArray := prog_9_method_16_code
def yX7_placeOf : MethodName := ⟨RX7, "placeOf", "(II)I"⟩
abbrev cX7_number : ByteArray := prog_9_method_17_code
def yX7_number : MethodName := ⟨RX7, "number", "(III)I"⟩
abbrev cX7_value : ByteArray := prog_9_method_18_code
def yX7_value : MethodName := ⟨RX7, "value", "(III)I"⟩
abbrev cX7_mayMean : ByteArray := prog_9_method_19_code
def yX7_mayMean : MethodName := ⟨RX7, "mayMean", "(IIIII)Z"⟩
abbrev cX7_isPoint : ByteArray := prog_9_method_20_code
def yX7_isPoint : MethodName := ⟨RX7, "isPoint", "(IIII)Z"⟩
abbrev cX7_meanings : ByteArray := prog_9_method_21_code
def yX7_meanings : MethodName := ⟨RX7, "meanings", "(IIIII)I"⟩
abbrev cX7_meaning : ByteArray := prog_9_method_22_code
def yX7_meaning : MethodName := ⟨RX7, "meaning", "(IIIII)I"⟩
abbrev cX7_mat : ByteArray := prog_9_method_23_code
def yX7_mat : MethodName := ⟨RX7, "mat", "(I)I"⟩
abbrev cX7_clueMore : ByteArray := prog_9_method_24_code
def yX7_clueMore : MethodName := ⟨RX7, "clueMore", "(IIIIII)I"⟩
abbrev cX7_isUnknown : ByteArray := prog_9_method_25_code
def yX7_isUnknown : MethodName := ⟨RX7, "isUnknown", "(I)Z"⟩
abbrev cX7_clue : ByteArray := prog_9_method_26_code
def yX7_clue : MethodName := ⟨RX7, "clue", "(IIIII)I"⟩
abbrev cX7_sum : ByteArray := prog_9_method_27_code
def yX7_sum : MethodName := ⟨RX7, "sum", "(III)I"⟩
abbrev cX7_less : ByteArray := prog_9_method_28_code
def yX7_less : MethodName := ⟨RX7, "less", "(II)I"⟩
abbrev cX7_mats : ByteArray := prog_9_method_29_code
def yX7_mats : MethodName := ⟨RX7, "mats", "(III)I"⟩
abbrev cX7_forget : ByteArray := prog_9_method_30_code
def yX7_forget : MethodName := ⟨RX7, "forget", "()I"⟩
abbrev cX7_holds : ByteArray := prog_9_method_31_code
def yX7_holds : MethodName := ⟨RX7, "holds", "(I)Z"⟩
abbrev cX7_holding : ByteArray := prog_9_method_32_code
def yX7_holding : MethodName := ⟨RX7, "holding", "()I"⟩
abbrev cX7_tryOut : ByteArray := prog_9_method_33_code
def yX7_tryOut : MethodName := ⟨RX7, "tryOut", "(I)V"⟩
abbrev cX7_solutionsNow : ByteArray := prog_9_method_34_code
def yX7_solutionsNow : MethodName := ⟨RX7, "solutionsNow", "()I"⟩
abbrev cX7_solutions : ByteArray := prog_9_method_35_code
def yX7_solutions : MethodName := ⟨RX7, "solutions", "()I"⟩
abbrev cX7_solution : ByteArray := prog_9_method_36_code
def yX7_solution : MethodName := ⟨RX7, "solution", "(II)I"⟩
abbrev cX7_sure : ByteArray := prog_9_method_37_code
def yX7_sure : MethodName := ⟨RX7, "sure", "(I)I"⟩
abbrev cX7_ones : ByteArray := prog_9_method_38_code
def yX7_ones : MethodName := ⟨RX7, "ones", "(I)I"⟩
abbrev cX7_quarrel : ByteArray := prog_9_method_39_code
def yX7_quarrel : MethodName := ⟨RX7, "quarrel", "()I"⟩
abbrev cX7_heardAs : ByteArray := prog_9_method_40_code
def yX7_heardAs : MethodName := ⟨RX7, "heardAs", "(III)I"⟩
abbrev cX7_heard : ByteArray := prog_9_method_41_code
def yX7_heard : MethodName := ⟨RX7, "heard", "(III)I"⟩
abbrev cX7_clear : ByteArray := prog_9_method_42_code
def yX7_clear : MethodName := ⟨RX7, "clear", "(III)I"⟩
abbrev cX7_trap : ByteArray := prog_9_method_43_code
def yX7_trap : MethodName := ⟨RX7, "trap", "(II)I"⟩
abbrev cX7_isPerson : ByteArray := prog_9_method_44_code
def yX7_isPerson : MethodName := ⟨RX7, "isPerson", "(I)Z"⟩
abbrev cX7_person : ByteArray := prog_9_method_45_code
def yX7_person : MethodName := ⟨RX7, "person", "(I)I"⟩
abbrev cX7_owedBy : ByteArray := prog_9_method_46_code
def yX7_owedBy : MethodName := ⟨RX7, "owedBy", "(II)I"⟩
abbrev cX7_owe : ByteArray := prog_9_method_47_code
def yX7_owe : MethodName := ⟨RX7, "owe", "(III)V"⟩
abbrev cX7_gift : ByteArray := prog_9_method_48_code
def yX7_gift : MethodName := ⟨RX7, "gift", "(III)I"⟩
abbrev cX7_owed : ByteArray := prog_9_method_49_code
def yX7_owed : MethodName := ⟨RX7, "owed", "(II)I"⟩
abbrev cX7_told : ByteArray := prog_9_method_50_code
def yX7_told : MethodName := ⟨RX7, "told", "(II)I"⟩
abbrev cX7_finds : ByteArray := prog_9_method_51_code
def yX7_finds : MethodName := ⟨RX7, "finds", "()I"⟩
abbrev cX7_goesRound : ByteArray := prog_9_method_52_code
def yX7_goesRound : MethodName := ⟨RX7, "goesRound", "(I)Z"⟩
abbrev cX7_mayStand : ByteArray := prog_9_method_53_code
def yX7_mayStand : MethodName := ⟨RX7, "mayStand", "(I)Z"⟩
abbrev cX7_close : ByteArray := prog_9_method_54_code
def yX7_close : MethodName := ⟨RX7, "close", "()I"⟩
abbrev cX7_worth : ByteArray := prog_9_method_55_code
def yX7_worth : MethodName := ⟨RX7, "worth", "(I)I"⟩
abbrev cX7_isList : ByteArray := prog_9_method_56_code
def yX7_isList : MethodName := ⟨RX7, "isList", "(I)Z"⟩
abbrev cX7_list : ByteArray := prog_9_method_57_code
def yX7_list : MethodName := ⟨RX7, "list", "(III)I"⟩
abbrev cX7_word : ByteArray := prog_9_method_58_code
def yX7_word : MethodName := ⟨RX7, "word", "(II)I"⟩
abbrev cX7_tens : ByteArray := prog_9_method_59_code
def yX7_tens : MethodName := ⟨RX7, "tens", "(II)I"⟩
abbrev cX7_listOf : ByteArray := prog_9_method_60_code
def yX7_listOf : MethodName := ⟨RX7, "listOf", "(II)I"⟩
abbrev cX7_listIs : ByteArray := prog_9_method_61_code
def yX7_listIs : MethodName := ⟨RX7, "listIs", "(II)I"⟩
abbrev cX7_changesOf : ByteArray := prog_9_method_62_code
def yX7_changesOf : MethodName := ⟨RX7, "changesOf", "(II)I"⟩
abbrev cX7_changes : ByteArray := prog_9_method_63_code
def yX7_changes : MethodName := ⟨RX7, "changes", "(II)I"⟩
abbrev cX7_motherOf : ByteArray := prog_9_method_64_code
def yX7_motherOf : MethodName := ⟨RX7, "motherOf", "(I)I"⟩
abbrev cX7_mother : ByteArray := prog_9_method_65_code
def yX7_mother : MethodName := ⟨RX7, "mother", "(I)I"⟩
abbrev cX7_strangeTo : ByteArray := prog_9_method_66_code
def yX7_strangeTo : MethodName := ⟨RX7, "strangeTo", "(III)I"⟩
abbrev cX7_mayBear : ByteArray := prog_9_method_67_code
def yX7_mayBear : MethodName := ⟨RX7, "mayBear", "(II)Z"⟩
abbrev cX7_mothersOf : ByteArray := prog_9_method_68_code
def yX7_mothersOf : MethodName := ⟨RX7, "mothersOf", "(I)I"⟩
abbrev cX7_mothers : ByteArray := prog_9_method_69_code
def yX7_mothers : MethodName := ⟨RX7, "mothers", "(I)I"⟩
abbrev cX7_strange : ByteArray := prog_9_method_70_code
def yX7_strange : MethodName := ⟨RX7, "strange", "(I)I"⟩
abbrev cX7_age : ByteArray := prog_9_method_71_code
def yX7_age : MethodName := ⟨RX7, "age", "(I)I"⟩
abbrev cX7_slips : ByteArray := prog_9_method_72_code
def yX7_slips : MethodName := ⟨RX7, "slips", "(II)I"⟩
abbrev cX7_doesFit : ByteArray := prog_9_method_73_code
def yX7_doesFit : MethodName := ⟨RX7, "doesFit", "(IIIII)Z"⟩
abbrev cX7_refuses : ByteArray := prog_9_method_74_code
def yX7_refuses : MethodName := ⟨RX7, "refuses", "(II)I"⟩
abbrev cX7_readingOf : ByteArray := prog_9_method_75_code
def yX7_readingOf : MethodName := ⟨RX7, "readingOf", "(III)I"⟩
abbrev cX7_readings : ByteArray := prog_9_method_76_code
def yX7_readings : MethodName := ⟨RX7, "readings", "(II)I"⟩
abbrev cX7_reading : ByteArray := prog_9_method_77_code
def yX7_reading : MethodName := ⟨RX7, "reading", "(III)I"⟩
abbrev cX7_fits : ByteArray := prog_9_method_78_code
def yX7_fits : MethodName := ⟨RX7, "fits", "(IIIII)I"⟩
abbrev cX7_type : ByteArray := prog_9_method_79_code
def yX7_type : MethodName := ⟨RX7, "type", "(I)I"⟩
abbrev cX7_hush : ByteArray := prog_9_method_80_code
def yX7_hush : MethodName := ⟨RX7, "hush", "()I"⟩
abbrev cX7_byteAt : ByteArray := prog_9_method_81_code
def yX7_byteAt : MethodName := ⟨RX7, "byteAt", "(I)I"⟩
abbrev cX7_figures : ByteArray := prog_9_method_82_code
def yX7_figures : MethodName := ⟨RX7, "figures", "()I"⟩
abbrev cX7_says : ByteArray := prog_9_method_83_code
def yX7_says : MethodName := ⟨RX7, "says", "()I"⟩
abbrev cX7_faultNow : ByteArray := prog_9_method_84_code
def yX7_faultNow : MethodName := ⟨RX7, "faultNow", "()I"⟩
abbrev cX7_fault : ByteArray := prog_9_method_85_code
def yX7_fault : MethodName := ⟨RX7, "fault", "()I"⟩
abbrev cX7_speech : ByteArray := prog_9_method_86_code
def yX7_speech : MethodName := ⟨RX7, "speech", "(I)I"⟩
abbrev cX7_meets : ByteArray := prog_9_method_87_code
def yX7_meets : MethodName := ⟨RX7, "meets", "(I)I"⟩
abbrev cX7_isSheet : ByteArray := prog_9_method_88_code
def yX7_isSheet : MethodName := ⟨RX7, "isSheet", "(I)Z"⟩
abbrev cX7_sheet : ByteArray := prog_9_method_89_code
def yX7_sheet : MethodName := ⟨RX7, "sheet", "(III)I"⟩
abbrev cX7_lose : ByteArray := prog_9_method_90_code
def yX7_lose : MethodName := ⟨RX7, "lose", "(I)I"⟩
abbrev cX7_lacks : ByteArray := prog_9_method_91_code
def yX7_lacks : MethodName := ⟨RX7, "lacks", "(III)I"⟩
abbrev cX7_lay : ByteArray := prog_9_method_92_code
def yX7_lay : MethodName := ⟨RX7, "lay", "(III)V"⟩
abbrev cX7_put : ByteArray := prog_9_method_93_code
def yX7_put : MethodName := ⟨RX7, "put", "(IIII)I"⟩
abbrev cX7_get : ByteArray := prog_9_method_94_code
def yX7_get : MethodName := ⟨RX7, "get", "(III)I"⟩
abbrev cX7_copy : ByteArray := prog_9_method_95_code
def yX7_copy : MethodName := ⟨RX7, "copy", "(IIIII)I"⟩
abbrev cX7_write : ByteArray := prog_9_method_96_code
def yX7_write : MethodName := ⟨RX7, "write", "(IIII)I"⟩
abbrev cX7_count : ByteArray := prog_9_method_97_code
def yX7_count : MethodName := ⟨RX7, "count", "(I)I"⟩
abbrev cX7_digest : ByteArray := prog_9_method_98_code
def yX7_digest : MethodName := ⟨RX7, "digest", "()J"⟩
def RJ6 : String := "java/lang/Integer"
def TJ6 : u_T := fun k => match k with
  | _ => ("", "", "", false)
def tyJ6 : Nat → FieldType := fun k => match k with
  | _ => .int
abbrev wsJ60 : List Cond := u_ws RJ6 TJ6 0
theorem nmJ6 : ∀ a, a < 0 → ∀ b, b < 0 → a ≠ b → (TJ6 a).2.1 ≠ (TJ6 b).2.1 := by decide +kernel
theorem tyJ6_ok : ∀ k, k < 0 → parseFieldDescriptor (TJ6 k).2.2.1 = some (tyJ6 k) := by decide +kernel
abbrev cJ6_bitCount_0f7a4 : ByteArray := prog_10_method_49_code
def yJ6_bitCount_0f7a4 : MethodName := ⟨RJ6, "bitCount", "(I)I"⟩
def RJ13 : String := "java/lang/Long"
def TJ13 : u_T := fun k => match k with
  | _ => ("", "", "", false)
def tyJ13 : Nat → FieldType := fun k => match k with
  | _ => .int
abbrev wsJ130 : List Cond := u_ws RJ13 TJ13 0
theorem nmJ13 : ∀ a, a < 0 → ∀ b, b < 0 → a ≠ b → (TJ13 a).2.1 ≠ (TJ13 b).2.1 := by decide +kernel
theorem tyJ13_ok : ∀ k, k < 0 → parseFieldDescriptor (TJ13 k).2.2.1 = some (tyJ13 k) := by decide +kernel
abbrev cJ13_bitCount_95d88 : ByteArray := prog_11_method_50_code
def yJ13_bitCount_95d88 : MethodName := ⟨RJ13, "bitCount", "(J)I"⟩
def RJ9 : String := "java/lang/Math"
def TJ9 : u_T := fun k => match k with
  | _ => ("", "", "", false)
def tyJ9 : Nat → FieldType := fun k => match k with
  | _ => .int
abbrev wsJ90 : List Cond := u_ws RJ9 TJ9 0
theorem nmJ9 : ∀ a, a < 0 → ∀ b, b < 0 → a ≠ b → (TJ9 a).2.1 ≠ (TJ9 b).2.1 := by decide +kernel
theorem tyJ9_ok : ∀ k, k < 0 → parseFieldDescriptor (TJ9 k).2.2.1 = some (tyJ9 k) := by decide +kernel
abbrev cJ9_max_7cf53 : ByteArray := prog_12_method_65_code
def yJ9_max_7cf53 : MethodName := ⟨RJ9, "max", "(II)I"⟩
abbrev cJ9_min_7cf53 : ByteArray := prog_12_method_69_code
def yJ9_min_7cf53 : MethodName := ⟨RJ9, "min", "(II)I"⟩
def RJ10 : String := "java/lang/System"
def TJ10 : u_T := fun k => match k with
  | _ => ("", "", "", false)
def tyJ10 : Nat → FieldType := fun k => match k with
  | _ => .int
abbrev wsJ100 : List Cond := u_ws RJ10 TJ10 0
theorem nmJ10 : ∀ a, a < 0 → ∀ b, b < 0 → a ≠ b → (TJ10 a).2.1 ≠ (TJ10 b).2.1 := by decide +kernel
theorem tyJ10_ok : ∀ k, k < 0 → parseFieldDescriptor (TJ10 k).2.2.1 = some (tyJ10 k) := by decide +kernel
def RJ7 : String := "java/util/Arrays"
def TJ7 : u_T := fun k => match k with
  | _ => ("", "", "", false)
def tyJ7 : Nat → FieldType := fun k => match k with
  | _ => .int
abbrev wsJ70 : List Cond := u_ws RJ7 TJ7 0
theorem nmJ7 : ∀ a, a < 0 → ∀ b, b < 0 → a ≠ b → (TJ7 a).2.1 ≠ (TJ7 b).2.1 := by decide +kernel
theorem tyJ7_ok : ∀ k, k < 0 → parseFieldDescriptor (TJ7 k).2.2.1 = some (tyJ7 k) := by decide +kernel
abbrev cJ7_fill_d0a16 : ByteArray := prog_14_method_101_code
def yJ7_fill_d0a16 : MethodName := ⟨RJ7, "fill", "([JJ)V"⟩
abbrev cJ7_fill_53178 : ByteArray := prog_14_method_103_code
def yJ7_fill_53178 : MethodName := ⟨RJ7, "fill", "([II)V"⟩
def RL : String := "ArmCountsLaw"
abbrev cL_law : ByteArray := code
def yL_law : MethodName := ⟨RL, "law", "([I)Z"⟩
abbrev vwCl : List vw_C := [(RX0, TX0, 5), (RX1, TX1, 4), (RX2, TX2, 6), (RX3, TX3, 7), (RX4, TX4, 4), (RX5, TX5, 6), (RX6, TX6, 6), (RX7, TX7, 32)]
theorem inX0 : ∀ w ∈ wsX00, w ∈ lw_tbl := by decide +kernel
theorem inX1 : ∀ w ∈ wsX10, w ∈ lw_tbl := by decide +kernel
theorem inX2 : ∀ w ∈ wsX20, w ∈ lw_tbl := by decide +kernel
theorem inX3 : ∀ w ∈ wsX30, w ∈ lw_tbl := by decide +kernel
theorem inX4 : ∀ w ∈ wsX40, w ∈ lw_tbl := by decide +kernel
theorem inX5 : ∀ w ∈ wsX50, w ∈ lw_tbl := by decide +kernel
theorem inX6 : ∀ w ∈ wsX60, w ∈ lw_tbl := by decide +kernel
theorem inX7 : ∀ w ∈ wsX70, w ∈ lw_tbl := by decide +kernel
end
section
theorem dX0_init_0 : decode cX0_init 0 = .ok (.aload_n 0, 1) := by decide +kernel
theorem dX0_init_1 : decode cX0_init 1 = .ok (.invokespecial 3, 3) := by decide +kernel
theorem dX0_init_4 : decode cX0_init 4 = .ok (.aload_n 0, 1) := by decide +kernel
theorem dX0_init_5 : decode cX0_init 5 = .ok (.bipush 6, 2) := by decide +kernel
theorem dX0_init_7 : decode cX0_init 7 = .ok (.bipush 41, 2) := by decide +kernel
theorem dX0_init_9 : decode cX0_init 9 = .ok (.multianewarray 11 2, 4) := by decide +kernel
theorem dX0_init_13 : decode cX0_init 13 = .ok (.putfield 13, 3) := by decide +kernel
theorem dX0_init_16 : decode cX0_init 16 = .ok (.aload_n 0, 1) := by decide +kernel
theorem dX0_init_17 : decode cX0_init 17 = .ok (.bipush 6, 2) := by decide +kernel
theorem dX0_init_19 : decode cX0_init 19 = .ok (.newarray .int, 2) := by decide +kernel
theorem dX0_init_21 : decode cX0_init 21 = .ok (.putfield 16, 3) := by decide +kernel
theorem dX0_init_24 : decode cX0_init 24 = .ok (.aload_n 0, 1) := by decide +kernel
theorem dX0_init_25 : decode cX0_init 25 = .ok (.bipush 6, 2) := by decide +kernel
theorem dX0_init_27 : decode cX0_init 27 = .ok (.newarray .int, 2) := by decide +kernel
theorem dX0_init_29 : decode cX0_init 29 = .ok (.putfield 20, 3) := by decide +kernel
theorem dX0_init_32 : decode cX0_init 32 = .ok (.aload_n 0, 1) := by decide +kernel
theorem dX0_init_33 : decode cX0_init 33 = .ok (.bipush 6, 2) := by decide +kernel
theorem dX0_init_35 : decode cX0_init 35 = .ok (.newarray .int, 2) := by decide +kernel
theorem dX0_init_37 : decode cX0_init 37 = .ok (.putfield 23, 3) := by decide +kernel
theorem dX0_init_40 : decode cX0_init 40 = .ok (.aload_n 0, 1) := by decide +kernel
theorem dX0_init_41 : decode cX0_init 41 = .ok (.iconst 0, 1) := by decide +kernel
theorem dX0_init_42 : decode cX0_init 42 = .ok (.putfield 26, 3) := by decide +kernel
theorem dX0_init_45 : decode cX0_init 45 = .ok (.return_, 1) := by decide +kernel
theorem dX0_size_0 : decode cX0_size 0 = .ok (.aload_n 0, 1) := by decide +kernel
theorem dX0_size_1 : decode cX0_size 1 = .ok (.getfield 26, 3) := by decide +kernel
theorem dX0_size_4 : decode cX0_size 4 = .ok (.ireturn, 1) := by decide +kernel
theorem dX0_isFull_0 : decode cX0_isFull 0 = .ok (.aload_n 0, 1) := by decide +kernel
theorem dX0_isFull_1 : decode cX0_isFull 1 = .ok (.getfield 26, 3) := by decide +kernel
theorem dX0_isFull_4 : decode cX0_isFull 4 = .ok (.bipush 6, 2) := by decide +kernel
theorem dX0_isFull_6 : decode cX0_isFull 6 = .ok (.if_icmp .lt 7, 3) := by decide +kernel
theorem dX0_isFull_9 : decode cX0_isFull 9 = .ok (.iconst 1, 1) := by decide +kernel
theorem dX0_isFull_10 : decode cX0_isFull 10 = .ok (.goto 4, 3) := by decide +kernel
theorem dX0_isFull_13 : decode cX0_isFull 13 = .ok (.iconst 0, 1) := by decide +kernel
theorem dX0_isFull_14 : decode cX0_isFull 14 = .ok (.ireturn, 1) := by decide +kernel
theorem dX0_has_0 : decode cX0_has 0 = .ok (.iload_n 1, 1) := by decide +kernel
theorem dX0_has_1 : decode cX0_has 1 = .ok (.ifCond .lt 21, 3) := by decide +kernel
theorem dX0_has_4 : decode cX0_has 4 = .ok (.iload_n 1, 1) := by decide +kernel
theorem dX0_has_5 : decode cX0_has 5 = .ok (.aload_n 0, 1) := by decide +kernel
theorem dX0_has_6 : decode cX0_has 6 = .ok (.getfield 26, 3) := by decide +kernel
theorem dX0_has_9 : decode cX0_has 9 = .ok (.if_icmp .ge 13, 3) := by decide +kernel
theorem dX0_has_12 : decode cX0_has 12 = .ok (.iload_n 1, 1) := by decide +kernel
theorem dX0_has_13 : decode cX0_has 13 = .ok (.bipush 6, 2) := by decide +kernel
theorem dX0_has_15 : decode cX0_has 15 = .ok (.if_icmp .ge 7, 3) := by decide +kernel
theorem dX0_has_18 : decode cX0_has 18 = .ok (.iconst 1, 1) := by decide +kernel
theorem dX0_has_19 : decode cX0_has 19 = .ok (.goto 4, 3) := by decide +kernel
theorem dX0_has_22 : decode cX0_has 22 = .ok (.iconst 0, 1) := by decide +kernel
theorem dX0_has_23 : decode cX0_has 23 = .ok (.ireturn, 1) := by decide +kernel
theorem dX0_learn_0 : decode cX0_learn 0 = .ok (.aload_n 0, 1) := by decide +kernel
theorem dX0_learn_1 : decode cX0_learn 1 = .ok (.invokevirtual 30, 3) := by decide +kernel
theorem dX0_learn_4 : decode cX0_learn 4 = .ok (.ifCond .ne 13, 3) := by decide +kernel
theorem dX0_learn_7 : decode cX0_learn 7 = .ok (.iload_n 3, 1) := by decide +kernel
theorem dX0_learn_8 : decode cX0_learn 8 = .ok (.iconst 1, 1) := by decide +kernel
theorem dX0_learn_9 : decode cX0_learn 9 = .ok (.bipush 20, 2) := by decide +kernel
theorem dX0_learn_11 : decode cX0_learn 11 = .ok (.invokestatic 34, 3) := by decide +kernel
theorem dX0_learn_14 : decode cX0_learn 14 = .ok (.ifCond .ne 6, 3) := by decide +kernel
theorem dX0_learn_17 : decode cX0_learn 17 = .ok (.bipush (-4), 2) := by decide +kernel
theorem dX0_learn_19 : decode cX0_learn 19 = .ok (.ireturn, 1) := by decide +kernel
theorem dX0_learn_20 : decode cX0_learn 20 = .ok (.aload_n 0, 1) := by decide +kernel
theorem dX0_learn_21 : decode cX0_learn 21 = .ok (.getfield 26, 3) := by decide +kernel
theorem dX0_learn_24 : decode cX0_learn 24 = .ok (.istore 5, 2) := by decide +kernel
theorem dX0_learn_26 : decode cX0_learn 26 = .ok (.iload 4, 2) := by decide +kernel
theorem dX0_learn_28 : decode cX0_learn 28 = .ok (.ifCond .eq 9, 3) := by decide +kernel
theorem dX0_learn_31 : decode cX0_learn 31 = .ok (.iconst 2, 1) := by decide +kernel
theorem dX0_learn_32 : decode cX0_learn 32 = .ok (.iload_n 3, 1) := by decide +kernel
theorem dX0_learn_33 : decode cX0_learn 33 = .ok (.imul, 1) := by decide +kernel
theorem dX0_learn_34 : decode cX0_learn 34 = .ok (.goto 8, 3) := by decide +kernel
theorem dX0_learn_37 : decode cX0_learn 37 = .ok (.iconst 2, 1) := by decide +kernel
theorem dX0_learn_38 : decode cX0_learn 38 = .ok (.iload_n 3, 1) := by decide +kernel
theorem dX0_learn_39 : decode cX0_learn 39 = .ok (.imul, 1) := by decide +kernel
theorem dX0_learn_40 : decode cX0_learn 40 = .ok (.iconst 1, 1) := by decide +kernel
theorem dX0_learn_41 : decode cX0_learn 41 = .ok (.isub, 1) := by decide +kernel
theorem dX0_learn_42 : decode cX0_learn 42 = .ok (.istore 6, 2) := by decide +kernel
theorem dX0_learn_44 : decode cX0_learn 44 = .ok (.iconst 0, 1) := by decide +kernel
theorem dX0_learn_45 : decode cX0_learn 45 = .ok (.istore 7, 2) := by decide +kernel
theorem dX0_learn_47 : decode cX0_learn 47 = .ok (.iload 7, 2) := by decide +kernel
theorem dX0_learn_49 : decode cX0_learn 49 = .ok (.iload_n 3, 1) := by decide +kernel
theorem dX0_learn_50 : decode cX0_learn 50 = .ok (.if_icmp .ge 45, 3) := by decide +kernel
theorem dX0_learn_53 : decode cX0_learn 53 = .ok (.aload_n 1, 1) := by decide +kernel
theorem dX0_learn_54 : decode cX0_learn 54 = .ok (.iload_n 2, 1) := by decide +kernel
theorem dX0_learn_55 : decode cX0_learn 55 = .ok (.iload 7, 2) := by decide +kernel
theorem dX0_learn_57 : decode cX0_learn 57 = .ok (.invokevirtual 38, 3) := by decide +kernel
theorem dX0_learn_60 : decode cX0_learn 60 = .ok (.istore 8, 2) := by decide +kernel
theorem dX0_learn_62 : decode cX0_learn 62 = .ok (.aload_n 0, 1) := by decide +kernel
theorem dX0_learn_63 : decode cX0_learn 63 = .ok (.getfield 13, 3) := by decide +kernel
theorem dX0_learn_66 : decode cX0_learn 66 = .ok (.iload 5, 2) := by decide +kernel
theorem dX0_learn_68 : decode cX0_learn 68 = .ok (.aaload, 1) := by decide +kernel
theorem dX0_learn_69 : decode cX0_learn 69 = .ok (.iload 7, 2) := by decide +kernel
theorem dX0_learn_71 : decode cX0_learn 71 = .ok (.iload 8, 2) := by decide +kernel
theorem dX0_learn_73 : decode cX0_learn 73 = .ok (.iastore, 1) := by decide +kernel
theorem dX0_learn_74 : decode cX0_learn 74 = .ok (.aload_n 0, 1) := by decide +kernel
theorem dX0_learn_75 : decode cX0_learn 75 = .ok (.getfield 13, 3) := by decide +kernel
theorem dX0_learn_78 : decode cX0_learn 78 = .ok (.iload 5, 2) := by decide +kernel
theorem dX0_learn_80 : decode cX0_learn 80 = .ok (.aaload, 1) := by decide +kernel
theorem dX0_learn_81 : decode cX0_learn 81 = .ok (.iload 6, 2) := by decide +kernel
theorem dX0_learn_83 : decode cX0_learn 83 = .ok (.iload 7, 2) := by decide +kernel
theorem dX0_learn_85 : decode cX0_learn 85 = .ok (.isub, 1) := by decide +kernel
theorem dX0_learn_86 : decode cX0_learn 86 = .ok (.iload 8, 2) := by decide +kernel
theorem dX0_learn_88 : decode cX0_learn 88 = .ok (.iastore, 1) := by decide +kernel
theorem dX0_learn_89 : decode cX0_learn 89 = .ok (.iinc 7 1, 3) := by decide +kernel
theorem dX0_learn_92 : decode cX0_learn 92 = .ok (.goto (-45), 3) := by decide +kernel
theorem dX0_learn_95 : decode cX0_learn 95 = .ok (.iload 4, 2) := by decide +kernel
theorem dX0_learn_97 : decode cX0_learn 97 = .ok (.ifCond .eq 18, 3) := by decide +kernel
theorem dX0_learn_100 : decode cX0_learn 100 = .ok (.aload_n 0, 1) := by decide +kernel
theorem dX0_learn_101 : decode cX0_learn 101 = .ok (.getfield 13, 3) := by decide +kernel
theorem dX0_learn_104 : decode cX0_learn 104 = .ok (.iload 5, 2) := by decide +kernel
theorem dX0_learn_106 : decode cX0_learn 106 = .ok (.aaload, 1) := by decide +kernel
theorem dX0_learn_107 : decode cX0_learn 107 = .ok (.iload_n 3, 1) := by decide +kernel
theorem dX0_learn_108 : decode cX0_learn 108 = .ok (.aload_n 1, 1) := by decide +kernel
theorem dX0_learn_109 : decode cX0_learn 109 = .ok (.iload_n 2, 1) := by decide +kernel
theorem dX0_learn_110 : decode cX0_learn 110 = .ok (.iload_n 3, 1) := by decide +kernel
theorem dX0_learn_111 : decode cX0_learn 111 = .ok (.invokevirtual 38, 3) := by decide +kernel
theorem dX0_learn_114 : decode cX0_learn 114 = .ok (.iastore, 1) := by decide +kernel
theorem dX0_learn_115 : decode cX0_learn 115 = .ok (.aload_n 0, 1) := by decide +kernel
theorem dX0_learn_116 : decode cX0_learn 116 = .ok (.getfield 16, 3) := by decide +kernel
theorem dX0_learn_119 : decode cX0_learn 119 = .ok (.iload 5, 2) := by decide +kernel
theorem dX0_learn_121 : decode cX0_learn 121 = .ok (.iload_n 3, 1) := by decide +kernel
theorem dX0_learn_122 : decode cX0_learn 122 = .ok (.iastore, 1) := by decide +kernel
theorem dX0_learn_123 : decode cX0_learn 123 = .ok (.aload_n 0, 1) := by decide +kernel
theorem dX0_learn_124 : decode cX0_learn 124 = .ok (.getfield 20, 3) := by decide +kernel
theorem dX0_learn_127 : decode cX0_learn 127 = .ok (.iload 5, 2) := by decide +kernel
theorem dX0_learn_129 : decode cX0_learn 129 = .ok (.iload 4, 2) := by decide +kernel
theorem dX0_learn_131 : decode cX0_learn 131 = .ok (.ifCond .eq 7, 3) := by decide +kernel
theorem dX0_learn_134 : decode cX0_learn 134 = .ok (.iconst 1, 1) := by decide +kernel
theorem dX0_learn_135 : decode cX0_learn 135 = .ok (.goto 4, 3) := by decide +kernel
theorem dX0_learn_138 : decode cX0_learn 138 = .ok (.iconst 0, 1) := by decide +kernel
theorem dX0_learn_139 : decode cX0_learn 139 = .ok (.iastore, 1) := by decide +kernel
theorem dX0_learn_140 : decode cX0_learn 140 = .ok (.aload_n 0, 1) := by decide +kernel
theorem dX0_learn_141 : decode cX0_learn 141 = .ok (.dup, 1) := by decide +kernel
theorem dX0_learn_142 : decode cX0_learn 142 = .ok (.getfield 26, 3) := by decide +kernel
theorem dX0_learn_145 : decode cX0_learn 145 = .ok (.iconst 1, 1) := by decide +kernel
theorem dX0_learn_146 : decode cX0_learn 146 = .ok (.iadd, 1) := by decide +kernel
theorem dX0_learn_147 : decode cX0_learn 147 = .ok (.putfield 26, 3) := by decide +kernel
theorem dX0_learn_150 : decode cX0_learn 150 = .ok (.iload 5, 2) := by decide +kernel
theorem dX0_learn_152 : decode cX0_learn 152 = .ok (.ireturn, 1) := by decide +kernel
theorem dX0_beginOn_0 : decode cX0_beginOn 0 = .ok (.aload_n 0, 1) := by decide +kernel
theorem dX0_beginOn_1 : decode cX0_beginOn 1 = .ok (.iload_n 1, 1) := by decide +kernel
theorem dX0_beginOn_2 : decode cX0_beginOn 2 = .ok (.invokevirtual 44, 3) := by decide +kernel
theorem dX0_beginOn_5 : decode cX0_beginOn 5 = .ok (.ifCond .ne 6, 3) := by decide +kernel
theorem dX0_beginOn_8 : decode cX0_beginOn 8 = .ok (.bipush (-2), 2) := by decide +kernel
theorem dX0_beginOn_10 : decode cX0_beginOn 10 = .ok (.ireturn, 1) := by decide +kernel
theorem dX0_beginOn_11 : decode cX0_beginOn 11 = .ok (.aload_n 0, 1) := by decide +kernel
theorem dX0_beginOn_12 : decode cX0_beginOn 12 = .ok (.getfield 23, 3) := by decide +kernel
theorem dX0_beginOn_15 : decode cX0_beginOn 15 = .ok (.iload_n 1, 1) := by decide +kernel
theorem dX0_beginOn_16 : decode cX0_beginOn 16 = .ok (.iaload, 1) := by decide +kernel
theorem dX0_beginOn_17 : decode cX0_beginOn 17 = .ok (.istore_n 3, 1) := by decide +kernel
theorem dX0_beginOn_18 : decode cX0_beginOn 18 = .ok (.aload_n 0, 1) := by decide +kernel
theorem dX0_beginOn_19 : decode cX0_beginOn 19 = .ok (.getfield 23, 3) := by decide +kernel
theorem dX0_beginOn_22 : decode cX0_beginOn 22 = .ok (.iload_n 1, 1) := by decide +kernel
theorem dX0_beginOn_23 : decode cX0_beginOn 23 = .ok (.iload_n 2, 1) := by decide +kernel
theorem dX0_beginOn_24 : decode cX0_beginOn 24 = .ok (.iastore, 1) := by decide +kernel
theorem dX0_beginOn_25 : decode cX0_beginOn 25 = .ok (.iload_n 3, 1) := by decide +kernel
theorem dX0_beginOn_26 : decode cX0_beginOn 26 = .ok (.ireturn, 1) := by decide +kernel
theorem dX0_halfOf_0 : decode cX0_halfOf 0 = .ok (.aload_n 0, 1) := by decide +kernel
theorem dX0_halfOf_1 : decode cX0_halfOf 1 = .ok (.iload_n 1, 1) := by decide +kernel
theorem dX0_halfOf_2 : decode cX0_halfOf 2 = .ok (.invokevirtual 44, 3) := by decide +kernel
theorem dX0_halfOf_5 : decode cX0_halfOf 5 = .ok (.ifCond .eq 12, 3) := by decide +kernel
theorem dX0_halfOf_8 : decode cX0_halfOf 8 = .ok (.aload_n 0, 1) := by decide +kernel
theorem dX0_halfOf_9 : decode cX0_halfOf 9 = .ok (.getfield 16, 3) := by decide +kernel
theorem dX0_halfOf_12 : decode cX0_halfOf 12 = .ok (.iload_n 1, 1) := by decide +kernel
theorem dX0_halfOf_13 : decode cX0_halfOf 13 = .ok (.iaload, 1) := by decide +kernel
theorem dX0_halfOf_14 : decode cX0_halfOf 14 = .ok (.goto 4, 3) := by decide +kernel
theorem dX0_halfOf_17 : decode cX0_halfOf 17 = .ok (.iconst 0, 1) := by decide +kernel
theorem dX0_halfOf_18 : decode cX0_halfOf 18 = .ok (.ireturn, 1) := by decide +kernel
theorem dX0_noseOf_0 : decode cX0_noseOf 0 = .ok (.aload_n 0, 1) := by decide +kernel
theorem dX0_noseOf_1 : decode cX0_noseOf 1 = .ok (.iload_n 1, 1) := by decide +kernel
theorem dX0_noseOf_2 : decode cX0_noseOf 2 = .ok (.invokevirtual 44, 3) := by decide +kernel
theorem dX0_noseOf_5 : decode cX0_noseOf 5 = .ok (.ifCond .eq 12, 3) := by decide +kernel
theorem dX0_noseOf_8 : decode cX0_noseOf 8 = .ok (.aload_n 0, 1) := by decide +kernel
theorem dX0_noseOf_9 : decode cX0_noseOf 9 = .ok (.getfield 20, 3) := by decide +kernel
theorem dX0_noseOf_12 : decode cX0_noseOf 12 = .ok (.iload_n 1, 1) := by decide +kernel
theorem dX0_noseOf_13 : decode cX0_noseOf 13 = .ok (.iaload, 1) := by decide +kernel
theorem dX0_noseOf_14 : decode cX0_noseOf 14 = .ok (.goto 4, 3) := by decide +kernel
theorem dX0_noseOf_17 : decode cX0_noseOf 17 = .ok (.iconst 0, 1) := by decide +kernel
theorem dX0_noseOf_18 : decode cX0_noseOf 18 = .ok (.ireturn, 1) := by decide +kernel
theorem dX0_firstHand_0 : decode cX0_firstHand 0 = .ok (.aload_n 0, 1) := by decide +kernel
theorem dX0_firstHand_1 : decode cX0_firstHand 1 = .ok (.iload_n 1, 1) := by decide +kernel
theorem dX0_firstHand_2 : decode cX0_firstHand 2 = .ok (.invokevirtual 44, 3) := by decide +kernel
theorem dX0_firstHand_5 : decode cX0_firstHand 5 = .ok (.ifCond .eq 12, 3) := by decide +kernel
theorem dX0_firstHand_8 : decode cX0_firstHand 8 = .ok (.aload_n 0, 1) := by decide +kernel
theorem dX0_firstHand_9 : decode cX0_firstHand 9 = .ok (.getfield 23, 3) := by decide +kernel
theorem dX0_firstHand_12 : decode cX0_firstHand 12 = .ok (.iload_n 1, 1) := by decide +kernel
theorem dX0_firstHand_13 : decode cX0_firstHand 13 = .ok (.iaload, 1) := by decide +kernel
theorem dX0_firstHand_14 : decode cX0_firstHand 14 = .ok (.goto 4, 3) := by decide +kernel
theorem dX0_firstHand_17 : decode cX0_firstHand 17 = .ok (.iconst (-1), 1) := by decide +kernel
theorem dX0_firstHand_18 : decode cX0_firstHand 18 = .ok (.ireturn, 1) := by decide +kernel
theorem dX0_places_0 : decode cX0_places 0 = .ok (.aload_n 0, 1) := by decide +kernel
theorem dX0_places_1 : decode cX0_places 1 = .ok (.iload_n 1, 1) := by decide +kernel
theorem dX0_places_2 : decode cX0_places 2 = .ok (.invokevirtual 44, 3) := by decide +kernel
theorem dX0_places_5 : decode cX0_places 5 = .ok (.ifCond .eq 21, 3) := by decide +kernel
theorem dX0_places_8 : decode cX0_places 8 = .ok (.iconst 2, 1) := by decide +kernel
theorem dX0_places_9 : decode cX0_places 9 = .ok (.aload_n 0, 1) := by decide +kernel
theorem dX0_places_10 : decode cX0_places 10 = .ok (.getfield 16, 3) := by decide +kernel
theorem dX0_places_13 : decode cX0_places 13 = .ok (.iload_n 1, 1) := by decide +kernel
theorem dX0_places_14 : decode cX0_places 14 = .ok (.iaload, 1) := by decide +kernel
theorem dX0_places_15 : decode cX0_places 15 = .ok (.imul, 1) := by decide +kernel
theorem dX0_places_16 : decode cX0_places 16 = .ok (.aload_n 0, 1) := by decide +kernel
theorem dX0_places_17 : decode cX0_places 17 = .ok (.getfield 20, 3) := by decide +kernel
theorem dX0_places_20 : decode cX0_places 20 = .ok (.iload_n 1, 1) := by decide +kernel
theorem dX0_places_21 : decode cX0_places 21 = .ok (.iaload, 1) := by decide +kernel
theorem dX0_places_22 : decode cX0_places 22 = .ok (.iadd, 1) := by decide +kernel
theorem dX0_places_23 : decode cX0_places 23 = .ok (.goto 4, 3) := by decide +kernel
theorem dX0_places_26 : decode cX0_places 26 = .ok (.iconst 0, 1) := by decide +kernel
theorem dX0_places_27 : decode cX0_places 27 = .ok (.ireturn, 1) := by decide +kernel
theorem dX0_sideAt_0 : decode cX0_sideAt 0 = .ok (.aload_n 0, 1) := by decide +kernel
theorem dX0_sideAt_1 : decode cX0_sideAt 1 = .ok (.iload_n 1, 1) := by decide +kernel
theorem dX0_sideAt_2 : decode cX0_sideAt 2 = .ok (.invokevirtual 44, 3) := by decide +kernel
theorem dX0_sideAt_5 : decode cX0_sideAt 5 = .ok (.ifCond .ne 5, 3) := by decide +kernel
theorem dX0_sideAt_8 : decode cX0_sideAt 8 = .ok (.iconst (-1), 1) := by decide +kernel
theorem dX0_sideAt_9 : decode cX0_sideAt 9 = .ok (.ireturn, 1) := by decide +kernel
theorem dX0_sideAt_10 : decode cX0_sideAt 10 = .ok (.iload_n 2, 1) := by decide +kernel
theorem dX0_sideAt_11 : decode cX0_sideAt 11 = .ok (.aload_n 0, 1) := by decide +kernel
theorem dX0_sideAt_12 : decode cX0_sideAt 12 = .ok (.getfield 16, 3) := by decide +kernel
theorem dX0_sideAt_15 : decode cX0_sideAt 15 = .ok (.iload_n 1, 1) := by decide +kernel
theorem dX0_sideAt_16 : decode cX0_sideAt 16 = .ok (.iaload, 1) := by decide +kernel
theorem dX0_sideAt_17 : decode cX0_sideAt 17 = .ok (.if_icmp .gt 5, 3) := by decide +kernel
theorem dX0_sideAt_20 : decode cX0_sideAt 20 = .ok (.iconst 0, 1) := by decide +kernel
theorem dX0_sideAt_21 : decode cX0_sideAt 21 = .ok (.ireturn, 1) := by decide +kernel
theorem dX0_sideAt_22 : decode cX0_sideAt 22 = .ok (.aload_n 0, 1) := by decide +kernel
theorem dX0_sideAt_23 : decode cX0_sideAt 23 = .ok (.getfield 20, 3) := by decide +kernel
theorem dX0_sideAt_26 : decode cX0_sideAt 26 = .ok (.iload_n 1, 1) := by decide +kernel
theorem dX0_sideAt_27 : decode cX0_sideAt 27 = .ok (.iaload, 1) := by decide +kernel
theorem dX0_sideAt_28 : decode cX0_sideAt 28 = .ok (.iconst 1, 1) := by decide +kernel
theorem dX0_sideAt_29 : decode cX0_sideAt 29 = .ok (.if_icmp .ne 19, 3) := by decide +kernel
theorem dX0_sideAt_32 : decode cX0_sideAt 32 = .ok (.iload_n 2, 1) := by decide +kernel
theorem dX0_sideAt_33 : decode cX0_sideAt 33 = .ok (.aload_n 0, 1) := by decide +kernel
theorem dX0_sideAt_34 : decode cX0_sideAt 34 = .ok (.getfield 16, 3) := by decide +kernel
theorem dX0_sideAt_37 : decode cX0_sideAt 37 = .ok (.iload_n 1, 1) := by decide +kernel
theorem dX0_sideAt_38 : decode cX0_sideAt 38 = .ok (.iaload, 1) := by decide +kernel
theorem dX0_sideAt_39 : decode cX0_sideAt 39 = .ok (.iconst 1, 1) := by decide +kernel
theorem dX0_sideAt_40 : decode cX0_sideAt 40 = .ok (.iadd, 1) := by decide +kernel
theorem dX0_sideAt_41 : decode cX0_sideAt 41 = .ok (.if_icmp .ne 7, 3) := by decide +kernel
theorem dX0_sideAt_44 : decode cX0_sideAt 44 = .ok (.iconst 2, 1) := by decide +kernel
theorem dX0_sideAt_45 : decode cX0_sideAt 45 = .ok (.goto 4, 3) := by decide +kernel
theorem dX0_sideAt_48 : decode cX0_sideAt 48 = .ok (.iconst 1, 1) := by decide +kernel
theorem dX0_sideAt_49 : decode cX0_sideAt 49 = .ok (.ireturn, 1) := by decide +kernel
theorem dX0_handAt_0 : decode cX0_handAt 0 = .ok (.aload_n 0, 1) := by decide +kernel
theorem dX0_handAt_1 : decode cX0_handAt 1 = .ok (.iload_n 1, 1) := by decide +kernel
theorem dX0_handAt_2 : decode cX0_handAt 2 = .ok (.iload_n 2, 1) := by decide +kernel
theorem dX0_handAt_3 : decode cX0_handAt 3 = .ok (.invokevirtual 48, 3) := by decide +kernel
theorem dX0_handAt_6 : decode cX0_handAt 6 = .ok (.lookupswitch 40 #[(0, 26), (1, 32)], 26) := by decide +kernel
theorem dX0_handAt_32 : decode cX0_handAt 32 = .ok (.aload_n 0, 1) := by decide +kernel
theorem dX0_handAt_33 : decode cX0_handAt 33 = .ok (.iload_n 1, 1) := by decide +kernel
theorem dX0_handAt_34 : decode cX0_handAt 34 = .ok (.invokevirtual 51, 3) := by decide +kernel
theorem dX0_handAt_37 : decode cX0_handAt 37 = .ok (.ireturn, 1) := by decide +kernel
theorem dX0_handAt_38 : decode cX0_handAt 38 = .ok (.iconst 1, 1) := by decide +kernel
theorem dX0_handAt_39 : decode cX0_handAt 39 = .ok (.aload_n 0, 1) := by decide +kernel
theorem dX0_handAt_40 : decode cX0_handAt 40 = .ok (.iload_n 1, 1) := by decide +kernel
theorem dX0_handAt_41 : decode cX0_handAt 41 = .ok (.invokevirtual 51, 3) := by decide +kernel
theorem dX0_handAt_44 : decode cX0_handAt 44 = .ok (.isub, 1) := by decide +kernel
theorem dX0_handAt_45 : decode cX0_handAt 45 = .ok (.ireturn, 1) := by decide +kernel
theorem dX0_handAt_46 : decode cX0_handAt 46 = .ok (.iconst 2, 1) := by decide +kernel
theorem dX0_handAt_47 : decode cX0_handAt 47 = .ok (.ireturn, 1) := by decide +kernel
theorem dX0_wordAt_0 : decode cX0_wordAt 0 = .ok (.aload_n 0, 1) := by decide +kernel
theorem dX0_wordAt_1 : decode cX0_wordAt 1 = .ok (.iload_n 1, 1) := by decide +kernel
theorem dX0_wordAt_2 : decode cX0_wordAt 2 = .ok (.invokevirtual 44, 3) := by decide +kernel
theorem dX0_wordAt_5 : decode cX0_wordAt 5 = .ok (.ifCond .eq 36, 3) := by decide +kernel
theorem dX0_wordAt_8 : decode cX0_wordAt 8 = .ok (.iload_n 2, 1) := by decide +kernel
theorem dX0_wordAt_9 : decode cX0_wordAt 9 = .ok (.iconst 1, 1) := by decide +kernel
theorem dX0_wordAt_10 : decode cX0_wordAt 10 = .ok (.if_icmp .lt 31, 3) := by decide +kernel
theorem dX0_wordAt_13 : decode cX0_wordAt 13 = .ok (.iload_n 2, 1) := by decide +kernel
theorem dX0_wordAt_14 : decode cX0_wordAt 14 = .ok (.aload_n 0, 1) := by decide +kernel
theorem dX0_wordAt_15 : decode cX0_wordAt 15 = .ok (.iload_n 1, 1) := by decide +kernel
theorem dX0_wordAt_16 : decode cX0_wordAt 16 = .ok (.invokevirtual 55, 3) := by decide +kernel
theorem dX0_wordAt_19 : decode cX0_wordAt 19 = .ok (.if_icmp .gt 22, 3) := by decide +kernel
theorem dX0_wordAt_22 : decode cX0_wordAt 22 = .ok (.iload_n 2, 1) := by decide +kernel
theorem dX0_wordAt_23 : decode cX0_wordAt 23 = .ok (.bipush 41, 2) := by decide +kernel
theorem dX0_wordAt_25 : decode cX0_wordAt 25 = .ok (.if_icmp .gt 16, 3) := by decide +kernel
theorem dX0_wordAt_28 : decode cX0_wordAt 28 = .ok (.aload_n 0, 1) := by decide +kernel
theorem dX0_wordAt_29 : decode cX0_wordAt 29 = .ok (.getfield 13, 3) := by decide +kernel
theorem dX0_wordAt_32 : decode cX0_wordAt 32 = .ok (.iload_n 1, 1) := by decide +kernel
theorem dX0_wordAt_33 : decode cX0_wordAt 33 = .ok (.aaload, 1) := by decide +kernel
theorem dX0_wordAt_34 : decode cX0_wordAt 34 = .ok (.iload_n 2, 1) := by decide +kernel
theorem dX0_wordAt_35 : decode cX0_wordAt 35 = .ok (.iconst 1, 1) := by decide +kernel
theorem dX0_wordAt_36 : decode cX0_wordAt 36 = .ok (.isub, 1) := by decide +kernel
theorem dX0_wordAt_37 : decode cX0_wordAt 37 = .ok (.iaload, 1) := by decide +kernel
theorem dX0_wordAt_38 : decode cX0_wordAt 38 = .ok (.goto 4, 3) := by decide +kernel
theorem dX0_wordAt_41 : decode cX0_wordAt 41 = .ok (.iconst (-1), 1) := by decide +kernel
theorem dX0_wordAt_42 : decode cX0_wordAt 42 = .ok (.ireturn, 1) := by decide +kernel
theorem dX0_menOf_0 : decode cX0_menOf 0 = .ok (.aload_n 0, 1) := by decide +kernel
theorem dX0_menOf_1 : decode cX0_menOf 1 = .ok (.iload_n 1, 1) := by decide +kernel
theorem dX0_menOf_2 : decode cX0_menOf 2 = .ok (.invokevirtual 55, 3) := by decide +kernel
theorem dX0_menOf_5 : decode cX0_menOf 5 = .ok (.istore_n 3, 1) := by decide +kernel
theorem dX0_menOf_6 : decode cX0_menOf 6 = .ok (.iload_n 3, 1) := by decide +kernel
theorem dX0_menOf_7 : decode cX0_menOf 7 = .ok (.ifCond .le 11, 3) := by decide +kernel
theorem dX0_menOf_10 : decode cX0_menOf 10 = .ok (.iload_n 2, 1) := by decide +kernel
theorem dX0_menOf_11 : decode cX0_menOf 11 = .ok (.iconst 1, 1) := by decide +kernel
theorem dX0_menOf_12 : decode cX0_menOf 12 = .ok (.isub, 1) := by decide +kernel
theorem dX0_menOf_13 : decode cX0_menOf 13 = .ok (.iload_n 3, 1) := by decide +kernel
theorem dX0_menOf_14 : decode cX0_menOf 14 = .ok (.idiv, 1) := by decide +kernel
theorem dX0_menOf_15 : decode cX0_menOf 15 = .ok (.goto 4, 3) := by decide +kernel
theorem dX0_menOf_18 : decode cX0_menOf 18 = .ok (.iconst 0, 1) := by decide +kernel
theorem dX0_menOf_19 : decode cX0_menOf 19 = .ok (.ireturn, 1) := by decide +kernel
theorem dX0_placeOf_0 : decode cX0_placeOf 0 = .ok (.aload_n 0, 1) := by decide +kernel
theorem dX0_placeOf_1 : decode cX0_placeOf 1 = .ok (.iload_n 1, 1) := by decide +kernel
theorem dX0_placeOf_2 : decode cX0_placeOf 2 = .ok (.invokevirtual 55, 3) := by decide +kernel
theorem dX0_placeOf_5 : decode cX0_placeOf 5 = .ok (.istore_n 3, 1) := by decide +kernel
theorem dX0_placeOf_6 : decode cX0_placeOf 6 = .ok (.iload_n 3, 1) := by decide +kernel
theorem dX0_placeOf_7 : decode cX0_placeOf 7 = .ok (.ifCond .le 13, 3) := by decide +kernel
theorem dX0_placeOf_10 : decode cX0_placeOf 10 = .ok (.iload_n 2, 1) := by decide +kernel
theorem dX0_placeOf_11 : decode cX0_placeOf 11 = .ok (.iconst 1, 1) := by decide +kernel
theorem dX0_placeOf_12 : decode cX0_placeOf 12 = .ok (.isub, 1) := by decide +kernel
theorem dX0_placeOf_13 : decode cX0_placeOf 13 = .ok (.iload_n 3, 1) := by decide +kernel
theorem dX0_placeOf_14 : decode cX0_placeOf 14 = .ok (.irem, 1) := by decide +kernel
theorem dX0_placeOf_15 : decode cX0_placeOf 15 = .ok (.iconst 1, 1) := by decide +kernel
theorem dX0_placeOf_16 : decode cX0_placeOf 16 = .ok (.iadd, 1) := by decide +kernel
theorem dX0_placeOf_17 : decode cX0_placeOf 17 = .ok (.goto 4, 3) := by decide +kernel
theorem dX0_placeOf_20 : decode cX0_placeOf 20 = .ok (.iconst 0, 1) := by decide +kernel
theorem dX0_placeOf_21 : decode cX0_placeOf 21 = .ok (.ireturn, 1) := by decide +kernel
theorem dX0_wordOf_0 : decode cX0_wordOf 0 = .ok (.aload_n 0, 1) := by decide +kernel
theorem dX0_wordOf_1 : decode cX0_wordOf 1 = .ok (.iload_n 1, 1) := by decide +kernel
theorem dX0_wordOf_2 : decode cX0_wordOf 2 = .ok (.aload_n 0, 1) := by decide +kernel
theorem dX0_wordOf_3 : decode cX0_wordOf 3 = .ok (.iload_n 1, 1) := by decide +kernel
theorem dX0_wordOf_4 : decode cX0_wordOf 4 = .ok (.iload_n 2, 1) := by decide +kernel
theorem dX0_wordOf_5 : decode cX0_wordOf 5 = .ok (.invokevirtual 58, 3) := by decide +kernel
theorem dX0_wordOf_8 : decode cX0_wordOf 8 = .ok (.invokevirtual 61, 3) := by decide +kernel
theorem dX0_wordOf_11 : decode cX0_wordOf 11 = .ok (.ireturn, 1) := by decide +kernel
theorem dX0_means_0 : decode cX0_means 0 = .ok (.aload_n 0, 1) := by decide +kernel
theorem dX0_means_1 : decode cX0_means 1 = .ok (.iload_n 1, 1) := by decide +kernel
theorem dX0_means_2 : decode cX0_means 2 = .ok (.iload 5, 2) := by decide +kernel
theorem dX0_means_4 : decode cX0_means 4 = .ok (.invokevirtual 58, 3) := by decide +kernel
theorem dX0_means_7 : decode cX0_means 7 = .ok (.istore 6, 2) := by decide +kernel
theorem dX0_means_9 : decode cX0_means 9 = .ok (.aload_n 0, 1) := by decide +kernel
theorem dX0_means_10 : decode cX0_means 10 = .ok (.iload_n 1, 1) := by decide +kernel
theorem dX0_means_11 : decode cX0_means 11 = .ok (.iload 6, 2) := by decide +kernel
theorem dX0_means_13 : decode cX0_means 13 = .ok (.invokevirtual 61, 3) := by decide +kernel
theorem dX0_means_16 : decode cX0_means 16 = .ok (.iload_n 2, 1) := by decide +kernel
theorem dX0_means_17 : decode cX0_means 17 = .ok (.if_icmp .ne 41, 3) := by decide +kernel
theorem dX0_means_20 : decode cX0_means 20 = .ok (.iload_n 3, 1) := by decide +kernel
theorem dX0_means_21 : decode cX0_means 21 = .ok (.iconst (-1), 1) := by decide +kernel
theorem dX0_means_22 : decode cX0_means 22 = .ok (.if_icmp .eq 14, 3) := by decide +kernel
theorem dX0_means_25 : decode cX0_means 25 = .ok (.aload_n 0, 1) := by decide +kernel
theorem dX0_means_26 : decode cX0_means 26 = .ok (.iload_n 1, 1) := by decide +kernel
theorem dX0_means_27 : decode cX0_means 27 = .ok (.iload 6, 2) := by decide +kernel
theorem dX0_means_29 : decode cX0_means 29 = .ok (.invokevirtual 62, 3) := by decide +kernel
theorem dX0_means_32 : decode cX0_means 32 = .ok (.iload_n 3, 1) := by decide +kernel
theorem dX0_means_33 : decode cX0_means 33 = .ok (.if_icmp .ne 25, 3) := by decide +kernel
theorem dX0_means_36 : decode cX0_means 36 = .ok (.iload 4, 2) := by decide +kernel
theorem dX0_means_38 : decode cX0_means 38 = .ok (.iconst (-1), 1) := by decide +kernel
theorem dX0_means_39 : decode cX0_means 39 = .ok (.if_icmp .eq 15, 3) := by decide +kernel
theorem dX0_means_42 : decode cX0_means 42 = .ok (.aload_n 0, 1) := by decide +kernel
theorem dX0_means_43 : decode cX0_means 43 = .ok (.iload_n 1, 1) := by decide +kernel
theorem dX0_means_44 : decode cX0_means 44 = .ok (.iload 5, 2) := by decide +kernel
theorem dX0_means_46 : decode cX0_means 46 = .ok (.invokevirtual 65, 3) := by decide +kernel
theorem dX0_means_49 : decode cX0_means 49 = .ok (.iload 4, 2) := by decide +kernel
theorem dX0_means_51 : decode cX0_means 51 = .ok (.if_icmp .ne 7, 3) := by decide +kernel
theorem dX0_means_54 : decode cX0_means 54 = .ok (.iconst 1, 1) := by decide +kernel
theorem dX0_means_55 : decode cX0_means 55 = .ok (.goto 4, 3) := by decide +kernel
theorem dX0_means_58 : decode cX0_means 58 = .ok (.iconst 0, 1) := by decide +kernel
theorem dX0_means_59 : decode cX0_means 59 = .ok (.ireturn, 1) := by decide +kernel
theorem dX0_heardAs_0 : decode cX0_heardAs 0 = .ok (.aload_n 0, 1) := by decide +kernel
theorem dX0_heardAs_1 : decode cX0_heardAs 1 = .ok (.iload_n 1, 1) := by decide +kernel
theorem dX0_heardAs_2 : decode cX0_heardAs 2 = .ok (.iload_n 3, 1) := by decide +kernel
theorem dX0_heardAs_3 : decode cX0_heardAs 3 = .ok (.invokevirtual 58, 3) := by decide +kernel
theorem dX0_heardAs_6 : decode cX0_heardAs 6 = .ok (.istore 4, 2) := by decide +kernel
theorem dX0_heardAs_8 : decode cX0_heardAs 8 = .ok (.aload_n 0, 1) := by decide +kernel
theorem dX0_heardAs_9 : decode cX0_heardAs 9 = .ok (.iload_n 1, 1) := by decide +kernel
theorem dX0_heardAs_10 : decode cX0_heardAs 10 = .ok (.iload 4, 2) := by decide +kernel
theorem dX0_heardAs_12 : decode cX0_heardAs 12 = .ok (.invokevirtual 61, 3) := by decide +kernel
theorem dX0_heardAs_15 : decode cX0_heardAs 15 = .ok (.istore 5, 2) := by decide +kernel
theorem dX0_heardAs_17 : decode cX0_heardAs 17 = .ok (.aload_n 0, 1) := by decide +kernel
theorem dX0_heardAs_18 : decode cX0_heardAs 18 = .ok (.iload_n 1, 1) := by decide +kernel
theorem dX0_heardAs_19 : decode cX0_heardAs 19 = .ok (.iload 4, 2) := by decide +kernel
theorem dX0_heardAs_21 : decode cX0_heardAs 21 = .ok (.invokevirtual 62, 3) := by decide +kernel
theorem dX0_heardAs_24 : decode cX0_heardAs 24 = .ok (.istore 6, 2) := by decide +kernel
theorem dX0_heardAs_26 : decode cX0_heardAs 26 = .ok (.aload_n 0, 1) := by decide +kernel
theorem dX0_heardAs_27 : decode cX0_heardAs 27 = .ok (.iload_n 2, 1) := by decide +kernel
theorem dX0_heardAs_28 : decode cX0_heardAs 28 = .ok (.invokevirtual 55, 3) := by decide +kernel
theorem dX0_heardAs_31 : decode cX0_heardAs 31 = .ok (.istore 7, 2) := by decide +kernel
theorem dX0_heardAs_33 : decode cX0_heardAs 33 = .ok (.iconst 1, 1) := by decide +kernel
theorem dX0_heardAs_34 : decode cX0_heardAs 34 = .ok (.istore 8, 2) := by decide +kernel
theorem dX0_heardAs_36 : decode cX0_heardAs 36 = .ok (.iload 8, 2) := by decide +kernel
theorem dX0_heardAs_38 : decode cX0_heardAs 38 = .ok (.iload 7, 2) := by decide +kernel
theorem dX0_heardAs_40 : decode cX0_heardAs 40 = .ok (.if_icmp .gt 62, 3) := by decide +kernel
theorem dX0_heardAs_43 : decode cX0_heardAs 43 = .ok (.aload_n 0, 1) := by decide +kernel
theorem dX0_heardAs_44 : decode cX0_heardAs 44 = .ok (.iload_n 2, 1) := by decide +kernel
theorem dX0_heardAs_45 : decode cX0_heardAs 45 = .ok (.iload 8, 2) := by decide +kernel
theorem dX0_heardAs_47 : decode cX0_heardAs 47 = .ok (.invokevirtual 61, 3) := by decide +kernel
theorem dX0_heardAs_50 : decode cX0_heardAs 50 = .ok (.iload 5, 2) := by decide +kernel
theorem dX0_heardAs_52 : decode cX0_heardAs 52 = .ok (.if_icmp .ne 44, 3) := by decide +kernel
theorem dX0_heardAs_55 : decode cX0_heardAs 55 = .ok (.aload_n 0, 1) := by decide +kernel
theorem dX0_heardAs_56 : decode cX0_heardAs 56 = .ok (.iload_n 2, 1) := by decide +kernel
theorem dX0_heardAs_57 : decode cX0_heardAs 57 = .ok (.iload 8, 2) := by decide +kernel
theorem dX0_heardAs_59 : decode cX0_heardAs 59 = .ok (.invokevirtual 62, 3) := by decide +kernel
theorem dX0_heardAs_62 : decode cX0_heardAs 62 = .ok (.iload 6, 2) := by decide +kernel
theorem dX0_heardAs_64 : decode cX0_heardAs 64 = .ok (.if_icmp .ne 32, 3) := by decide +kernel
theorem dX0_heardAs_67 : decode cX0_heardAs 67 = .ok (.aload_n 0, 1) := by decide +kernel
theorem dX0_heardAs_68 : decode cX0_heardAs 68 = .ok (.iload_n 1, 1) := by decide +kernel
theorem dX0_heardAs_69 : decode cX0_heardAs 69 = .ok (.iload_n 3, 1) := by decide +kernel
theorem dX0_heardAs_70 : decode cX0_heardAs 70 = .ok (.invokevirtual 65, 3) := by decide +kernel
theorem dX0_heardAs_73 : decode cX0_heardAs 73 = .ok (.iload 7, 2) := by decide +kernel
theorem dX0_heardAs_75 : decode cX0_heardAs 75 = .ok (.imul, 1) := by decide +kernel
theorem dX0_heardAs_76 : decode cX0_heardAs 76 = .ok (.iload 8, 2) := by decide +kernel
theorem dX0_heardAs_78 : decode cX0_heardAs 78 = .ok (.iadd, 1) := by decide +kernel
theorem dX0_heardAs_79 : decode cX0_heardAs 79 = .ok (.istore 9, 2) := by decide +kernel
theorem dX0_heardAs_81 : decode cX0_heardAs 81 = .ok (.iload 9, 2) := by decide +kernel
theorem dX0_heardAs_83 : decode cX0_heardAs 83 = .ok (.sipush 400, 3) := by decide +kernel
theorem dX0_heardAs_86 : decode cX0_heardAs 86 = .ok (.if_icmp .gt 8, 3) := by decide +kernel
theorem dX0_heardAs_89 : decode cX0_heardAs 89 = .ok (.iload 9, 2) := by decide +kernel
theorem dX0_heardAs_91 : decode cX0_heardAs 91 = .ok (.goto 4, 3) := by decide +kernel
theorem dX0_heardAs_94 : decode cX0_heardAs 94 = .ok (.iconst (-1), 1) := by decide +kernel
theorem dX0_heardAs_95 : decode cX0_heardAs 95 = .ok (.ireturn, 1) := by decide +kernel
theorem dX0_heardAs_96 : decode cX0_heardAs 96 = .ok (.iinc 8 1, 3) := by decide +kernel
theorem dX0_heardAs_99 : decode cX0_heardAs 99 = .ok (.goto (-63), 3) := by decide +kernel
theorem dX0_heardAs_102 : decode cX0_heardAs 102 = .ok (.iconst (-1), 1) := by decide +kernel
theorem dX0_heardAs_103 : decode cX0_heardAs 103 = .ok (.ireturn, 1) := by decide +kernel
theorem dX1_init_0 : decode cX1_init 0 = .ok (.aload_n 0, 1) := by decide +kernel
theorem dX1_init_1 : decode cX1_init 1 = .ok (.invokespecial 3, 3) := by decide +kernel
theorem dX1_init_4 : decode cX1_init 4 = .ok (.aload_n 0, 1) := by decide +kernel
theorem dX1_init_5 : decode cX1_init 5 = .ok (.bipush 8, 2) := by decide +kernel
theorem dX1_init_7 : decode cX1_init 7 = .ok (.bipush 8, 2) := by decide +kernel
theorem dX1_init_9 : decode cX1_init 9 = .ok (.multianewarray 11 2, 4) := by decide +kernel
theorem dX1_init_13 : decode cX1_init 13 = .ok (.putfield 13, 3) := by decide +kernel
theorem dX1_init_16 : decode cX1_init 16 = .ok (.aload_n 0, 1) := by decide +kernel
theorem dX1_init_17 : decode cX1_init 17 = .ok (.bipush 8, 2) := by decide +kernel
theorem dX1_init_19 : decode cX1_init 19 = .ok (.newarray .int, 2) := by decide +kernel
theorem dX1_init_21 : decode cX1_init 21 = .ok (.putfield 16, 3) := by decide +kernel
theorem dX1_init_24 : decode cX1_init 24 = .ok (.aload_n 0, 1) := by decide +kernel
theorem dX1_init_25 : decode cX1_init 25 = .ok (.bipush 8, 2) := by decide +kernel
theorem dX1_init_27 : decode cX1_init 27 = .ok (.newarray .int, 2) := by decide +kernel
theorem dX1_init_29 : decode cX1_init 29 = .ok (.putfield 20, 3) := by decide +kernel
theorem dX1_init_32 : decode cX1_init 32 = .ok (.aload_n 0, 1) := by decide +kernel
theorem dX1_init_33 : decode cX1_init 33 = .ok (.iconst 0, 1) := by decide +kernel
theorem dX1_init_34 : decode cX1_init 34 = .ok (.putfield 23, 3) := by decide +kernel
theorem dX1_init_37 : decode cX1_init 37 = .ok (.return_, 1) := by decide +kernel
theorem dX1_size_0 : decode cX1_size 0 = .ok (.aload_n 0, 1) := by decide +kernel
theorem dX1_size_1 : decode cX1_size 1 = .ok (.getfield 23, 3) := by decide +kernel
theorem dX1_size_4 : decode cX1_size 4 = .ok (.ireturn, 1) := by decide +kernel
theorem dX1_has_0 : decode cX1_has 0 = .ok (.iload_n 1, 1) := by decide +kernel
theorem dX1_has_1 : decode cX1_has 1 = .ok (.ifCond .lt 21, 3) := by decide +kernel
theorem dX1_has_4 : decode cX1_has 4 = .ok (.iload_n 1, 1) := by decide +kernel
theorem dX1_has_5 : decode cX1_has 5 = .ok (.aload_n 0, 1) := by decide +kernel
theorem dX1_has_6 : decode cX1_has 6 = .ok (.getfield 23, 3) := by decide +kernel
theorem dX1_has_9 : decode cX1_has 9 = .ok (.if_icmp .ge 13, 3) := by decide +kernel
theorem dX1_has_12 : decode cX1_has 12 = .ok (.iload_n 1, 1) := by decide +kernel
theorem dX1_has_13 : decode cX1_has 13 = .ok (.bipush 8, 2) := by decide +kernel
theorem dX1_has_15 : decode cX1_has 15 = .ok (.if_icmp .ge 7, 3) := by decide +kernel
theorem dX1_has_18 : decode cX1_has 18 = .ok (.iconst 1, 1) := by decide +kernel
theorem dX1_has_19 : decode cX1_has 19 = .ok (.goto 4, 3) := by decide +kernel
theorem dX1_has_22 : decode cX1_has 22 = .ok (.iconst 0, 1) := by decide +kernel
theorem dX1_has_23 : decode cX1_has 23 = .ok (.ireturn, 1) := by decide +kernel
theorem dX1_areTwo_0 : decode cX1_areTwo 0 = .ok (.aload_n 0, 1) := by decide +kernel
theorem dX1_areTwo_1 : decode cX1_areTwo 1 = .ok (.iload_n 1, 1) := by decide +kernel
theorem dX1_areTwo_2 : decode cX1_areTwo 2 = .ok (.invokevirtual 27, 3) := by decide +kernel
theorem dX1_areTwo_5 : decode cX1_areTwo 5 = .ok (.ifCond .eq 20, 3) := by decide +kernel
theorem dX1_areTwo_8 : decode cX1_areTwo 8 = .ok (.aload_n 0, 1) := by decide +kernel
theorem dX1_areTwo_9 : decode cX1_areTwo 9 = .ok (.iload_n 2, 1) := by decide +kernel
theorem dX1_areTwo_10 : decode cX1_areTwo 10 = .ok (.invokevirtual 27, 3) := by decide +kernel
theorem dX1_areTwo_13 : decode cX1_areTwo 13 = .ok (.ifCond .eq 12, 3) := by decide +kernel
theorem dX1_areTwo_16 : decode cX1_areTwo 16 = .ok (.iload_n 1, 1) := by decide +kernel
theorem dX1_areTwo_17 : decode cX1_areTwo 17 = .ok (.iload_n 2, 1) := by decide +kernel
theorem dX1_areTwo_18 : decode cX1_areTwo 18 = .ok (.if_icmp .eq 7, 3) := by decide +kernel
theorem dX1_areTwo_21 : decode cX1_areTwo 21 = .ok (.iconst 1, 1) := by decide +kernel
theorem dX1_areTwo_22 : decode cX1_areTwo 22 = .ok (.goto 4, 3) := by decide +kernel
theorem dX1_areTwo_25 : decode cX1_areTwo 25 = .ok (.iconst 0, 1) := by decide +kernel
theorem dX1_areTwo_26 : decode cX1_areTwo 26 = .ok (.ireturn, 1) := by decide +kernel
theorem dX1_welcome_0 : decode cX1_welcome 0 = .ok (.aload_n 0, 1) := by decide +kernel
theorem dX1_welcome_1 : decode cX1_welcome 1 = .ok (.getfield 23, 3) := by decide +kernel
theorem dX1_welcome_4 : decode cX1_welcome 4 = .ok (.bipush 8, 2) := by decide +kernel
theorem dX1_welcome_6 : decode cX1_welcome 6 = .ok (.if_icmp .lt 6, 3) := by decide +kernel
theorem dX1_welcome_9 : decode cX1_welcome 9 = .ok (.bipush (-4), 2) := by decide +kernel
theorem dX1_welcome_11 : decode cX1_welcome 11 = .ok (.ireturn, 1) := by decide +kernel
theorem dX1_welcome_12 : decode cX1_welcome 12 = .ok (.aload_n 0, 1) := by decide +kernel
theorem dX1_welcome_13 : decode cX1_welcome 13 = .ok (.getfield 16, 3) := by decide +kernel
theorem dX1_welcome_16 : decode cX1_welcome 16 = .ok (.aload_n 0, 1) := by decide +kernel
theorem dX1_welcome_17 : decode cX1_welcome 17 = .ok (.getfield 23, 3) := by decide +kernel
theorem dX1_welcome_20 : decode cX1_welcome 20 = .ok (.iload_n 1, 1) := by decide +kernel
theorem dX1_welcome_21 : decode cX1_welcome 21 = .ok (.iastore, 1) := by decide +kernel
theorem dX1_welcome_22 : decode cX1_welcome 22 = .ok (.aload_n 0, 1) := by decide +kernel
theorem dX1_welcome_23 : decode cX1_welcome 23 = .ok (.dup, 1) := by decide +kernel
theorem dX1_welcome_24 : decode cX1_welcome 24 = .ok (.getfield 23, 3) := by decide +kernel
theorem dX1_welcome_27 : decode cX1_welcome 27 = .ok (.iconst 1, 1) := by decide +kernel
theorem dX1_welcome_28 : decode cX1_welcome 28 = .ok (.iadd, 1) := by decide +kernel
theorem dX1_welcome_29 : decode cX1_welcome 29 = .ok (.putfield 23, 3) := by decide +kernel
theorem dX1_welcome_32 : decode cX1_welcome 32 = .ok (.aload_n 0, 1) := by decide +kernel
theorem dX1_welcome_33 : decode cX1_welcome 33 = .ok (.getfield 23, 3) := by decide +kernel
theorem dX1_welcome_36 : decode cX1_welcome 36 = .ok (.iconst 1, 1) := by decide +kernel
theorem dX1_welcome_37 : decode cX1_welcome 37 = .ok (.isub, 1) := by decide +kernel
theorem dX1_welcome_38 : decode cX1_welcome 38 = .ok (.ireturn, 1) := by decide +kernel
theorem dX1_countOf_0 : decode cX1_countOf 0 = .ok (.aload_n 0, 1) := by decide +kernel
theorem dX1_countOf_1 : decode cX1_countOf 1 = .ok (.iload_n 1, 1) := by decide +kernel
theorem dX1_countOf_2 : decode cX1_countOf 2 = .ok (.invokevirtual 27, 3) := by decide +kernel
theorem dX1_countOf_5 : decode cX1_countOf 5 = .ok (.ifCond .eq 12, 3) := by decide +kernel
theorem dX1_countOf_8 : decode cX1_countOf 8 = .ok (.aload_n 0, 1) := by decide +kernel
theorem dX1_countOf_9 : decode cX1_countOf 9 = .ok (.getfield 16, 3) := by decide +kernel
theorem dX1_countOf_12 : decode cX1_countOf 12 = .ok (.iload_n 1, 1) := by decide +kernel
theorem dX1_countOf_13 : decode cX1_countOf 13 = .ok (.iaload, 1) := by decide +kernel
theorem dX1_countOf_14 : decode cX1_countOf 14 = .ok (.goto 4, 3) := by decide +kernel
theorem dX1_countOf_17 : decode cX1_countOf 17 = .ok (.iconst (-1), 1) := by decide +kernel
theorem dX1_countOf_18 : decode cX1_countOf 18 = .ok (.ireturn, 1) := by decide +kernel
theorem dX1_left_0 : decode cX1_left 0 = .ok (.aload_n 0, 1) := by decide +kernel
theorem dX1_left_1 : decode cX1_left 1 = .ok (.iload_n 1, 1) := by decide +kernel
theorem dX1_left_2 : decode cX1_left 2 = .ok (.invokevirtual 27, 3) := by decide +kernel
theorem dX1_left_5 : decode cX1_left 5 = .ok (.ifCond .eq 22, 3) := by decide +kernel
theorem dX1_left_8 : decode cX1_left 8 = .ok (.aload_n 0, 1) := by decide +kernel
theorem dX1_left_9 : decode cX1_left 9 = .ok (.iload_n 2, 1) := by decide +kernel
theorem dX1_left_10 : decode cX1_left 10 = .ok (.invokevirtual 27, 3) := by decide +kernel
theorem dX1_left_13 : decode cX1_left 13 = .ok (.ifCond .eq 14, 3) := by decide +kernel
theorem dX1_left_16 : decode cX1_left 16 = .ok (.aload_n 0, 1) := by decide +kernel
theorem dX1_left_17 : decode cX1_left 17 = .ok (.getfield 13, 3) := by decide +kernel
theorem dX1_left_20 : decode cX1_left 20 = .ok (.iload_n 1, 1) := by decide +kernel
theorem dX1_left_21 : decode cX1_left 21 = .ok (.aaload, 1) := by decide +kernel
theorem dX1_left_22 : decode cX1_left 22 = .ok (.iload_n 2, 1) := by decide +kernel
theorem dX1_left_23 : decode cX1_left 23 = .ok (.iaload, 1) := by decide +kernel
theorem dX1_left_24 : decode cX1_left 24 = .ok (.goto 4, 3) := by decide +kernel
theorem dX1_left_27 : decode cX1_left 27 = .ok (.iconst 0, 1) := by decide +kernel
theorem dX1_left_28 : decode cX1_left 28 = .ok (.ireturn, 1) := by decide +kernel
theorem dX1_give_0 : decode cX1_give 0 = .ok (.aload_n 0, 1) := by decide +kernel
theorem dX1_give_1 : decode cX1_give 1 = .ok (.iload_n 1, 1) := by decide +kernel
theorem dX1_give_2 : decode cX1_give 2 = .ok (.iload_n 2, 1) := by decide +kernel
theorem dX1_give_3 : decode cX1_give 3 = .ok (.invokevirtual 31, 3) := by decide +kernel
theorem dX1_give_6 : decode cX1_give 6 = .ok (.ifCond .ne 6, 3) := by decide +kernel
theorem dX1_give_9 : decode cX1_give 9 = .ok (.bipush (-2), 2) := by decide +kernel
theorem dX1_give_11 : decode cX1_give 11 = .ok (.ireturn, 1) := by decide +kernel
theorem dX1_give_12 : decode cX1_give 12 = .ok (.aload_n 0, 1) := by decide +kernel
theorem dX1_give_13 : decode cX1_give 13 = .ok (.getfield 13, 3) := by decide +kernel
theorem dX1_give_16 : decode cX1_give 16 = .ok (.iload_n 2, 1) := by decide +kernel
theorem dX1_give_17 : decode cX1_give 17 = .ok (.aaload, 1) := by decide +kernel
theorem dX1_give_18 : decode cX1_give 18 = .ok (.iload_n 1, 1) := by decide +kernel
theorem dX1_give_19 : decode cX1_give 19 = .ok (.iaload, 1) := by decide +kernel
theorem dX1_give_20 : decode cX1_give 20 = .ok (.aload_n 0, 1) := by decide +kernel
theorem dX1_give_21 : decode cX1_give 21 = .ok (.getfield 13, 3) := by decide +kernel
theorem dX1_give_24 : decode cX1_give 24 = .ok (.iload_n 1, 1) := by decide +kernel
theorem dX1_give_25 : decode cX1_give 25 = .ok (.aaload, 1) := by decide +kernel
theorem dX1_give_26 : decode cX1_give 26 = .ok (.iload_n 2, 1) := by decide +kernel
theorem dX1_give_27 : decode cX1_give 27 = .ok (.iaload, 1) := by decide +kernel
theorem dX1_give_28 : decode cX1_give 28 = .ok (.isub, 1) := by decide +kernel
theorem dX1_give_29 : decode cX1_give 29 = .ok (.iload_n 3, 1) := by decide +kernel
theorem dX1_give_30 : decode cX1_give 30 = .ok (.iadd, 1) := by decide +kernel
theorem dX1_give_31 : decode cX1_give 31 = .ok (.istore 4, 2) := by decide +kernel
theorem dX1_give_33 : decode cX1_give 33 = .ok (.iload 4, 2) := by decide +kernel
theorem dX1_give_35 : decode cX1_give 35 = .ok (.sipush 400, 3) := by decide +kernel
theorem dX1_give_38 : decode cX1_give 38 = .ok (.if_icmp .le 6, 3) := by decide +kernel
theorem dX1_give_41 : decode cX1_give 41 = .ok (.bipush (-3), 2) := by decide +kernel
theorem dX1_give_43 : decode cX1_give 43 = .ok (.ireturn, 1) := by decide +kernel
theorem dX1_give_44 : decode cX1_give 44 = .ok (.aload_n 0, 1) := by decide +kernel
theorem dX1_give_45 : decode cX1_give 45 = .ok (.getfield 13, 3) := by decide +kernel
theorem dX1_give_48 : decode cX1_give 48 = .ok (.iload_n 2, 1) := by decide +kernel
theorem dX1_give_49 : decode cX1_give 49 = .ok (.aaload, 1) := by decide +kernel
theorem dX1_give_50 : decode cX1_give 50 = .ok (.iload_n 1, 1) := by decide +kernel
theorem dX1_give_51 : decode cX1_give 51 = .ok (.iload 4, 2) := by decide +kernel
theorem dX1_give_53 : decode cX1_give 53 = .ok (.iconst 0, 1) := by decide +kernel
theorem dX1_give_54 : decode cX1_give 54 = .ok (.invokestatic 35, 3) := by decide +kernel
theorem dX1_give_57 : decode cX1_give 57 = .ok (.iastore, 1) := by decide +kernel
theorem dX1_give_58 : decode cX1_give 58 = .ok (.aload_n 0, 1) := by decide +kernel
theorem dX1_give_59 : decode cX1_give 59 = .ok (.getfield 13, 3) := by decide +kernel
theorem dX1_give_62 : decode cX1_give 62 = .ok (.iload_n 1, 1) := by decide +kernel
theorem dX1_give_63 : decode cX1_give 63 = .ok (.aaload, 1) := by decide +kernel
theorem dX1_give_64 : decode cX1_give 64 = .ok (.iload_n 2, 1) := by decide +kernel
theorem dX1_give_65 : decode cX1_give 65 = .ok (.iload 4, 2) := by decide +kernel
theorem dX1_give_67 : decode cX1_give 67 = .ok (.ineg, 1) := by decide +kernel
theorem dX1_give_68 : decode cX1_give 68 = .ok (.iconst 0, 1) := by decide +kernel
theorem dX1_give_69 : decode cX1_give 69 = .ok (.invokestatic 35, 3) := by decide +kernel
theorem dX1_give_72 : decode cX1_give 72 = .ok (.iastore, 1) := by decide +kernel
theorem dX1_give_73 : decode cX1_give 73 = .ok (.aload_n 0, 1) := by decide +kernel
theorem dX1_give_74 : decode cX1_give 74 = .ok (.getfield 13, 3) := by decide +kernel
theorem dX1_give_77 : decode cX1_give 77 = .ok (.iload_n 2, 1) := by decide +kernel
theorem dX1_give_78 : decode cX1_give 78 = .ok (.aaload, 1) := by decide +kernel
theorem dX1_give_79 : decode cX1_give 79 = .ok (.iload_n 1, 1) := by decide +kernel
theorem dX1_give_80 : decode cX1_give 80 = .ok (.iaload, 1) := by decide +kernel
theorem dX1_give_81 : decode cX1_give 81 = .ok (.ireturn, 1) := by decide +kernel
theorem dX1_balance_0 : decode cX1_balance 0 = .ok (.iconst 0, 1) := by decide +kernel
theorem dX1_balance_1 : decode cX1_balance 1 = .ok (.istore_n 2, 1) := by decide +kernel
theorem dX1_balance_2 : decode cX1_balance 2 = .ok (.iconst 0, 1) := by decide +kernel
theorem dX1_balance_3 : decode cX1_balance 3 = .ok (.istore_n 3, 1) := by decide +kernel
theorem dX1_balance_4 : decode cX1_balance 4 = .ok (.iload_n 3, 1) := by decide +kernel
theorem dX1_balance_5 : decode cX1_balance 5 = .ok (.aload_n 0, 1) := by decide +kernel
theorem dX1_balance_6 : decode cX1_balance 6 = .ok (.getfield 23, 3) := by decide +kernel
theorem dX1_balance_9 : decode cX1_balance 9 = .ok (.if_icmp .ge 25, 3) := by decide +kernel
theorem dX1_balance_12 : decode cX1_balance 12 = .ok (.iload_n 2, 1) := by decide +kernel
theorem dX1_balance_13 : decode cX1_balance 13 = .ok (.aload_n 0, 1) := by decide +kernel
theorem dX1_balance_14 : decode cX1_balance 14 = .ok (.iload_n 3, 1) := by decide +kernel
theorem dX1_balance_15 : decode cX1_balance 15 = .ok (.iload_n 1, 1) := by decide +kernel
theorem dX1_balance_16 : decode cX1_balance 16 = .ok (.invokevirtual 41, 3) := by decide +kernel
theorem dX1_balance_19 : decode cX1_balance 19 = .ok (.aload_n 0, 1) := by decide +kernel
theorem dX1_balance_20 : decode cX1_balance 20 = .ok (.iload_n 1, 1) := by decide +kernel
theorem dX1_balance_21 : decode cX1_balance 21 = .ok (.iload_n 3, 1) := by decide +kernel
theorem dX1_balance_22 : decode cX1_balance 22 = .ok (.invokevirtual 41, 3) := by decide +kernel
theorem dX1_balance_25 : decode cX1_balance 25 = .ok (.isub, 1) := by decide +kernel
theorem dX1_balance_26 : decode cX1_balance 26 = .ok (.iadd, 1) := by decide +kernel
theorem dX1_balance_27 : decode cX1_balance 27 = .ok (.istore_n 2, 1) := by decide +kernel
theorem dX1_balance_28 : decode cX1_balance 28 = .ok (.iinc 3 1, 3) := by decide +kernel
theorem dX1_balance_31 : decode cX1_balance 31 = .ok (.goto (-27), 3) := by decide +kernel
theorem dX1_balance_34 : decode cX1_balance 34 = .ok (.iload_n 2, 1) := by decide +kernel
theorem dX1_balance_35 : decode cX1_balance 35 = .ok (.ireturn, 1) := by decide +kernel
theorem dX1_whole_0 : decode cX1_whole 0 = .ok (.iconst 0, 1) := by decide +kernel
theorem dX1_whole_1 : decode cX1_whole 1 = .ok (.istore_n 1, 1) := by decide +kernel
theorem dX1_whole_2 : decode cX1_whole 2 = .ok (.iconst 0, 1) := by decide +kernel
theorem dX1_whole_3 : decode cX1_whole 3 = .ok (.istore_n 2, 1) := by decide +kernel
theorem dX1_whole_4 : decode cX1_whole 4 = .ok (.iload_n 2, 1) := by decide +kernel
theorem dX1_whole_5 : decode cX1_whole 5 = .ok (.aload_n 0, 1) := by decide +kernel
theorem dX1_whole_6 : decode cX1_whole 6 = .ok (.getfield 23, 3) := by decide +kernel
theorem dX1_whole_9 : decode cX1_whole 9 = .ok (.if_icmp .ge 34, 3) := by decide +kernel
theorem dX1_whole_12 : decode cX1_whole 12 = .ok (.iconst 0, 1) := by decide +kernel
theorem dX1_whole_13 : decode cX1_whole 13 = .ok (.istore_n 3, 1) := by decide +kernel
theorem dX1_whole_14 : decode cX1_whole 14 = .ok (.iload_n 3, 1) := by decide +kernel
theorem dX1_whole_15 : decode cX1_whole 15 = .ok (.aload_n 0, 1) := by decide +kernel
theorem dX1_whole_16 : decode cX1_whole 16 = .ok (.getfield 23, 3) := by decide +kernel
theorem dX1_whole_19 : decode cX1_whole 19 = .ok (.if_icmp .ge 18, 3) := by decide +kernel
theorem dX1_whole_22 : decode cX1_whole 22 = .ok (.iload_n 1, 1) := by decide +kernel
theorem dX1_whole_23 : decode cX1_whole 23 = .ok (.aload_n 0, 1) := by decide +kernel
theorem dX1_whole_24 : decode cX1_whole 24 = .ok (.iload_n 2, 1) := by decide +kernel
theorem dX1_whole_25 : decode cX1_whole 25 = .ok (.iload_n 3, 1) := by decide +kernel
theorem dX1_whole_26 : decode cX1_whole 26 = .ok (.invokevirtual 41, 3) := by decide +kernel
theorem dX1_whole_29 : decode cX1_whole 29 = .ok (.iadd, 1) := by decide +kernel
theorem dX1_whole_30 : decode cX1_whole 30 = .ok (.istore_n 1, 1) := by decide +kernel
theorem dX1_whole_31 : decode cX1_whole 31 = .ok (.iinc 3 1, 3) := by decide +kernel
theorem dX1_whole_34 : decode cX1_whole 34 = .ok (.goto (-20), 3) := by decide +kernel
theorem dX1_whole_37 : decode cX1_whole 37 = .ok (.iinc 2 1, 3) := by decide +kernel
theorem dX1_whole_40 : decode cX1_whole 40 = .ok (.goto (-36), 3) := by decide +kernel
theorem dX1_whole_43 : decode cX1_whole 43 = .ok (.iload_n 1, 1) := by decide +kernel
theorem dX1_whole_44 : decode cX1_whole 44 = .ok (.ireturn, 1) := by decide +kernel
theorem dX1_closeAll_0 : decode cX1_closeAll 0 = .ok (.iconst 0, 1) := by decide +kernel
theorem dX1_closeAll_1 : decode cX1_closeAll 1 = .ok (.istore_n 1, 1) := by decide +kernel
theorem dX1_closeAll_2 : decode cX1_closeAll 2 = .ok (.iload_n 1, 1) := by decide +kernel
theorem dX1_closeAll_3 : decode cX1_closeAll 3 = .ok (.bipush 28, 2) := by decide +kernel
theorem dX1_closeAll_5 : decode cX1_closeAll 5 = .ok (.if_icmp .gt 25, 3) := by decide +kernel
theorem dX1_closeAll_8 : decode cX1_closeAll 8 = .ok (.aload_n 0, 1) := by decide +kernel
theorem dX1_closeAll_9 : decode cX1_closeAll 9 = .ok (.invokevirtual 44, 3) := by decide +kernel
theorem dX1_closeAll_12 : decode cX1_closeAll 12 = .ok (.istore_n 2, 1) := by decide +kernel
theorem dX1_closeAll_13 : decode cX1_closeAll 13 = .ok (.iload_n 2, 1) := by decide +kernel
theorem dX1_closeAll_14 : decode cX1_closeAll 14 = .ok (.ifCond .ne 5, 3) := by decide +kernel
theorem dX1_closeAll_17 : decode cX1_closeAll 17 = .ok (.iload_n 1, 1) := by decide +kernel
theorem dX1_closeAll_18 : decode cX1_closeAll 18 = .ok (.ireturn, 1) := by decide +kernel
theorem dX1_closeAll_19 : decode cX1_closeAll 19 = .ok (.aload_n 0, 1) := by decide +kernel
theorem dX1_closeAll_20 : decode cX1_closeAll 20 = .ok (.iload_n 2, 1) := by decide +kernel
theorem dX1_closeAll_21 : decode cX1_closeAll 21 = .ok (.invokevirtual 48, 3) := by decide +kernel
theorem dX1_closeAll_24 : decode cX1_closeAll 24 = .ok (.iinc 1 1, 3) := by decide +kernel
theorem dX1_closeAll_27 : decode cX1_closeAll 27 = .ok (.goto (-25), 3) := by decide +kernel
theorem dX1_closeAll_30 : decode cX1_closeAll 30 = .ok (.bipush 28, 2) := by decide +kernel
theorem dX1_closeAll_32 : decode cX1_closeAll 32 = .ok (.ireturn, 1) := by decide +kernel
theorem dX1_findRow_0 : decode cX1_findRow 0 = .ok (.iconst 3, 1) := by decide +kernel
theorem dX1_findRow_1 : decode cX1_findRow 1 = .ok (.istore_n 1, 1) := by decide +kernel
theorem dX1_findRow_2 : decode cX1_findRow 2 = .ok (.iload_n 1, 1) := by decide +kernel
theorem dX1_findRow_3 : decode cX1_findRow 3 = .ok (.aload_n 0, 1) := by decide +kernel
theorem dX1_findRow_4 : decode cX1_findRow 4 = .ok (.getfield 23, 3) := by decide +kernel
theorem dX1_findRow_7 : decode cX1_findRow 7 = .ok (.if_icmp .gt 43, 3) := by decide +kernel
theorem dX1_findRow_10 : decode cX1_findRow 10 = .ok (.iconst 0, 1) := by decide +kernel
theorem dX1_findRow_11 : decode cX1_findRow 11 = .ok (.istore_n 2, 1) := by decide +kernel
theorem dX1_findRow_12 : decode cX1_findRow 12 = .ok (.iload_n 2, 1) := by decide +kernel
theorem dX1_findRow_13 : decode cX1_findRow 13 = .ok (.aload_n 0, 1) := by decide +kernel
theorem dX1_findRow_14 : decode cX1_findRow 14 = .ok (.getfield 23, 3) := by decide +kernel
theorem dX1_findRow_17 : decode cX1_findRow 17 = .ok (.if_icmp .ge 27, 3) := by decide +kernel
theorem dX1_findRow_20 : decode cX1_findRow 20 = .ok (.aload_n 0, 1) := by decide +kernel
theorem dX1_findRow_21 : decode cX1_findRow 21 = .ok (.getfield 20, 3) := by decide +kernel
theorem dX1_findRow_24 : decode cX1_findRow 24 = .ok (.iconst 0, 1) := by decide +kernel
theorem dX1_findRow_25 : decode cX1_findRow 25 = .ok (.iload_n 2, 1) := by decide +kernel
theorem dX1_findRow_26 : decode cX1_findRow 26 = .ok (.iastore, 1) := by decide +kernel
theorem dX1_findRow_27 : decode cX1_findRow 27 = .ok (.aload_n 0, 1) := by decide +kernel
theorem dX1_findRow_28 : decode cX1_findRow 28 = .ok (.iconst 1, 1) := by decide +kernel
theorem dX1_findRow_29 : decode cX1_findRow 29 = .ok (.iload_n 1, 1) := by decide +kernel
theorem dX1_findRow_30 : decode cX1_findRow 30 = .ok (.invokevirtual 52, 3) := by decide +kernel
theorem dX1_findRow_33 : decode cX1_findRow 33 = .ok (.ifCond .eq 5, 3) := by decide +kernel
theorem dX1_findRow_36 : decode cX1_findRow 36 = .ok (.iload_n 1, 1) := by decide +kernel
theorem dX1_findRow_37 : decode cX1_findRow 37 = .ok (.ireturn, 1) := by decide +kernel
theorem dX1_findRow_38 : decode cX1_findRow 38 = .ok (.iinc 2 1, 3) := by decide +kernel
theorem dX1_findRow_41 : decode cX1_findRow 41 = .ok (.goto (-29), 3) := by decide +kernel
theorem dX1_findRow_44 : decode cX1_findRow 44 = .ok (.iinc 1 1, 3) := by decide +kernel
theorem dX1_findRow_47 : decode cX1_findRow 47 = .ok (.goto (-45), 3) := by decide +kernel
theorem dX1_findRow_50 : decode cX1_findRow 50 = .ok (.iconst 0, 1) := by decide +kernel
theorem dX1_findRow_51 : decode cX1_findRow 51 = .ok (.ireturn, 1) := by decide +kernel
theorem dX1_goOn_0 : decode cX1_goOn 0 = .ok (.iload_n 1, 1) := by decide +kernel
theorem dX1_goOn_1 : decode cX1_goOn 1 = .ok (.iconst 1, 1) := by decide +kernel
theorem dX1_goOn_2 : decode cX1_goOn 2 = .ok (.if_icmp .lt 9, 3) := by decide +kernel
theorem dX1_goOn_5 : decode cX1_goOn 5 = .ok (.iload_n 1, 1) := by decide +kernel
theorem dX1_goOn_6 : decode cX1_goOn 6 = .ok (.bipush 8, 2) := by decide +kernel
theorem dX1_goOn_8 : decode cX1_goOn 8 = .ok (.if_icmp .le 5, 3) := by decide +kernel
theorem dX1_goOn_11 : decode cX1_goOn 11 = .ok (.iconst 0, 1) := by decide +kernel
theorem dX1_goOn_12 : decode cX1_goOn 12 = .ok (.ireturn, 1) := by decide +kernel
theorem dX1_goOn_13 : decode cX1_goOn 13 = .ok (.aload_n 0, 1) := by decide +kernel
theorem dX1_goOn_14 : decode cX1_goOn 14 = .ok (.getfield 20, 3) := by decide +kernel
theorem dX1_goOn_17 : decode cX1_goOn 17 = .ok (.iload_n 1, 1) := by decide +kernel
theorem dX1_goOn_18 : decode cX1_goOn 18 = .ok (.iconst 1, 1) := by decide +kernel
theorem dX1_goOn_19 : decode cX1_goOn 19 = .ok (.isub, 1) := by decide +kernel
theorem dX1_goOn_20 : decode cX1_goOn 20 = .ok (.iaload, 1) := by decide +kernel
theorem dX1_goOn_21 : decode cX1_goOn 21 = .ok (.istore_n 3, 1) := by decide +kernel
theorem dX1_goOn_22 : decode cX1_goOn 22 = .ok (.iload_n 1, 1) := by decide +kernel
theorem dX1_goOn_23 : decode cX1_goOn 23 = .ok (.iload_n 2, 1) := by decide +kernel
theorem dX1_goOn_24 : decode cX1_goOn 24 = .ok (.if_icmp .lt 23, 3) := by decide +kernel
theorem dX1_goOn_27 : decode cX1_goOn 27 = .ok (.aload_n 0, 1) := by decide +kernel
theorem dX1_goOn_28 : decode cX1_goOn 28 = .ok (.iload_n 3, 1) := by decide +kernel
theorem dX1_goOn_29 : decode cX1_goOn 29 = .ok (.aload_n 0, 1) := by decide +kernel
theorem dX1_goOn_30 : decode cX1_goOn 30 = .ok (.getfield 20, 3) := by decide +kernel
theorem dX1_goOn_33 : decode cX1_goOn 33 = .ok (.iconst 0, 1) := by decide +kernel
theorem dX1_goOn_34 : decode cX1_goOn 34 = .ok (.iaload, 1) := by decide +kernel
theorem dX1_goOn_35 : decode cX1_goOn 35 = .ok (.invokevirtual 41, 3) := by decide +kernel
theorem dX1_goOn_38 : decode cX1_goOn 38 = .ok (.ifCond .le 7, 3) := by decide +kernel
theorem dX1_goOn_41 : decode cX1_goOn 41 = .ok (.iconst 1, 1) := by decide +kernel
theorem dX1_goOn_42 : decode cX1_goOn 42 = .ok (.goto 4, 3) := by decide +kernel
theorem dX1_goOn_45 : decode cX1_goOn 45 = .ok (.iconst 0, 1) := by decide +kernel
theorem dX1_goOn_46 : decode cX1_goOn 46 = .ok (.ireturn, 1) := by decide +kernel
theorem dX1_goOn_47 : decode cX1_goOn 47 = .ok (.aload_n 0, 1) := by decide +kernel
theorem dX1_goOn_48 : decode cX1_goOn 48 = .ok (.getfield 20, 3) := by decide +kernel
theorem dX1_goOn_51 : decode cX1_goOn 51 = .ok (.iconst 0, 1) := by decide +kernel
theorem dX1_goOn_52 : decode cX1_goOn 52 = .ok (.iaload, 1) := by decide +kernel
theorem dX1_goOn_53 : decode cX1_goOn 53 = .ok (.iconst 1, 1) := by decide +kernel
theorem dX1_goOn_54 : decode cX1_goOn 54 = .ok (.iadd, 1) := by decide +kernel
theorem dX1_goOn_55 : decode cX1_goOn 55 = .ok (.istore 4, 2) := by decide +kernel
theorem dX1_goOn_57 : decode cX1_goOn 57 = .ok (.iload 4, 2) := by decide +kernel
theorem dX1_goOn_59 : decode cX1_goOn 59 = .ok (.aload_n 0, 1) := by decide +kernel
theorem dX1_goOn_60 : decode cX1_goOn 60 = .ok (.getfield 23, 3) := by decide +kernel
theorem dX1_goOn_63 : decode cX1_goOn 63 = .ok (.if_icmp .ge 42, 3) := by decide +kernel
theorem dX1_goOn_66 : decode cX1_goOn 66 = .ok (.aload_n 0, 1) := by decide +kernel
theorem dX1_goOn_67 : decode cX1_goOn 67 = .ok (.iload_n 3, 1) := by decide +kernel
theorem dX1_goOn_68 : decode cX1_goOn 68 = .ok (.iload 4, 2) := by decide +kernel
theorem dX1_goOn_70 : decode cX1_goOn 70 = .ok (.invokevirtual 41, 3) := by decide +kernel
theorem dX1_goOn_73 : decode cX1_goOn 73 = .ok (.ifCond .le 26, 3) := by decide +kernel
theorem dX1_goOn_76 : decode cX1_goOn 76 = .ok (.aload_n 0, 1) := by decide +kernel
theorem dX1_goOn_77 : decode cX1_goOn 77 = .ok (.iload 4, 2) := by decide +kernel
theorem dX1_goOn_79 : decode cX1_goOn 79 = .ok (.iload_n 1, 1) := by decide +kernel
theorem dX1_goOn_80 : decode cX1_goOn 80 = .ok (.invokevirtual 55, 3) := by decide +kernel
theorem dX1_goOn_83 : decode cX1_goOn 83 = .ok (.ifCond .ne 16, 3) := by decide +kernel
theorem dX1_goOn_86 : decode cX1_goOn 86 = .ok (.aload_n 0, 1) := by decide +kernel
theorem dX1_goOn_87 : decode cX1_goOn 87 = .ok (.iload 4, 2) := by decide +kernel
theorem dX1_goOn_89 : decode cX1_goOn 89 = .ok (.iload_n 1, 1) := by decide +kernel
theorem dX1_goOn_90 : decode cX1_goOn 90 = .ok (.iload_n 2, 1) := by decide +kernel
theorem dX1_goOn_91 : decode cX1_goOn 91 = .ok (.invokevirtual 58, 3) := by decide +kernel
theorem dX1_goOn_94 : decode cX1_goOn 94 = .ok (.ifCond .eq 5, 3) := by decide +kernel
theorem dX1_goOn_97 : decode cX1_goOn 97 = .ok (.iconst 1, 1) := by decide +kernel
theorem dX1_goOn_98 : decode cX1_goOn 98 = .ok (.ireturn, 1) := by decide +kernel
theorem dX1_goOn_99 : decode cX1_goOn 99 = .ok (.iinc 4 1, 3) := by decide +kernel
theorem dX1_goOn_102 : decode cX1_goOn 102 = .ok (.goto (-45), 3) := by decide +kernel
theorem dX1_goOn_105 : decode cX1_goOn 105 = .ok (.iconst 0, 1) := by decide +kernel
theorem dX1_goOn_106 : decode cX1_goOn 106 = .ok (.ireturn, 1) := by decide +kernel
theorem dX1_goOnWith_0 : decode cX1_goOnWith 0 = .ok (.iload_n 2, 1) := by decide +kernel
theorem dX1_goOnWith_1 : decode cX1_goOnWith 1 = .ok (.ifCond .lt 9, 3) := by decide +kernel
theorem dX1_goOnWith_4 : decode cX1_goOnWith 4 = .ok (.iload_n 2, 1) := by decide +kernel
theorem dX1_goOnWith_5 : decode cX1_goOnWith 5 = .ok (.bipush 8, 2) := by decide +kernel
theorem dX1_goOnWith_7 : decode cX1_goOnWith 7 = .ok (.if_icmp .lt 5, 3) := by decide +kernel
theorem dX1_goOnWith_10 : decode cX1_goOnWith 10 = .ok (.iconst 0, 1) := by decide +kernel
theorem dX1_goOnWith_11 : decode cX1_goOnWith 11 = .ok (.ireturn, 1) := by decide +kernel
theorem dX1_goOnWith_12 : decode cX1_goOnWith 12 = .ok (.aload_n 0, 1) := by decide +kernel
theorem dX1_goOnWith_13 : decode cX1_goOnWith 13 = .ok (.getfield 20, 3) := by decide +kernel
theorem dX1_goOnWith_16 : decode cX1_goOnWith 16 = .ok (.iload_n 2, 1) := by decide +kernel
theorem dX1_goOnWith_17 : decode cX1_goOnWith 17 = .ok (.iload_n 1, 1) := by decide +kernel
theorem dX1_goOnWith_18 : decode cX1_goOnWith 18 = .ok (.iastore, 1) := by decide +kernel
theorem dX1_goOnWith_19 : decode cX1_goOnWith 19 = .ok (.aload_n 0, 1) := by decide +kernel
theorem dX1_goOnWith_20 : decode cX1_goOnWith 20 = .ok (.iload_n 2, 1) := by decide +kernel
theorem dX1_goOnWith_21 : decode cX1_goOnWith 21 = .ok (.iconst 1, 1) := by decide +kernel
theorem dX1_goOnWith_22 : decode cX1_goOnWith 22 = .ok (.iadd, 1) := by decide +kernel
theorem dX1_goOnWith_23 : decode cX1_goOnWith 23 = .ok (.iload_n 3, 1) := by decide +kernel
theorem dX1_goOnWith_24 : decode cX1_goOnWith 24 = .ok (.invokevirtual 52, 3) := by decide +kernel
theorem dX1_goOnWith_27 : decode cX1_goOnWith 27 = .ok (.ireturn, 1) := by decide +kernel
theorem dX1_inRow_0 : decode cX1_inRow 0 = .ok (.iconst 0, 1) := by decide +kernel
theorem dX1_inRow_1 : decode cX1_inRow 1 = .ok (.istore_n 3, 1) := by decide +kernel
theorem dX1_inRow_2 : decode cX1_inRow 2 = .ok (.iload_n 3, 1) := by decide +kernel
theorem dX1_inRow_3 : decode cX1_inRow 3 = .ok (.iload_n 2, 1) := by decide +kernel
theorem dX1_inRow_4 : decode cX1_inRow 4 = .ok (.if_icmp .ge 27, 3) := by decide +kernel
theorem dX1_inRow_7 : decode cX1_inRow 7 = .ok (.iload_n 3, 1) := by decide +kernel
theorem dX1_inRow_8 : decode cX1_inRow 8 = .ok (.bipush 8, 2) := by decide +kernel
theorem dX1_inRow_10 : decode cX1_inRow 10 = .ok (.if_icmp .ge 21, 3) := by decide +kernel
theorem dX1_inRow_13 : decode cX1_inRow 13 = .ok (.aload_n 0, 1) := by decide +kernel
theorem dX1_inRow_14 : decode cX1_inRow 14 = .ok (.getfield 20, 3) := by decide +kernel
theorem dX1_inRow_17 : decode cX1_inRow 17 = .ok (.iload_n 3, 1) := by decide +kernel
theorem dX1_inRow_18 : decode cX1_inRow 18 = .ok (.iaload, 1) := by decide +kernel
theorem dX1_inRow_19 : decode cX1_inRow 19 = .ok (.iload_n 1, 1) := by decide +kernel
theorem dX1_inRow_20 : decode cX1_inRow 20 = .ok (.if_icmp .ne 5, 3) := by decide +kernel
theorem dX1_inRow_23 : decode cX1_inRow 23 = .ok (.iconst 1, 1) := by decide +kernel
theorem dX1_inRow_24 : decode cX1_inRow 24 = .ok (.ireturn, 1) := by decide +kernel
theorem dX1_inRow_25 : decode cX1_inRow 25 = .ok (.iinc 3 1, 3) := by decide +kernel
theorem dX1_inRow_28 : decode cX1_inRow 28 = .ok (.goto (-26), 3) := by decide +kernel
theorem dX1_inRow_31 : decode cX1_inRow 31 = .ok (.iconst 0, 1) := by decide +kernel
theorem dX1_inRow_32 : decode cX1_inRow 32 = .ok (.ireturn, 1) := by decide +kernel
theorem dX1_takeOff_0 : decode cX1_takeOff 0 = .ok (.sipush 400, 3) := by decide +kernel
theorem dX1_takeOff_3 : decode cX1_takeOff 3 = .ok (.istore_n 2, 1) := by decide +kernel
theorem dX1_takeOff_4 : decode cX1_takeOff 4 = .ok (.iconst 0, 1) := by decide +kernel
theorem dX1_takeOff_5 : decode cX1_takeOff 5 = .ok (.istore_n 3, 1) := by decide +kernel
theorem dX1_takeOff_6 : decode cX1_takeOff 6 = .ok (.iload_n 3, 1) := by decide +kernel
theorem dX1_takeOff_7 : decode cX1_takeOff 7 = .ok (.iload_n 1, 1) := by decide +kernel
theorem dX1_takeOff_8 : decode cX1_takeOff 8 = .ok (.if_icmp .ge 36, 3) := by decide +kernel
theorem dX1_takeOff_11 : decode cX1_takeOff 11 = .ok (.iload_n 3, 1) := by decide +kernel
theorem dX1_takeOff_12 : decode cX1_takeOff 12 = .ok (.bipush 8, 2) := by decide +kernel
theorem dX1_takeOff_14 : decode cX1_takeOff 14 = .ok (.if_icmp .ge 30, 3) := by decide +kernel
theorem dX1_takeOff_17 : decode cX1_takeOff 17 = .ok (.iload_n 2, 1) := by decide +kernel
theorem dX1_takeOff_18 : decode cX1_takeOff 18 = .ok (.aload_n 0, 1) := by decide +kernel
theorem dX1_takeOff_19 : decode cX1_takeOff 19 = .ok (.aload_n 0, 1) := by decide +kernel
theorem dX1_takeOff_20 : decode cX1_takeOff 20 = .ok (.getfield 20, 3) := by decide +kernel
theorem dX1_takeOff_23 : decode cX1_takeOff 23 = .ok (.iload_n 3, 1) := by decide +kernel
theorem dX1_takeOff_24 : decode cX1_takeOff 24 = .ok (.iaload, 1) := by decide +kernel
theorem dX1_takeOff_25 : decode cX1_takeOff 25 = .ok (.aload_n 0, 1) := by decide +kernel
theorem dX1_takeOff_26 : decode cX1_takeOff 26 = .ok (.iload_n 3, 1) := by decide +kernel
theorem dX1_takeOff_27 : decode cX1_takeOff 27 = .ok (.iload_n 1, 1) := by decide +kernel
theorem dX1_takeOff_28 : decode cX1_takeOff 28 = .ok (.invokevirtual 62, 3) := by decide +kernel
theorem dX1_takeOff_31 : decode cX1_takeOff 31 = .ok (.invokevirtual 41, 3) := by decide +kernel
theorem dX1_takeOff_34 : decode cX1_takeOff 34 = .ok (.invokestatic 65, 3) := by decide +kernel
theorem dX1_takeOff_37 : decode cX1_takeOff 37 = .ok (.istore_n 2, 1) := by decide +kernel
theorem dX1_takeOff_38 : decode cX1_takeOff 38 = .ok (.iinc 3 1, 3) := by decide +kernel
theorem dX1_takeOff_41 : decode cX1_takeOff 41 = .ok (.goto (-35), 3) := by decide +kernel
theorem dX1_takeOff_44 : decode cX1_takeOff 44 = .ok (.iconst 0, 1) := by decide +kernel
theorem dX1_takeOff_45 : decode cX1_takeOff 45 = .ok (.istore_n 3, 1) := by decide +kernel
theorem dX1_takeOff_46 : decode cX1_takeOff 46 = .ok (.iload_n 3, 1) := by decide +kernel
theorem dX1_takeOff_47 : decode cX1_takeOff 47 = .ok (.iload_n 1, 1) := by decide +kernel
theorem dX1_takeOff_48 : decode cX1_takeOff 48 = .ok (.if_icmp .ge 32, 3) := by decide +kernel
theorem dX1_takeOff_51 : decode cX1_takeOff 51 = .ok (.iload_n 3, 1) := by decide +kernel
theorem dX1_takeOff_52 : decode cX1_takeOff 52 = .ok (.bipush 8, 2) := by decide +kernel
theorem dX1_takeOff_54 : decode cX1_takeOff 54 = .ok (.if_icmp .ge 26, 3) := by decide +kernel
theorem dX1_takeOff_57 : decode cX1_takeOff 57 = .ok (.aload_n 0, 1) := by decide +kernel
theorem dX1_takeOff_58 : decode cX1_takeOff 58 = .ok (.aload_n 0, 1) := by decide +kernel
theorem dX1_takeOff_59 : decode cX1_takeOff 59 = .ok (.getfield 20, 3) := by decide +kernel
theorem dX1_takeOff_62 : decode cX1_takeOff 62 = .ok (.iload_n 3, 1) := by decide +kernel
theorem dX1_takeOff_63 : decode cX1_takeOff 63 = .ok (.iaload, 1) := by decide +kernel
theorem dX1_takeOff_64 : decode cX1_takeOff 64 = .ok (.aload_n 0, 1) := by decide +kernel
theorem dX1_takeOff_65 : decode cX1_takeOff 65 = .ok (.iload_n 3, 1) := by decide +kernel
theorem dX1_takeOff_66 : decode cX1_takeOff 66 = .ok (.iload_n 1, 1) := by decide +kernel
theorem dX1_takeOff_67 : decode cX1_takeOff 67 = .ok (.invokevirtual 62, 3) := by decide +kernel
theorem dX1_takeOff_70 : decode cX1_takeOff 70 = .ok (.iload_n 2, 1) := by decide +kernel
theorem dX1_takeOff_71 : decode cX1_takeOff 71 = .ok (.invokevirtual 68, 3) := by decide +kernel
theorem dX1_takeOff_74 : decode cX1_takeOff 74 = .ok (.iinc 3 1, 3) := by decide +kernel
theorem dX1_takeOff_77 : decode cX1_takeOff 77 = .ok (.goto (-31), 3) := by decide +kernel
theorem dX1_takeOff_80 : decode cX1_takeOff 80 = .ok (.return_, 1) := by decide +kernel
theorem dX1_nextOf_0 : decode cX1_nextOf 0 = .ok (.iload_n 1, 1) := by decide +kernel
theorem dX1_nextOf_1 : decode cX1_nextOf 1 = .ok (.iconst 1, 1) := by decide +kernel
theorem dX1_nextOf_2 : decode cX1_nextOf 2 = .ok (.iadd, 1) := by decide +kernel
theorem dX1_nextOf_3 : decode cX1_nextOf 3 = .ok (.iload_n 2, 1) := by decide +kernel
theorem dX1_nextOf_4 : decode cX1_nextOf 4 = .ok (.if_icmp .ge 22, 3) := by decide +kernel
theorem dX1_nextOf_7 : decode cX1_nextOf 7 = .ok (.iload_n 1, 1) := by decide +kernel
theorem dX1_nextOf_8 : decode cX1_nextOf 8 = .ok (.iconst 1, 1) := by decide +kernel
theorem dX1_nextOf_9 : decode cX1_nextOf 9 = .ok (.iadd, 1) := by decide +kernel
theorem dX1_nextOf_10 : decode cX1_nextOf 10 = .ok (.bipush 8, 2) := by decide +kernel
theorem dX1_nextOf_12 : decode cX1_nextOf 12 = .ok (.if_icmp .ge 14, 3) := by decide +kernel
theorem dX1_nextOf_15 : decode cX1_nextOf 15 = .ok (.aload_n 0, 1) := by decide +kernel
theorem dX1_nextOf_16 : decode cX1_nextOf 16 = .ok (.getfield 20, 3) := by decide +kernel
theorem dX1_nextOf_19 : decode cX1_nextOf 19 = .ok (.iload_n 1, 1) := by decide +kernel
theorem dX1_nextOf_20 : decode cX1_nextOf 20 = .ok (.iconst 1, 1) := by decide +kernel
theorem dX1_nextOf_21 : decode cX1_nextOf 21 = .ok (.iadd, 1) := by decide +kernel
theorem dX1_nextOf_22 : decode cX1_nextOf 22 = .ok (.iaload, 1) := by decide +kernel
theorem dX1_nextOf_23 : decode cX1_nextOf 23 = .ok (.goto 9, 3) := by decide +kernel
theorem dX1_nextOf_26 : decode cX1_nextOf 26 = .ok (.aload_n 0, 1) := by decide +kernel
theorem dX1_nextOf_27 : decode cX1_nextOf 27 = .ok (.getfield 20, 3) := by decide +kernel
theorem dX1_nextOf_30 : decode cX1_nextOf 30 = .ok (.iconst 0, 1) := by decide +kernel
theorem dX1_nextOf_31 : decode cX1_nextOf 31 = .ok (.iaload, 1) := by decide +kernel
theorem dX1_nextOf_32 : decode cX1_nextOf 32 = .ok (.ireturn, 1) := by decide +kernel
theorem dX1_lessen_0 : decode cX1_lessen 0 = .ok (.aload_n 0, 1) := by decide +kernel
theorem dX1_lessen_1 : decode cX1_lessen 1 = .ok (.iload_n 1, 1) := by decide +kernel
theorem dX1_lessen_2 : decode cX1_lessen 2 = .ok (.invokevirtual 27, 3) := by decide +kernel
theorem dX1_lessen_5 : decode cX1_lessen 5 = .ok (.ifCond .eq 23, 3) := by decide +kernel
theorem dX1_lessen_8 : decode cX1_lessen 8 = .ok (.aload_n 0, 1) := by decide +kernel
theorem dX1_lessen_9 : decode cX1_lessen 9 = .ok (.iload_n 2, 1) := by decide +kernel
theorem dX1_lessen_10 : decode cX1_lessen 10 = .ok (.invokevirtual 27, 3) := by decide +kernel
theorem dX1_lessen_13 : decode cX1_lessen 13 = .ok (.ifCond .eq 15, 3) := by decide +kernel
theorem dX1_lessen_16 : decode cX1_lessen 16 = .ok (.aload_n 0, 1) := by decide +kernel
theorem dX1_lessen_17 : decode cX1_lessen 17 = .ok (.getfield 13, 3) := by decide +kernel
theorem dX1_lessen_20 : decode cX1_lessen 20 = .ok (.iload_n 1, 1) := by decide +kernel
theorem dX1_lessen_21 : decode cX1_lessen 21 = .ok (.aaload, 1) := by decide +kernel
theorem dX1_lessen_22 : decode cX1_lessen 22 = .ok (.iload_n 2, 1) := by decide +kernel
theorem dX1_lessen_23 : decode cX1_lessen 23 = .ok (.dup2, 1) := by decide +kernel
theorem dX1_lessen_24 : decode cX1_lessen 24 = .ok (.iaload, 1) := by decide +kernel
theorem dX1_lessen_25 : decode cX1_lessen 25 = .ok (.iload_n 3, 1) := by decide +kernel
theorem dX1_lessen_26 : decode cX1_lessen 26 = .ok (.isub, 1) := by decide +kernel
theorem dX1_lessen_27 : decode cX1_lessen 27 = .ok (.iastore, 1) := by decide +kernel
theorem dX1_lessen_28 : decode cX1_lessen 28 = .ok (.return_, 1) := by decide +kernel
theorem dX2_init_0 : decode cX2_init 0 = .ok (.aload_n 0, 1) := by decide +kernel
theorem dX2_init_1 : decode cX2_init 1 = .ok (.invokespecial 3, 3) := by decide +kernel
theorem dX2_init_4 : decode cX2_init 4 = .ok (.aload_n 0, 1) := by decide +kernel
theorem dX2_init_5 : decode cX2_init 5 = .ok (.bipush 8, 2) := by decide +kernel
theorem dX2_init_7 : decode cX2_init 7 = .ok (.bipush 30, 2) := by decide +kernel
theorem dX2_init_9 : decode cX2_init 9 = .ok (.multianewarray 11 2, 4) := by decide +kernel
theorem dX2_init_13 : decode cX2_init 13 = .ok (.putfield 13, 3) := by decide +kernel
theorem dX2_init_16 : decode cX2_init 16 = .ok (.aload_n 0, 1) := by decide +kernel
theorem dX2_init_17 : decode cX2_init 17 = .ok (.bipush 8, 2) := by decide +kernel
theorem dX2_init_19 : decode cX2_init 19 = .ok (.newarray .int, 2) := by decide +kernel
theorem dX2_init_21 : decode cX2_init 21 = .ok (.putfield 16, 3) := by decide +kernel
theorem dX2_init_24 : decode cX2_init 24 = .ok (.aload_n 0, 1) := by decide +kernel
theorem dX2_init_25 : decode cX2_init 25 = .ok (.bipush 8, 2) := by decide +kernel
theorem dX2_init_27 : decode cX2_init 27 = .ok (.newarray .int, 2) := by decide +kernel
theorem dX2_init_29 : decode cX2_init 29 = .ok (.putfield 20, 3) := by decide +kernel
theorem dX2_init_32 : decode cX2_init 32 = .ok (.aload_n 0, 1) := by decide +kernel
theorem dX2_init_33 : decode cX2_init 33 = .ok (.bipush 31, 2) := by decide +kernel
theorem dX2_init_35 : decode cX2_init 35 = .ok (.newarray .int, 2) := by decide +kernel
theorem dX2_init_37 : decode cX2_init 37 = .ok (.putfield 23, 3) := by decide +kernel
theorem dX2_init_40 : decode cX2_init 40 = .ok (.aload_n 0, 1) := by decide +kernel
theorem dX2_init_41 : decode cX2_init 41 = .ok (.bipush 31, 2) := by decide +kernel
theorem dX2_init_43 : decode cX2_init 43 = .ok (.newarray .int, 2) := by decide +kernel
theorem dX2_init_45 : decode cX2_init 45 = .ok (.putfield 26, 3) := by decide +kernel
theorem dX2_init_48 : decode cX2_init 48 = .ok (.aload_n 0, 1) := by decide +kernel
theorem dX2_init_49 : decode cX2_init 49 = .ok (.iconst 0, 1) := by decide +kernel
theorem dX2_init_50 : decode cX2_init 50 = .ok (.putfield 29, 3) := by decide +kernel
theorem dX2_init_53 : decode cX2_init 53 = .ok (.return_, 1) := by decide +kernel
theorem dX2_size_0 : decode cX2_size 0 = .ok (.aload_n 0, 1) := by decide +kernel
theorem dX2_size_1 : decode cX2_size 1 = .ok (.getfield 29, 3) := by decide +kernel
theorem dX2_size_4 : decode cX2_size 4 = .ok (.ireturn, 1) := by decide +kernel
theorem dX2_isFull_0 : decode cX2_isFull 0 = .ok (.aload_n 0, 1) := by decide +kernel
theorem dX2_isFull_1 : decode cX2_isFull 1 = .ok (.getfield 29, 3) := by decide +kernel
theorem dX2_isFull_4 : decode cX2_isFull 4 = .ok (.bipush 8, 2) := by decide +kernel
theorem dX2_isFull_6 : decode cX2_isFull 6 = .ok (.if_icmp .lt 7, 3) := by decide +kernel
theorem dX2_isFull_9 : decode cX2_isFull 9 = .ok (.iconst 1, 1) := by decide +kernel
theorem dX2_isFull_10 : decode cX2_isFull 10 = .ok (.goto 4, 3) := by decide +kernel
theorem dX2_isFull_13 : decode cX2_isFull 13 = .ok (.iconst 0, 1) := by decide +kernel
theorem dX2_isFull_14 : decode cX2_isFull 14 = .ok (.ireturn, 1) := by decide +kernel
theorem dX2_has_0 : decode cX2_has 0 = .ok (.iload_n 1, 1) := by decide +kernel
theorem dX2_has_1 : decode cX2_has 1 = .ok (.ifCond .lt 21, 3) := by decide +kernel
theorem dX2_has_4 : decode cX2_has 4 = .ok (.iload_n 1, 1) := by decide +kernel
theorem dX2_has_5 : decode cX2_has 5 = .ok (.aload_n 0, 1) := by decide +kernel
theorem dX2_has_6 : decode cX2_has 6 = .ok (.getfield 29, 3) := by decide +kernel
theorem dX2_has_9 : decode cX2_has 9 = .ok (.if_icmp .ge 13, 3) := by decide +kernel
theorem dX2_has_12 : decode cX2_has 12 = .ok (.iload_n 1, 1) := by decide +kernel
theorem dX2_has_13 : decode cX2_has 13 = .ok (.bipush 8, 2) := by decide +kernel
theorem dX2_has_15 : decode cX2_has 15 = .ok (.if_icmp .ge 7, 3) := by decide +kernel
theorem dX2_has_18 : decode cX2_has 18 = .ok (.iconst 1, 1) := by decide +kernel
theorem dX2_has_19 : decode cX2_has 19 = .ok (.goto 4, 3) := by decide +kernel
theorem dX2_has_22 : decode cX2_has 22 = .ok (.iconst 0, 1) := by decide +kernel
theorem dX2_has_23 : decode cX2_has 23 = .ok (.ireturn, 1) := by decide +kernel
theorem dX2_lengthOf_0 : decode cX2_lengthOf 0 = .ok (.aload_n 0, 1) := by decide +kernel
theorem dX2_lengthOf_1 : decode cX2_lengthOf 1 = .ok (.iload_n 1, 1) := by decide +kernel
theorem dX2_lengthOf_2 : decode cX2_lengthOf 2 = .ok (.invokevirtual 33, 3) := by decide +kernel
theorem dX2_lengthOf_5 : decode cX2_lengthOf 5 = .ok (.ifCond .eq 12, 3) := by decide +kernel
theorem dX2_lengthOf_8 : decode cX2_lengthOf 8 = .ok (.aload_n 0, 1) := by decide +kernel
theorem dX2_lengthOf_9 : decode cX2_lengthOf 9 = .ok (.getfield 16, 3) := by decide +kernel
theorem dX2_lengthOf_12 : decode cX2_lengthOf 12 = .ok (.iload_n 1, 1) := by decide +kernel
theorem dX2_lengthOf_13 : decode cX2_lengthOf 13 = .ok (.iaload, 1) := by decide +kernel
theorem dX2_lengthOf_14 : decode cX2_lengthOf 14 = .ok (.goto 4, 3) := by decide +kernel
theorem dX2_lengthOf_17 : decode cX2_lengthOf 17 = .ok (.iconst 0, 1) := by decide +kernel
theorem dX2_lengthOf_18 : decode cX2_lengthOf 18 = .ok (.ireturn, 1) := by decide +kernel
theorem dX2_yearOf_0 : decode cX2_yearOf 0 = .ok (.aload_n 0, 1) := by decide +kernel
theorem dX2_yearOf_1 : decode cX2_yearOf 1 = .ok (.iload_n 1, 1) := by decide +kernel
theorem dX2_yearOf_2 : decode cX2_yearOf 2 = .ok (.invokevirtual 33, 3) := by decide +kernel
theorem dX2_yearOf_5 : decode cX2_yearOf 5 = .ok (.ifCond .eq 12, 3) := by decide +kernel
theorem dX2_yearOf_8 : decode cX2_yearOf 8 = .ok (.aload_n 0, 1) := by decide +kernel
theorem dX2_yearOf_9 : decode cX2_yearOf 9 = .ok (.getfield 20, 3) := by decide +kernel
theorem dX2_yearOf_12 : decode cX2_yearOf 12 = .ok (.iload_n 1, 1) := by decide +kernel
theorem dX2_yearOf_13 : decode cX2_yearOf 13 = .ok (.iaload, 1) := by decide +kernel
theorem dX2_yearOf_14 : decode cX2_yearOf 14 = .ok (.goto 4, 3) := by decide +kernel
theorem dX2_yearOf_17 : decode cX2_yearOf 17 = .ok (.iconst (-1), 1) := by decide +kernel
theorem dX2_yearOf_18 : decode cX2_yearOf 18 = .ok (.ireturn, 1) := by decide +kernel
theorem dX2_item_0 : decode cX2_item 0 = .ok (.aload_n 0, 1) := by decide +kernel
theorem dX2_item_1 : decode cX2_item 1 = .ok (.iload_n 1, 1) := by decide +kernel
theorem dX2_item_2 : decode cX2_item 2 = .ok (.invokevirtual 33, 3) := by decide +kernel
theorem dX2_item_5 : decode cX2_item 5 = .ok (.ifCond .eq 34, 3) := by decide +kernel
theorem dX2_item_8 : decode cX2_item 8 = .ok (.iload_n 2, 1) := by decide +kernel
theorem dX2_item_9 : decode cX2_item 9 = .ok (.ifCond .lt 30, 3) := by decide +kernel
theorem dX2_item_12 : decode cX2_item 12 = .ok (.iload_n 2, 1) := by decide +kernel
theorem dX2_item_13 : decode cX2_item 13 = .ok (.aload_n 0, 1) := by decide +kernel
theorem dX2_item_14 : decode cX2_item 14 = .ok (.getfield 16, 3) := by decide +kernel
theorem dX2_item_17 : decode cX2_item 17 = .ok (.iload_n 1, 1) := by decide +kernel
theorem dX2_item_18 : decode cX2_item 18 = .ok (.iaload, 1) := by decide +kernel
theorem dX2_item_19 : decode cX2_item 19 = .ok (.if_icmp .ge 20, 3) := by decide +kernel
theorem dX2_item_22 : decode cX2_item 22 = .ok (.iload_n 2, 1) := by decide +kernel
theorem dX2_item_23 : decode cX2_item 23 = .ok (.bipush 30, 2) := by decide +kernel
theorem dX2_item_25 : decode cX2_item 25 = .ok (.if_icmp .ge 14, 3) := by decide +kernel
theorem dX2_item_28 : decode cX2_item 28 = .ok (.aload_n 0, 1) := by decide +kernel
theorem dX2_item_29 : decode cX2_item 29 = .ok (.getfield 13, 3) := by decide +kernel
theorem dX2_item_32 : decode cX2_item 32 = .ok (.iload_n 1, 1) := by decide +kernel
theorem dX2_item_33 : decode cX2_item 33 = .ok (.aaload, 1) := by decide +kernel
theorem dX2_item_34 : decode cX2_item 34 = .ok (.iload_n 2, 1) := by decide +kernel
theorem dX2_item_35 : decode cX2_item 35 = .ok (.iaload, 1) := by decide +kernel
theorem dX2_item_36 : decode cX2_item 36 = .ok (.goto 4, 3) := by decide +kernel
theorem dX2_item_39 : decode cX2_item 39 = .ok (.iconst (-1), 1) := by decide +kernel
theorem dX2_item_40 : decode cX2_item 40 = .ok (.ireturn, 1) := by decide +kernel
theorem dX2_keep_0 : decode cX2_keep 0 = .ok (.aload_n 0, 1) := by decide +kernel
theorem dX2_keep_1 : decode cX2_keep 1 = .ok (.invokevirtual 37, 3) := by decide +kernel
theorem dX2_keep_4 : decode cX2_keep 4 = .ok (.ifCond .ne 13, 3) := by decide +kernel
theorem dX2_keep_7 : decode cX2_keep 7 = .ok (.iload_n 3, 1) := by decide +kernel
theorem dX2_keep_8 : decode cX2_keep 8 = .ok (.iconst 0, 1) := by decide +kernel
theorem dX2_keep_9 : decode cX2_keep 9 = .ok (.bipush 30, 2) := by decide +kernel
theorem dX2_keep_11 : decode cX2_keep 11 = .ok (.invokestatic 41, 3) := by decide +kernel
theorem dX2_keep_14 : decode cX2_keep 14 = .ok (.ifCond .ne 6, 3) := by decide +kernel
theorem dX2_keep_17 : decode cX2_keep 17 = .ok (.bipush (-4), 2) := by decide +kernel
theorem dX2_keep_19 : decode cX2_keep 19 = .ok (.ireturn, 1) := by decide +kernel
theorem dX2_keep_20 : decode cX2_keep 20 = .ok (.iconst 0, 1) := by decide +kernel
theorem dX2_keep_21 : decode cX2_keep 21 = .ok (.istore 5, 2) := by decide +kernel
theorem dX2_keep_23 : decode cX2_keep 23 = .ok (.iload 5, 2) := by decide +kernel
theorem dX2_keep_25 : decode cX2_keep 25 = .ok (.iload_n 3, 1) := by decide +kernel
theorem dX2_keep_26 : decode cX2_keep 26 = .ok (.if_icmp .ge 28, 3) := by decide +kernel
theorem dX2_keep_29 : decode cX2_keep 29 = .ok (.aload_n 0, 1) := by decide +kernel
theorem dX2_keep_30 : decode cX2_keep 30 = .ok (.getfield 13, 3) := by decide +kernel
theorem dX2_keep_33 : decode cX2_keep 33 = .ok (.aload_n 0, 1) := by decide +kernel
theorem dX2_keep_34 : decode cX2_keep 34 = .ok (.getfield 29, 3) := by decide +kernel
theorem dX2_keep_37 : decode cX2_keep 37 = .ok (.aaload, 1) := by decide +kernel
theorem dX2_keep_38 : decode cX2_keep 38 = .ok (.iload 5, 2) := by decide +kernel
theorem dX2_keep_40 : decode cX2_keep 40 = .ok (.aload_n 1, 1) := by decide +kernel
theorem dX2_keep_41 : decode cX2_keep 41 = .ok (.iload_n 2, 1) := by decide +kernel
theorem dX2_keep_42 : decode cX2_keep 42 = .ok (.iload 5, 2) := by decide +kernel
theorem dX2_keep_44 : decode cX2_keep 44 = .ok (.invokevirtual 45, 3) := by decide +kernel
theorem dX2_keep_47 : decode cX2_keep 47 = .ok (.iastore, 1) := by decide +kernel
theorem dX2_keep_48 : decode cX2_keep 48 = .ok (.iinc 5 1, 3) := by decide +kernel
theorem dX2_keep_51 : decode cX2_keep 51 = .ok (.goto (-28), 3) := by decide +kernel
theorem dX2_keep_54 : decode cX2_keep 54 = .ok (.aload_n 0, 1) := by decide +kernel
theorem dX2_keep_55 : decode cX2_keep 55 = .ok (.getfield 16, 3) := by decide +kernel
theorem dX2_keep_58 : decode cX2_keep 58 = .ok (.aload_n 0, 1) := by decide +kernel
theorem dX2_keep_59 : decode cX2_keep 59 = .ok (.getfield 29, 3) := by decide +kernel
theorem dX2_keep_62 : decode cX2_keep 62 = .ok (.iload_n 3, 1) := by decide +kernel
theorem dX2_keep_63 : decode cX2_keep 63 = .ok (.iastore, 1) := by decide +kernel
theorem dX2_keep_64 : decode cX2_keep 64 = .ok (.aload_n 0, 1) := by decide +kernel
theorem dX2_keep_65 : decode cX2_keep 65 = .ok (.getfield 20, 3) := by decide +kernel
theorem dX2_keep_68 : decode cX2_keep 68 = .ok (.aload_n 0, 1) := by decide +kernel
theorem dX2_keep_69 : decode cX2_keep 69 = .ok (.getfield 29, 3) := by decide +kernel
theorem dX2_keep_72 : decode cX2_keep 72 = .ok (.iload 4, 2) := by decide +kernel
theorem dX2_keep_74 : decode cX2_keep 74 = .ok (.iastore, 1) := by decide +kernel
theorem dX2_keep_75 : decode cX2_keep 75 = .ok (.aload_n 0, 1) := by decide +kernel
theorem dX2_keep_76 : decode cX2_keep 76 = .ok (.dup, 1) := by decide +kernel
theorem dX2_keep_77 : decode cX2_keep 77 = .ok (.getfield 29, 3) := by decide +kernel
theorem dX2_keep_80 : decode cX2_keep 80 = .ok (.iconst 1, 1) := by decide +kernel
theorem dX2_keep_81 : decode cX2_keep 81 = .ok (.iadd, 1) := by decide +kernel
theorem dX2_keep_82 : decode cX2_keep 82 = .ok (.putfield 29, 3) := by decide +kernel
theorem dX2_keep_85 : decode cX2_keep 85 = .ok (.aload_n 0, 1) := by decide +kernel
theorem dX2_keep_86 : decode cX2_keep 86 = .ok (.getfield 29, 3) := by decide +kernel
theorem dX2_keep_89 : decode cX2_keep 89 = .ok (.iconst 1, 1) := by decide +kernel
theorem dX2_keep_90 : decode cX2_keep 90 = .ok (.isub, 1) := by decide +kernel
theorem dX2_keep_91 : decode cX2_keep 91 = .ok (.ireturn, 1) := by decide +kernel
theorem dX2_gaps_0 : decode cX2_gaps 0 = .ok (.iconst 0, 1) := by decide +kernel
theorem dX2_gaps_1 : decode cX2_gaps 1 = .ok (.istore_n 2, 1) := by decide +kernel
theorem dX2_gaps_2 : decode cX2_gaps 2 = .ok (.iconst 0, 1) := by decide +kernel
theorem dX2_gaps_3 : decode cX2_gaps 3 = .ok (.istore_n 3, 1) := by decide +kernel
theorem dX2_gaps_4 : decode cX2_gaps 4 = .ok (.iload_n 3, 1) := by decide +kernel
theorem dX2_gaps_5 : decode cX2_gaps 5 = .ok (.aload_n 0, 1) := by decide +kernel
theorem dX2_gaps_6 : decode cX2_gaps 6 = .ok (.iload_n 1, 1) := by decide +kernel
theorem dX2_gaps_7 : decode cX2_gaps 7 = .ok (.invokevirtual 51, 3) := by decide +kernel
theorem dX2_gaps_10 : decode cX2_gaps 10 = .ok (.if_icmp .ge 22, 3) := by decide +kernel
theorem dX2_gaps_13 : decode cX2_gaps 13 = .ok (.aload_n 0, 1) := by decide +kernel
theorem dX2_gaps_14 : decode cX2_gaps 14 = .ok (.iload_n 1, 1) := by decide +kernel
theorem dX2_gaps_15 : decode cX2_gaps 15 = .ok (.iload_n 3, 1) := by decide +kernel
theorem dX2_gaps_16 : decode cX2_gaps 16 = .ok (.invokevirtual 55, 3) := by decide +kernel
theorem dX2_gaps_19 : decode cX2_gaps 19 = .ok (.iconst (-1), 1) := by decide +kernel
theorem dX2_gaps_20 : decode cX2_gaps 20 = .ok (.if_icmp .ne 6, 3) := by decide +kernel
theorem dX2_gaps_23 : decode cX2_gaps 23 = .ok (.iinc 2 1, 3) := by decide +kernel
theorem dX2_gaps_26 : decode cX2_gaps 26 = .ok (.iinc 3 1, 3) := by decide +kernel
theorem dX2_gaps_29 : decode cX2_gaps 29 = .ok (.goto (-25), 3) := by decide +kernel
theorem dX2_gaps_32 : decode cX2_gaps 32 = .ok (.iload_n 2, 1) := by decide +kernel
theorem dX2_gaps_33 : decode cX2_gaps 33 = .ok (.ireturn, 1) := by decide +kernel
theorem dX2_couldBeOfTens_0 : decode cX2_couldBeOfTens 0 = .ok (.iload_n 2, 1) := by decide +kernel
theorem dX2_couldBeOfTens_1 : decode cX2_couldBeOfTens 1 = .ok (.bipush 10, 2) := by decide +kernel
theorem dX2_couldBeOfTens_3 : decode cX2_couldBeOfTens 3 = .ok (.if_icmp .lt 30, 3) := by decide +kernel
theorem dX2_couldBeOfTens_6 : decode cX2_couldBeOfTens 6 = .ok (.aload_n 0, 1) := by decide +kernel
theorem dX2_couldBeOfTens_7 : decode cX2_couldBeOfTens 7 = .ok (.iload_n 1, 1) := by decide +kernel
theorem dX2_couldBeOfTens_8 : decode cX2_couldBeOfTens 8 = .ok (.iload_n 2, 1) := by decide +kernel
theorem dX2_couldBeOfTens_9 : decode cX2_couldBeOfTens 9 = .ok (.invokevirtual 55, 3) := by decide +kernel
theorem dX2_couldBeOfTens_12 : decode cX2_couldBeOfTens 12 = .ok (.iconst (-1), 1) := by decide +kernel
theorem dX2_couldBeOfTens_13 : decode cX2_couldBeOfTens 13 = .ok (.if_icmp .eq 20, 3) := by decide +kernel
theorem dX2_couldBeOfTens_16 : decode cX2_couldBeOfTens 16 = .ok (.aload_n 0, 1) := by decide +kernel
theorem dX2_couldBeOfTens_17 : decode cX2_couldBeOfTens 17 = .ok (.iload_n 1, 1) := by decide +kernel
theorem dX2_couldBeOfTens_18 : decode cX2_couldBeOfTens 18 = .ok (.iload_n 2, 1) := by decide +kernel
theorem dX2_couldBeOfTens_19 : decode cX2_couldBeOfTens 19 = .ok (.bipush 10, 2) := by decide +kernel
theorem dX2_couldBeOfTens_21 : decode cX2_couldBeOfTens 21 = .ok (.irem, 1) := by decide +kernel
theorem dX2_couldBeOfTens_22 : decode cX2_couldBeOfTens 22 = .ok (.invokevirtual 55, 3) := by decide +kernel
theorem dX2_couldBeOfTens_25 : decode cX2_couldBeOfTens 25 = .ok (.iconst (-1), 1) := by decide +kernel
theorem dX2_couldBeOfTens_26 : decode cX2_couldBeOfTens 26 = .ok (.if_icmp .eq 7, 3) := by decide +kernel
theorem dX2_couldBeOfTens_29 : decode cX2_couldBeOfTens 29 = .ok (.iconst 1, 1) := by decide +kernel
theorem dX2_couldBeOfTens_30 : decode cX2_couldBeOfTens 30 = .ok (.goto 4, 3) := by decide +kernel
theorem dX2_couldBeOfTens_33 : decode cX2_couldBeOfTens 33 = .ok (.iconst 0, 1) := by decide +kernel
theorem dX2_couldBeOfTens_34 : decode cX2_couldBeOfTens 34 = .ok (.ireturn, 1) := by decide +kernel
theorem dX2_ofTens_0 : decode cX2_ofTens 0 = .ok (.iconst 0, 1) := by decide +kernel
theorem dX2_ofTens_1 : decode cX2_ofTens 1 = .ok (.istore_n 2, 1) := by decide +kernel
theorem dX2_ofTens_2 : decode cX2_ofTens 2 = .ok (.bipush 10, 2) := by decide +kernel
theorem dX2_ofTens_4 : decode cX2_ofTens 4 = .ok (.istore_n 3, 1) := by decide +kernel
theorem dX2_ofTens_5 : decode cX2_ofTens 5 = .ok (.iload_n 3, 1) := by decide +kernel
theorem dX2_ofTens_6 : decode cX2_ofTens 6 = .ok (.aload_n 0, 1) := by decide +kernel
theorem dX2_ofTens_7 : decode cX2_ofTens 7 = .ok (.iload_n 1, 1) := by decide +kernel
theorem dX2_ofTens_8 : decode cX2_ofTens 8 = .ok (.invokevirtual 51, 3) := by decide +kernel
theorem dX2_ofTens_11 : decode cX2_ofTens 11 = .ok (.if_icmp .ge 39, 3) := by decide +kernel
theorem dX2_ofTens_14 : decode cX2_ofTens 14 = .ok (.aload_n 0, 1) := by decide +kernel
theorem dX2_ofTens_15 : decode cX2_ofTens 15 = .ok (.iload_n 1, 1) := by decide +kernel
theorem dX2_ofTens_16 : decode cX2_ofTens 16 = .ok (.iload_n 3, 1) := by decide +kernel
theorem dX2_ofTens_17 : decode cX2_ofTens 17 = .ok (.invokevirtual 58, 3) := by decide +kernel
theorem dX2_ofTens_20 : decode cX2_ofTens 20 = .ok (.ifCond .eq 24, 3) := by decide +kernel
theorem dX2_ofTens_23 : decode cX2_ofTens 23 = .ok (.aload_n 0, 1) := by decide +kernel
theorem dX2_ofTens_24 : decode cX2_ofTens 24 = .ok (.iload_n 1, 1) := by decide +kernel
theorem dX2_ofTens_25 : decode cX2_ofTens 25 = .ok (.iload_n 3, 1) := by decide +kernel
theorem dX2_ofTens_26 : decode cX2_ofTens 26 = .ok (.invokevirtual 55, 3) := by decide +kernel
theorem dX2_ofTens_29 : decode cX2_ofTens 29 = .ok (.aload_n 0, 1) := by decide +kernel
theorem dX2_ofTens_30 : decode cX2_ofTens 30 = .ok (.iload_n 1, 1) := by decide +kernel
theorem dX2_ofTens_31 : decode cX2_ofTens 31 = .ok (.iload_n 3, 1) := by decide +kernel
theorem dX2_ofTens_32 : decode cX2_ofTens 32 = .ok (.bipush 10, 2) := by decide +kernel
theorem dX2_ofTens_34 : decode cX2_ofTens 34 = .ok (.irem, 1) := by decide +kernel
theorem dX2_ofTens_35 : decode cX2_ofTens 35 = .ok (.invokevirtual 55, 3) := by decide +kernel
theorem dX2_ofTens_38 : decode cX2_ofTens 38 = .ok (.if_icmp .ne 6, 3) := by decide +kernel
theorem dX2_ofTens_41 : decode cX2_ofTens 41 = .ok (.iinc 2 1, 3) := by decide +kernel
theorem dX2_ofTens_44 : decode cX2_ofTens 44 = .ok (.iinc 3 1, 3) := by decide +kernel
theorem dX2_ofTens_47 : decode cX2_ofTens 47 = .ok (.goto (-42), 3) := by decide +kernel
theorem dX2_ofTens_50 : decode cX2_ofTens 50 = .ok (.iload_n 2, 1) := by decide +kernel
theorem dX2_ofTens_51 : decode cX2_ofTens 51 = .ok (.ireturn, 1) := by decide +kernel
theorem dX2_isShopped_0 : decode cX2_isShopped 0 = .ok (.iconst 0, 1) := by decide +kernel
theorem dX2_isShopped_1 : decode cX2_isShopped 1 = .ok (.istore_n 2, 1) := by decide +kernel
theorem dX2_isShopped_2 : decode cX2_isShopped 2 = .ok (.bipush 10, 2) := by decide +kernel
theorem dX2_isShopped_4 : decode cX2_isShopped 4 = .ok (.istore_n 3, 1) := by decide +kernel
theorem dX2_isShopped_5 : decode cX2_isShopped 5 = .ok (.iload_n 3, 1) := by decide +kernel
theorem dX2_isShopped_6 : decode cX2_isShopped 6 = .ok (.aload_n 0, 1) := by decide +kernel
theorem dX2_isShopped_7 : decode cX2_isShopped 7 = .ok (.iload_n 1, 1) := by decide +kernel
theorem dX2_isShopped_8 : decode cX2_isShopped 8 = .ok (.invokevirtual 51, 3) := by decide +kernel
theorem dX2_isShopped_11 : decode cX2_isShopped 11 = .ok (.if_icmp .ge 21, 3) := by decide +kernel
theorem dX2_isShopped_14 : decode cX2_isShopped 14 = .ok (.aload_n 0, 1) := by decide +kernel
theorem dX2_isShopped_15 : decode cX2_isShopped 15 = .ok (.iload_n 1, 1) := by decide +kernel
theorem dX2_isShopped_16 : decode cX2_isShopped 16 = .ok (.iload_n 3, 1) := by decide +kernel
theorem dX2_isShopped_17 : decode cX2_isShopped 17 = .ok (.invokevirtual 58, 3) := by decide +kernel
theorem dX2_isShopped_20 : decode cX2_isShopped 20 = .ok (.ifCond .eq 6, 3) := by decide +kernel
theorem dX2_isShopped_23 : decode cX2_isShopped 23 = .ok (.iinc 2 1, 3) := by decide +kernel
theorem dX2_isShopped_26 : decode cX2_isShopped 26 = .ok (.iinc 3 1, 3) := by decide +kernel
theorem dX2_isShopped_29 : decode cX2_isShopped 29 = .ok (.goto (-24), 3) := by decide +kernel
theorem dX2_isShopped_32 : decode cX2_isShopped 32 = .ok (.iload_n 2, 1) := by decide +kernel
theorem dX2_isShopped_33 : decode cX2_isShopped 33 = .ok (.ifCond .le 18, 3) := by decide +kernel
theorem dX2_isShopped_36 : decode cX2_isShopped 36 = .ok (.iconst 2, 1) := by decide +kernel
theorem dX2_isShopped_37 : decode cX2_isShopped 37 = .ok (.aload_n 0, 1) := by decide +kernel
theorem dX2_isShopped_38 : decode cX2_isShopped 38 = .ok (.iload_n 1, 1) := by decide +kernel
theorem dX2_isShopped_39 : decode cX2_isShopped 39 = .ok (.invokevirtual 62, 3) := by decide +kernel
theorem dX2_isShopped_42 : decode cX2_isShopped 42 = .ok (.imul, 1) := by decide +kernel
theorem dX2_isShopped_43 : decode cX2_isShopped 43 = .ok (.iload_n 2, 1) := by decide +kernel
theorem dX2_isShopped_44 : decode cX2_isShopped 44 = .ok (.if_icmp .lt 7, 3) := by decide +kernel
theorem dX2_isShopped_47 : decode cX2_isShopped 47 = .ok (.iconst 1, 1) := by decide +kernel
theorem dX2_isShopped_48 : decode cX2_isShopped 48 = .ok (.goto 4, 3) := by decide +kernel
theorem dX2_isShopped_51 : decode cX2_isShopped 51 = .ok (.iconst 0, 1) := by decide +kernel
theorem dX2_isShopped_52 : decode cX2_isShopped 52 = .ok (.ireturn, 1) := by decide +kernel
theorem dX2_distance_0 : decode cX2_distance 0 = .ok (.aload_n 0, 1) := by decide +kernel
theorem dX2_distance_1 : decode cX2_distance 1 = .ok (.iload_n 2, 1) := by decide +kernel
theorem dX2_distance_2 : decode cX2_distance 2 = .ok (.invokevirtual 51, 3) := by decide +kernel
theorem dX2_distance_5 : decode cX2_distance 5 = .ok (.bipush 30, 2) := by decide +kernel
theorem dX2_distance_7 : decode cX2_distance 7 = .ok (.invokestatic 65, 3) := by decide +kernel
theorem dX2_distance_10 : decode cX2_distance 10 = .ok (.istore_n 3, 1) := by decide +kernel
theorem dX2_distance_11 : decode cX2_distance 11 = .ok (.iconst 0, 1) := by decide +kernel
theorem dX2_distance_12 : decode cX2_distance 12 = .ok (.istore 4, 2) := by decide +kernel
theorem dX2_distance_14 : decode cX2_distance 14 = .ok (.iload 4, 2) := by decide +kernel
theorem dX2_distance_16 : decode cX2_distance 16 = .ok (.iload_n 3, 1) := by decide +kernel
theorem dX2_distance_17 : decode cX2_distance 17 = .ok (.if_icmp .gt 20, 3) := by decide +kernel
theorem dX2_distance_20 : decode cX2_distance 20 = .ok (.aload_n 0, 1) := by decide +kernel
theorem dX2_distance_21 : decode cX2_distance 21 = .ok (.getfield 23, 3) := by decide +kernel
theorem dX2_distance_24 : decode cX2_distance 24 = .ok (.iload 4, 2) := by decide +kernel
theorem dX2_distance_26 : decode cX2_distance 26 = .ok (.iconst 2, 1) := by decide +kernel
theorem dX2_distance_27 : decode cX2_distance 27 = .ok (.iload 4, 2) := by decide +kernel
theorem dX2_distance_29 : decode cX2_distance 29 = .ok (.imul, 1) := by decide +kernel
theorem dX2_distance_30 : decode cX2_distance 30 = .ok (.iastore, 1) := by decide +kernel
theorem dX2_distance_31 : decode cX2_distance 31 = .ok (.iinc 4 1, 3) := by decide +kernel
theorem dX2_distance_34 : decode cX2_distance 34 = .ok (.goto (-20), 3) := by decide +kernel
theorem dX2_distance_37 : decode cX2_distance 37 = .ok (.iconst 1, 1) := by decide +kernel
theorem dX2_distance_38 : decode cX2_distance 38 = .ok (.istore 4, 2) := by decide +kernel
theorem dX2_distance_40 : decode cX2_distance 40 = .ok (.iload 4, 2) := by decide +kernel
theorem dX2_distance_42 : decode cX2_distance 42 = .ok (.aload_n 0, 1) := by decide +kernel
theorem dX2_distance_43 : decode cX2_distance 43 = .ok (.iload_n 1, 1) := by decide +kernel
theorem dX2_distance_44 : decode cX2_distance 44 = .ok (.invokevirtual 51, 3) := by decide +kernel
theorem dX2_distance_47 : decode cX2_distance 47 = .ok (.if_icmp .gt 116, 3) := by decide +kernel
theorem dX2_distance_50 : decode cX2_distance 50 = .ok (.aload_n 0, 1) := by decide +kernel
theorem dX2_distance_51 : decode cX2_distance 51 = .ok (.getfield 26, 3) := by decide +kernel
theorem dX2_distance_54 : decode cX2_distance 54 = .ok (.iconst 0, 1) := by decide +kernel
theorem dX2_distance_55 : decode cX2_distance 55 = .ok (.iconst 2, 1) := by decide +kernel
theorem dX2_distance_56 : decode cX2_distance 56 = .ok (.iload 4, 2) := by decide +kernel
theorem dX2_distance_58 : decode cX2_distance 58 = .ok (.imul, 1) := by decide +kernel
theorem dX2_distance_59 : decode cX2_distance 59 = .ok (.iastore, 1) := by decide +kernel
theorem dX2_distance_60 : decode cX2_distance 60 = .ok (.iconst 1, 1) := by decide +kernel
theorem dX2_distance_61 : decode cX2_distance 61 = .ok (.istore 5, 2) := by decide +kernel
theorem dX2_distance_63 : decode cX2_distance 63 = .ok (.iload 5, 2) := by decide +kernel
theorem dX2_distance_65 : decode cX2_distance 65 = .ok (.iload_n 3, 1) := by decide +kernel
theorem dX2_distance_66 : decode cX2_distance 66 = .ok (.if_icmp .gt 75, 3) := by decide +kernel
theorem dX2_distance_69 : decode cX2_distance 69 = .ok (.aload_n 0, 1) := by decide +kernel
theorem dX2_distance_70 : decode cX2_distance 70 = .ok (.getfield 23, 3) := by decide +kernel
theorem dX2_distance_73 : decode cX2_distance 73 = .ok (.iload 5, 2) := by decide +kernel
theorem dX2_distance_75 : decode cX2_distance 75 = .ok (.iconst 1, 1) := by decide +kernel
theorem dX2_distance_76 : decode cX2_distance 76 = .ok (.isub, 1) := by decide +kernel
theorem dX2_distance_77 : decode cX2_distance 77 = .ok (.iaload, 1) := by decide +kernel
theorem dX2_distance_78 : decode cX2_distance 78 = .ok (.aload_n 0, 1) := by decide +kernel
theorem dX2_distance_79 : decode cX2_distance 79 = .ok (.iload_n 1, 1) := by decide +kernel
theorem dX2_distance_80 : decode cX2_distance 80 = .ok (.iload 4, 2) := by decide +kernel
theorem dX2_distance_82 : decode cX2_distance 82 = .ok (.iconst 1, 1) := by decide +kernel
theorem dX2_distance_83 : decode cX2_distance 83 = .ok (.isub, 1) := by decide +kernel
theorem dX2_distance_84 : decode cX2_distance 84 = .ok (.invokevirtual 55, 3) := by decide +kernel
theorem dX2_distance_87 : decode cX2_distance 87 = .ok (.aload_n 0, 1) := by decide +kernel
theorem dX2_distance_88 : decode cX2_distance 88 = .ok (.iload_n 2, 1) := by decide +kernel
theorem dX2_distance_89 : decode cX2_distance 89 = .ok (.iload 5, 2) := by decide +kernel
theorem dX2_distance_91 : decode cX2_distance 91 = .ok (.iconst 1, 1) := by decide +kernel
theorem dX2_distance_92 : decode cX2_distance 92 = .ok (.isub, 1) := by decide +kernel
theorem dX2_distance_93 : decode cX2_distance 93 = .ok (.invokevirtual 55, 3) := by decide +kernel
theorem dX2_distance_96 : decode cX2_distance 96 = .ok (.invokestatic 70, 3) := by decide +kernel
theorem dX2_distance_99 : decode cX2_distance 99 = .ok (.iadd, 1) := by decide +kernel
theorem dX2_distance_100 : decode cX2_distance 100 = .ok (.istore 6, 2) := by decide +kernel
theorem dX2_distance_102 : decode cX2_distance 102 = .ok (.aload_n 0, 1) := by decide +kernel
theorem dX2_distance_103 : decode cX2_distance 103 = .ok (.getfield 26, 3) := by decide +kernel
theorem dX2_distance_106 : decode cX2_distance 106 = .ok (.iload 5, 2) := by decide +kernel
theorem dX2_distance_108 : decode cX2_distance 108 = .ok (.iload 6, 2) := by decide +kernel
theorem dX2_distance_110 : decode cX2_distance 110 = .ok (.iconst 2, 1) := by decide +kernel
theorem dX2_distance_111 : decode cX2_distance 111 = .ok (.aload_n 0, 1) := by decide +kernel
theorem dX2_distance_112 : decode cX2_distance 112 = .ok (.getfield 23, 3) := by decide +kernel
theorem dX2_distance_115 : decode cX2_distance 115 = .ok (.iload 5, 2) := by decide +kernel
theorem dX2_distance_117 : decode cX2_distance 117 = .ok (.iaload, 1) := by decide +kernel
theorem dX2_distance_118 : decode cX2_distance 118 = .ok (.aload_n 0, 1) := by decide +kernel
theorem dX2_distance_119 : decode cX2_distance 119 = .ok (.getfield 26, 3) := by decide +kernel
theorem dX2_distance_122 : decode cX2_distance 122 = .ok (.iload 5, 2) := by decide +kernel
theorem dX2_distance_124 : decode cX2_distance 124 = .ok (.iconst 1, 1) := by decide +kernel
theorem dX2_distance_125 : decode cX2_distance 125 = .ok (.isub, 1) := by decide +kernel
theorem dX2_distance_126 : decode cX2_distance 126 = .ok (.iaload, 1) := by decide +kernel
theorem dX2_distance_127 : decode cX2_distance 127 = .ok (.invokestatic 65, 3) := by decide +kernel
theorem dX2_distance_130 : decode cX2_distance 130 = .ok (.iadd, 1) := by decide +kernel
theorem dX2_distance_131 : decode cX2_distance 131 = .ok (.invokestatic 65, 3) := by decide +kernel
theorem dX2_distance_134 : decode cX2_distance 134 = .ok (.iastore, 1) := by decide +kernel
theorem dX2_distance_135 : decode cX2_distance 135 = .ok (.iinc 5 1, 3) := by decide +kernel
theorem dX2_distance_138 : decode cX2_distance 138 = .ok (.goto (-75), 3) := by decide +kernel
theorem dX2_distance_141 : decode cX2_distance 141 = .ok (.aload_n 0, 1) := by decide +kernel
theorem dX2_distance_142 : decode cX2_distance 142 = .ok (.getfield 26, 3) := by decide +kernel
theorem dX2_distance_145 : decode cX2_distance 145 = .ok (.iconst 0, 1) := by decide +kernel
theorem dX2_distance_146 : decode cX2_distance 146 = .ok (.aload_n 0, 1) := by decide +kernel
theorem dX2_distance_147 : decode cX2_distance 147 = .ok (.getfield 23, 3) := by decide +kernel
theorem dX2_distance_150 : decode cX2_distance 150 = .ok (.iconst 0, 1) := by decide +kernel
theorem dX2_distance_151 : decode cX2_distance 151 = .ok (.iload_n 3, 1) := by decide +kernel
theorem dX2_distance_152 : decode cX2_distance 152 = .ok (.iconst 1, 1) := by decide +kernel
theorem dX2_distance_153 : decode cX2_distance 153 = .ok (.iadd, 1) := by decide +kernel
theorem dX2_distance_154 : decode cX2_distance 154 = .ok (.invokestatic 73, 3) := by decide +kernel
theorem dX2_distance_157 : decode cX2_distance 157 = .ok (.iinc 4 1, 3) := by decide +kernel
theorem dX2_distance_160 : decode cX2_distance 160 = .ok (.goto (-120), 3) := by decide +kernel
theorem dX2_distance_163 : decode cX2_distance 163 = .ok (.aload_n 0, 1) := by decide +kernel
theorem dX2_distance_164 : decode cX2_distance 164 = .ok (.getfield 23, 3) := by decide +kernel
theorem dX2_distance_167 : decode cX2_distance 167 = .ok (.iload_n 3, 1) := by decide +kernel
theorem dX2_distance_168 : decode cX2_distance 168 = .ok (.iaload, 1) := by decide +kernel
theorem dX2_distance_169 : decode cX2_distance 169 = .ok (.ireturn, 1) := by decide +kernel
theorem dX2_unlike_0 : decode cX2_unlike 0 = .ok (.iload_n 0, 1) := by decide +kernel
theorem dX2_unlike_1 : decode cX2_unlike 1 = .ok (.iconst (-1), 1) := by decide +kernel
theorem dX2_unlike_2 : decode cX2_unlike 2 = .ok (.if_icmp .eq 13, 3) := by decide +kernel
theorem dX2_unlike_5 : decode cX2_unlike 5 = .ok (.iload_n 1, 1) := by decide +kernel
theorem dX2_unlike_6 : decode cX2_unlike 6 = .ok (.iconst (-1), 1) := by decide +kernel
theorem dX2_unlike_7 : decode cX2_unlike 7 = .ok (.if_icmp .eq 8, 3) := by decide +kernel
theorem dX2_unlike_10 : decode cX2_unlike 10 = .ok (.iload_n 0, 1) := by decide +kernel
theorem dX2_unlike_11 : decode cX2_unlike 11 = .ok (.iload_n 1, 1) := by decide +kernel
theorem dX2_unlike_12 : decode cX2_unlike 12 = .ok (.if_icmp .ne 7, 3) := by decide +kernel
theorem dX2_unlike_15 : decode cX2_unlike 15 = .ok (.iconst 0, 1) := by decide +kernel
theorem dX2_unlike_16 : decode cX2_unlike 16 = .ok (.goto 4, 3) := by decide +kernel
theorem dX2_unlike_19 : decode cX2_unlike 19 = .ok (.iconst 3, 1) := by decide +kernel
theorem dX2_unlike_20 : decode cX2_unlike 20 = .ok (.ireturn, 1) := by decide +kernel
theorem dX2_motherOf_0 : decode cX2_motherOf 0 = .ok (.iconst (-1), 1) := by decide +kernel
theorem dX2_motherOf_1 : decode cX2_motherOf 1 = .ok (.istore_n 2, 1) := by decide +kernel
theorem dX2_motherOf_2 : decode cX2_motherOf 2 = .ok (.iconst 0, 1) := by decide +kernel
theorem dX2_motherOf_3 : decode cX2_motherOf 3 = .ok (.istore_n 3, 1) := by decide +kernel
theorem dX2_motherOf_4 : decode cX2_motherOf 4 = .ok (.iconst 0, 1) := by decide +kernel
theorem dX2_motherOf_5 : decode cX2_motherOf 5 = .ok (.istore 4, 2) := by decide +kernel
theorem dX2_motherOf_7 : decode cX2_motherOf 7 = .ok (.iload 4, 2) := by decide +kernel
theorem dX2_motherOf_9 : decode cX2_motherOf 9 = .ok (.aload_n 0, 1) := by decide +kernel
theorem dX2_motherOf_10 : decode cX2_motherOf 10 = .ok (.getfield 29, 3) := by decide +kernel
theorem dX2_motherOf_13 : decode cX2_motherOf 13 = .ok (.if_icmp .ge 69, 3) := by decide +kernel
theorem dX2_motherOf_16 : decode cX2_motherOf 16 = .ok (.aload_n 0, 1) := by decide +kernel
theorem dX2_motherOf_17 : decode cX2_motherOf 17 = .ok (.iload 4, 2) := by decide +kernel
theorem dX2_motherOf_19 : decode cX2_motherOf 19 = .ok (.invokevirtual 79, 3) := by decide +kernel
theorem dX2_motherOf_22 : decode cX2_motherOf 22 = .ok (.aload_n 0, 1) := by decide +kernel
theorem dX2_motherOf_23 : decode cX2_motherOf 23 = .ok (.iload_n 1, 1) := by decide +kernel
theorem dX2_motherOf_24 : decode cX2_motherOf 24 = .ok (.invokevirtual 79, 3) := by decide +kernel
theorem dX2_motherOf_27 : decode cX2_motherOf 27 = .ok (.if_icmp .ge 49, 3) := by decide +kernel
theorem dX2_motherOf_30 : decode cX2_motherOf 30 = .ok (.aload_n 0, 1) := by decide +kernel
theorem dX2_motherOf_31 : decode cX2_motherOf 31 = .ok (.iload 4, 2) := by decide +kernel
theorem dX2_motherOf_33 : decode cX2_motherOf 33 = .ok (.iload_n 1, 1) := by decide +kernel
theorem dX2_motherOf_34 : decode cX2_motherOf 34 = .ok (.invokevirtual 82, 3) := by decide +kernel
theorem dX2_motherOf_37 : decode cX2_motherOf 37 = .ok (.istore 5, 2) := by decide +kernel
theorem dX2_motherOf_39 : decode cX2_motherOf 39 = .ok (.iload_n 2, 1) := by decide +kernel
theorem dX2_motherOf_40 : decode cX2_motherOf 40 = .ok (.iconst (-1), 1) := by decide +kernel
theorem dX2_motherOf_41 : decode cX2_motherOf 41 = .ok (.if_icmp .eq 29, 3) := by decide +kernel
theorem dX2_motherOf_44 : decode cX2_motherOf 44 = .ok (.iload 5, 2) := by decide +kernel
theorem dX2_motherOf_46 : decode cX2_motherOf 46 = .ok (.iload_n 3, 1) := by decide +kernel
theorem dX2_motherOf_47 : decode cX2_motherOf 47 = .ok (.if_icmp .lt 23, 3) := by decide +kernel
theorem dX2_motherOf_50 : decode cX2_motherOf 50 = .ok (.iload 5, 2) := by decide +kernel
theorem dX2_motherOf_52 : decode cX2_motherOf 52 = .ok (.iload_n 3, 1) := by decide +kernel
theorem dX2_motherOf_53 : decode cX2_motherOf 53 = .ok (.if_icmp .ne 23, 3) := by decide +kernel
theorem dX2_motherOf_56 : decode cX2_motherOf 56 = .ok (.aload_n 0, 1) := by decide +kernel
theorem dX2_motherOf_57 : decode cX2_motherOf 57 = .ok (.iload 4, 2) := by decide +kernel
theorem dX2_motherOf_59 : decode cX2_motherOf 59 = .ok (.invokevirtual 79, 3) := by decide +kernel
theorem dX2_motherOf_62 : decode cX2_motherOf 62 = .ok (.aload_n 0, 1) := by decide +kernel
theorem dX2_motherOf_63 : decode cX2_motherOf 63 = .ok (.iload_n 2, 1) := by decide +kernel
theorem dX2_motherOf_64 : decode cX2_motherOf 64 = .ok (.invokevirtual 79, 3) := by decide +kernel
theorem dX2_motherOf_67 : decode cX2_motherOf 67 = .ok (.if_icmp .le 9, 3) := by decide +kernel
theorem dX2_motherOf_70 : decode cX2_motherOf 70 = .ok (.iload 4, 2) := by decide +kernel
theorem dX2_motherOf_72 : decode cX2_motherOf 72 = .ok (.istore_n 2, 1) := by decide +kernel
theorem dX2_motherOf_73 : decode cX2_motherOf 73 = .ok (.iload 5, 2) := by decide +kernel
theorem dX2_motherOf_75 : decode cX2_motherOf 75 = .ok (.istore_n 3, 1) := by decide +kernel
theorem dX2_motherOf_76 : decode cX2_motherOf 76 = .ok (.iinc 4 1, 3) := by decide +kernel
theorem dX2_motherOf_79 : decode cX2_motherOf 79 = .ok (.goto (-72), 3) := by decide +kernel
theorem dX2_motherOf_82 : decode cX2_motherOf 82 = .ok (.iload_n 2, 1) := by decide +kernel
theorem dX2_motherOf_83 : decode cX2_motherOf 83 = .ok (.ireturn, 1) := by decide +kernel
theorem dX2_generations_0 : decode cX2_generations 0 = .ok (.iload_n 1, 1) := by decide +kernel
theorem dX2_generations_1 : decode cX2_generations 1 = .ok (.istore_n 2, 1) := by decide +kernel
theorem dX2_generations_2 : decode cX2_generations 2 = .ok (.iconst 0, 1) := by decide +kernel
theorem dX2_generations_3 : decode cX2_generations 3 = .ok (.istore_n 3, 1) := by decide +kernel
theorem dX2_generations_4 : decode cX2_generations 4 = .ok (.iload_n 3, 1) := by decide +kernel
theorem dX2_generations_5 : decode cX2_generations 5 = .ok (.bipush 8, 2) := by decide +kernel
theorem dX2_generations_7 : decode cX2_generations 7 = .ok (.if_icmp .ge 22, 3) := by decide +kernel
theorem dX2_generations_10 : decode cX2_generations 10 = .ok (.aload_n 0, 1) := by decide +kernel
theorem dX2_generations_11 : decode cX2_generations 11 = .ok (.iload_n 2, 1) := by decide +kernel
theorem dX2_generations_12 : decode cX2_generations 12 = .ok (.invokevirtual 85, 3) := by decide +kernel
theorem dX2_generations_15 : decode cX2_generations 15 = .ok (.istore_n 2, 1) := by decide +kernel
theorem dX2_generations_16 : decode cX2_generations 16 = .ok (.iload_n 2, 1) := by decide +kernel
theorem dX2_generations_17 : decode cX2_generations 17 = .ok (.iconst (-1), 1) := by decide +kernel
theorem dX2_generations_18 : decode cX2_generations 18 = .ok (.if_icmp .ne 5, 3) := by decide +kernel
theorem dX2_generations_21 : decode cX2_generations 21 = .ok (.iload_n 3, 1) := by decide +kernel
theorem dX2_generations_22 : decode cX2_generations 22 = .ok (.ireturn, 1) := by decide +kernel
theorem dX2_generations_23 : decode cX2_generations 23 = .ok (.iinc 3 1, 3) := by decide +kernel
theorem dX2_generations_26 : decode cX2_generations 26 = .ok (.goto (-22), 3) := by decide +kernel
theorem dX2_generations_29 : decode cX2_generations 29 = .ok (.bipush 8, 2) := by decide +kernel
theorem dX2_generations_31 : decode cX2_generations 31 = .ok (.ireturn, 1) := by decide +kernel
theorem dX2_couldBeOfTwo_0 : decode cX2_couldBeOfTwo 0 = .ok (.aload_n 0, 1) := by decide +kernel
theorem dX2_couldBeOfTwo_1 : decode cX2_couldBeOfTwo 1 = .ok (.iload_n 1, 1) := by decide +kernel
theorem dX2_couldBeOfTwo_2 : decode cX2_couldBeOfTwo 2 = .ok (.invokevirtual 79, 3) := by decide +kernel
theorem dX2_couldBeOfTwo_5 : decode cX2_couldBeOfTwo 5 = .ok (.aload_n 0, 1) := by decide +kernel
theorem dX2_couldBeOfTwo_6 : decode cX2_couldBeOfTwo 6 = .ok (.iload_n 2, 1) := by decide +kernel
theorem dX2_couldBeOfTwo_7 : decode cX2_couldBeOfTwo 7 = .ok (.invokevirtual 79, 3) := by decide +kernel
theorem dX2_couldBeOfTwo_10 : decode cX2_couldBeOfTwo 10 = .ok (.if_icmp .ge 20, 3) := by decide +kernel
theorem dX2_couldBeOfTwo_13 : decode cX2_couldBeOfTwo 13 = .ok (.aload_n 0, 1) := by decide +kernel
theorem dX2_couldBeOfTwo_14 : decode cX2_couldBeOfTwo 14 = .ok (.iload_n 1, 1) := by decide +kernel
theorem dX2_couldBeOfTwo_15 : decode cX2_couldBeOfTwo 15 = .ok (.invokevirtual 51, 3) := by decide +kernel
theorem dX2_couldBeOfTwo_18 : decode cX2_couldBeOfTwo 18 = .ok (.aload_n 0, 1) := by decide +kernel
theorem dX2_couldBeOfTwo_19 : decode cX2_couldBeOfTwo 19 = .ok (.iload_n 2, 1) := by decide +kernel
theorem dX2_couldBeOfTwo_20 : decode cX2_couldBeOfTwo 20 = .ok (.invokevirtual 51, 3) := by decide +kernel
theorem dX2_couldBeOfTwo_23 : decode cX2_couldBeOfTwo 23 = .ok (.if_icmp .ne 7, 3) := by decide +kernel
theorem dX2_couldBeOfTwo_26 : decode cX2_couldBeOfTwo 26 = .ok (.iconst 1, 1) := by decide +kernel
theorem dX2_couldBeOfTwo_27 : decode cX2_couldBeOfTwo 27 = .ok (.goto 4, 3) := by decide +kernel
theorem dX2_couldBeOfTwo_30 : decode cX2_couldBeOfTwo 30 = .ok (.iconst 0, 1) := by decide +kernel
theorem dX2_couldBeOfTwo_31 : decode cX2_couldBeOfTwo 31 = .ok (.ireturn, 1) := by decide +kernel
theorem dX2_twoMothers_0 : decode cX2_twoMothers 0 = .ok (.iconst (-1), 1) := by decide +kernel
theorem dX2_twoMothers_1 : decode cX2_twoMothers 1 = .ok (.istore_n 2, 1) := by decide +kernel
theorem dX2_twoMothers_2 : decode cX2_twoMothers 2 = .ok (.iconst 0, 1) := by decide +kernel
theorem dX2_twoMothers_3 : decode cX2_twoMothers 3 = .ok (.istore_n 3, 1) := by decide +kernel
theorem dX2_twoMothers_4 : decode cX2_twoMothers 4 = .ok (.iconst 0, 1) := by decide +kernel
theorem dX2_twoMothers_5 : decode cX2_twoMothers 5 = .ok (.istore 4, 2) := by decide +kernel
theorem dX2_twoMothers_7 : decode cX2_twoMothers 7 = .ok (.iload 4, 2) := by decide +kernel
theorem dX2_twoMothers_9 : decode cX2_twoMothers 9 = .ok (.aload_n 0, 1) := by decide +kernel
theorem dX2_twoMothers_10 : decode cX2_twoMothers 10 = .ok (.getfield 29, 3) := by decide +kernel
theorem dX2_twoMothers_13 : decode cX2_twoMothers 13 = .ok (.if_icmp .ge 84, 3) := by decide +kernel
theorem dX2_twoMothers_16 : decode cX2_twoMothers 16 = .ok (.iload 4, 2) := by decide +kernel
theorem dX2_twoMothers_18 : decode cX2_twoMothers 18 = .ok (.iconst 1, 1) := by decide +kernel
theorem dX2_twoMothers_19 : decode cX2_twoMothers 19 = .ok (.iadd, 1) := by decide +kernel
theorem dX2_twoMothers_20 : decode cX2_twoMothers 20 = .ok (.istore 5, 2) := by decide +kernel
theorem dX2_twoMothers_22 : decode cX2_twoMothers 22 = .ok (.iload 5, 2) := by decide +kernel
theorem dX2_twoMothers_24 : decode cX2_twoMothers 24 = .ok (.aload_n 0, 1) := by decide +kernel
theorem dX2_twoMothers_25 : decode cX2_twoMothers 25 = .ok (.getfield 29, 3) := by decide +kernel
theorem dX2_twoMothers_28 : decode cX2_twoMothers 28 = .ok (.if_icmp .ge 63, 3) := by decide +kernel
theorem dX2_twoMothers_31 : decode cX2_twoMothers 31 = .ok (.aload_n 0, 1) := by decide +kernel
theorem dX2_twoMothers_32 : decode cX2_twoMothers 32 = .ok (.iload 4, 2) := by decide +kernel
theorem dX2_twoMothers_34 : decode cX2_twoMothers 34 = .ok (.iload_n 1, 1) := by decide +kernel
theorem dX2_twoMothers_35 : decode cX2_twoMothers 35 = .ok (.invokevirtual 88, 3) := by decide +kernel
theorem dX2_twoMothers_38 : decode cX2_twoMothers 38 = .ok (.ifCond .eq 53, 3) := by decide +kernel
theorem dX2_twoMothers_41 : decode cX2_twoMothers 41 = .ok (.aload_n 0, 1) := by decide +kernel
theorem dX2_twoMothers_42 : decode cX2_twoMothers 42 = .ok (.iload 5, 2) := by decide +kernel
theorem dX2_twoMothers_44 : decode cX2_twoMothers 44 = .ok (.iload_n 1, 1) := by decide +kernel
theorem dX2_twoMothers_45 : decode cX2_twoMothers 45 = .ok (.invokevirtual 88, 3) := by decide +kernel
theorem dX2_twoMothers_48 : decode cX2_twoMothers 48 = .ok (.ifCond .eq 37, 3) := by decide +kernel
theorem dX2_twoMothers_51 : decode cX2_twoMothers 51 = .ok (.aload_n 0, 1) := by decide +kernel
theorem dX2_twoMothers_52 : decode cX2_twoMothers 52 = .ok (.iload_n 1, 1) := by decide +kernel
theorem dX2_twoMothers_53 : decode cX2_twoMothers 53 = .ok (.iload 4, 2) := by decide +kernel
theorem dX2_twoMothers_55 : decode cX2_twoMothers 55 = .ok (.iload 5, 2) := by decide +kernel
theorem dX2_twoMothers_57 : decode cX2_twoMothers 57 = .ok (.invokevirtual 91, 3) := by decide +kernel
theorem dX2_twoMothers_60 : decode cX2_twoMothers 60 = .ok (.istore 6, 2) := by decide +kernel
theorem dX2_twoMothers_62 : decode cX2_twoMothers 62 = .ok (.iload_n 2, 1) := by decide +kernel
theorem dX2_twoMothers_63 : decode cX2_twoMothers 63 = .ok (.iconst (-1), 1) := by decide +kernel
theorem dX2_twoMothers_64 : decode cX2_twoMothers 64 = .ok (.if_icmp .eq 9, 3) := by decide +kernel
theorem dX2_twoMothers_67 : decode cX2_twoMothers 67 = .ok (.iload 6, 2) := by decide +kernel
theorem dX2_twoMothers_69 : decode cX2_twoMothers 69 = .ok (.iload_n 3, 1) := by decide +kernel
theorem dX2_twoMothers_70 : decode cX2_twoMothers 70 = .ok (.if_icmp .ge 15, 3) := by decide +kernel
theorem dX2_twoMothers_73 : decode cX2_twoMothers 73 = .ok (.bipush 10, 2) := by decide +kernel
theorem dX2_twoMothers_75 : decode cX2_twoMothers 75 = .ok (.iload 4, 2) := by decide +kernel
theorem dX2_twoMothers_77 : decode cX2_twoMothers 77 = .ok (.imul, 1) := by decide +kernel
theorem dX2_twoMothers_78 : decode cX2_twoMothers 78 = .ok (.iload 5, 2) := by decide +kernel
theorem dX2_twoMothers_80 : decode cX2_twoMothers 80 = .ok (.iadd, 1) := by decide +kernel
theorem dX2_twoMothers_81 : decode cX2_twoMothers 81 = .ok (.istore_n 2, 1) := by decide +kernel
theorem dX2_twoMothers_82 : decode cX2_twoMothers 82 = .ok (.iload 6, 2) := by decide +kernel
theorem dX2_twoMothers_84 : decode cX2_twoMothers 84 = .ok (.istore_n 3, 1) := by decide +kernel
theorem dX2_twoMothers_85 : decode cX2_twoMothers 85 = .ok (.iinc 5 1, 3) := by decide +kernel
theorem dX2_twoMothers_88 : decode cX2_twoMothers 88 = .ok (.goto (-66), 3) := by decide +kernel
theorem dX2_twoMothers_91 : decode cX2_twoMothers 91 = .ok (.iinc 4 1, 3) := by decide +kernel
theorem dX2_twoMothers_94 : decode cX2_twoMothers 94 = .ok (.goto (-87), 3) := by decide +kernel
theorem dX2_twoMothers_97 : decode cX2_twoMothers 97 = .ok (.iload_n 2, 1) := by decide +kernel
theorem dX2_twoMothers_98 : decode cX2_twoMothers 98 = .ok (.ireturn, 1) := by decide +kernel
theorem dX2_unlikeBoth_0 : decode cX2_unlikeBoth 0 = .ok (.iconst 0, 1) := by decide +kernel
theorem dX2_unlikeBoth_1 : decode cX2_unlikeBoth 1 = .ok (.istore 4, 2) := by decide +kernel
theorem dX2_unlikeBoth_3 : decode cX2_unlikeBoth 3 = .ok (.iconst 0, 1) := by decide +kernel
theorem dX2_unlikeBoth_4 : decode cX2_unlikeBoth 4 = .ok (.istore 5, 2) := by decide +kernel
theorem dX2_unlikeBoth_6 : decode cX2_unlikeBoth 6 = .ok (.iload 5, 2) := by decide +kernel
theorem dX2_unlikeBoth_8 : decode cX2_unlikeBoth 8 = .ok (.aload_n 0, 1) := by decide +kernel
theorem dX2_unlikeBoth_9 : decode cX2_unlikeBoth 9 = .ok (.iload_n 1, 1) := by decide +kernel
theorem dX2_unlikeBoth_10 : decode cX2_unlikeBoth 10 = .ok (.invokevirtual 51, 3) := by decide +kernel
theorem dX2_unlikeBoth_13 : decode cX2_unlikeBoth 13 = .ok (.if_icmp .ge 51, 3) := by decide +kernel
theorem dX2_unlikeBoth_16 : decode cX2_unlikeBoth 16 = .ok (.aload_n 0, 1) := by decide +kernel
theorem dX2_unlikeBoth_17 : decode cX2_unlikeBoth 17 = .ok (.iload_n 1, 1) := by decide +kernel
theorem dX2_unlikeBoth_18 : decode cX2_unlikeBoth 18 = .ok (.iload 5, 2) := by decide +kernel
theorem dX2_unlikeBoth_20 : decode cX2_unlikeBoth 20 = .ok (.invokevirtual 55, 3) := by decide +kernel
theorem dX2_unlikeBoth_23 : decode cX2_unlikeBoth 23 = .ok (.istore 6, 2) := by decide +kernel
theorem dX2_unlikeBoth_25 : decode cX2_unlikeBoth 25 = .ok (.iload 6, 2) := by decide +kernel
theorem dX2_unlikeBoth_27 : decode cX2_unlikeBoth 27 = .ok (.aload_n 0, 1) := by decide +kernel
theorem dX2_unlikeBoth_28 : decode cX2_unlikeBoth 28 = .ok (.iload_n 2, 1) := by decide +kernel
theorem dX2_unlikeBoth_29 : decode cX2_unlikeBoth 29 = .ok (.iload 5, 2) := by decide +kernel
theorem dX2_unlikeBoth_31 : decode cX2_unlikeBoth 31 = .ok (.invokevirtual 55, 3) := by decide +kernel
theorem dX2_unlikeBoth_34 : decode cX2_unlikeBoth 34 = .ok (.invokestatic 70, 3) := by decide +kernel
theorem dX2_unlikeBoth_37 : decode cX2_unlikeBoth 37 = .ok (.ifCond .eq 21, 3) := by decide +kernel
theorem dX2_unlikeBoth_40 : decode cX2_unlikeBoth 40 = .ok (.iload 6, 2) := by decide +kernel
theorem dX2_unlikeBoth_42 : decode cX2_unlikeBoth 42 = .ok (.aload_n 0, 1) := by decide +kernel
theorem dX2_unlikeBoth_43 : decode cX2_unlikeBoth 43 = .ok (.iload_n 3, 1) := by decide +kernel
theorem dX2_unlikeBoth_44 : decode cX2_unlikeBoth 44 = .ok (.iload 5, 2) := by decide +kernel
theorem dX2_unlikeBoth_46 : decode cX2_unlikeBoth 46 = .ok (.invokevirtual 55, 3) := by decide +kernel
theorem dX2_unlikeBoth_49 : decode cX2_unlikeBoth 49 = .ok (.invokestatic 70, 3) := by decide +kernel
theorem dX2_unlikeBoth_52 : decode cX2_unlikeBoth 52 = .ok (.ifCond .eq 6, 3) := by decide +kernel
theorem dX2_unlikeBoth_55 : decode cX2_unlikeBoth 55 = .ok (.iinc 4 1, 3) := by decide +kernel
theorem dX2_unlikeBoth_58 : decode cX2_unlikeBoth 58 = .ok (.iinc 5 1, 3) := by decide +kernel
theorem dX2_unlikeBoth_61 : decode cX2_unlikeBoth 61 = .ok (.goto (-55), 3) := by decide +kernel
theorem dX2_unlikeBoth_64 : decode cX2_unlikeBoth 64 = .ok (.iload 4, 2) := by decide +kernel
theorem dX2_unlikeBoth_66 : decode cX2_unlikeBoth 66 = .ok (.ireturn, 1) := by decide +kernel
theorem dX2_sharedSlips_0 : decode cX2_sharedSlips 0 = .ok (.iconst 0, 1) := by decide +kernel
theorem dX2_sharedSlips_1 : decode cX2_sharedSlips 1 = .ok (.istore_n 3, 1) := by decide +kernel
theorem dX2_sharedSlips_2 : decode cX2_sharedSlips 2 = .ok (.aload_n 0, 1) := by decide +kernel
theorem dX2_sharedSlips_3 : decode cX2_sharedSlips 3 = .ok (.iload_n 1, 1) := by decide +kernel
theorem dX2_sharedSlips_4 : decode cX2_sharedSlips 4 = .ok (.invokevirtual 79, 3) := by decide +kernel
theorem dX2_sharedSlips_7 : decode cX2_sharedSlips 7 = .ok (.aload_n 0, 1) := by decide +kernel
theorem dX2_sharedSlips_8 : decode cX2_sharedSlips 8 = .ok (.iload_n 2, 1) := by decide +kernel
theorem dX2_sharedSlips_9 : decode cX2_sharedSlips 9 = .ok (.invokevirtual 79, 3) := by decide +kernel
theorem dX2_sharedSlips_12 : decode cX2_sharedSlips 12 = .ok (.invokestatic 65, 3) := by decide +kernel
theorem dX2_sharedSlips_15 : decode cX2_sharedSlips 15 = .ok (.istore 4, 2) := by decide +kernel
theorem dX2_sharedSlips_17 : decode cX2_sharedSlips 17 = .ok (.iconst 0, 1) := by decide +kernel
theorem dX2_sharedSlips_18 : decode cX2_sharedSlips 18 = .ok (.istore 5, 2) := by decide +kernel
theorem dX2_sharedSlips_20 : decode cX2_sharedSlips 20 = .ok (.iload 5, 2) := by decide +kernel
theorem dX2_sharedSlips_22 : decode cX2_sharedSlips 22 = .ok (.aload_n 0, 1) := by decide +kernel
theorem dX2_sharedSlips_23 : decode cX2_sharedSlips 23 = .ok (.iload_n 1, 1) := by decide +kernel
theorem dX2_sharedSlips_24 : decode cX2_sharedSlips 24 = .ok (.invokevirtual 51, 3) := by decide +kernel
theorem dX2_sharedSlips_27 : decode cX2_sharedSlips 27 = .ok (.if_icmp .ge 52, 3) := by decide +kernel
theorem dX2_sharedSlips_30 : decode cX2_sharedSlips 30 = .ok (.aload_n 0, 1) := by decide +kernel
theorem dX2_sharedSlips_31 : decode cX2_sharedSlips 31 = .ok (.iload_n 1, 1) := by decide +kernel
theorem dX2_sharedSlips_32 : decode cX2_sharedSlips 32 = .ok (.iload 5, 2) := by decide +kernel
theorem dX2_sharedSlips_34 : decode cX2_sharedSlips 34 = .ok (.invokevirtual 55, 3) := by decide +kernel
theorem dX2_sharedSlips_37 : decode cX2_sharedSlips 37 = .ok (.istore 6, 2) := by decide +kernel
theorem dX2_sharedSlips_39 : decode cX2_sharedSlips 39 = .ok (.iload 6, 2) := by decide +kernel
theorem dX2_sharedSlips_41 : decode cX2_sharedSlips 41 = .ok (.iconst (-1), 1) := by decide +kernel
theorem dX2_sharedSlips_42 : decode cX2_sharedSlips 42 = .ok (.if_icmp .eq 31, 3) := by decide +kernel
theorem dX2_sharedSlips_45 : decode cX2_sharedSlips 45 = .ok (.iload 6, 2) := by decide +kernel
theorem dX2_sharedSlips_47 : decode cX2_sharedSlips 47 = .ok (.aload_n 0, 1) := by decide +kernel
theorem dX2_sharedSlips_48 : decode cX2_sharedSlips 48 = .ok (.iload_n 2, 1) := by decide +kernel
theorem dX2_sharedSlips_49 : decode cX2_sharedSlips 49 = .ok (.iload 5, 2) := by decide +kernel
theorem dX2_sharedSlips_51 : decode cX2_sharedSlips 51 = .ok (.invokevirtual 55, 3) := by decide +kernel
theorem dX2_sharedSlips_54 : decode cX2_sharedSlips 54 = .ok (.if_icmp .ne 19, 3) := by decide +kernel
theorem dX2_sharedSlips_57 : decode cX2_sharedSlips 57 = .ok (.aload_n 0, 1) := by decide +kernel
theorem dX2_sharedSlips_58 : decode cX2_sharedSlips 58 = .ok (.iload 6, 2) := by decide +kernel
theorem dX2_sharedSlips_60 : decode cX2_sharedSlips 60 = .ok (.iload 5, 2) := by decide +kernel
theorem dX2_sharedSlips_62 : decode cX2_sharedSlips 62 = .ok (.iload 4, 2) := by decide +kernel
theorem dX2_sharedSlips_64 : decode cX2_sharedSlips 64 = .ok (.invokevirtual 95, 3) := by decide +kernel
theorem dX2_sharedSlips_67 : decode cX2_sharedSlips 67 = .ok (.ifCond .ne 6, 3) := by decide +kernel
theorem dX2_sharedSlips_70 : decode cX2_sharedSlips 70 = .ok (.iinc 3 1, 3) := by decide +kernel
theorem dX2_sharedSlips_73 : decode cX2_sharedSlips 73 = .ok (.iinc 5 1, 3) := by decide +kernel
theorem dX2_sharedSlips_76 : decode cX2_sharedSlips 76 = .ok (.goto (-56), 3) := by decide +kernel
theorem dX2_sharedSlips_79 : decode cX2_sharedSlips 79 = .ok (.iload_n 3, 1) := by decide +kernel
theorem dX2_sharedSlips_80 : decode cX2_sharedSlips 80 = .ok (.ireturn, 1) := by decide +kernel
theorem dX2_wasSaid_0 : decode cX2_wasSaid 0 = .ok (.iconst 0, 1) := by decide +kernel
theorem dX2_wasSaid_1 : decode cX2_wasSaid 1 = .ok (.istore 4, 2) := by decide +kernel
theorem dX2_wasSaid_3 : decode cX2_wasSaid 3 = .ok (.iload 4, 2) := by decide +kernel
theorem dX2_wasSaid_5 : decode cX2_wasSaid 5 = .ok (.aload_n 0, 1) := by decide +kernel
theorem dX2_wasSaid_6 : decode cX2_wasSaid 6 = .ok (.getfield 29, 3) := by decide +kernel
theorem dX2_wasSaid_9 : decode cX2_wasSaid 9 = .ok (.if_icmp .ge 32, 3) := by decide +kernel
theorem dX2_wasSaid_12 : decode cX2_wasSaid 12 = .ok (.aload_n 0, 1) := by decide +kernel
theorem dX2_wasSaid_13 : decode cX2_wasSaid 13 = .ok (.iload 4, 2) := by decide +kernel
theorem dX2_wasSaid_15 : decode cX2_wasSaid 15 = .ok (.invokevirtual 79, 3) := by decide +kernel
theorem dX2_wasSaid_18 : decode cX2_wasSaid 18 = .ok (.iload_n 3, 1) := by decide +kernel
theorem dX2_wasSaid_19 : decode cX2_wasSaid 19 = .ok (.if_icmp .ge 16, 3) := by decide +kernel
theorem dX2_wasSaid_22 : decode cX2_wasSaid 22 = .ok (.aload_n 0, 1) := by decide +kernel
theorem dX2_wasSaid_23 : decode cX2_wasSaid 23 = .ok (.iload 4, 2) := by decide +kernel
theorem dX2_wasSaid_25 : decode cX2_wasSaid 25 = .ok (.iload_n 2, 1) := by decide +kernel
theorem dX2_wasSaid_26 : decode cX2_wasSaid 26 = .ok (.invokevirtual 55, 3) := by decide +kernel
theorem dX2_wasSaid_29 : decode cX2_wasSaid 29 = .ok (.iload_n 1, 1) := by decide +kernel
theorem dX2_wasSaid_30 : decode cX2_wasSaid 30 = .ok (.if_icmp .ne 5, 3) := by decide +kernel
theorem dX2_wasSaid_33 : decode cX2_wasSaid 33 = .ok (.iconst 1, 1) := by decide +kernel
theorem dX2_wasSaid_34 : decode cX2_wasSaid 34 = .ok (.ireturn, 1) := by decide +kernel
theorem dX2_wasSaid_35 : decode cX2_wasSaid 35 = .ok (.iinc 4 1, 3) := by decide +kernel
theorem dX2_wasSaid_38 : decode cX2_wasSaid 38 = .ok (.goto (-35), 3) := by decide +kernel
theorem dX2_wasSaid_41 : decode cX2_wasSaid 41 = .ok (.iconst 0, 1) := by decide +kernel
theorem dX2_wasSaid_42 : decode cX2_wasSaid 42 = .ok (.ireturn, 1) := by decide +kernel
theorem dX3_init_0 : decode cX3_init 0 = .ok (.aload_n 0, 1) := by decide +kernel
theorem dX3_init_1 : decode cX3_init 1 = .ok (.invokespecial 3, 3) := by decide +kernel
theorem dX3_init_4 : decode cX3_init 4 = .ok (.aload_n 0, 1) := by decide +kernel
theorem dX3_init_5 : decode cX3_init 5 = .ok (.bipush 8, 2) := by decide +kernel
theorem dX3_init_7 : decode cX3_init 7 = .ok (.bipush 6, 2) := by decide +kernel
theorem dX3_init_9 : decode cX3_init 9 = .ok (.multianewarray 11 2, 4) := by decide +kernel
theorem dX3_init_13 : decode cX3_init 13 = .ok (.putfield 13, 3) := by decide +kernel
theorem dX3_init_16 : decode cX3_init 16 = .ok (.aload_n 0, 1) := by decide +kernel
theorem dX3_init_17 : decode cX3_init 17 = .ok (.bipush 8, 2) := by decide +kernel
theorem dX3_init_19 : decode cX3_init 19 = .ok (.newarray .long, 2) := by decide +kernel
theorem dX3_init_21 : decode cX3_init 21 = .ok (.putfield 16, 3) := by decide +kernel
theorem dX3_init_24 : decode cX3_init 24 = .ok (.aload_n 0, 1) := by decide +kernel
theorem dX3_init_25 : decode cX3_init 25 = .ok (.iconst 3, 1) := by decide +kernel
theorem dX3_init_26 : decode cX3_init 26 = .ok (.newarray .long, 2) := by decide +kernel
theorem dX3_init_28 : decode cX3_init 28 = .ok (.putfield 20, 3) := by decide +kernel
theorem dX3_init_31 : decode cX3_init 31 = .ok (.aload_n 0, 1) := by decide +kernel
theorem dX3_init_32 : decode cX3_init 32 = .ok (.iconst 3, 1) := by decide +kernel
theorem dX3_init_33 : decode cX3_init 33 = .ok (.newarray .int, 2) := by decide +kernel
theorem dX3_init_35 : decode cX3_init 35 = .ok (.putfield 23, 3) := by decide +kernel
theorem dX3_init_38 : decode cX3_init 38 = .ok (.aload_n 0, 1) := by decide +kernel
theorem dX3_init_39 : decode cX3_init 39 = .ok (.bipush 30, 2) := by decide +kernel
theorem dX3_init_41 : decode cX3_init 41 = .ok (.putfield 27, 3) := by decide +kernel
theorem dX3_init_44 : decode cX3_init 44 = .ok (.return_, 1) := by decide +kernel
theorem dX3_asks_0 : decode cX3_asks 0 = .ok (.iload_n 0, 1) := by decide +kernel
theorem dX3_asks_1 : decode cX3_asks 1 = .ok (.ifCond .lt 12, 3) := by decide +kernel
theorem dX3_asks_4 : decode cX3_asks 4 = .ok (.iload_n 0, 1) := by decide +kernel
theorem dX3_asks_5 : decode cX3_asks 5 = .ok (.iconst 3, 1) := by decide +kernel
theorem dX3_asks_6 : decode cX3_asks 6 = .ok (.if_icmp .ge 7, 3) := by decide +kernel
theorem dX3_asks_9 : decode cX3_asks 9 = .ok (.iconst 1, 1) := by decide +kernel
theorem dX3_asks_10 : decode cX3_asks 10 = .ok (.goto 4, 3) := by decide +kernel
theorem dX3_asks_13 : decode cX3_asks 13 = .ok (.iconst 0, 1) := by decide +kernel
theorem dX3_asks_14 : decode cX3_asks 14 = .ok (.ireturn, 1) := by decide +kernel
theorem dX3_size_0 : decode cX3_size 0 = .ok (.aload_n 0, 1) := by decide +kernel
theorem dX3_size_1 : decode cX3_size 1 = .ok (.getfield 31, 3) := by decide +kernel
theorem dX3_size_4 : decode cX3_size 4 = .ok (.ireturn, 1) := by decide +kernel
theorem dX3_matSize_0 : decode cX3_matSize 0 = .ok (.aload_n 0, 1) := by decide +kernel
theorem dX3_matSize_1 : decode cX3_matSize 1 = .ok (.getfield 27, 3) := by decide +kernel
theorem dX3_matSize_4 : decode cX3_matSize 4 = .ok (.ireturn, 1) := by decide +kernel
theorem dX3_spread_0 : decode cX3_spread 0 = .ok (.aload_n 0, 1) := by decide +kernel
theorem dX3_spread_1 : decode cX3_spread 1 = .ok (.getfield 27, 3) := by decide +kernel
theorem dX3_spread_4 : decode cX3_spread 4 = .ok (.istore_n 2, 1) := by decide +kernel
theorem dX3_spread_5 : decode cX3_spread 5 = .ok (.aload_n 0, 1) := by decide +kernel
theorem dX3_spread_6 : decode cX3_spread 6 = .ok (.iload_n 1, 1) := by decide +kernel
theorem dX3_spread_7 : decode cX3_spread 7 = .ok (.putfield 27, 3) := by decide +kernel
theorem dX3_spread_10 : decode cX3_spread 10 = .ok (.iload_n 2, 1) := by decide +kernel
theorem dX3_spread_11 : decode cX3_spread 11 = .ok (.ireturn, 1) := by decide +kernel
theorem dX3_empty_0 : decode cX3_empty 0 = .ok (.aload_n 0, 1) := by decide +kernel
theorem dX3_empty_1 : decode cX3_empty 1 = .ok (.getfield 31, 3) := by decide +kernel
theorem dX3_empty_4 : decode cX3_empty 4 = .ok (.istore_n 1, 1) := by decide +kernel
theorem dX3_empty_5 : decode cX3_empty 5 = .ok (.aload_n 0, 1) := by decide +kernel
theorem dX3_empty_6 : decode cX3_empty 6 = .ok (.iconst 0, 1) := by decide +kernel
theorem dX3_empty_7 : decode cX3_empty 7 = .ok (.putfield 31, 3) := by decide +kernel
theorem dX3_empty_10 : decode cX3_empty 10 = .ok (.iload_n 1, 1) := by decide +kernel
theorem dX3_empty_11 : decode cX3_empty 11 = .ok (.ireturn, 1) := by decide +kernel
theorem dX3_add_0 : decode cX3_add 0 = .ok (.aload_n 0, 1) := by decide +kernel
theorem dX3_add_1 : decode cX3_add 1 = .ok (.getfield 31, 3) := by decide +kernel
theorem dX3_add_4 : decode cX3_add 4 = .ok (.bipush 8, 2) := by decide +kernel
theorem dX3_add_6 : decode cX3_add 6 = .ok (.if_icmp .lt 6, 3) := by decide +kernel
theorem dX3_add_9 : decode cX3_add 9 = .ok (.bipush (-4), 2) := by decide +kernel
theorem dX3_add_11 : decode cX3_add 11 = .ok (.ireturn, 1) := by decide +kernel
theorem dX3_add_12 : decode cX3_add 12 = .ok (.aload_n 0, 1) := by decide +kernel
theorem dX3_add_13 : decode cX3_add 13 = .ok (.getfield 13, 3) := by decide +kernel
theorem dX3_add_16 : decode cX3_add 16 = .ok (.aload_n 0, 1) := by decide +kernel
theorem dX3_add_17 : decode cX3_add 17 = .ok (.getfield 31, 3) := by decide +kernel
theorem dX3_add_20 : decode cX3_add 20 = .ok (.aaload, 1) := by decide +kernel
theorem dX3_add_21 : decode cX3_add 21 = .ok (.iconst 0, 1) := by decide +kernel
theorem dX3_add_22 : decode cX3_add 22 = .ok (.iload_n 1, 1) := by decide +kernel
theorem dX3_add_23 : decode cX3_add 23 = .ok (.iastore, 1) := by decide +kernel
theorem dX3_add_24 : decode cX3_add 24 = .ok (.aload_n 0, 1) := by decide +kernel
theorem dX3_add_25 : decode cX3_add 25 = .ok (.getfield 13, 3) := by decide +kernel
theorem dX3_add_28 : decode cX3_add 28 = .ok (.aload_n 0, 1) := by decide +kernel
theorem dX3_add_29 : decode cX3_add 29 = .ok (.getfield 31, 3) := by decide +kernel
theorem dX3_add_32 : decode cX3_add 32 = .ok (.aaload, 1) := by decide +kernel
theorem dX3_add_33 : decode cX3_add 33 = .ok (.iconst 1, 1) := by decide +kernel
theorem dX3_add_34 : decode cX3_add 34 = .ok (.iload_n 2, 1) := by decide +kernel
theorem dX3_add_35 : decode cX3_add 35 = .ok (.iastore, 1) := by decide +kernel
theorem dX3_add_36 : decode cX3_add 36 = .ok (.aload_n 0, 1) := by decide +kernel
theorem dX3_add_37 : decode cX3_add 37 = .ok (.getfield 13, 3) := by decide +kernel
theorem dX3_add_40 : decode cX3_add 40 = .ok (.aload_n 0, 1) := by decide +kernel
theorem dX3_add_41 : decode cX3_add 41 = .ok (.getfield 31, 3) := by decide +kernel
theorem dX3_add_44 : decode cX3_add 44 = .ok (.aaload, 1) := by decide +kernel
theorem dX3_add_45 : decode cX3_add 45 = .ok (.iconst 2, 1) := by decide +kernel
theorem dX3_add_46 : decode cX3_add 46 = .ok (.iload_n 3, 1) := by decide +kernel
theorem dX3_add_47 : decode cX3_add 47 = .ok (.iastore, 1) := by decide +kernel
theorem dX3_add_48 : decode cX3_add 48 = .ok (.aload_n 0, 1) := by decide +kernel
theorem dX3_add_49 : decode cX3_add 49 = .ok (.getfield 13, 3) := by decide +kernel
theorem dX3_add_52 : decode cX3_add 52 = .ok (.aload_n 0, 1) := by decide +kernel
theorem dX3_add_53 : decode cX3_add 53 = .ok (.getfield 31, 3) := by decide +kernel
theorem dX3_add_56 : decode cX3_add 56 = .ok (.aaload, 1) := by decide +kernel
theorem dX3_add_57 : decode cX3_add 57 = .ok (.iconst 3, 1) := by decide +kernel
theorem dX3_add_58 : decode cX3_add 58 = .ok (.iload 4, 2) := by decide +kernel
theorem dX3_add_60 : decode cX3_add 60 = .ok (.iastore, 1) := by decide +kernel
theorem dX3_add_61 : decode cX3_add 61 = .ok (.aload_n 0, 1) := by decide +kernel
theorem dX3_add_62 : decode cX3_add 62 = .ok (.dup, 1) := by decide +kernel
theorem dX3_add_63 : decode cX3_add 63 = .ok (.getfield 31, 3) := by decide +kernel
theorem dX3_add_66 : decode cX3_add 66 = .ok (.iconst 1, 1) := by decide +kernel
theorem dX3_add_67 : decode cX3_add 67 = .ok (.iadd, 1) := by decide +kernel
theorem dX3_add_68 : decode cX3_add 68 = .ok (.putfield 31, 3) := by decide +kernel
theorem dX3_add_71 : decode cX3_add 71 = .ok (.aload_n 0, 1) := by decide +kernel
theorem dX3_add_72 : decode cX3_add 72 = .ok (.getfield 31, 3) := by decide +kernel
theorem dX3_add_75 : decode cX3_add 75 = .ok (.ireturn, 1) := by decide +kernel
theorem dX3_addPoint_0 : decode cX3_addPoint 0 = .ok (.aload_n 0, 1) := by decide +kernel
theorem dX3_addPoint_1 : decode cX3_addPoint 1 = .ok (.getfield 31, 3) := by decide +kernel
theorem dX3_addPoint_4 : decode cX3_addPoint 4 = .ok (.bipush 8, 2) := by decide +kernel
theorem dX3_addPoint_6 : decode cX3_addPoint 6 = .ok (.if_icmp .lt 6, 3) := by decide +kernel
theorem dX3_addPoint_9 : decode cX3_addPoint 9 = .ok (.bipush (-4), 2) := by decide +kernel
theorem dX3_addPoint_11 : decode cX3_addPoint 11 = .ok (.ireturn, 1) := by decide +kernel
theorem dX3_addPoint_12 : decode cX3_addPoint 12 = .ok (.aload_n 0, 1) := by decide +kernel
theorem dX3_addPoint_13 : decode cX3_addPoint 13 = .ok (.getfield 13, 3) := by decide +kernel
theorem dX3_addPoint_16 : decode cX3_addPoint 16 = .ok (.aload_n 0, 1) := by decide +kernel
theorem dX3_addPoint_17 : decode cX3_addPoint 17 = .ok (.getfield 31, 3) := by decide +kernel
theorem dX3_addPoint_20 : decode cX3_addPoint 20 = .ok (.aaload, 1) := by decide +kernel
theorem dX3_addPoint_21 : decode cX3_addPoint 21 = .ok (.iconst 4, 1) := by decide +kernel
theorem dX3_addPoint_22 : decode cX3_addPoint 22 = .ok (.iload 4, 2) := by decide +kernel
theorem dX3_addPoint_24 : decode cX3_addPoint 24 = .ok (.iastore, 1) := by decide +kernel
theorem dX3_addPoint_25 : decode cX3_addPoint 25 = .ok (.aload_n 0, 1) := by decide +kernel
theorem dX3_addPoint_26 : decode cX3_addPoint 26 = .ok (.getfield 13, 3) := by decide +kernel
theorem dX3_addPoint_29 : decode cX3_addPoint 29 = .ok (.aload_n 0, 1) := by decide +kernel
theorem dX3_addPoint_30 : decode cX3_addPoint 30 = .ok (.getfield 31, 3) := by decide +kernel
theorem dX3_addPoint_33 : decode cX3_addPoint 33 = .ok (.aaload, 1) := by decide +kernel
theorem dX3_addPoint_34 : decode cX3_addPoint 34 = .ok (.iconst 5, 1) := by decide +kernel
theorem dX3_addPoint_35 : decode cX3_addPoint 35 = .ok (.iload 5, 2) := by decide +kernel
theorem dX3_addPoint_37 : decode cX3_addPoint 37 = .ok (.iastore, 1) := by decide +kernel
theorem dX3_addPoint_38 : decode cX3_addPoint 38 = .ok (.aload_n 0, 1) := by decide +kernel
theorem dX3_addPoint_39 : decode cX3_addPoint 39 = .ok (.iconst 0, 1) := by decide +kernel
theorem dX3_addPoint_40 : decode cX3_addPoint 40 = .ok (.iload_n 1, 1) := by decide +kernel
theorem dX3_addPoint_41 : decode cX3_addPoint 41 = .ok (.iload_n 2, 1) := by decide +kernel
theorem dX3_addPoint_42 : decode cX3_addPoint 42 = .ok (.iload_n 3, 1) := by decide +kernel
theorem dX3_addPoint_43 : decode cX3_addPoint 43 = .ok (.invokevirtual 34, 3) := by decide +kernel
theorem dX3_addPoint_46 : decode cX3_addPoint 46 = .ok (.ireturn, 1) := by decide +kernel
theorem dX3_howMany_0 : decode cX3_howMany 0 = .ok (.aload_n 0, 1) := by decide +kernel
theorem dX3_howMany_1 : decode cX3_howMany 1 = .ok (.aload_n 1, 1) := by decide +kernel
theorem dX3_howMany_2 : decode cX3_howMany 2 = .ok (.invokevirtual 38, 3) := by decide +kernel
theorem dX3_howMany_5 : decode cX3_howMany 5 = .ok (.aload_n 0, 1) := by decide +kernel
theorem dX3_howMany_6 : decode cX3_howMany 6 = .ok (.aload_n 0, 1) := by decide +kernel
theorem dX3_howMany_7 : decode cX3_howMany 7 = .ok (.invokevirtual 42, 3) := by decide +kernel
theorem dX3_howMany_10 : decode cX3_howMany 10 = .ok (.iconst (-1), 1) := by decide +kernel
theorem dX3_howMany_11 : decode cX3_howMany 11 = .ok (.invokevirtual 46, 3) := by decide +kernel
theorem dX3_howMany_14 : decode cX3_howMany 14 = .ok (.aload_n 0, 1) := by decide +kernel
theorem dX3_howMany_15 : decode cX3_howMany 15 = .ok (.getfield 50, 3) := by decide +kernel
theorem dX3_howMany_18 : decode cX3_howMany 18 = .ok (.ireturn, 1) := by decide +kernel
theorem dX3_pick_0 : decode cX3_pick 0 = .ok (.aload_n 0, 1) := by decide +kernel
theorem dX3_pick_1 : decode cX3_pick 1 = .ok (.aload_n 1, 1) := by decide +kernel
theorem dX3_pick_2 : decode cX3_pick 2 = .ok (.invokevirtual 38, 3) := by decide +kernel
theorem dX3_pick_5 : decode cX3_pick 5 = .ok (.aload_n 0, 1) := by decide +kernel
theorem dX3_pick_6 : decode cX3_pick 6 = .ok (.aload_n 0, 1) := by decide +kernel
theorem dX3_pick_7 : decode cX3_pick 7 = .ok (.invokevirtual 42, 3) := by decide +kernel
theorem dX3_pick_10 : decode cX3_pick 10 = .ok (.iload_n 2, 1) := by decide +kernel
theorem dX3_pick_11 : decode cX3_pick 11 = .ok (.invokevirtual 46, 3) := by decide +kernel
theorem dX3_pick_14 : decode cX3_pick 14 = .ok (.aload_n 0, 1) := by decide +kernel
theorem dX3_pick_15 : decode cX3_pick 15 = .ok (.getfield 50, 3) := by decide +kernel
theorem dX3_pick_18 : decode cX3_pick 18 = .ok (.iload_n 2, 1) := by decide +kernel
theorem dX3_pick_19 : decode cX3_pick 19 = .ok (.if_icmp .le 19, 3) := by decide +kernel
theorem dX3_pick_22 : decode cX3_pick 22 = .ok (.iload_n 3, 1) := by decide +kernel
theorem dX3_pick_23 : decode cX3_pick 23 = .ok (.invokestatic 53, 3) := by decide +kernel
theorem dX3_pick_26 : decode cX3_pick 26 = .ok (.ifCond .eq 12, 3) := by decide +kernel
theorem dX3_pick_29 : decode cX3_pick 29 = .ok (.aload_n 0, 1) := by decide +kernel
theorem dX3_pick_30 : decode cX3_pick 30 = .ok (.getfield 23, 3) := by decide +kernel
theorem dX3_pick_33 : decode cX3_pick 33 = .ok (.iload_n 3, 1) := by decide +kernel
theorem dX3_pick_34 : decode cX3_pick 34 = .ok (.iaload, 1) := by decide +kernel
theorem dX3_pick_35 : decode cX3_pick 35 = .ok (.goto 4, 3) := by decide +kernel
theorem dX3_pick_38 : decode cX3_pick 38 = .ok (.iconst (-1), 1) := by decide +kernel
theorem dX3_pick_39 : decode cX3_pick 39 = .ok (.ireturn, 1) := by decide +kernel
theorem dX3_certain_0 : decode cX3_certain 0 = .ok (.aload_n 0, 1) := by decide +kernel
theorem dX3_certain_1 : decode cX3_certain 1 = .ok (.aload_n 1, 1) := by decide +kernel
theorem dX3_certain_2 : decode cX3_certain 2 = .ok (.invokevirtual 38, 3) := by decide +kernel
theorem dX3_certain_5 : decode cX3_certain 5 = .ok (.aload_n 0, 1) := by decide +kernel
theorem dX3_certain_6 : decode cX3_certain 6 = .ok (.aload_n 0, 1) := by decide +kernel
theorem dX3_certain_7 : decode cX3_certain 7 = .ok (.invokevirtual 42, 3) := by decide +kernel
theorem dX3_certain_10 : decode cX3_certain 10 = .ok (.iconst (-1), 1) := by decide +kernel
theorem dX3_certain_11 : decode cX3_certain 11 = .ok (.invokevirtual 46, 3) := by decide +kernel
theorem dX3_certain_14 : decode cX3_certain 14 = .ok (.aload_n 0, 1) := by decide +kernel
theorem dX3_certain_15 : decode cX3_certain 15 = .ok (.getfield 50, 3) := by decide +kernel
theorem dX3_certain_18 : decode cX3_certain 18 = .ok (.ifCond .eq 10, 3) := by decide +kernel
theorem dX3_certain_21 : decode cX3_certain 21 = .ok (.iload_n 2, 1) := by decide +kernel
theorem dX3_certain_22 : decode cX3_certain 22 = .ok (.invokestatic 53, 3) := by decide +kernel
theorem dX3_certain_25 : decode cX3_certain 25 = .ok (.ifCond .ne 6, 3) := by decide +kernel
theorem dX3_certain_28 : decode cX3_certain 28 = .ok (.bipush (-3), 2) := by decide +kernel
theorem dX3_certain_30 : decode cX3_certain 30 = .ok (.ireturn, 1) := by decide +kernel
theorem dX3_certain_31 : decode cX3_certain 31 = .ok (.aload_n 0, 1) := by decide +kernel
theorem dX3_certain_32 : decode cX3_certain 32 = .ok (.getfield 20, 3) := by decide +kernel
theorem dX3_certain_35 : decode cX3_certain 35 = .ok (.iload_n 2, 1) := by decide +kernel
theorem dX3_certain_36 : decode cX3_certain 36 = .ok (.laload, 1) := by decide +kernel
theorem dX3_certain_37 : decode cX3_certain 37 = .ok (.invokestatic 57, 3) := by decide +kernel
theorem dX3_certain_40 : decode cX3_certain 40 = .ok (.iconst 1, 1) := by decide +kernel
theorem dX3_certain_41 : decode cX3_certain 41 = .ok (.if_icmp .ne 16, 3) := by decide +kernel
theorem dX3_certain_44 : decode cX3_certain 44 = .ok (.aload_n 0, 1) := by decide +kernel
theorem dX3_certain_45 : decode cX3_certain 45 = .ok (.getfield 20, 3) := by decide +kernel
theorem dX3_certain_48 : decode cX3_certain 48 = .ok (.iload_n 2, 1) := by decide +kernel
theorem dX3_certain_49 : decode cX3_certain 49 = .ok (.laload, 1) := by decide +kernel
theorem dX3_certain_50 : decode cX3_certain 50 = .ok (.iconst 0, 1) := by decide +kernel
theorem dX3_certain_51 : decode cX3_certain 51 = .ok (.invokestatic 63, 3) := by decide +kernel
theorem dX3_certain_54 : decode cX3_certain 54 = .ok (.goto 4, 3) := by decide +kernel
theorem dX3_certain_57 : decode cX3_certain 57 = .ok (.iconst (-1), 1) := by decide +kernel
theorem dX3_certain_58 : decode cX3_certain 58 = .ok (.ireturn, 1) := by decide +kernel
theorem dX3_leastWithout_0 : decode cX3_leastWithout 0 = .ok (.aload_n 0, 1) := by decide +kernel
theorem dX3_leastWithout_1 : decode cX3_leastWithout 1 = .ok (.aload_n 1, 1) := by decide +kernel
theorem dX3_leastWithout_2 : decode cX3_leastWithout 2 = .ok (.invokevirtual 38, 3) := by decide +kernel
theorem dX3_leastWithout_5 : decode cX3_leastWithout 5 = .ok (.aload_n 0, 1) := by decide +kernel
theorem dX3_leastWithout_6 : decode cX3_leastWithout 6 = .ok (.invokevirtual 42, 3) := by decide +kernel
theorem dX3_leastWithout_9 : decode cX3_leastWithout 9 = .ok (.istore_n 2, 1) := by decide +kernel
theorem dX3_leastWithout_10 : decode cX3_leastWithout 10 = .ok (.aload_n 0, 1) := by decide +kernel
theorem dX3_leastWithout_11 : decode cX3_leastWithout 11 = .ok (.iload_n 2, 1) := by decide +kernel
theorem dX3_leastWithout_12 : decode cX3_leastWithout 12 = .ok (.invokevirtual 67, 3) := by decide +kernel
theorem dX3_leastWithout_15 : decode cX3_leastWithout 15 = .ok (.ifCond .eq 5, 3) := by decide +kernel
theorem dX3_leastWithout_18 : decode cX3_leastWithout 18 = .ok (.iconst 0, 1) := by decide +kernel
theorem dX3_leastWithout_19 : decode cX3_leastWithout 19 = .ok (.ireturn, 1) := by decide +kernel
theorem dX3_leastWithout_20 : decode cX3_leastWithout 20 = .ok (.iconst 1, 1) := by decide +kernel
theorem dX3_leastWithout_21 : decode cX3_leastWithout 21 = .ok (.istore_n 3, 1) := by decide +kernel
theorem dX3_leastWithout_22 : decode cX3_leastWithout 22 = .ok (.iload_n 3, 1) := by decide +kernel
theorem dX3_leastWithout_23 : decode cX3_leastWithout 23 = .ok (.aload_n 0, 1) := by decide +kernel
theorem dX3_leastWithout_24 : decode cX3_leastWithout 24 = .ok (.getfield 31, 3) := by decide +kernel
theorem dX3_leastWithout_27 : decode cX3_leastWithout 27 = .ok (.if_icmp .ge 45, 3) := by decide +kernel
theorem dX3_leastWithout_30 : decode cX3_leastWithout 30 = .ok (.iconst 1, 1) := by decide +kernel
theorem dX3_leastWithout_31 : decode cX3_leastWithout 31 = .ok (.istore 4, 2) := by decide +kernel
theorem dX3_leastWithout_33 : decode cX3_leastWithout 33 = .ok (.iload 4, 2) := by decide +kernel
theorem dX3_leastWithout_35 : decode cX3_leastWithout 35 = .ok (.iload_n 2, 1) := by decide +kernel
theorem dX3_leastWithout_36 : decode cX3_leastWithout 36 = .ok (.if_icmp .ge 30, 3) := by decide +kernel
theorem dX3_leastWithout_39 : decode cX3_leastWithout 39 = .ok (.iload 4, 2) := by decide +kernel
theorem dX3_leastWithout_41 : decode cX3_leastWithout 41 = .ok (.invokestatic 70, 3) := by decide +kernel
theorem dX3_leastWithout_44 : decode cX3_leastWithout 44 = .ok (.iload_n 3, 1) := by decide +kernel
theorem dX3_leastWithout_45 : decode cX3_leastWithout 45 = .ok (.if_icmp .ne 15, 3) := by decide +kernel
theorem dX3_leastWithout_48 : decode cX3_leastWithout 48 = .ok (.aload_n 0, 1) := by decide +kernel
theorem dX3_leastWithout_49 : decode cX3_leastWithout 49 = .ok (.iload 4, 2) := by decide +kernel
theorem dX3_leastWithout_51 : decode cX3_leastWithout 51 = .ok (.invokevirtual 67, 3) := by decide +kernel
theorem dX3_leastWithout_54 : decode cX3_leastWithout 54 = .ok (.ifCond .ne 6, 3) := by decide +kernel
theorem dX3_leastWithout_57 : decode cX3_leastWithout 57 = .ok (.iload 4, 2) := by decide +kernel
theorem dX3_leastWithout_59 : decode cX3_leastWithout 59 = .ok (.ireturn, 1) := by decide +kernel
theorem dX3_leastWithout_60 : decode cX3_leastWithout 60 = .ok (.iinc 4 1, 3) := by decide +kernel
theorem dX3_leastWithout_63 : decode cX3_leastWithout 63 = .ok (.goto (-30), 3) := by decide +kernel
theorem dX3_leastWithout_66 : decode cX3_leastWithout 66 = .ok (.iinc 3 1, 3) := by decide +kernel
theorem dX3_leastWithout_69 : decode cX3_leastWithout 69 = .ok (.goto (-47), 3) := by decide +kernel
theorem dX3_leastWithout_72 : decode cX3_leastWithout 72 = .ok (.iload_n 2, 1) := by decide +kernel
theorem dX3_leastWithout_73 : decode cX3_leastWithout 73 = .ok (.ireturn, 1) := by decide +kernel
theorem dX3_allClues_0 : decode cX3_allClues 0 = .ok (.iconst 1, 1) := by decide +kernel
theorem dX3_allClues_1 : decode cX3_allClues 1 = .ok (.aload_n 0, 1) := by decide +kernel
theorem dX3_allClues_2 : decode cX3_allClues 2 = .ok (.getfield 31, 3) := by decide +kernel
theorem dX3_allClues_5 : decode cX3_allClues 5 = .ok (.ishl, 1) := by decide +kernel
theorem dX3_allClues_6 : decode cX3_allClues 6 = .ok (.iconst 1, 1) := by decide +kernel
theorem dX3_allClues_7 : decode cX3_allClues 7 = .ok (.isub, 1) := by decide +kernel
theorem dX3_allClues_8 : decode cX3_allClues 8 = .ok (.ireturn, 1) := by decide +kernel
theorem dX3_hasSolution_0 : decode cX3_hasSolution 0 = .ok (.aload_n 0, 1) := by decide +kernel
theorem dX3_hasSolution_1 : decode cX3_hasSolution 1 = .ok (.iload_n 1, 1) := by decide +kernel
theorem dX3_hasSolution_2 : decode cX3_hasSolution 2 = .ok (.iconst 0, 1) := by decide +kernel
theorem dX3_hasSolution_3 : decode cX3_hasSolution 3 = .ok (.invokevirtual 46, 3) := by decide +kernel
theorem dX3_hasSolution_6 : decode cX3_hasSolution 6 = .ok (.aload_n 0, 1) := by decide +kernel
theorem dX3_hasSolution_7 : decode cX3_hasSolution 7 = .ok (.getfield 50, 3) := by decide +kernel
theorem dX3_hasSolution_10 : decode cX3_hasSolution 10 = .ok (.ifCond .le 7, 3) := by decide +kernel
theorem dX3_hasSolution_13 : decode cX3_hasSolution 13 = .ok (.iconst 1, 1) := by decide +kernel
theorem dX3_hasSolution_14 : decode cX3_hasSolution 14 = .ok (.goto 4, 3) := by decide +kernel
theorem dX3_hasSolution_17 : decode cX3_hasSolution 17 = .ok (.iconst 0, 1) := by decide +kernel
theorem dX3_hasSolution_18 : decode cX3_hasSolution 18 = .ok (.ireturn, 1) := by decide +kernel
theorem dX3_prepare_0 : decode cX3_prepare 0 = .ok (.iconst 0, 1) := by decide +kernel
theorem dX3_prepare_1 : decode cX3_prepare 1 = .ok (.istore_n 2, 1) := by decide +kernel
theorem dX3_prepare_2 : decode cX3_prepare 2 = .ok (.iload_n 2, 1) := by decide +kernel
theorem dX3_prepare_3 : decode cX3_prepare 3 = .ok (.aload_n 0, 1) := by decide +kernel
theorem dX3_prepare_4 : decode cX3_prepare 4 = .ok (.getfield 31, 3) := by decide +kernel
theorem dX3_prepare_7 : decode cX3_prepare 7 = .ok (.if_icmp .ge 64, 3) := by decide +kernel
theorem dX3_prepare_10 : decode cX3_prepare 10 = .ok (.iload_n 2, 1) := by decide +kernel
theorem dX3_prepare_11 : decode cX3_prepare 11 = .ok (.bipush 8, 2) := by decide +kernel
theorem dX3_prepare_13 : decode cX3_prepare 13 = .ok (.if_icmp .ge 58, 3) := by decide +kernel
theorem dX3_prepare_16 : decode cX3_prepare 16 = .ok (.aload_n 0, 1) := by decide +kernel
theorem dX3_prepare_17 : decode cX3_prepare 17 = .ok (.getfield 16, 3) := by decide +kernel
theorem dX3_prepare_20 : decode cX3_prepare 20 = .ok (.iload_n 2, 1) := by decide +kernel
theorem dX3_prepare_21 : decode cX3_prepare 21 = .ok (.lconst 0, 1) := by decide +kernel
theorem dX3_prepare_22 : decode cX3_prepare 22 = .ok (.lastore, 1) := by decide +kernel
theorem dX3_prepare_23 : decode cX3_prepare 23 = .ok (.iconst 1, 1) := by decide +kernel
theorem dX3_prepare_24 : decode cX3_prepare 24 = .ok (.istore_n 3, 1) := by decide +kernel
theorem dX3_prepare_25 : decode cX3_prepare 25 = .ok (.iload_n 3, 1) := by decide +kernel
theorem dX3_prepare_26 : decode cX3_prepare 26 = .ok (.aload_n 0, 1) := by decide +kernel
theorem dX3_prepare_27 : decode cX3_prepare 27 = .ok (.getfield 27, 3) := by decide +kernel
theorem dX3_prepare_30 : decode cX3_prepare 30 = .ok (.if_icmp .gt 35, 3) := by decide +kernel
theorem dX3_prepare_33 : decode cX3_prepare 33 = .ok (.aload_n 0, 1) := by decide +kernel
theorem dX3_prepare_34 : decode cX3_prepare 34 = .ok (.getfield 13, 3) := by decide +kernel
theorem dX3_prepare_37 : decode cX3_prepare 37 = .ok (.iload_n 2, 1) := by decide +kernel
theorem dX3_prepare_38 : decode cX3_prepare 38 = .ok (.aaload, 1) := by decide +kernel
theorem dX3_prepare_39 : decode cX3_prepare 39 = .ok (.aload_n 1, 1) := by decide +kernel
theorem dX3_prepare_40 : decode cX3_prepare 40 = .ok (.iload_n 3, 1) := by decide +kernel
theorem dX3_prepare_41 : decode cX3_prepare 41 = .ok (.invokestatic 75, 3) := by decide +kernel
theorem dX3_prepare_44 : decode cX3_prepare 44 = .ok (.ifCond .eq 15, 3) := by decide +kernel
theorem dX3_prepare_47 : decode cX3_prepare 47 = .ok (.aload_n 0, 1) := by decide +kernel
theorem dX3_prepare_48 : decode cX3_prepare 48 = .ok (.getfield 16, 3) := by decide +kernel
theorem dX3_prepare_51 : decode cX3_prepare 51 = .ok (.iload_n 2, 1) := by decide +kernel
theorem dX3_prepare_52 : decode cX3_prepare 52 = .ok (.dup2, 1) := by decide +kernel
theorem dX3_prepare_53 : decode cX3_prepare 53 = .ok (.laload, 1) := by decide +kernel
theorem dX3_prepare_54 : decode cX3_prepare 54 = .ok (.lconst 1, 1) := by decide +kernel
theorem dX3_prepare_55 : decode cX3_prepare 55 = .ok (.iload_n 3, 1) := by decide +kernel
theorem dX3_prepare_56 : decode cX3_prepare 56 = .ok (.lshl, 1) := by decide +kernel
theorem dX3_prepare_57 : decode cX3_prepare 57 = .ok (.lor, 1) := by decide +kernel
theorem dX3_prepare_58 : decode cX3_prepare 58 = .ok (.lastore, 1) := by decide +kernel
theorem dX3_prepare_59 : decode cX3_prepare 59 = .ok (.iinc 3 1, 3) := by decide +kernel
theorem dX3_prepare_62 : decode cX3_prepare 62 = .ok (.goto (-37), 3) := by decide +kernel
theorem dX3_prepare_65 : decode cX3_prepare 65 = .ok (.iinc 2 1, 3) := by decide +kernel
theorem dX3_prepare_68 : decode cX3_prepare 68 = .ok (.goto (-66), 3) := by decide +kernel
theorem dX3_prepare_71 : decode cX3_prepare 71 = .ok (.return_, 1) := by decide +kernel
theorem dX3_allows_0 : decode cX3_allows 0 = .ok (.aload_n 0, 1) := by decide +kernel
theorem dX3_allows_1 : decode cX3_allows 1 = .ok (.iconst 0, 1) := by decide +kernel
theorem dX3_allows_2 : decode cX3_allows 2 = .ok (.iaload, 1) := by decide +kernel
theorem dX3_allows_3 : decode cX3_allows 3 = .ok (.ifCond .ne 21, 3) := by decide +kernel
theorem dX3_allows_6 : decode cX3_allows 6 = .ok (.aload_n 1, 1) := by decide +kernel
theorem dX3_allows_7 : decode cX3_allows 7 = .ok (.aload_n 0, 1) := by decide +kernel
theorem dX3_allows_8 : decode cX3_allows 8 = .ok (.iconst 2, 1) := by decide +kernel
theorem dX3_allows_9 : decode cX3_allows 9 = .ok (.iaload, 1) := by decide +kernel
theorem dX3_allows_10 : decode cX3_allows 10 = .ok (.aload_n 0, 1) := by decide +kernel
theorem dX3_allows_11 : decode cX3_allows 11 = .ok (.iconst 3, 1) := by decide +kernel
theorem dX3_allows_12 : decode cX3_allows 12 = .ok (.iaload, 1) := by decide +kernel
theorem dX3_allows_13 : decode cX3_allows 13 = .ok (.aload_n 0, 1) := by decide +kernel
theorem dX3_allows_14 : decode cX3_allows 14 = .ok (.iconst 4, 1) := by decide +kernel
theorem dX3_allows_15 : decode cX3_allows 15 = .ok (.iaload, 1) := by decide +kernel
theorem dX3_allows_16 : decode cX3_allows 16 = .ok (.aload_n 0, 1) := by decide +kernel
theorem dX3_allows_17 : decode cX3_allows 17 = .ok (.iconst 5, 1) := by decide +kernel
theorem dX3_allows_18 : decode cX3_allows 18 = .ok (.iaload, 1) := by decide +kernel
theorem dX3_allows_19 : decode cX3_allows 19 = .ok (.iload_n 2, 1) := by decide +kernel
theorem dX3_allows_20 : decode cX3_allows 20 = .ok (.invokevirtual 79, 3) := by decide +kernel
theorem dX3_allows_23 : decode cX3_allows 23 = .ok (.ireturn, 1) := by decide +kernel
theorem dX3_allows_24 : decode cX3_allows 24 = .ok (.aload_n 0, 1) := by decide +kernel
theorem dX3_allows_25 : decode cX3_allows 25 = .ok (.iconst 0, 1) := by decide +kernel
theorem dX3_allows_26 : decode cX3_allows 26 = .ok (.iaload, 1) := by decide +kernel
theorem dX3_allows_27 : decode cX3_allows 27 = .ok (.iconst 3, 1) := by decide +kernel
theorem dX3_allows_28 : decode cX3_allows 28 = .ok (.if_icmp .ne 16, 3) := by decide +kernel
theorem dX3_allows_31 : decode cX3_allows 31 = .ok (.iload_n 2, 1) := by decide +kernel
theorem dX3_allows_32 : decode cX3_allows 32 = .ok (.aload_n 0, 1) := by decide +kernel
theorem dX3_allows_33 : decode cX3_allows 33 = .ok (.iconst 2, 1) := by decide +kernel
theorem dX3_allows_34 : decode cX3_allows 34 = .ok (.iaload, 1) := by decide +kernel
theorem dX3_allows_35 : decode cX3_allows 35 = .ok (.aload_n 0, 1) := by decide +kernel
theorem dX3_allows_36 : decode cX3_allows 36 = .ok (.iconst 3, 1) := by decide +kernel
theorem dX3_allows_37 : decode cX3_allows 37 = .ok (.iaload, 1) := by decide +kernel
theorem dX3_allows_38 : decode cX3_allows 38 = .ok (.invokestatic 85, 3) := by decide +kernel
theorem dX3_allows_41 : decode cX3_allows 41 = .ok (.ifCond .eq 7, 3) := by decide +kernel
theorem dX3_allows_44 : decode cX3_allows 44 = .ok (.iconst 1, 1) := by decide +kernel
theorem dX3_allows_45 : decode cX3_allows 45 = .ok (.goto 4, 3) := by decide +kernel
theorem dX3_allows_48 : decode cX3_allows 48 = .ok (.iconst 0, 1) := by decide +kernel
theorem dX3_allows_49 : decode cX3_allows 49 = .ok (.ireturn, 1) := by decide +kernel
theorem dX3_inSet_0 : decode cX3_inSet 0 = .ok (.iload_n 0, 1) := by decide +kernel
theorem dX3_inSet_1 : decode cX3_inSet 1 = .ok (.iload_n 1, 1) := by decide +kernel
theorem dX3_inSet_2 : decode cX3_inSet 2 = .ok (.ishr, 1) := by decide +kernel
theorem dX3_inSet_3 : decode cX3_inSet 3 = .ok (.iconst 1, 1) := by decide +kernel
theorem dX3_inSet_4 : decode cX3_inSet 4 = .ok (.iand, 1) := by decide +kernel
theorem dX3_inSet_5 : decode cX3_inSet 5 = .ok (.iconst 1, 1) := by decide +kernel
theorem dX3_inSet_6 : decode cX3_inSet 6 = .ok (.if_icmp .ne 7, 3) := by decide +kernel
theorem dX3_inSet_9 : decode cX3_inSet 9 = .ok (.iconst 1, 1) := by decide +kernel
theorem dX3_inSet_10 : decode cX3_inSet 10 = .ok (.goto 4, 3) := by decide +kernel
theorem dX3_inSet_13 : decode cX3_inSet 13 = .ok (.iconst 0, 1) := by decide +kernel
theorem dX3_inSet_14 : decode cX3_inSet 14 = .ok (.ireturn, 1) := by decide +kernel
theorem dX3_isAmong_0 : decode cX3_isAmong 0 = .ok (.lload_n 0, 1) := by decide +kernel
theorem dX3_isAmong_1 : decode cX3_isAmong 1 = .ok (.iload_n 2, 1) := by decide +kernel
theorem dX3_isAmong_2 : decode cX3_isAmong 2 = .ok (.lshr, 1) := by decide +kernel
theorem dX3_isAmong_3 : decode cX3_isAmong 3 = .ok (.lconst 1, 1) := by decide +kernel
theorem dX3_isAmong_4 : decode cX3_isAmong 4 = .ok (.land, 1) := by decide +kernel
theorem dX3_isAmong_5 : decode cX3_isAmong 5 = .ok (.lconst 1, 1) := by decide +kernel
theorem dX3_isAmong_6 : decode cX3_isAmong 6 = .ok (.lcmp, 1) := by decide +kernel
theorem dX3_isAmong_7 : decode cX3_isAmong 7 = .ok (.ifCond .ne 7, 3) := by decide +kernel
theorem dX3_isAmong_10 : decode cX3_isAmong 10 = .ok (.iconst 1, 1) := by decide +kernel
theorem dX3_isAmong_11 : decode cX3_isAmong 11 = .ok (.goto 4, 3) := by decide +kernel
theorem dX3_isAmong_14 : decode cX3_isAmong 14 = .ok (.iconst 0, 1) := by decide +kernel
theorem dX3_isAmong_15 : decode cX3_isAmong 15 = .ok (.ireturn, 1) := by decide +kernel
theorem dX3_alone_0 : decode cX3_alone 0 = .ok (.lconst 1, 1) := by decide +kernel
theorem dX3_alone_1 : decode cX3_alone 1 = .ok (.aload_n 0, 1) := by decide +kernel
theorem dX3_alone_2 : decode cX3_alone 2 = .ok (.getfield 27, 3) := by decide +kernel
theorem dX3_alone_5 : decode cX3_alone 5 = .ok (.iconst 1, 1) := by decide +kernel
theorem dX3_alone_6 : decode cX3_alone 6 = .ok (.iadd, 1) := by decide +kernel
theorem dX3_alone_7 : decode cX3_alone 7 = .ok (.lshl, 1) := by decide +kernel
theorem dX3_alone_8 : decode cX3_alone 8 = .ok (.ldc2_w 89, 3) := by decide +kernel
theorem dX3_alone_11 : decode cX3_alone 11 = .ok (.lsub, 1) := by decide +kernel
theorem dX3_alone_12 : decode cX3_alone 12 = .ok (.lstore_n 3, 1) := by decide +kernel
theorem dX3_alone_13 : decode cX3_alone 13 = .ok (.iconst 0, 1) := by decide +kernel
theorem dX3_alone_14 : decode cX3_alone 14 = .ok (.istore 5, 2) := by decide +kernel
theorem dX3_alone_16 : decode cX3_alone 16 = .ok (.iload 5, 2) := by decide +kernel
theorem dX3_alone_18 : decode cX3_alone 18 = .ok (.aload_n 0, 1) := by decide +kernel
theorem dX3_alone_19 : decode cX3_alone 19 = .ok (.getfield 31, 3) := by decide +kernel
theorem dX3_alone_22 : decode cX3_alone 22 = .ok (.if_icmp .ge 85, 3) := by decide +kernel
theorem dX3_alone_25 : decode cX3_alone 25 = .ok (.iload 5, 2) := by decide +kernel
theorem dX3_alone_27 : decode cX3_alone 27 = .ok (.bipush 8, 2) := by decide +kernel
theorem dX3_alone_29 : decode cX3_alone 29 = .ok (.if_icmp .ge 78, 3) := by decide +kernel
theorem dX3_alone_32 : decode cX3_alone 32 = .ok (.aload_n 0, 1) := by decide +kernel
theorem dX3_alone_33 : decode cX3_alone 33 = .ok (.getfield 13, 3) := by decide +kernel
theorem dX3_alone_36 : decode cX3_alone 36 = .ok (.iload 5, 2) := by decide +kernel
theorem dX3_alone_38 : decode cX3_alone 38 = .ok (.aaload, 1) := by decide +kernel
theorem dX3_alone_39 : decode cX3_alone 39 = .ok (.iconst 0, 1) := by decide +kernel
theorem dX3_alone_40 : decode cX3_alone 40 = .ok (.iaload, 1) := by decide +kernel
theorem dX3_alone_41 : decode cX3_alone 41 = .ok (.ifCond .eq 16, 3) := by decide +kernel
theorem dX3_alone_44 : decode cX3_alone 44 = .ok (.aload_n 0, 1) := by decide +kernel
theorem dX3_alone_45 : decode cX3_alone 45 = .ok (.getfield 13, 3) := by decide +kernel
theorem dX3_alone_48 : decode cX3_alone 48 = .ok (.iload 5, 2) := by decide +kernel
theorem dX3_alone_50 : decode cX3_alone 50 = .ok (.aaload, 1) := by decide +kernel
theorem dX3_alone_51 : decode cX3_alone 51 = .ok (.iconst 0, 1) := by decide +kernel
theorem dX3_alone_52 : decode cX3_alone 52 = .ok (.iaload, 1) := by decide +kernel
theorem dX3_alone_53 : decode cX3_alone 53 = .ok (.iconst 3, 1) := by decide +kernel
theorem dX3_alone_54 : decode cX3_alone 54 = .ok (.if_icmp .ne 7, 3) := by decide +kernel
theorem dX3_alone_57 : decode cX3_alone 57 = .ok (.iconst 1, 1) := by decide +kernel
theorem dX3_alone_58 : decode cX3_alone 58 = .ok (.goto 4, 3) := by decide +kernel
theorem dX3_alone_61 : decode cX3_alone 61 = .ok (.iconst 0, 1) := by decide +kernel
theorem dX3_alone_62 : decode cX3_alone 62 = .ok (.istore 6, 2) := by decide +kernel
theorem dX3_alone_64 : decode cX3_alone 64 = .ok (.iload_n 2, 1) := by decide +kernel
theorem dX3_alone_65 : decode cX3_alone 65 = .ok (.iload 5, 2) := by decide +kernel
theorem dX3_alone_67 : decode cX3_alone 67 = .ok (.invokestatic 91, 3) := by decide +kernel
theorem dX3_alone_70 : decode cX3_alone 70 = .ok (.ifCond .eq 31, 3) := by decide +kernel
theorem dX3_alone_73 : decode cX3_alone 73 = .ok (.iload 6, 2) := by decide +kernel
theorem dX3_alone_75 : decode cX3_alone 75 = .ok (.ifCond .eq 26, 3) := by decide +kernel
theorem dX3_alone_78 : decode cX3_alone 78 = .ok (.aload_n 0, 1) := by decide +kernel
theorem dX3_alone_79 : decode cX3_alone 79 = .ok (.getfield 13, 3) := by decide +kernel
theorem dX3_alone_82 : decode cX3_alone 82 = .ok (.iload 5, 2) := by decide +kernel
theorem dX3_alone_84 : decode cX3_alone 84 = .ok (.aaload, 1) := by decide +kernel
theorem dX3_alone_85 : decode cX3_alone 85 = .ok (.iconst 1, 1) := by decide +kernel
theorem dX3_alone_86 : decode cX3_alone 86 = .ok (.iaload, 1) := by decide +kernel
theorem dX3_alone_87 : decode cX3_alone 87 = .ok (.iload_n 1, 1) := by decide +kernel
theorem dX3_alone_88 : decode cX3_alone 88 = .ok (.if_icmp .ne 13, 3) := by decide +kernel
theorem dX3_alone_91 : decode cX3_alone 91 = .ok (.lload_n 3, 1) := by decide +kernel
theorem dX3_alone_92 : decode cX3_alone 92 = .ok (.aload_n 0, 1) := by decide +kernel
theorem dX3_alone_93 : decode cX3_alone 93 = .ok (.getfield 16, 3) := by decide +kernel
theorem dX3_alone_96 : decode cX3_alone 96 = .ok (.iload 5, 2) := by decide +kernel
theorem dX3_alone_98 : decode cX3_alone 98 = .ok (.laload, 1) := by decide +kernel
theorem dX3_alone_99 : decode cX3_alone 99 = .ok (.land, 1) := by decide +kernel
theorem dX3_alone_100 : decode cX3_alone 100 = .ok (.lstore_n 3, 1) := by decide +kernel
theorem dX3_alone_101 : decode cX3_alone 101 = .ok (.iinc 5 1, 3) := by decide +kernel
theorem dX3_alone_104 : decode cX3_alone 104 = .ok (.goto (-88), 3) := by decide +kernel
theorem dX3_alone_107 : decode cX3_alone 107 = .ok (.lload_n 3, 1) := by decide +kernel
theorem dX3_alone_108 : decode cX3_alone 108 = .ok (.lreturn, 1) := by decide +kernel
theorem dX3_search_0 : decode cX3_search 0 = .ok (.aload_n 0, 1) := by decide +kernel
theorem dX3_search_1 : decode cX3_search 1 = .ok (.iconst 0, 1) := by decide +kernel
theorem dX3_search_2 : decode cX3_search 2 = .ok (.iload_n 1, 1) := by decide +kernel
theorem dX3_search_3 : decode cX3_search 3 = .ok (.invokevirtual 95, 3) := by decide +kernel
theorem dX3_search_6 : decode cX3_search 6 = .ok (.lstore_n 3, 1) := by decide +kernel
theorem dX3_search_7 : decode cX3_search 7 = .ok (.aload_n 0, 1) := by decide +kernel
theorem dX3_search_8 : decode cX3_search 8 = .ok (.iconst 1, 1) := by decide +kernel
theorem dX3_search_9 : decode cX3_search 9 = .ok (.iload_n 1, 1) := by decide +kernel
theorem dX3_search_10 : decode cX3_search 10 = .ok (.invokevirtual 95, 3) := by decide +kernel
theorem dX3_search_13 : decode cX3_search 13 = .ok (.lstore 5, 2) := by decide +kernel
theorem dX3_search_15 : decode cX3_search 15 = .ok (.aload_n 0, 1) := by decide +kernel
theorem dX3_search_16 : decode cX3_search 16 = .ok (.iconst 2, 1) := by decide +kernel
theorem dX3_search_17 : decode cX3_search 17 = .ok (.iload_n 1, 1) := by decide +kernel
theorem dX3_search_18 : decode cX3_search 18 = .ok (.invokevirtual 95, 3) := by decide +kernel
theorem dX3_search_21 : decode cX3_search 21 = .ok (.lstore 7, 2) := by decide +kernel
theorem dX3_search_23 : decode cX3_search 23 = .ok (.aload_n 0, 1) := by decide +kernel
theorem dX3_search_24 : decode cX3_search 24 = .ok (.iconst 0, 1) := by decide +kernel
theorem dX3_search_25 : decode cX3_search 25 = .ok (.putfield 50, 3) := by decide +kernel
theorem dX3_search_28 : decode cX3_search 28 = .ok (.aload_n 0, 1) := by decide +kernel
theorem dX3_search_29 : decode cX3_search 29 = .ok (.getfield 20, 3) := by decide +kernel
theorem dX3_search_32 : decode cX3_search 32 = .ok (.lconst 0, 1) := by decide +kernel
theorem dX3_search_33 : decode cX3_search 33 = .ok (.invokestatic 99, 3) := by decide +kernel
theorem dX3_search_36 : decode cX3_search 36 = .ok (.iconst 1, 1) := by decide +kernel
theorem dX3_search_37 : decode cX3_search 37 = .ok (.istore 9, 2) := by decide +kernel
theorem dX3_search_39 : decode cX3_search 39 = .ok (.iload 9, 2) := by decide +kernel
theorem dX3_search_41 : decode cX3_search 41 = .ok (.aload_n 0, 1) := by decide +kernel
theorem dX3_search_42 : decode cX3_search 42 = .ok (.getfield 27, 3) := by decide +kernel
theorem dX3_search_45 : decode cX3_search 45 = .ok (.if_icmp .gt 78, 3) := by decide +kernel
theorem dX3_search_48 : decode cX3_search 48 = .ok (.iconst 1, 1) := by decide +kernel
theorem dX3_search_49 : decode cX3_search 49 = .ok (.istore 10, 2) := by decide +kernel
theorem dX3_search_51 : decode cX3_search 51 = .ok (.iload 10, 2) := by decide +kernel
theorem dX3_search_53 : decode cX3_search 53 = .ok (.aload_n 0, 1) := by decide +kernel
theorem dX3_search_54 : decode cX3_search 54 = .ok (.getfield 27, 3) := by decide +kernel
theorem dX3_search_57 : decode cX3_search 57 = .ok (.if_icmp .gt 60, 3) := by decide +kernel
theorem dX3_search_60 : decode cX3_search 60 = .ok (.lload_n 3, 1) := by decide +kernel
theorem dX3_search_61 : decode cX3_search 61 = .ok (.iload 9, 2) := by decide +kernel
theorem dX3_search_63 : decode cX3_search 63 = .ok (.invokestatic 105, 3) := by decide +kernel
theorem dX3_search_66 : decode cX3_search 66 = .ok (.ifCond .eq 51, 3) := by decide +kernel
theorem dX3_search_69 : decode cX3_search 69 = .ok (.lload 5, 2) := by decide +kernel
theorem dX3_search_71 : decode cX3_search 71 = .ok (.iload 10, 2) := by decide +kernel
theorem dX3_search_73 : decode cX3_search 73 = .ok (.invokestatic 105, 3) := by decide +kernel
theorem dX3_search_76 : decode cX3_search 76 = .ok (.ifCond .eq 35, 3) := by decide +kernel
theorem dX3_search_79 : decode cX3_search 79 = .ok (.aload_n 0, 1) := by decide +kernel
theorem dX3_search_80 : decode cX3_search 80 = .ok (.getfield 23, 3) := by decide +kernel
theorem dX3_search_83 : decode cX3_search 83 = .ok (.iconst 0, 1) := by decide +kernel
theorem dX3_search_84 : decode cX3_search 84 = .ok (.iload 9, 2) := by decide +kernel
theorem dX3_search_86 : decode cX3_search 86 = .ok (.iastore, 1) := by decide +kernel
theorem dX3_search_87 : decode cX3_search 87 = .ok (.aload_n 0, 1) := by decide +kernel
theorem dX3_search_88 : decode cX3_search 88 = .ok (.getfield 23, 3) := by decide +kernel
theorem dX3_search_91 : decode cX3_search 91 = .ok (.iconst 1, 1) := by decide +kernel
theorem dX3_search_92 : decode cX3_search 92 = .ok (.iload 10, 2) := by decide +kernel
theorem dX3_search_94 : decode cX3_search 94 = .ok (.iastore, 1) := by decide +kernel
theorem dX3_search_95 : decode cX3_search 95 = .ok (.aload_n 0, 1) := by decide +kernel
theorem dX3_search_96 : decode cX3_search 96 = .ok (.aload_n 0, 1) := by decide +kernel
theorem dX3_search_97 : decode cX3_search 97 = .ok (.lload 7, 2) := by decide +kernel
theorem dX3_search_99 : decode cX3_search 99 = .ok (.iload_n 1, 1) := by decide +kernel
theorem dX3_search_100 : decode cX3_search 100 = .ok (.invokevirtual 109, 3) := by decide +kernel
theorem dX3_search_103 : decode cX3_search 103 = .ok (.iload_n 2, 1) := by decide +kernel
theorem dX3_search_104 : decode cX3_search 104 = .ok (.invokevirtual 113, 3) := by decide +kernel
theorem dX3_search_107 : decode cX3_search 107 = .ok (.ifCond .eq 4, 3) := by decide +kernel
theorem dX3_search_110 : decode cX3_search 110 = .ok (.return_, 1) := by decide +kernel
theorem dX3_search_111 : decode cX3_search 111 = .ok (.iinc 10 1, 3) := by decide +kernel
theorem dX3_search_114 : decode cX3_search 114 = .ok (.goto (-63), 3) := by decide +kernel
theorem dX3_search_117 : decode cX3_search 117 = .ok (.iinc 9 1, 3) := by decide +kernel
theorem dX3_search_120 : decode cX3_search 120 = .ok (.goto (-81), 3) := by decide +kernel
theorem dX3_search_123 : decode cX3_search 123 = .ok (.return_, 1) := by decide +kernel
theorem dX3_meet_0 : decode cX3_meet 0 = .ok (.lload_n 1, 1) := by decide +kernel
theorem dX3_meet_1 : decode cX3_meet 1 = .ok (.lconst 0, 1) := by decide +kernel
theorem dX3_meet_2 : decode cX3_meet 2 = .ok (.lcmp, 1) := by decide +kernel
theorem dX3_meet_3 : decode cX3_meet 3 = .ok (.ifCond .ne 5, 3) := by decide +kernel
theorem dX3_meet_6 : decode cX3_meet 6 = .ok (.iconst 0, 1) := by decide +kernel
theorem dX3_meet_7 : decode cX3_meet 7 = .ok (.ireturn, 1) := by decide +kernel
theorem dX3_meet_8 : decode cX3_meet 8 = .ok (.aload_n 0, 1) := by decide +kernel
theorem dX3_meet_9 : decode cX3_meet 9 = .ok (.getfield 50, 3) := by decide +kernel
theorem dX3_meet_12 : decode cX3_meet 12 = .ok (.istore 4, 2) := by decide +kernel
theorem dX3_meet_14 : decode cX3_meet 14 = .ok (.aload_n 0, 1) := by decide +kernel
theorem dX3_meet_15 : decode cX3_meet 15 = .ok (.dup, 1) := by decide +kernel
theorem dX3_meet_16 : decode cX3_meet 16 = .ok (.getfield 50, 3) := by decide +kernel
theorem dX3_meet_19 : decode cX3_meet 19 = .ok (.lload_n 1, 1) := by decide +kernel
theorem dX3_meet_20 : decode cX3_meet 20 = .ok (.invokestatic 57, 3) := by decide +kernel
theorem dX3_meet_23 : decode cX3_meet 23 = .ok (.iadd, 1) := by decide +kernel
theorem dX3_meet_24 : decode cX3_meet 24 = .ok (.putfield 50, 3) := by decide +kernel
theorem dX3_meet_27 : decode cX3_meet 27 = .ok (.aload_n 0, 1) := by decide +kernel
theorem dX3_meet_28 : decode cX3_meet 28 = .ok (.getfield 20, 3) := by decide +kernel
theorem dX3_meet_31 : decode cX3_meet 31 = .ok (.iconst 0, 1) := by decide +kernel
theorem dX3_meet_32 : decode cX3_meet 32 = .ok (.dup2, 1) := by decide +kernel
theorem dX3_meet_33 : decode cX3_meet 33 = .ok (.laload, 1) := by decide +kernel
theorem dX3_meet_34 : decode cX3_meet 34 = .ok (.lconst 1, 1) := by decide +kernel
theorem dX3_meet_35 : decode cX3_meet 35 = .ok (.aload_n 0, 1) := by decide +kernel
theorem dX3_meet_36 : decode cX3_meet 36 = .ok (.getfield 23, 3) := by decide +kernel
theorem dX3_meet_39 : decode cX3_meet 39 = .ok (.iconst 0, 1) := by decide +kernel
theorem dX3_meet_40 : decode cX3_meet 40 = .ok (.iaload, 1) := by decide +kernel
theorem dX3_meet_41 : decode cX3_meet 41 = .ok (.lshl, 1) := by decide +kernel
theorem dX3_meet_42 : decode cX3_meet 42 = .ok (.lor, 1) := by decide +kernel
theorem dX3_meet_43 : decode cX3_meet 43 = .ok (.lastore, 1) := by decide +kernel
theorem dX3_meet_44 : decode cX3_meet 44 = .ok (.aload_n 0, 1) := by decide +kernel
theorem dX3_meet_45 : decode cX3_meet 45 = .ok (.getfield 20, 3) := by decide +kernel
theorem dX3_meet_48 : decode cX3_meet 48 = .ok (.iconst 1, 1) := by decide +kernel
theorem dX3_meet_49 : decode cX3_meet 49 = .ok (.dup2, 1) := by decide +kernel
theorem dX3_meet_50 : decode cX3_meet 50 = .ok (.laload, 1) := by decide +kernel
theorem dX3_meet_51 : decode cX3_meet 51 = .ok (.lconst 1, 1) := by decide +kernel
theorem dX3_meet_52 : decode cX3_meet 52 = .ok (.aload_n 0, 1) := by decide +kernel
theorem dX3_meet_53 : decode cX3_meet 53 = .ok (.getfield 23, 3) := by decide +kernel
theorem dX3_meet_56 : decode cX3_meet 56 = .ok (.iconst 1, 1) := by decide +kernel
theorem dX3_meet_57 : decode cX3_meet 57 = .ok (.iaload, 1) := by decide +kernel
theorem dX3_meet_58 : decode cX3_meet 58 = .ok (.lshl, 1) := by decide +kernel
theorem dX3_meet_59 : decode cX3_meet 59 = .ok (.lor, 1) := by decide +kernel
theorem dX3_meet_60 : decode cX3_meet 60 = .ok (.lastore, 1) := by decide +kernel
theorem dX3_meet_61 : decode cX3_meet 61 = .ok (.aload_n 0, 1) := by decide +kernel
theorem dX3_meet_62 : decode cX3_meet 62 = .ok (.getfield 20, 3) := by decide +kernel
theorem dX3_meet_65 : decode cX3_meet 65 = .ok (.iconst 2, 1) := by decide +kernel
theorem dX3_meet_66 : decode cX3_meet 66 = .ok (.dup2, 1) := by decide +kernel
theorem dX3_meet_67 : decode cX3_meet 67 = .ok (.laload, 1) := by decide +kernel
theorem dX3_meet_68 : decode cX3_meet 68 = .ok (.lload_n 1, 1) := by decide +kernel
theorem dX3_meet_69 : decode cX3_meet 69 = .ok (.lor, 1) := by decide +kernel
theorem dX3_meet_70 : decode cX3_meet 70 = .ok (.lastore, 1) := by decide +kernel
theorem dX3_meet_71 : decode cX3_meet 71 = .ok (.iload_n 3, 1) := by decide +kernel
theorem dX3_meet_72 : decode cX3_meet 72 = .ok (.ifCond .lt 11, 3) := by decide +kernel
theorem dX3_meet_75 : decode cX3_meet 75 = .ok (.aload_n 0, 1) := by decide +kernel
theorem dX3_meet_76 : decode cX3_meet 76 = .ok (.getfield 50, 3) := by decide +kernel
theorem dX3_meet_79 : decode cX3_meet 79 = .ok (.iload_n 3, 1) := by decide +kernel
theorem dX3_meet_80 : decode cX3_meet 80 = .ok (.if_icmp .gt 5, 3) := by decide +kernel
theorem dX3_meet_83 : decode cX3_meet 83 = .ok (.iconst 0, 1) := by decide +kernel
theorem dX3_meet_84 : decode cX3_meet 84 = .ok (.ireturn, 1) := by decide +kernel
theorem dX3_meet_85 : decode cX3_meet 85 = .ok (.aload_n 0, 1) := by decide +kernel
theorem dX3_meet_86 : decode cX3_meet 86 = .ok (.getfield 23, 3) := by decide +kernel
theorem dX3_meet_89 : decode cX3_meet 89 = .ok (.iconst 2, 1) := by decide +kernel
theorem dX3_meet_90 : decode cX3_meet 90 = .ok (.lload_n 1, 1) := by decide +kernel
theorem dX3_meet_91 : decode cX3_meet 91 = .ok (.iload_n 3, 1) := by decide +kernel
theorem dX3_meet_92 : decode cX3_meet 92 = .ok (.iload 4, 2) := by decide +kernel
theorem dX3_meet_94 : decode cX3_meet 94 = .ok (.isub, 1) := by decide +kernel
theorem dX3_meet_95 : decode cX3_meet 95 = .ok (.invokestatic 63, 3) := by decide +kernel
theorem dX3_meet_98 : decode cX3_meet 98 = .ok (.iastore, 1) := by decide +kernel
theorem dX3_meet_99 : decode cX3_meet 99 = .ok (.iconst 1, 1) := by decide +kernel
theorem dX3_meet_100 : decode cX3_meet 100 = .ok (.ireturn, 1) := by decide +kernel
theorem dX3_nth_0 : decode cX3_nth 0 = .ok (.iconst 0, 1) := by decide +kernel
theorem dX3_nth_1 : decode cX3_nth 1 = .ok (.istore_n 3, 1) := by decide +kernel
theorem dX3_nth_2 : decode cX3_nth 2 = .ok (.iconst 1, 1) := by decide +kernel
theorem dX3_nth_3 : decode cX3_nth 3 = .ok (.istore 4, 2) := by decide +kernel
theorem dX3_nth_5 : decode cX3_nth 5 = .ok (.iload 4, 2) := by decide +kernel
theorem dX3_nth_7 : decode cX3_nth 7 = .ok (.bipush 40, 2) := by decide +kernel
theorem dX3_nth_9 : decode cX3_nth 9 = .ok (.if_icmp .gt 29, 3) := by decide +kernel
theorem dX3_nth_12 : decode cX3_nth 12 = .ok (.lload_n 0, 1) := by decide +kernel
theorem dX3_nth_13 : decode cX3_nth 13 = .ok (.iload 4, 2) := by decide +kernel
theorem dX3_nth_15 : decode cX3_nth 15 = .ok (.invokestatic 105, 3) := by decide +kernel
theorem dX3_nth_18 : decode cX3_nth 18 = .ok (.ifCond .eq 14, 3) := by decide +kernel
theorem dX3_nth_21 : decode cX3_nth 21 = .ok (.iload_n 3, 1) := by decide +kernel
theorem dX3_nth_22 : decode cX3_nth 22 = .ok (.iload_n 2, 1) := by decide +kernel
theorem dX3_nth_23 : decode cX3_nth 23 = .ok (.if_icmp .ne 6, 3) := by decide +kernel
theorem dX3_nth_26 : decode cX3_nth 26 = .ok (.iload 4, 2) := by decide +kernel
theorem dX3_nth_28 : decode cX3_nth 28 = .ok (.ireturn, 1) := by decide +kernel
theorem dX3_nth_29 : decode cX3_nth 29 = .ok (.iinc 3 1, 3) := by decide +kernel
theorem dX3_nth_32 : decode cX3_nth 32 = .ok (.iinc 4 1, 3) := by decide +kernel
theorem dX3_nth_35 : decode cX3_nth 35 = .ok (.goto (-30), 3) := by decide +kernel
theorem dX3_nth_38 : decode cX3_nth 38 = .ok (.iconst (-1), 1) := by decide +kernel
theorem dX3_nth_39 : decode cX3_nth 39 = .ok (.ireturn, 1) := by decide +kernel
theorem dX3_narrow_0 : decode cX3_narrow 0 = .ok (.lload_n 1, 1) := by decide +kernel
theorem dX3_narrow_1 : decode cX3_narrow 1 = .ok (.lstore 4, 2) := by decide +kernel
theorem dX3_narrow_3 : decode cX3_narrow 3 = .ok (.iconst 0, 1) := by decide +kernel
theorem dX3_narrow_4 : decode cX3_narrow 4 = .ok (.istore 6, 2) := by decide +kernel
theorem dX3_narrow_6 : decode cX3_narrow 6 = .ok (.iload 6, 2) := by decide +kernel
theorem dX3_narrow_8 : decode cX3_narrow 8 = .ok (.aload_n 0, 1) := by decide +kernel
theorem dX3_narrow_9 : decode cX3_narrow 9 = .ok (.getfield 31, 3) := by decide +kernel
theorem dX3_narrow_12 : decode cX3_narrow 12 = .ok (.if_icmp .ge 124, 3) := by decide +kernel
theorem dX3_narrow_15 : decode cX3_narrow 15 = .ok (.iload 6, 2) := by decide +kernel
theorem dX3_narrow_17 : decode cX3_narrow 17 = .ok (.bipush 8, 2) := by decide +kernel
theorem dX3_narrow_19 : decode cX3_narrow 19 = .ok (.if_icmp .ge 117, 3) := by decide +kernel
theorem dX3_narrow_22 : decode cX3_narrow 22 = .ok (.lload 4, 2) := by decide +kernel
theorem dX3_narrow_24 : decode cX3_narrow 24 = .ok (.lconst 0, 1) := by decide +kernel
theorem dX3_narrow_25 : decode cX3_narrow 25 = .ok (.lcmp, 1) := by decide +kernel
theorem dX3_narrow_26 : decode cX3_narrow 26 = .ok (.ifCond .eq 110, 3) := by decide +kernel
theorem dX3_narrow_29 : decode cX3_narrow 29 = .ok (.iload_n 3, 1) := by decide +kernel
theorem dX3_narrow_30 : decode cX3_narrow 30 = .ok (.iload 6, 2) := by decide +kernel
theorem dX3_narrow_32 : decode cX3_narrow 32 = .ok (.invokestatic 91, 3) := by decide +kernel
theorem dX3_narrow_35 : decode cX3_narrow 35 = .ok (.ifCond .eq 95, 3) := by decide +kernel
theorem dX3_narrow_38 : decode cX3_narrow 38 = .ok (.aload_n 0, 1) := by decide +kernel
theorem dX3_narrow_39 : decode cX3_narrow 39 = .ok (.getfield 13, 3) := by decide +kernel
theorem dX3_narrow_42 : decode cX3_narrow 42 = .ok (.iload 6, 2) := by decide +kernel
theorem dX3_narrow_44 : decode cX3_narrow 44 = .ok (.aaload, 1) := by decide +kernel
theorem dX3_narrow_45 : decode cX3_narrow 45 = .ok (.iconst 0, 1) := by decide +kernel
theorem dX3_narrow_46 : decode cX3_narrow 46 = .ok (.iaload, 1) := by decide +kernel
theorem dX3_narrow_47 : decode cX3_narrow 47 = .ok (.iconst 1, 1) := by decide +kernel
theorem dX3_narrow_48 : decode cX3_narrow 48 = .ok (.if_icmp .ne 42, 3) := by decide +kernel
theorem dX3_narrow_51 : decode cX3_narrow 51 = .ok (.lload 4, 2) := by decide +kernel
theorem dX3_narrow_53 : decode cX3_narrow 53 = .ok (.aload_n 0, 1) := by decide +kernel
theorem dX3_narrow_54 : decode cX3_narrow 54 = .ok (.aload_n 0, 1) := by decide +kernel
theorem dX3_narrow_55 : decode cX3_narrow 55 = .ok (.getfield 13, 3) := by decide +kernel
theorem dX3_narrow_58 : decode cX3_narrow 58 = .ok (.iload 6, 2) := by decide +kernel
theorem dX3_narrow_60 : decode cX3_narrow 60 = .ok (.aaload, 1) := by decide +kernel
theorem dX3_narrow_61 : decode cX3_narrow 61 = .ok (.iconst 1, 1) := by decide +kernel
theorem dX3_narrow_62 : decode cX3_narrow 62 = .ok (.iaload, 1) := by decide +kernel
theorem dX3_narrow_63 : decode cX3_narrow 63 = .ok (.aload_n 0, 1) := by decide +kernel
theorem dX3_narrow_64 : decode cX3_narrow 64 = .ok (.getfield 13, 3) := by decide +kernel
theorem dX3_narrow_67 : decode cX3_narrow 67 = .ok (.iload 6, 2) := by decide +kernel
theorem dX3_narrow_69 : decode cX3_narrow 69 = .ok (.aaload, 1) := by decide +kernel
theorem dX3_narrow_70 : decode cX3_narrow 70 = .ok (.iconst 2, 1) := by decide +kernel
theorem dX3_narrow_71 : decode cX3_narrow 71 = .ok (.iaload, 1) := by decide +kernel
theorem dX3_narrow_72 : decode cX3_narrow 72 = .ok (.aload_n 0, 1) := by decide +kernel
theorem dX3_narrow_73 : decode cX3_narrow 73 = .ok (.getfield 13, 3) := by decide +kernel
theorem dX3_narrow_76 : decode cX3_narrow 76 = .ok (.iload 6, 2) := by decide +kernel
theorem dX3_narrow_78 : decode cX3_narrow 78 = .ok (.aaload, 1) := by decide +kernel
theorem dX3_narrow_79 : decode cX3_narrow 79 = .ok (.iconst 3, 1) := by decide +kernel
theorem dX3_narrow_80 : decode cX3_narrow 80 = .ok (.iaload, 1) := by decide +kernel
theorem dX3_narrow_81 : decode cX3_narrow 81 = .ok (.invokevirtual 116, 3) := by decide +kernel
theorem dX3_narrow_84 : decode cX3_narrow 84 = .ok (.land, 1) := by decide +kernel
theorem dX3_narrow_85 : decode cX3_narrow 85 = .ok (.lstore 4, 2) := by decide +kernel
theorem dX3_narrow_87 : decode cX3_narrow 87 = .ok (.goto 43, 3) := by decide +kernel
theorem dX3_narrow_90 : decode cX3_narrow 90 = .ok (.aload_n 0, 1) := by decide +kernel
theorem dX3_narrow_91 : decode cX3_narrow 91 = .ok (.getfield 13, 3) := by decide +kernel
theorem dX3_narrow_94 : decode cX3_narrow 94 = .ok (.iload 6, 2) := by decide +kernel
theorem dX3_narrow_96 : decode cX3_narrow 96 = .ok (.aaload, 1) := by decide +kernel
theorem dX3_narrow_97 : decode cX3_narrow 97 = .ok (.iconst 0, 1) := by decide +kernel
theorem dX3_narrow_98 : decode cX3_narrow 98 = .ok (.iaload, 1) := by decide +kernel
theorem dX3_narrow_99 : decode cX3_narrow 99 = .ok (.iconst 2, 1) := by decide +kernel
theorem dX3_narrow_100 : decode cX3_narrow 100 = .ok (.if_icmp .ne 30, 3) := by decide +kernel
theorem dX3_narrow_103 : decode cX3_narrow 103 = .ok (.lload 4, 2) := by decide +kernel
theorem dX3_narrow_105 : decode cX3_narrow 105 = .ok (.aload_n 0, 1) := by decide +kernel
theorem dX3_narrow_106 : decode cX3_narrow 106 = .ok (.aload_n 0, 1) := by decide +kernel
theorem dX3_narrow_107 : decode cX3_narrow 107 = .ok (.getfield 13, 3) := by decide +kernel
theorem dX3_narrow_110 : decode cX3_narrow 110 = .ok (.iload 6, 2) := by decide +kernel
theorem dX3_narrow_112 : decode cX3_narrow 112 = .ok (.aaload, 1) := by decide +kernel
theorem dX3_narrow_113 : decode cX3_narrow 113 = .ok (.iconst 1, 1) := by decide +kernel
theorem dX3_narrow_114 : decode cX3_narrow 114 = .ok (.iaload, 1) := by decide +kernel
theorem dX3_narrow_115 : decode cX3_narrow 115 = .ok (.aload_n 0, 1) := by decide +kernel
theorem dX3_narrow_116 : decode cX3_narrow 116 = .ok (.getfield 13, 3) := by decide +kernel
theorem dX3_narrow_119 : decode cX3_narrow 119 = .ok (.iload 6, 2) := by decide +kernel
theorem dX3_narrow_121 : decode cX3_narrow 121 = .ok (.aaload, 1) := by decide +kernel
theorem dX3_narrow_122 : decode cX3_narrow 122 = .ok (.iconst 2, 1) := by decide +kernel
theorem dX3_narrow_123 : decode cX3_narrow 123 = .ok (.iaload, 1) := by decide +kernel
theorem dX3_narrow_124 : decode cX3_narrow 124 = .ok (.invokevirtual 120, 3) := by decide +kernel
theorem dX3_narrow_127 : decode cX3_narrow 127 = .ok (.land, 1) := by decide +kernel
theorem dX3_narrow_128 : decode cX3_narrow 128 = .ok (.lstore 4, 2) := by decide +kernel
theorem dX3_narrow_130 : decode cX3_narrow 130 = .ok (.iinc 6 1, 3) := by decide +kernel
theorem dX3_narrow_133 : decode cX3_narrow 133 = .ok (.goto (-127), 3) := by decide +kernel
theorem dX3_narrow_136 : decode cX3_narrow 136 = .ok (.lload 4, 2) := by decide +kernel
theorem dX3_narrow_138 : decode cX3_narrow 138 = .ok (.lreturn, 1) := by decide +kernel
theorem dX3_known_0 : decode cX3_known 0 = .ok (.iload_n 1, 1) := by decide +kernel
theorem dX3_known_1 : decode cX3_known 1 = .ok (.ifCond .lt 17, 3) := by decide +kernel
theorem dX3_known_4 : decode cX3_known 4 = .ok (.iload_n 1, 1) := by decide +kernel
theorem dX3_known_5 : decode cX3_known 5 = .ok (.iconst 2, 1) := by decide +kernel
theorem dX3_known_6 : decode cX3_known 6 = .ok (.if_icmp .ge 12, 3) := by decide +kernel
theorem dX3_known_9 : decode cX3_known 9 = .ok (.aload_n 0, 1) := by decide +kernel
theorem dX3_known_10 : decode cX3_known 10 = .ok (.getfield 23, 3) := by decide +kernel
theorem dX3_known_13 : decode cX3_known 13 = .ok (.iload_n 1, 1) := by decide +kernel
theorem dX3_known_14 : decode cX3_known 14 = .ok (.iaload, 1) := by decide +kernel
theorem dX3_known_15 : decode cX3_known 15 = .ok (.goto 4, 3) := by decide +kernel
theorem dX3_known_18 : decode cX3_known 18 = .ok (.iconst 0, 1) := by decide +kernel
theorem dX3_known_19 : decode cX3_known 19 = .ok (.ireturn, 1) := by decide +kernel
theorem dX3_isLast_0 : decode cX3_isLast 0 = .ok (.iload_n 0, 1) := by decide +kernel
theorem dX3_isLast_1 : decode cX3_isLast 1 = .ok (.iconst 2, 1) := by decide +kernel
theorem dX3_isLast_2 : decode cX3_isLast 2 = .ok (.if_icmp .ne 7, 3) := by decide +kernel
theorem dX3_isLast_5 : decode cX3_isLast 5 = .ok (.iconst 1, 1) := by decide +kernel
theorem dX3_isLast_6 : decode cX3_isLast 6 = .ok (.goto 4, 3) := by decide +kernel
theorem dX3_isLast_9 : decode cX3_isLast 9 = .ok (.iconst 0, 1) := by decide +kernel
theorem dX3_isLast_10 : decode cX3_isLast 10 = .ok (.ireturn, 1) := by decide +kernel
theorem dX3_bySum_0 : decode cX3_bySum 0 = .ok (.iload_n 1, 1) := by decide +kernel
theorem dX3_bySum_1 : decode cX3_bySum 1 = .ok (.invokestatic 123, 3) := by decide +kernel
theorem dX3_bySum_4 : decode cX3_bySum 4 = .ok (.iload_n 2, 1) := by decide +kernel
theorem dX3_bySum_5 : decode cX3_bySum 5 = .ok (.invokestatic 123, 3) := by decide +kernel
theorem dX3_bySum_8 : decode cX3_bySum 8 = .ok (.iadd, 1) := by decide +kernel
theorem dX3_bySum_9 : decode cX3_bySum 9 = .ok (.iload_n 3, 1) := by decide +kernel
theorem dX3_bySum_10 : decode cX3_bySum 10 = .ok (.invokestatic 123, 3) := by decide +kernel
theorem dX3_bySum_13 : decode cX3_bySum 13 = .ok (.isub, 1) := by decide +kernel
theorem dX3_bySum_14 : decode cX3_bySum 14 = .ok (.istore 4, 2) := by decide +kernel
theorem dX3_bySum_16 : decode cX3_bySum 16 = .ok (.aload_n 0, 1) := by decide +kernel
theorem dX3_bySum_17 : decode cX3_bySum 17 = .ok (.iload_n 3, 1) := by decide +kernel
theorem dX3_bySum_18 : decode cX3_bySum 18 = .ok (.invokevirtual 126, 3) := by decide +kernel
theorem dX3_bySum_21 : decode cX3_bySum 21 = .ok (.aload_n 0, 1) := by decide +kernel
theorem dX3_bySum_22 : decode cX3_bySum 22 = .ok (.iload_n 1, 1) := by decide +kernel
theorem dX3_bySum_23 : decode cX3_bySum 23 = .ok (.invokevirtual 126, 3) := by decide +kernel
theorem dX3_bySum_26 : decode cX3_bySum 26 = .ok (.isub, 1) := by decide +kernel
theorem dX3_bySum_27 : decode cX3_bySum 27 = .ok (.aload_n 0, 1) := by decide +kernel
theorem dX3_bySum_28 : decode cX3_bySum 28 = .ok (.iload_n 2, 1) := by decide +kernel
theorem dX3_bySum_29 : decode cX3_bySum 29 = .ok (.invokevirtual 126, 3) := by decide +kernel
theorem dX3_bySum_32 : decode cX3_bySum 32 = .ok (.isub, 1) := by decide +kernel
theorem dX3_bySum_33 : decode cX3_bySum 33 = .ok (.istore 5, 2) := by decide +kernel
theorem dX3_bySum_35 : decode cX3_bySum 35 = .ok (.iload 4, 2) := by decide +kernel
theorem dX3_bySum_37 : decode cX3_bySum 37 = .ok (.ifCond .ne 16, 3) := by decide +kernel
theorem dX3_bySum_40 : decode cX3_bySum 40 = .ok (.iload 5, 2) := by decide +kernel
theorem dX3_bySum_42 : decode cX3_bySum 42 = .ok (.ifCond .ne 9, 3) := by decide +kernel
theorem dX3_bySum_45 : decode cX3_bySum 45 = .ok (.ldc2_w 129, 3) := by decide +kernel
theorem dX3_bySum_48 : decode cX3_bySum 48 = .ok (.goto 4, 3) := by decide +kernel
theorem dX3_bySum_51 : decode cX3_bySum 51 = .ok (.lconst 0, 1) := by decide +kernel
theorem dX3_bySum_52 : decode cX3_bySum 52 = .ok (.lreturn, 1) := by decide +kernel
theorem dX3_bySum_53 : decode cX3_bySum 53 = .ok (.iload 5, 2) := by decide +kernel
theorem dX3_bySum_55 : decode cX3_bySum 55 = .ok (.iload 4, 2) := by decide +kernel
theorem dX3_bySum_57 : decode cX3_bySum 57 = .ok (.irem, 1) := by decide +kernel
theorem dX3_bySum_58 : decode cX3_bySum 58 = .ok (.ifCond .eq 5, 3) := by decide +kernel
theorem dX3_bySum_61 : decode cX3_bySum 61 = .ok (.lconst 0, 1) := by decide +kernel
theorem dX3_bySum_62 : decode cX3_bySum 62 = .ok (.lreturn, 1) := by decide +kernel
theorem dX3_bySum_63 : decode cX3_bySum 63 = .ok (.iload 5, 2) := by decide +kernel
theorem dX3_bySum_65 : decode cX3_bySum 65 = .ok (.iload 4, 2) := by decide +kernel
theorem dX3_bySum_67 : decode cX3_bySum 67 = .ok (.idiv, 1) := by decide +kernel
theorem dX3_bySum_68 : decode cX3_bySum 68 = .ok (.istore 6, 2) := by decide +kernel
theorem dX3_bySum_70 : decode cX3_bySum 70 = .ok (.iload 6, 2) := by decide +kernel
theorem dX3_bySum_72 : decode cX3_bySum 72 = .ok (.iconst 1, 1) := by decide +kernel
theorem dX3_bySum_73 : decode cX3_bySum 73 = .ok (.bipush 40, 2) := by decide +kernel
theorem dX3_bySum_75 : decode cX3_bySum 75 = .ok (.invokestatic 85, 3) := by decide +kernel
theorem dX3_bySum_78 : decode cX3_bySum 78 = .ok (.ifCond .eq 10, 3) := by decide +kernel
theorem dX3_bySum_81 : decode cX3_bySum 81 = .ok (.lconst 1, 1) := by decide +kernel
theorem dX3_bySum_82 : decode cX3_bySum 82 = .ok (.iload 6, 2) := by decide +kernel
theorem dX3_bySum_84 : decode cX3_bySum 84 = .ok (.lshl, 1) := by decide +kernel
theorem dX3_bySum_85 : decode cX3_bySum 85 = .ok (.goto 4, 3) := by decide +kernel
theorem dX3_bySum_88 : decode cX3_bySum 88 = .ok (.lconst 0, 1) := by decide +kernel
theorem dX3_bySum_89 : decode cX3_bySum 89 = .ok (.lreturn, 1) := by decide +kernel
theorem dX3_byLess_0 : decode cX3_byLess 0 = .ok (.iload_n 2, 1) := by decide +kernel
theorem dX3_byLess_1 : decode cX3_byLess 1 = .ok (.iconst 2, 1) := by decide +kernel
theorem dX3_byLess_2 : decode cX3_byLess 2 = .ok (.if_icmp .ne 15, 3) := by decide +kernel
theorem dX3_byLess_5 : decode cX3_byLess 5 = .ok (.ldc2_w 129, 3) := by decide +kernel
theorem dX3_byLess_8 : decode cX3_byLess 8 = .ok (.aload_n 0, 1) := by decide +kernel
theorem dX3_byLess_9 : decode cX3_byLess 9 = .ok (.iload_n 1, 1) := by decide +kernel
theorem dX3_byLess_10 : decode cX3_byLess 10 = .ok (.invokevirtual 126, 3) := by decide +kernel
theorem dX3_byLess_13 : decode cX3_byLess 13 = .ok (.iconst 1, 1) := by decide +kernel
theorem dX3_byLess_14 : decode cX3_byLess 14 = .ok (.iadd, 1) := by decide +kernel
theorem dX3_byLess_15 : decode cX3_byLess 15 = .ok (.lshl, 1) := by decide +kernel
theorem dX3_byLess_16 : decode cX3_byLess 16 = .ok (.lreturn, 1) := by decide +kernel
theorem dX3_byLess_17 : decode cX3_byLess 17 = .ok (.iload_n 1, 1) := by decide +kernel
theorem dX3_byLess_18 : decode cX3_byLess 18 = .ok (.iconst 2, 1) := by decide +kernel
theorem dX3_byLess_19 : decode cX3_byLess 19 = .ok (.if_icmp .ne 13, 3) := by decide +kernel
theorem dX3_byLess_22 : decode cX3_byLess 22 = .ok (.lconst 1, 1) := by decide +kernel
theorem dX3_byLess_23 : decode cX3_byLess 23 = .ok (.aload_n 0, 1) := by decide +kernel
theorem dX3_byLess_24 : decode cX3_byLess 24 = .ok (.iload_n 2, 1) := by decide +kernel
theorem dX3_byLess_25 : decode cX3_byLess 25 = .ok (.invokevirtual 126, 3) := by decide +kernel
theorem dX3_byLess_28 : decode cX3_byLess 28 = .ok (.lshl, 1) := by decide +kernel
theorem dX3_byLess_29 : decode cX3_byLess 29 = .ok (.lconst 1, 1) := by decide +kernel
theorem dX3_byLess_30 : decode cX3_byLess 30 = .ok (.lsub, 1) := by decide +kernel
theorem dX3_byLess_31 : decode cX3_byLess 31 = .ok (.lreturn, 1) := by decide +kernel
theorem dX3_byLess_32 : decode cX3_byLess 32 = .ok (.aload_n 0, 1) := by decide +kernel
theorem dX3_byLess_33 : decode cX3_byLess 33 = .ok (.iload_n 1, 1) := by decide +kernel
theorem dX3_byLess_34 : decode cX3_byLess 34 = .ok (.invokevirtual 126, 3) := by decide +kernel
theorem dX3_byLess_37 : decode cX3_byLess 37 = .ok (.aload_n 0, 1) := by decide +kernel
theorem dX3_byLess_38 : decode cX3_byLess 38 = .ok (.iload_n 2, 1) := by decide +kernel
theorem dX3_byLess_39 : decode cX3_byLess 39 = .ok (.invokevirtual 126, 3) := by decide +kernel
theorem dX3_byLess_42 : decode cX3_byLess 42 = .ok (.if_icmp .ge 9, 3) := by decide +kernel
theorem dX3_byLess_45 : decode cX3_byLess 45 = .ok (.ldc2_w 129, 3) := by decide +kernel
theorem dX3_byLess_48 : decode cX3_byLess 48 = .ok (.goto 4, 3) := by decide +kernel
theorem dX3_byLess_51 : decode cX3_byLess 51 = .ok (.lconst 0, 1) := by decide +kernel
theorem dX3_byLess_52 : decode cX3_byLess 52 = .ok (.lreturn, 1) := by decide +kernel
theorem dX4_init_0 : decode cX4_init 0 = .ok (.aload_n 0, 1) := by decide +kernel
theorem dX4_init_1 : decode cX4_init 1 = .ok (.invokespecial 3, 3) := by decide +kernel
theorem dX4_init_4 : decode cX4_init 4 = .ok (.aload_n 0, 1) := by decide +kernel
theorem dX4_init_5 : decode cX4_init 5 = .ok (.iconst 4, 1) := by decide +kernel
theorem dX4_init_6 : decode cX4_init 6 = .ok (.bipush 60, 2) := by decide +kernel
theorem dX4_init_8 : decode cX4_init 8 = .ok (.multianewarray 11 2, 4) := by decide +kernel
theorem dX4_init_12 : decode cX4_init 12 = .ok (.putfield 13, 3) := by decide +kernel
theorem dX4_init_15 : decode cX4_init 15 = .ok (.aload_n 0, 1) := by decide +kernel
theorem dX4_init_16 : decode cX4_init 16 = .ok (.iconst 4, 1) := by decide +kernel
theorem dX4_init_17 : decode cX4_init 17 = .ok (.newarray .int, 2) := by decide +kernel
theorem dX4_init_19 : decode cX4_init 19 = .ok (.putfield 16, 3) := by decide +kernel
theorem dX4_init_22 : decode cX4_init 22 = .ok (.aload_n 0, 1) := by decide +kernel
theorem dX4_init_23 : decode cX4_init 23 = .ok (.iconst 4, 1) := by decide +kernel
theorem dX4_init_24 : decode cX4_init 24 = .ok (.newarray .int, 2) := by decide +kernel
theorem dX4_init_26 : decode cX4_init 26 = .ok (.putfield 20, 3) := by decide +kernel
theorem dX4_init_29 : decode cX4_init 29 = .ok (.aload_n 0, 1) := by decide +kernel
theorem dX4_init_30 : decode cX4_init 30 = .ok (.getfield 20, 3) := by decide +kernel
theorem dX4_init_33 : decode cX4_init 33 = .ok (.iconst (-1), 1) := by decide +kernel
theorem dX4_init_34 : decode cX4_init 34 = .ok (.invokestatic 23, 3) := by decide +kernel
theorem dX4_init_37 : decode cX4_init 37 = .ok (.return_, 1) := by decide +kernel
theorem dX4_isForm_0 : decode cX4_isForm 0 = .ok (.iload_n 0, 1) := by decide +kernel
theorem dX4_isForm_1 : decode cX4_isForm 1 = .ok (.iconst 0, 1) := by decide +kernel
theorem dX4_isForm_2 : decode cX4_isForm 2 = .ok (.iconst 2, 1) := by decide +kernel
theorem dX4_isForm_3 : decode cX4_isForm 3 = .ok (.invokestatic 29, 3) := by decide +kernel
theorem dX4_isForm_6 : decode cX4_isForm 6 = .ok (.ireturn, 1) := by decide +kernel
theorem dX4_named_0 : decode cX4_named 0 = .ok (.iload_n 1, 1) := by decide +kernel
theorem dX4_named_1 : decode cX4_named 1 = .ok (.ifCond .lt 12, 3) := by decide +kernel
theorem dX4_named_4 : decode cX4_named 4 = .ok (.iload_n 1, 1) := by decide +kernel
theorem dX4_named_5 : decode cX4_named 5 = .ok (.iconst 4, 1) := by decide +kernel
theorem dX4_named_6 : decode cX4_named 6 = .ok (.if_icmp .ge 7, 3) := by decide +kernel
theorem dX4_named_9 : decode cX4_named 9 = .ok (.iconst 1, 1) := by decide +kernel
theorem dX4_named_10 : decode cX4_named 10 = .ok (.goto 4, 3) := by decide +kernel
theorem dX4_named_13 : decode cX4_named 13 = .ok (.iconst 0, 1) := by decide +kernel
theorem dX4_named_14 : decode cX4_named 14 = .ok (.ireturn, 1) := by decide +kernel
theorem dX4_lost_0 : decode cX4_lost 0 = .ok (.aload_n 0, 1) := by decide +kernel
theorem dX4_lost_1 : decode cX4_lost 1 = .ok (.iload_n 1, 1) := by decide +kernel
theorem dX4_lost_2 : decode cX4_lost 2 = .ok (.invokevirtual 33, 3) := by decide +kernel
theorem dX4_lost_5 : decode cX4_lost 5 = .ok (.ifCond .eq 13, 3) := by decide +kernel
theorem dX4_lost_8 : decode cX4_lost 8 = .ok (.aload_n 0, 1) := by decide +kernel
theorem dX4_lost_9 : decode cX4_lost 9 = .ok (.getfield 20, 3) := by decide +kernel
theorem dX4_lost_12 : decode cX4_lost 12 = .ok (.iload_n 1, 1) := by decide +kernel
theorem dX4_lost_13 : decode cX4_lost 13 = .ok (.iaload, 1) := by decide +kernel
theorem dX4_lost_14 : decode cX4_lost 14 = .ok (.iconst (-1), 1) := by decide +kernel
theorem dX4_lost_15 : decode cX4_lost 15 = .ok (.if_icmp .ne 7, 3) := by decide +kernel
theorem dX4_lost_18 : decode cX4_lost 18 = .ok (.iconst 1, 1) := by decide +kernel
theorem dX4_lost_19 : decode cX4_lost 19 = .ok (.goto 4, 3) := by decide +kernel
theorem dX4_lost_22 : decode cX4_lost 22 = .ok (.iconst 0, 1) := by decide +kernel
theorem dX4_lost_23 : decode cX4_lost 23 = .ok (.ireturn, 1) := by decide +kernel
theorem dX4_sizeOf_0 : decode cX4_sizeOf 0 = .ok (.aload_n 0, 1) := by decide +kernel
theorem dX4_sizeOf_1 : decode cX4_sizeOf 1 = .ok (.iload_n 1, 1) := by decide +kernel
theorem dX4_sizeOf_2 : decode cX4_sizeOf 2 = .ok (.invokevirtual 37, 3) := by decide +kernel
theorem dX4_sizeOf_5 : decode cX4_sizeOf 5 = .ok (.ifCond .eq 7, 3) := by decide +kernel
theorem dX4_sizeOf_8 : decode cX4_sizeOf 8 = .ok (.iconst 0, 1) := by decide +kernel
theorem dX4_sizeOf_9 : decode cX4_sizeOf 9 = .ok (.goto 9, 3) := by decide +kernel
theorem dX4_sizeOf_12 : decode cX4_sizeOf 12 = .ok (.aload_n 0, 1) := by decide +kernel
theorem dX4_sizeOf_13 : decode cX4_sizeOf 13 = .ok (.getfield 20, 3) := by decide +kernel
theorem dX4_sizeOf_16 : decode cX4_sizeOf 16 = .ok (.iload_n 1, 1) := by decide +kernel
theorem dX4_sizeOf_17 : decode cX4_sizeOf 17 = .ok (.iaload, 1) := by decide +kernel
theorem dX4_sizeOf_18 : decode cX4_sizeOf 18 = .ok (.ireturn, 1) := by decide +kernel
theorem dX4_formOf_0 : decode cX4_formOf 0 = .ok (.aload_n 0, 1) := by decide +kernel
theorem dX4_formOf_1 : decode cX4_formOf 1 = .ok (.iload_n 1, 1) := by decide +kernel
theorem dX4_formOf_2 : decode cX4_formOf 2 = .ok (.invokevirtual 37, 3) := by decide +kernel
theorem dX4_formOf_5 : decode cX4_formOf 5 = .ok (.ifCond .eq 7, 3) := by decide +kernel
theorem dX4_formOf_8 : decode cX4_formOf 8 = .ok (.iconst (-1), 1) := by decide +kernel
theorem dX4_formOf_9 : decode cX4_formOf 9 = .ok (.goto 9, 3) := by decide +kernel
theorem dX4_formOf_12 : decode cX4_formOf 12 = .ok (.aload_n 0, 1) := by decide +kernel
theorem dX4_formOf_13 : decode cX4_formOf 13 = .ok (.getfield 16, 3) := by decide +kernel
theorem dX4_formOf_16 : decode cX4_formOf 16 = .ok (.iload_n 1, 1) := by decide +kernel
theorem dX4_formOf_17 : decode cX4_formOf 17 = .ok (.iaload, 1) := by decide +kernel
theorem dX4_formOf_18 : decode cX4_formOf 18 = .ok (.ireturn, 1) := by decide +kernel
theorem dX4_hasItem_0 : decode cX4_hasItem 0 = .ok (.aload_n 0, 1) := by decide +kernel
theorem dX4_hasItem_1 : decode cX4_hasItem 1 = .ok (.iload_n 1, 1) := by decide +kernel
theorem dX4_hasItem_2 : decode cX4_hasItem 2 = .ok (.invokevirtual 33, 3) := by decide +kernel
theorem dX4_hasItem_5 : decode cX4_hasItem 5 = .ok (.ifCond .eq 27, 3) := by decide +kernel
theorem dX4_hasItem_8 : decode cX4_hasItem 8 = .ok (.iload_n 2, 1) := by decide +kernel
theorem dX4_hasItem_9 : decode cX4_hasItem 9 = .ok (.ifCond .lt 23, 3) := by decide +kernel
theorem dX4_hasItem_12 : decode cX4_hasItem 12 = .ok (.iload_n 2, 1) := by decide +kernel
theorem dX4_hasItem_13 : decode cX4_hasItem 13 = .ok (.aload_n 0, 1) := by decide +kernel
theorem dX4_hasItem_14 : decode cX4_hasItem 14 = .ok (.getfield 20, 3) := by decide +kernel
theorem dX4_hasItem_17 : decode cX4_hasItem 17 = .ok (.iload_n 1, 1) := by decide +kernel
theorem dX4_hasItem_18 : decode cX4_hasItem 18 = .ok (.iaload, 1) := by decide +kernel
theorem dX4_hasItem_19 : decode cX4_hasItem 19 = .ok (.if_icmp .ge 13, 3) := by decide +kernel
theorem dX4_hasItem_22 : decode cX4_hasItem 22 = .ok (.iload_n 2, 1) := by decide +kernel
theorem dX4_hasItem_23 : decode cX4_hasItem 23 = .ok (.bipush 60, 2) := by decide +kernel
theorem dX4_hasItem_25 : decode cX4_hasItem 25 = .ok (.if_icmp .ge 7, 3) := by decide +kernel
theorem dX4_hasItem_28 : decode cX4_hasItem 28 = .ok (.iconst 1, 1) := by decide +kernel
theorem dX4_hasItem_29 : decode cX4_hasItem 29 = .ok (.goto 4, 3) := by decide +kernel
theorem dX4_hasItem_32 : decode cX4_hasItem 32 = .ok (.iconst 0, 1) := by decide +kernel
theorem dX4_hasItem_33 : decode cX4_hasItem 33 = .ok (.ireturn, 1) := by decide +kernel
theorem dX4_item_0 : decode cX4_item 0 = .ok (.aload_n 0, 1) := by decide +kernel
theorem dX4_item_1 : decode cX4_item 1 = .ok (.iload_n 1, 1) := by decide +kernel
theorem dX4_item_2 : decode cX4_item 2 = .ok (.iload_n 2, 1) := by decide +kernel
theorem dX4_item_3 : decode cX4_item 3 = .ok (.invokevirtual 40, 3) := by decide +kernel
theorem dX4_item_6 : decode cX4_item 6 = .ok (.ifCond .eq 14, 3) := by decide +kernel
theorem dX4_item_9 : decode cX4_item 9 = .ok (.aload_n 0, 1) := by decide +kernel
theorem dX4_item_10 : decode cX4_item 10 = .ok (.getfield 13, 3) := by decide +kernel
theorem dX4_item_13 : decode cX4_item 13 = .ok (.iload_n 1, 1) := by decide +kernel
theorem dX4_item_14 : decode cX4_item 14 = .ok (.aaload, 1) := by decide +kernel
theorem dX4_item_15 : decode cX4_item 15 = .ok (.iload_n 2, 1) := by decide +kernel
theorem dX4_item_16 : decode cX4_item 16 = .ok (.iaload, 1) := by decide +kernel
theorem dX4_item_17 : decode cX4_item 17 = .ok (.goto 4, 3) := by decide +kernel
theorem dX4_item_20 : decode cX4_item 20 = .ok (.iconst (-1), 1) := by decide +kernel
theorem dX4_item_21 : decode cX4_item 21 = .ok (.ireturn, 1) := by decide +kernel
theorem dX4_wordAt_0 : decode cX4_wordAt 0 = .ok (.aload_n 0, 1) := by decide +kernel
theorem dX4_wordAt_1 : decode cX4_wordAt 1 = .ok (.iload_n 1, 1) := by decide +kernel
theorem dX4_wordAt_2 : decode cX4_wordAt 2 = .ok (.iload_n 2, 1) := by decide +kernel
theorem dX4_wordAt_3 : decode cX4_wordAt 3 = .ok (.invokevirtual 44, 3) := by decide +kernel
theorem dX4_wordAt_6 : decode cX4_wordAt 6 = .ok (.istore_n 3, 1) := by decide +kernel
theorem dX4_wordAt_7 : decode cX4_wordAt 7 = .ok (.iload_n 3, 1) := by decide +kernel
theorem dX4_wordAt_8 : decode cX4_wordAt 8 = .ok (.iconst 0, 1) := by decide +kernel
theorem dX4_wordAt_9 : decode cX4_wordAt 9 = .ok (.bipush 99, 2) := by decide +kernel
theorem dX4_wordAt_11 : decode cX4_wordAt 11 = .ok (.invokestatic 29, 3) := by decide +kernel
theorem dX4_wordAt_14 : decode cX4_wordAt 14 = .ok (.ifCond .eq 7, 3) := by decide +kernel
theorem dX4_wordAt_17 : decode cX4_wordAt 17 = .ok (.iload_n 3, 1) := by decide +kernel
theorem dX4_wordAt_18 : decode cX4_wordAt 18 = .ok (.goto 4, 3) := by decide +kernel
theorem dX4_wordAt_21 : decode cX4_wordAt 21 = .ok (.iconst (-1), 1) := by decide +kernel
theorem dX4_wordAt_22 : decode cX4_wordAt 22 = .ok (.ireturn, 1) := by decide +kernel
theorem dX4_find_0 : decode cX4_find 0 = .ok (.aload_n 0, 1) := by decide +kernel
theorem dX4_find_1 : decode cX4_find 1 = .ok (.iload_n 1, 1) := by decide +kernel
theorem dX4_find_2 : decode cX4_find 2 = .ok (.putfield 48, 3) := by decide +kernel
theorem dX4_find_5 : decode cX4_find 5 = .ok (.bipush (-10), 2) := by decide +kernel
theorem dX4_find_7 : decode cX4_find 7 = .ok (.iload_n 1, 1) := by decide +kernel
theorem dX4_find_8 : decode cX4_find 8 = .ok (.isub, 1) := by decide +kernel
theorem dX4_find_9 : decode cX4_find 9 = .ok (.ireturn, 1) := by decide +kernel
theorem dX4_latest_0 : decode cX4_latest 0 = .ok (.aload_n 0, 1) := by decide +kernel
theorem dX4_latest_1 : decode cX4_latest 1 = .ok (.getfield 48, 3) := by decide +kernel
theorem dX4_latest_4 : decode cX4_latest 4 = .ok (.ireturn, 1) := by decide +kernel
theorem dX4_inUse_0 : decode cX4_inUse 0 = .ok (.iconst 0, 1) := by decide +kernel
theorem dX4_inUse_1 : decode cX4_inUse 1 = .ok (.istore_n 1, 1) := by decide +kernel
theorem dX4_inUse_2 : decode cX4_inUse 2 = .ok (.iconst 0, 1) := by decide +kernel
theorem dX4_inUse_3 : decode cX4_inUse 3 = .ok (.istore_n 2, 1) := by decide +kernel
theorem dX4_inUse_4 : decode cX4_inUse 4 = .ok (.iload_n 2, 1) := by decide +kernel
theorem dX4_inUse_5 : decode cX4_inUse 5 = .ok (.iconst 4, 1) := by decide +kernel
theorem dX4_inUse_6 : decode cX4_inUse 6 = .ok (.if_icmp .ge 20, 3) := by decide +kernel
theorem dX4_inUse_9 : decode cX4_inUse 9 = .ok (.aload_n 0, 1) := by decide +kernel
theorem dX4_inUse_10 : decode cX4_inUse 10 = .ok (.iload_n 2, 1) := by decide +kernel
theorem dX4_inUse_11 : decode cX4_inUse 11 = .ok (.invokevirtual 37, 3) := by decide +kernel
theorem dX4_inUse_14 : decode cX4_inUse 14 = .ok (.ifCond .ne 6, 3) := by decide +kernel
theorem dX4_inUse_17 : decode cX4_inUse 17 = .ok (.iinc 1 1, 3) := by decide +kernel
theorem dX4_inUse_20 : decode cX4_inUse 20 = .ok (.iinc 2 1, 3) := by decide +kernel
theorem dX4_inUse_23 : decode cX4_inUse 23 = .ok (.goto (-19), 3) := by decide +kernel
theorem dX4_inUse_26 : decode cX4_inUse 26 = .ok (.iload_n 1, 1) := by decide +kernel
theorem dX4_inUse_27 : decode cX4_inUse 27 = .ok (.ireturn, 1) := by decide +kernel
theorem dX4_renew_0 : decode cX4_renew 0 = .ok (.aload_n 0, 1) := by decide +kernel
theorem dX4_renew_1 : decode cX4_renew 1 = .ok (.iload_n 1, 1) := by decide +kernel
theorem dX4_renew_2 : decode cX4_renew 2 = .ok (.invokevirtual 33, 3) := by decide +kernel
theorem dX4_renew_5 : decode cX4_renew 5 = .ok (.ifCond .eq 13, 3) := by decide +kernel
theorem dX4_renew_8 : decode cX4_renew 8 = .ok (.iload_n 3, 1) := by decide +kernel
theorem dX4_renew_9 : decode cX4_renew 9 = .ok (.iconst 0, 1) := by decide +kernel
theorem dX4_renew_10 : decode cX4_renew 10 = .ok (.bipush 60, 2) := by decide +kernel
theorem dX4_renew_12 : decode cX4_renew 12 = .ok (.invokestatic 29, 3) := by decide +kernel
theorem dX4_renew_15 : decode cX4_renew 15 = .ok (.ifCond .ne 6, 3) := by decide +kernel
theorem dX4_renew_18 : decode cX4_renew 18 = .ok (.bipush (-2), 2) := by decide +kernel
theorem dX4_renew_20 : decode cX4_renew 20 = .ok (.ireturn, 1) := by decide +kernel
theorem dX4_renew_21 : decode cX4_renew 21 = .ok (.aload_n 0, 1) := by decide +kernel
theorem dX4_renew_22 : decode cX4_renew 22 = .ok (.getfield 13, 3) := by decide +kernel
theorem dX4_renew_25 : decode cX4_renew 25 = .ok (.iload_n 1, 1) := by decide +kernel
theorem dX4_renew_26 : decode cX4_renew 26 = .ok (.aaload, 1) := by decide +kernel
theorem dX4_renew_27 : decode cX4_renew 27 = .ok (.iconst 0, 1) := by decide +kernel
theorem dX4_renew_28 : decode cX4_renew 28 = .ok (.invokestatic 23, 3) := by decide +kernel
theorem dX4_renew_31 : decode cX4_renew 31 = .ok (.aload_n 0, 1) := by decide +kernel
theorem dX4_renew_32 : decode cX4_renew 32 = .ok (.getfield 16, 3) := by decide +kernel
theorem dX4_renew_35 : decode cX4_renew 35 = .ok (.iload_n 1, 1) := by decide +kernel
theorem dX4_renew_36 : decode cX4_renew 36 = .ok (.iload_n 2, 1) := by decide +kernel
theorem dX4_renew_37 : decode cX4_renew 37 = .ok (.iastore, 1) := by decide +kernel
theorem dX4_renew_38 : decode cX4_renew 38 = .ok (.aload_n 0, 1) := by decide +kernel
theorem dX4_renew_39 : decode cX4_renew 39 = .ok (.getfield 20, 3) := by decide +kernel
theorem dX4_renew_42 : decode cX4_renew 42 = .ok (.iload_n 1, 1) := by decide +kernel
theorem dX4_renew_43 : decode cX4_renew 43 = .ok (.iload_n 3, 1) := by decide +kernel
theorem dX4_renew_44 : decode cX4_renew 44 = .ok (.iastore, 1) := by decide +kernel
theorem dX4_renew_45 : decode cX4_renew 45 = .ok (.iload_n 3, 1) := by decide +kernel
theorem dX4_renew_46 : decode cX4_renew 46 = .ok (.ireturn, 1) := by decide +kernel
theorem dX4_drop_0 : decode cX4_drop 0 = .ok (.aload_n 0, 1) := by decide +kernel
theorem dX4_drop_1 : decode cX4_drop 1 = .ok (.iload_n 1, 1) := by decide +kernel
theorem dX4_drop_2 : decode cX4_drop 2 = .ok (.invokevirtual 37, 3) := by decide +kernel
theorem dX4_drop_5 : decode cX4_drop 5 = .ok (.ifCond .eq 6, 3) := by decide +kernel
theorem dX4_drop_8 : decode cX4_drop 8 = .ok (.bipush (-2), 2) := by decide +kernel
theorem dX4_drop_10 : decode cX4_drop 10 = .ok (.ireturn, 1) := by decide +kernel
theorem dX4_drop_11 : decode cX4_drop 11 = .ok (.aload_n 0, 1) := by decide +kernel
theorem dX4_drop_12 : decode cX4_drop 12 = .ok (.getfield 20, 3) := by decide +kernel
theorem dX4_drop_15 : decode cX4_drop 15 = .ok (.iload_n 1, 1) := by decide +kernel
theorem dX4_drop_16 : decode cX4_drop 16 = .ok (.iaload, 1) := by decide +kernel
theorem dX4_drop_17 : decode cX4_drop 17 = .ok (.istore_n 2, 1) := by decide +kernel
theorem dX4_drop_18 : decode cX4_drop 18 = .ok (.aload_n 0, 1) := by decide +kernel
theorem dX4_drop_19 : decode cX4_drop 19 = .ok (.getfield 20, 3) := by decide +kernel
theorem dX4_drop_22 : decode cX4_drop 22 = .ok (.iload_n 1, 1) := by decide +kernel
theorem dX4_drop_23 : decode cX4_drop 23 = .ok (.iconst (-1), 1) := by decide +kernel
theorem dX4_drop_24 : decode cX4_drop 24 = .ok (.iastore, 1) := by decide +kernel
theorem dX4_drop_25 : decode cX4_drop 25 = .ok (.iload_n 2, 1) := by decide +kernel
theorem dX4_drop_26 : decode cX4_drop 26 = .ok (.ireturn, 1) := by decide +kernel
theorem dX4_store_0 : decode cX4_store 0 = .ok (.aload_n 0, 1) := by decide +kernel
theorem dX4_store_1 : decode cX4_store 1 = .ok (.iload_n 1, 1) := by decide +kernel
theorem dX4_store_2 : decode cX4_store 2 = .ok (.iload_n 2, 1) := by decide +kernel
theorem dX4_store_3 : decode cX4_store 3 = .ok (.invokevirtual 40, 3) := by decide +kernel
theorem dX4_store_6 : decode cX4_store 6 = .ok (.ifCond .eq 21, 3) := by decide +kernel
theorem dX4_store_9 : decode cX4_store 9 = .ok (.aload_n 0, 1) := by decide +kernel
theorem dX4_store_10 : decode cX4_store 10 = .ok (.getfield 13, 3) := by decide +kernel
theorem dX4_store_13 : decode cX4_store 13 = .ok (.iload_n 1, 1) := by decide +kernel
theorem dX4_store_14 : decode cX4_store 14 = .ok (.aaload, 1) := by decide +kernel
theorem dX4_store_15 : decode cX4_store 15 = .ok (.iload_n 2, 1) := by decide +kernel
theorem dX4_store_16 : decode cX4_store 16 = .ok (.aload_n 0, 1) := by decide +kernel
theorem dX4_store_17 : decode cX4_store 17 = .ok (.getfield 16, 3) := by decide +kernel
theorem dX4_store_20 : decode cX4_store 20 = .ok (.iload_n 1, 1) := by decide +kernel
theorem dX4_store_21 : decode cX4_store 21 = .ok (.iaload, 1) := by decide +kernel
theorem dX4_store_22 : decode cX4_store 22 = .ok (.iload_n 3, 1) := by decide +kernel
theorem dX4_store_23 : decode cX4_store 23 = .ok (.invokestatic 52, 3) := by decide +kernel
theorem dX4_store_26 : decode cX4_store 26 = .ok (.iastore, 1) := by decide +kernel
theorem dX4_store_27 : decode cX4_store 27 = .ok (.return_, 1) := by decide +kernel
theorem dX4_cut_0 : decode cX4_cut 0 = .ok (.iload_n 0, 1) := by decide +kernel
theorem dX4_cut_1 : decode cX4_cut 1 = .ok (.ifCond .ne 6, 3) := by decide +kernel
theorem dX4_cut_4 : decode cX4_cut 4 = .ok (.iload_n 1, 1) := by decide +kernel
theorem dX4_cut_5 : decode cX4_cut 5 = .ok (.i2b, 1) := by decide +kernel
theorem dX4_cut_6 : decode cX4_cut 6 = .ok (.ireturn, 1) := by decide +kernel
theorem dX4_cut_7 : decode cX4_cut 7 = .ok (.iload_n 0, 1) := by decide +kernel
theorem dX4_cut_8 : decode cX4_cut 8 = .ok (.iconst 1, 1) := by decide +kernel
theorem dX4_cut_9 : decode cX4_cut 9 = .ok (.if_icmp .ne 8, 3) := by decide +kernel
theorem dX4_cut_12 : decode cX4_cut 12 = .ok (.iload_n 1, 1) := by decide +kernel
theorem dX4_cut_13 : decode cX4_cut 13 = .ok (.i2s, 1) := by decide +kernel
theorem dX4_cut_14 : decode cX4_cut 14 = .ok (.goto 4, 3) := by decide +kernel
theorem dX4_cut_17 : decode cX4_cut 17 = .ok (.iload_n 1, 1) := by decide +kernel
theorem dX4_cut_18 : decode cX4_cut 18 = .ok (.ireturn, 1) := by decide +kernel
theorem dX4_move_0 : decode cX4_move 0 = .ok (.iload_n 2, 1) := by decide +kernel
theorem dX4_move_1 : decode cX4_move 1 = .ok (.ifCond .lt 38, 3) := by decide +kernel
theorem dX4_move_4 : decode cX4_move 4 = .ok (.iload 4, 2) := by decide +kernel
theorem dX4_move_6 : decode cX4_move 6 = .ok (.ifCond .lt 33, 3) := by decide +kernel
theorem dX4_move_9 : decode cX4_move 9 = .ok (.iload 5, 2) := by decide +kernel
theorem dX4_move_11 : decode cX4_move 11 = .ok (.ifCond .lt 28, 3) := by decide +kernel
theorem dX4_move_14 : decode cX4_move 14 = .ok (.iload 5, 2) := by decide +kernel
theorem dX4_move_16 : decode cX4_move 16 = .ok (.aload_n 0, 1) := by decide +kernel
theorem dX4_move_17 : decode cX4_move 17 = .ok (.iload_n 1, 1) := by decide +kernel
theorem dX4_move_18 : decode cX4_move 18 = .ok (.invokevirtual 55, 3) := by decide +kernel
theorem dX4_move_21 : decode cX4_move 21 = .ok (.iload_n 2, 1) := by decide +kernel
theorem dX4_move_22 : decode cX4_move 22 = .ok (.isub, 1) := by decide +kernel
theorem dX4_move_23 : decode cX4_move 23 = .ok (.if_icmp .gt 16, 3) := by decide +kernel
theorem dX4_move_26 : decode cX4_move 26 = .ok (.iload 5, 2) := by decide +kernel
theorem dX4_move_28 : decode cX4_move 28 = .ok (.aload_n 0, 1) := by decide +kernel
theorem dX4_move_29 : decode cX4_move 29 = .ok (.iload_n 3, 1) := by decide +kernel
theorem dX4_move_30 : decode cX4_move 30 = .ok (.invokevirtual 55, 3) := by decide +kernel
theorem dX4_move_33 : decode cX4_move 33 = .ok (.iload 4, 2) := by decide +kernel
theorem dX4_move_35 : decode cX4_move 35 = .ok (.isub, 1) := by decide +kernel
theorem dX4_move_36 : decode cX4_move 36 = .ok (.if_icmp .le 5, 3) := by decide +kernel
theorem dX4_move_39 : decode cX4_move 39 = .ok (.iconst 0, 1) := by decide +kernel
theorem dX4_move_40 : decode cX4_move 40 = .ok (.ireturn, 1) := by decide +kernel
theorem dX4_move_41 : decode cX4_move 41 = .ok (.aload_n 0, 1) := by decide +kernel
theorem dX4_move_42 : decode cX4_move 42 = .ok (.iload_n 1, 1) := by decide +kernel
theorem dX4_move_43 : decode cX4_move 43 = .ok (.invokevirtual 37, 3) := by decide +kernel
theorem dX4_move_46 : decode cX4_move 46 = .ok (.ifCond .ne 31, 3) := by decide +kernel
theorem dX4_move_49 : decode cX4_move 49 = .ok (.aload_n 0, 1) := by decide +kernel
theorem dX4_move_50 : decode cX4_move 50 = .ok (.iload_n 3, 1) := by decide +kernel
theorem dX4_move_51 : decode cX4_move 51 = .ok (.invokevirtual 37, 3) := by decide +kernel
theorem dX4_move_54 : decode cX4_move 54 = .ok (.ifCond .ne 23, 3) := by decide +kernel
theorem dX4_move_57 : decode cX4_move 57 = .ok (.aload_n 0, 1) := by decide +kernel
theorem dX4_move_58 : decode cX4_move 58 = .ok (.getfield 13, 3) := by decide +kernel
theorem dX4_move_61 : decode cX4_move 61 = .ok (.iload_n 1, 1) := by decide +kernel
theorem dX4_move_62 : decode cX4_move 62 = .ok (.aaload, 1) := by decide +kernel
theorem dX4_move_63 : decode cX4_move 63 = .ok (.iload_n 2, 1) := by decide +kernel
theorem dX4_move_64 : decode cX4_move 64 = .ok (.aload_n 0, 1) := by decide +kernel
theorem dX4_move_65 : decode cX4_move 65 = .ok (.getfield 13, 3) := by decide +kernel
theorem dX4_move_68 : decode cX4_move 68 = .ok (.iload_n 3, 1) := by decide +kernel
theorem dX4_move_69 : decode cX4_move 69 = .ok (.aaload, 1) := by decide +kernel
theorem dX4_move_70 : decode cX4_move 70 = .ok (.iload 4, 2) := by decide +kernel
theorem dX4_move_72 : decode cX4_move 72 = .ok (.iload 5, 2) := by decide +kernel
theorem dX4_move_74 : decode cX4_move 74 = .ok (.invokestatic 59, 3) := by decide +kernel
theorem dX4_move_77 : decode cX4_move 77 = .ok (.iconst 1, 1) := by decide +kernel
theorem dX4_move_78 : decode cX4_move 78 = .ok (.ireturn, 1) := by decide +kernel
theorem dX4_unlikeWords_0 : decode cX4_unlikeWords 0 = .ok (.iconst 0, 1) := by decide +kernel
theorem dX4_unlikeWords_1 : decode cX4_unlikeWords 1 = .ok (.istore_n 3, 1) := by decide +kernel
theorem dX4_unlikeWords_2 : decode cX4_unlikeWords 2 = .ok (.iload_n 3, 1) := by decide +kernel
theorem dX4_unlikeWords_3 : decode cX4_unlikeWords 3 = .ok (.iload_n 2, 1) := by decide +kernel
theorem dX4_unlikeWords_4 : decode cX4_unlikeWords 4 = .ok (.if_icmp .ge 54, 3) := by decide +kernel
theorem dX4_unlikeWords_7 : decode cX4_unlikeWords 7 = .ok (.aload_n 0, 1) := by decide +kernel
theorem dX4_unlikeWords_8 : decode cX4_unlikeWords 8 = .ok (.iload_n 1, 1) := by decide +kernel
theorem dX4_unlikeWords_9 : decode cX4_unlikeWords 9 = .ok (.iload_n 3, 1) := by decide +kernel
theorem dX4_unlikeWords_10 : decode cX4_unlikeWords 10 = .ok (.invokevirtual 65, 3) := by decide +kernel
theorem dX4_unlikeWords_13 : decode cX4_unlikeWords 13 = .ok (.istore 4, 2) := by decide +kernel
theorem dX4_unlikeWords_15 : decode cX4_unlikeWords 15 = .ok (.iload 4, 2) := by decide +kernel
theorem dX4_unlikeWords_17 : decode cX4_unlikeWords 17 = .ok (.iconst (-1), 1) := by decide +kernel
theorem dX4_unlikeWords_18 : decode cX4_unlikeWords 18 = .ok (.if_icmp .ne 5, 3) := by decide +kernel
theorem dX4_unlikeWords_21 : decode cX4_unlikeWords 21 = .ok (.iconst 0, 1) := by decide +kernel
theorem dX4_unlikeWords_22 : decode cX4_unlikeWords 22 = .ok (.ireturn, 1) := by decide +kernel
theorem dX4_unlikeWords_23 : decode cX4_unlikeWords 23 = .ok (.iconst 0, 1) := by decide +kernel
theorem dX4_unlikeWords_24 : decode cX4_unlikeWords 24 = .ok (.istore 5, 2) := by decide +kernel
theorem dX4_unlikeWords_26 : decode cX4_unlikeWords 26 = .ok (.iload 5, 2) := by decide +kernel
theorem dX4_unlikeWords_28 : decode cX4_unlikeWords 28 = .ok (.iload_n 3, 1) := by decide +kernel
theorem dX4_unlikeWords_29 : decode cX4_unlikeWords 29 = .ok (.if_icmp .ge 23, 3) := by decide +kernel
theorem dX4_unlikeWords_32 : decode cX4_unlikeWords 32 = .ok (.aload_n 0, 1) := by decide +kernel
theorem dX4_unlikeWords_33 : decode cX4_unlikeWords 33 = .ok (.iload_n 1, 1) := by decide +kernel
theorem dX4_unlikeWords_34 : decode cX4_unlikeWords 34 = .ok (.iload 5, 2) := by decide +kernel
theorem dX4_unlikeWords_36 : decode cX4_unlikeWords 36 = .ok (.invokevirtual 65, 3) := by decide +kernel
theorem dX4_unlikeWords_39 : decode cX4_unlikeWords 39 = .ok (.iload 4, 2) := by decide +kernel
theorem dX4_unlikeWords_41 : decode cX4_unlikeWords 41 = .ok (.if_icmp .ne 5, 3) := by decide +kernel
theorem dX4_unlikeWords_44 : decode cX4_unlikeWords 44 = .ok (.iconst 0, 1) := by decide +kernel
theorem dX4_unlikeWords_45 : decode cX4_unlikeWords 45 = .ok (.ireturn, 1) := by decide +kernel
theorem dX4_unlikeWords_46 : decode cX4_unlikeWords 46 = .ok (.iinc 5 1, 3) := by decide +kernel
theorem dX4_unlikeWords_49 : decode cX4_unlikeWords 49 = .ok (.goto (-23), 3) := by decide +kernel
theorem dX4_unlikeWords_52 : decode cX4_unlikeWords 52 = .ok (.iinc 3 1, 3) := by decide +kernel
theorem dX4_unlikeWords_55 : decode cX4_unlikeWords 55 = .ok (.goto (-53), 3) := by decide +kernel
theorem dX4_unlikeWords_58 : decode cX4_unlikeWords 58 = .ok (.iconst 1, 1) := by decide +kernel
theorem dX4_unlikeWords_59 : decode cX4_unlikeWords 59 = .ok (.ireturn, 1) := by decide +kernel
theorem dX5_init_0 : decode cX5_init 0 = .ok (.aload_n 0, 1) := by decide +kernel
theorem dX5_init_1 : decode cX5_init 1 = .ok (.invokespecial 3, 3) := by decide +kernel
theorem dX5_init_4 : decode cX5_init 4 = .ok (.aload_n 0, 1) := by decide +kernel
theorem dX5_init_5 : decode cX5_init 5 = .ok (.bipush 60, 2) := by decide +kernel
theorem dX5_init_7 : decode cX5_init 7 = .ok (.newarray .int, 2) := by decide +kernel
theorem dX5_init_9 : decode cX5_init 9 = .ok (.putfield 11, 3) := by decide +kernel
theorem dX5_init_12 : decode cX5_init 12 = .ok (.aload_n 0, 1) := by decide +kernel
theorem dX5_init_13 : decode cX5_init 13 = .ok (.iconst (-1), 1) := by decide +kernel
theorem dX5_init_14 : decode cX5_init 14 = .ok (.putfield 15, 3) := by decide +kernel
theorem dX5_init_17 : decode cX5_init 17 = .ok (.return_, 1) := by decide +kernel
theorem dX5_size_0 : decode cX5_size 0 = .ok (.aload_n 0, 1) := by decide +kernel
theorem dX5_size_1 : decode cX5_size 1 = .ok (.getfield 19, 3) := by decide +kernel
theorem dX5_size_4 : decode cX5_size 4 = .ok (.ireturn, 1) := by decide +kernel
theorem dX5_append_0 : decode cX5_append 0 = .ok (.aload_n 0, 1) := by decide +kernel
theorem dX5_append_1 : decode cX5_append 1 = .ok (.getfield 19, 3) := by decide +kernel
theorem dX5_append_4 : decode cX5_append 4 = .ok (.bipush 60, 2) := by decide +kernel
theorem dX5_append_6 : decode cX5_append 6 = .ok (.if_icmp .lt 6, 3) := by decide +kernel
theorem dX5_append_9 : decode cX5_append 9 = .ok (.bipush (-4), 2) := by decide +kernel
theorem dX5_append_11 : decode cX5_append 11 = .ok (.ireturn, 1) := by decide +kernel
theorem dX5_append_12 : decode cX5_append 12 = .ok (.aload_n 0, 1) := by decide +kernel
theorem dX5_append_13 : decode cX5_append 13 = .ok (.getfield 11, 3) := by decide +kernel
theorem dX5_append_16 : decode cX5_append 16 = .ok (.aload_n 0, 1) := by decide +kernel
theorem dX5_append_17 : decode cX5_append 17 = .ok (.getfield 19, 3) := by decide +kernel
theorem dX5_append_20 : decode cX5_append 20 = .ok (.iload_n 1, 1) := by decide +kernel
theorem dX5_append_21 : decode cX5_append 21 = .ok (.iastore, 1) := by decide +kernel
theorem dX5_append_22 : decode cX5_append 22 = .ok (.aload_n 0, 1) := by decide +kernel
theorem dX5_append_23 : decode cX5_append 23 = .ok (.dup, 1) := by decide +kernel
theorem dX5_append_24 : decode cX5_append 24 = .ok (.getfield 19, 3) := by decide +kernel
theorem dX5_append_27 : decode cX5_append 27 = .ok (.iconst 1, 1) := by decide +kernel
theorem dX5_append_28 : decode cX5_append 28 = .ok (.iadd, 1) := by decide +kernel
theorem dX5_append_29 : decode cX5_append 29 = .ok (.putfield 19, 3) := by decide +kernel
theorem dX5_append_32 : decode cX5_append 32 = .ok (.aload_n 0, 1) := by decide +kernel
theorem dX5_append_33 : decode cX5_append 33 = .ok (.getfield 19, 3) := by decide +kernel
theorem dX5_append_36 : decode cX5_append 36 = .ok (.ireturn, 1) := by decide +kernel
theorem dX5_empty_0 : decode cX5_empty 0 = .ok (.aload_n 0, 1) := by decide +kernel
theorem dX5_empty_1 : decode cX5_empty 1 = .ok (.getfield 19, 3) := by decide +kernel
theorem dX5_empty_4 : decode cX5_empty 4 = .ok (.istore_n 1, 1) := by decide +kernel
theorem dX5_empty_5 : decode cX5_empty 5 = .ok (.aload_n 0, 1) := by decide +kernel
theorem dX5_empty_6 : decode cX5_empty 6 = .ok (.iconst 0, 1) := by decide +kernel
theorem dX5_empty_7 : decode cX5_empty 7 = .ok (.putfield 19, 3) := by decide +kernel
theorem dX5_empty_10 : decode cX5_empty 10 = .ok (.iload_n 1, 1) := by decide +kernel
theorem dX5_empty_11 : decode cX5_empty 11 = .ok (.ireturn, 1) := by decide +kernel
theorem dX5_stop_0 : decode cX5_stop 0 = .ok (.aload_n 0, 1) := by decide +kernel
theorem dX5_stop_1 : decode cX5_stop 1 = .ok (.getfield 15, 3) := by decide +kernel
theorem dX5_stop_4 : decode cX5_stop 4 = .ok (.ireturn, 1) := by decide +kernel
theorem dX5_isBeyond_0 : decode cX5_isBeyond 0 = .ok (.aload_n 0, 1) := by decide +kernel
theorem dX5_isBeyond_1 : decode cX5_isBeyond 1 = .ok (.getfield 22, 3) := by decide +kernel
theorem dX5_isBeyond_4 : decode cX5_isBeyond 4 = .ok (.ireturn, 1) := by decide +kernel
theorem dX5_total_0 : decode cX5_total 0 = .ok (.aload_n 0, 1) := by decide +kernel
theorem dX5_total_1 : decode cX5_total 1 = .ok (.getfield 26, 3) := by decide +kernel
theorem dX5_total_4 : decode cX5_total 4 = .ok (.ireturn, 1) := by decide +kernel
theorem dX5_read_0 : decode cX5_read 0 = .ok (.aload_n 0, 1) := by decide +kernel
theorem dX5_read_1 : decode cX5_read 1 = .ok (.iconst 0, 1) := by decide +kernel
theorem dX5_read_2 : decode cX5_read 2 = .ok (.putfield 29, 3) := by decide +kernel
theorem dX5_read_5 : decode cX5_read 5 = .ok (.aload_n 0, 1) := by decide +kernel
theorem dX5_read_6 : decode cX5_read 6 = .ok (.iconst (-1), 1) := by decide +kernel
theorem dX5_read_7 : decode cX5_read 7 = .ok (.putfield 15, 3) := by decide +kernel
theorem dX5_read_10 : decode cX5_read 10 = .ok (.aload_n 0, 1) := by decide +kernel
theorem dX5_read_11 : decode cX5_read 11 = .ok (.iconst 0, 1) := by decide +kernel
theorem dX5_read_12 : decode cX5_read 12 = .ok (.putfield 26, 3) := by decide +kernel
theorem dX5_read_15 : decode cX5_read 15 = .ok (.aload_n 0, 1) := by decide +kernel
theorem dX5_read_16 : decode cX5_read 16 = .ok (.iconst 0, 1) := by decide +kernel
theorem dX5_read_17 : decode cX5_read 17 = .ok (.putfield 22, 3) := by decide +kernel
theorem dX5_read_20 : decode cX5_read 20 = .ok (.iconst 1, 1) := by decide +kernel
theorem dX5_read_21 : decode cX5_read 21 = .ok (.istore_n 2, 1) := by decide +kernel
theorem dX5_read_22 : decode cX5_read 22 = .ok (.iconst 0, 1) := by decide +kernel
theorem dX5_read_23 : decode cX5_read 23 = .ok (.istore_n 3, 1) := by decide +kernel
theorem dX5_read_24 : decode cX5_read 24 = .ok (.iload_n 3, 1) := by decide +kernel
theorem dX5_read_25 : decode cX5_read 25 = .ok (.bipush 60, 2) := by decide +kernel
theorem dX5_read_27 : decode cX5_read 27 = .ok (.if_icmp .ge 82, 3) := by decide +kernel
theorem dX5_read_30 : decode cX5_read 30 = .ok (.aload_n 0, 1) := by decide +kernel
theorem dX5_read_31 : decode cX5_read 31 = .ok (.iload_n 1, 1) := by decide +kernel
theorem dX5_read_32 : decode cX5_read 32 = .ok (.iload_n 2, 1) := by decide +kernel
theorem dX5_read_33 : decode cX5_read 33 = .ok (.invokevirtual 32, 3) := by decide +kernel
theorem dX5_read_36 : decode cX5_read 36 = .ok (.ifCond .eq 14, 3) := by decide +kernel
theorem dX5_read_39 : decode cX5_read 39 = .ok (.aload_n 0, 1) := by decide +kernel
theorem dX5_read_40 : decode cX5_read 40 = .ok (.getfield 29, 3) := by decide +kernel
theorem dX5_read_43 : decode cX5_read 43 = .ok (.aload_n 0, 1) := by decide +kernel
theorem dX5_read_44 : decode cX5_read 44 = .ok (.getfield 19, 3) := by decide +kernel
theorem dX5_read_47 : decode cX5_read 47 = .ok (.if_icmp .lt 4, 3) := by decide +kernel
theorem dX5_read_50 : decode cX5_read 50 = .ok (.return_, 1) := by decide +kernel
theorem dX5_read_51 : decode cX5_read 51 = .ok (.aload_n 0, 1) := by decide +kernel
theorem dX5_read_52 : decode cX5_read 52 = .ok (.bipush 43, 2) := by decide +kernel
theorem dX5_read_54 : decode cX5_read 54 = .ok (.invokevirtual 36, 3) := by decide +kernel
theorem dX5_read_57 : decode cX5_read 57 = .ok (.ifCond .ne 21, 3) := by decide +kernel
theorem dX5_read_60 : decode cX5_read 60 = .ok (.aload_n 0, 1) := by decide +kernel
theorem dX5_read_61 : decode cX5_read 61 = .ok (.bipush 45, 2) := by decide +kernel
theorem dX5_read_63 : decode cX5_read 63 = .ok (.invokevirtual 36, 3) := by decide +kernel
theorem dX5_read_66 : decode cX5_read 66 = .ok (.ifCond .ne 12, 3) := by decide +kernel
theorem dX5_read_69 : decode cX5_read 69 = .ok (.aload_n 0, 1) := by decide +kernel
theorem dX5_read_70 : decode cX5_read 70 = .ok (.aload_n 0, 1) := by decide +kernel
theorem dX5_read_71 : decode cX5_read 71 = .ok (.getfield 29, 3) := by decide +kernel
theorem dX5_read_74 : decode cX5_read 74 = .ok (.putfield 15, 3) := by decide +kernel
theorem dX5_read_77 : decode cX5_read 77 = .ok (.return_, 1) := by decide +kernel
theorem dX5_read_78 : decode cX5_read 78 = .ok (.aload_n 0, 1) := by decide +kernel
theorem dX5_read_79 : decode cX5_read 79 = .ok (.bipush 43, 2) := by decide +kernel
theorem dX5_read_81 : decode cX5_read 81 = .ok (.invokevirtual 36, 3) := by decide +kernel
theorem dX5_read_84 : decode cX5_read 84 = .ok (.ifCond .eq 7, 3) := by decide +kernel
theorem dX5_read_87 : decode cX5_read 87 = .ok (.iconst 1, 1) := by decide +kernel
theorem dX5_read_88 : decode cX5_read 88 = .ok (.goto 4, 3) := by decide +kernel
theorem dX5_read_91 : decode cX5_read 91 = .ok (.iconst (-1), 1) := by decide +kernel
theorem dX5_read_92 : decode cX5_read 92 = .ok (.istore_n 2, 1) := by decide +kernel
theorem dX5_read_93 : decode cX5_read 93 = .ok (.aload_n 0, 1) := by decide +kernel
theorem dX5_read_94 : decode cX5_read 94 = .ok (.dup, 1) := by decide +kernel
theorem dX5_read_95 : decode cX5_read 95 = .ok (.getfield 29, 3) := by decide +kernel
theorem dX5_read_98 : decode cX5_read 98 = .ok (.iconst 1, 1) := by decide +kernel
theorem dX5_read_99 : decode cX5_read 99 = .ok (.iadd, 1) := by decide +kernel
theorem dX5_read_100 : decode cX5_read 100 = .ok (.putfield 29, 3) := by decide +kernel
theorem dX5_read_103 : decode cX5_read 103 = .ok (.iinc 3 1, 3) := by decide +kernel
theorem dX5_read_106 : decode cX5_read 106 = .ok (.goto (-82), 3) := by decide +kernel
theorem dX5_read_109 : decode cX5_read 109 = .ok (.return_, 1) := by decide +kernel
theorem dX5_readNumber_0 : decode cX5_readNumber 0 = .ok (.iconst 0, 1) := by decide +kernel
theorem dX5_readNumber_1 : decode cX5_readNumber 1 = .ok (.istore_n 3, 1) := by decide +kernel
theorem dX5_readNumber_2 : decode cX5_readNumber 2 = .ok (.aload_n 0, 1) := by decide +kernel
theorem dX5_readNumber_3 : decode cX5_readNumber 3 = .ok (.bipush 109, 2) := by decide +kernel
theorem dX5_readNumber_5 : decode cX5_readNumber 5 = .ok (.invokevirtual 36, 3) := by decide +kernel
theorem dX5_readNumber_8 : decode cX5_readNumber 8 = .ok (.ifCond .eq 18, 3) := by decide +kernel
theorem dX5_readNumber_11 : decode cX5_readNumber 11 = .ok (.aload_n 0, 1) := by decide +kernel
theorem dX5_readNumber_12 : decode cX5_readNumber 12 = .ok (.dup, 1) := by decide +kernel
theorem dX5_readNumber_13 : decode cX5_readNumber 13 = .ok (.getfield 29, 3) := by decide +kernel
theorem dX5_readNumber_16 : decode cX5_readNumber 16 = .ok (.iconst 1, 1) := by decide +kernel
theorem dX5_readNumber_17 : decode cX5_readNumber 17 = .ok (.iadd, 1) := by decide +kernel
theorem dX5_readNumber_18 : decode cX5_readNumber 18 = .ok (.putfield 29, 3) := by decide +kernel
theorem dX5_readNumber_21 : decode cX5_readNumber 21 = .ok (.aload_n 0, 1) := by decide +kernel
theorem dX5_readNumber_22 : decode cX5_readNumber 22 = .ok (.invokevirtual 40, 3) := by decide +kernel
theorem dX5_readNumber_25 : decode cX5_readNumber 25 = .ok (.istore_n 3, 1) := by decide +kernel
theorem dX5_readNumber_26 : decode cX5_readNumber 26 = .ok (.iload_n 3, 1) := by decide +kernel
theorem dX5_readNumber_27 : decode cX5_readNumber 27 = .ok (.iconst (-1), 1) := by decide +kernel
theorem dX5_readNumber_28 : decode cX5_readNumber 28 = .ok (.if_icmp .eq 12, 3) := by decide +kernel
theorem dX5_readNumber_31 : decode cX5_readNumber 31 = .ok (.aload_n 0, 1) := by decide +kernel
theorem dX5_readNumber_32 : decode cX5_readNumber 32 = .ok (.bipush 112, 2) := by decide +kernel
theorem dX5_readNumber_34 : decode cX5_readNumber 34 = .ok (.invokevirtual 36, 3) := by decide +kernel
theorem dX5_readNumber_37 : decode cX5_readNumber 37 = .ok (.ifCond .ne 13, 3) := by decide +kernel
theorem dX5_readNumber_40 : decode cX5_readNumber 40 = .ok (.aload_n 0, 1) := by decide +kernel
theorem dX5_readNumber_41 : decode cX5_readNumber 41 = .ok (.aload_n 0, 1) := by decide +kernel
theorem dX5_readNumber_42 : decode cX5_readNumber 42 = .ok (.getfield 29, 3) := by decide +kernel
theorem dX5_readNumber_45 : decode cX5_readNumber 45 = .ok (.putfield 15, 3) := by decide +kernel
theorem dX5_readNumber_48 : decode cX5_readNumber 48 = .ok (.iconst 0, 1) := by decide +kernel
theorem dX5_readNumber_49 : decode cX5_readNumber 49 = .ok (.ireturn, 1) := by decide +kernel
theorem dX5_readNumber_50 : decode cX5_readNumber 50 = .ok (.aload_n 0, 1) := by decide +kernel
theorem dX5_readNumber_51 : decode cX5_readNumber 51 = .ok (.dup, 1) := by decide +kernel
theorem dX5_readNumber_52 : decode cX5_readNumber 52 = .ok (.getfield 29, 3) := by decide +kernel
theorem dX5_readNumber_55 : decode cX5_readNumber 55 = .ok (.iconst 1, 1) := by decide +kernel
theorem dX5_readNumber_56 : decode cX5_readNumber 56 = .ok (.iadd, 1) := by decide +kernel
theorem dX5_readNumber_57 : decode cX5_readNumber 57 = .ok (.putfield 29, 3) := by decide +kernel
theorem dX5_readNumber_60 : decode cX5_readNumber 60 = .ok (.aload_n 0, 1) := by decide +kernel
theorem dX5_readNumber_61 : decode cX5_readNumber 61 = .ok (.getfield 29, 3) := by decide +kernel
theorem dX5_readNumber_64 : decode cX5_readNumber 64 = .ok (.istore 4, 2) := by decide +kernel
theorem dX5_readNumber_66 : decode cX5_readNumber 66 = .ok (.aload_n 0, 1) := by decide +kernel
theorem dX5_readNumber_67 : decode cX5_readNumber 67 = .ok (.invokevirtual 40, 3) := by decide +kernel
theorem dX5_readNumber_70 : decode cX5_readNumber 70 = .ok (.istore 5, 2) := by decide +kernel
theorem dX5_readNumber_72 : decode cX5_readNumber 72 = .ok (.iload 5, 2) := by decide +kernel
theorem dX5_readNumber_74 : decode cX5_readNumber 74 = .ok (.iconst (-1), 1) := by decide +kernel
theorem dX5_readNumber_75 : decode cX5_readNumber 75 = .ok (.if_icmp .eq 8, 3) := by decide +kernel
theorem dX5_readNumber_78 : decode cX5_readNumber 78 = .ok (.iload 5, 2) := by decide +kernel
theorem dX5_readNumber_80 : decode cX5_readNumber 80 = .ok (.ifCond .ne 11, 3) := by decide +kernel
theorem dX5_readNumber_83 : decode cX5_readNumber 83 = .ok (.aload_n 0, 1) := by decide +kernel
theorem dX5_readNumber_84 : decode cX5_readNumber 84 = .ok (.iload 4, 2) := by decide +kernel
theorem dX5_readNumber_86 : decode cX5_readNumber 86 = .ok (.putfield 15, 3) := by decide +kernel
theorem dX5_readNumber_89 : decode cX5_readNumber 89 = .ok (.iconst 0, 1) := by decide +kernel
theorem dX5_readNumber_90 : decode cX5_readNumber 90 = .ok (.ireturn, 1) := by decide +kernel
theorem dX5_readNumber_91 : decode cX5_readNumber 91 = .ok (.aload_n 0, 1) := by decide +kernel
theorem dX5_readNumber_92 : decode cX5_readNumber 92 = .ok (.dup, 1) := by decide +kernel
theorem dX5_readNumber_93 : decode cX5_readNumber 93 = .ok (.getfield 26, 3) := by decide +kernel
theorem dX5_readNumber_96 : decode cX5_readNumber 96 = .ok (.iload_n 2, 1) := by decide +kernel
theorem dX5_readNumber_97 : decode cX5_readNumber 97 = .ok (.iload_n 3, 1) := by decide +kernel
theorem dX5_readNumber_98 : decode cX5_readNumber 98 = .ok (.iload_n 1, 1) := by decide +kernel
theorem dX5_readNumber_99 : decode cX5_readNumber 99 = .ok (.imul, 1) := by decide +kernel
theorem dX5_readNumber_100 : decode cX5_readNumber 100 = .ok (.iload 5, 2) := by decide +kernel
theorem dX5_readNumber_102 : decode cX5_readNumber 102 = .ok (.iadd, 1) := by decide +kernel
theorem dX5_readNumber_103 : decode cX5_readNumber 103 = .ok (.imul, 1) := by decide +kernel
theorem dX5_readNumber_104 : decode cX5_readNumber 104 = .ok (.iadd, 1) := by decide +kernel
theorem dX5_readNumber_105 : decode cX5_readNumber 105 = .ok (.putfield 26, 3) := by decide +kernel
theorem dX5_readNumber_108 : decode cX5_readNumber 108 = .ok (.aload_n 0, 1) := by decide +kernel
theorem dX5_readNumber_109 : decode cX5_readNumber 109 = .ok (.aload_n 0, 1) := by decide +kernel
theorem dX5_readNumber_110 : decode cX5_readNumber 110 = .ok (.getfield 22, 3) := by decide +kernel
theorem dX5_readNumber_113 : decode cX5_readNumber 113 = .ok (.ifCond .ne 9, 3) := by decide +kernel
theorem dX5_readNumber_116 : decode cX5_readNumber 116 = .ok (.iload 5, 2) := by decide +kernel
theorem dX5_readNumber_118 : decode cX5_readNumber 118 = .ok (.iload_n 1, 1) := by decide +kernel
theorem dX5_readNumber_119 : decode cX5_readNumber 119 = .ok (.if_icmp .le 7, 3) := by decide +kernel
theorem dX5_readNumber_122 : decode cX5_readNumber 122 = .ok (.iconst 1, 1) := by decide +kernel
theorem dX5_readNumber_123 : decode cX5_readNumber 123 = .ok (.goto 4, 3) := by decide +kernel
theorem dX5_readNumber_126 : decode cX5_readNumber 126 = .ok (.iconst 0, 1) := by decide +kernel
theorem dX5_readNumber_127 : decode cX5_readNumber 127 = .ok (.putfield 22, 3) := by decide +kernel
theorem dX5_readNumber_130 : decode cX5_readNumber 130 = .ok (.iconst 1, 1) := by decide +kernel
theorem dX5_readNumber_131 : decode cX5_readNumber 131 = .ok (.ireturn, 1) := by decide +kernel
theorem dX5_isNext_0 : decode cX5_isNext 0 = .ok (.aload_n 0, 1) := by decide +kernel
theorem dX5_isNext_1 : decode cX5_isNext 1 = .ok (.getfield 29, 3) := by decide +kernel
theorem dX5_isNext_4 : decode cX5_isNext 4 = .ok (.ifCond .lt 40, 3) := by decide +kernel
theorem dX5_isNext_7 : decode cX5_isNext 7 = .ok (.aload_n 0, 1) := by decide +kernel
theorem dX5_isNext_8 : decode cX5_isNext 8 = .ok (.getfield 29, 3) := by decide +kernel
theorem dX5_isNext_11 : decode cX5_isNext 11 = .ok (.aload_n 0, 1) := by decide +kernel
theorem dX5_isNext_12 : decode cX5_isNext 12 = .ok (.getfield 19, 3) := by decide +kernel
theorem dX5_isNext_15 : decode cX5_isNext 15 = .ok (.if_icmp .ge 29, 3) := by decide +kernel
theorem dX5_isNext_18 : decode cX5_isNext 18 = .ok (.aload_n 0, 1) := by decide +kernel
theorem dX5_isNext_19 : decode cX5_isNext 19 = .ok (.getfield 29, 3) := by decide +kernel
theorem dX5_isNext_22 : decode cX5_isNext 22 = .ok (.bipush 60, 2) := by decide +kernel
theorem dX5_isNext_24 : decode cX5_isNext 24 = .ok (.if_icmp .ge 20, 3) := by decide +kernel
theorem dX5_isNext_27 : decode cX5_isNext 27 = .ok (.aload_n 0, 1) := by decide +kernel
theorem dX5_isNext_28 : decode cX5_isNext 28 = .ok (.getfield 11, 3) := by decide +kernel
theorem dX5_isNext_31 : decode cX5_isNext 31 = .ok (.aload_n 0, 1) := by decide +kernel
theorem dX5_isNext_32 : decode cX5_isNext 32 = .ok (.getfield 29, 3) := by decide +kernel
theorem dX5_isNext_35 : decode cX5_isNext 35 = .ok (.iaload, 1) := by decide +kernel
theorem dX5_isNext_36 : decode cX5_isNext 36 = .ok (.iload_n 1, 1) := by decide +kernel
theorem dX5_isNext_37 : decode cX5_isNext 37 = .ok (.if_icmp .ne 7, 3) := by decide +kernel
theorem dX5_isNext_40 : decode cX5_isNext 40 = .ok (.iconst 1, 1) := by decide +kernel
theorem dX5_isNext_41 : decode cX5_isNext 41 = .ok (.goto 4, 3) := by decide +kernel
theorem dX5_isNext_44 : decode cX5_isNext 44 = .ok (.iconst 0, 1) := by decide +kernel
theorem dX5_isNext_45 : decode cX5_isNext 45 = .ok (.ireturn, 1) := by decide +kernel
theorem dX5_figureHere_0 : decode cX5_figureHere 0 = .ok (.aload_n 0, 1) := by decide +kernel
theorem dX5_figureHere_1 : decode cX5_figureHere 1 = .ok (.getfield 29, 3) := by decide +kernel
theorem dX5_figureHere_4 : decode cX5_figureHere 4 = .ok (.ifCond .lt 57, 3) := by decide +kernel
theorem dX5_figureHere_7 : decode cX5_figureHere 7 = .ok (.aload_n 0, 1) := by decide +kernel
theorem dX5_figureHere_8 : decode cX5_figureHere 8 = .ok (.getfield 29, 3) := by decide +kernel
theorem dX5_figureHere_11 : decode cX5_figureHere 11 = .ok (.aload_n 0, 1) := by decide +kernel
theorem dX5_figureHere_12 : decode cX5_figureHere 12 = .ok (.getfield 19, 3) := by decide +kernel
theorem dX5_figureHere_15 : decode cX5_figureHere 15 = .ok (.if_icmp .ge 46, 3) := by decide +kernel
theorem dX5_figureHere_18 : decode cX5_figureHere 18 = .ok (.aload_n 0, 1) := by decide +kernel
theorem dX5_figureHere_19 : decode cX5_figureHere 19 = .ok (.getfield 29, 3) := by decide +kernel
theorem dX5_figureHere_22 : decode cX5_figureHere 22 = .ok (.bipush 60, 2) := by decide +kernel
theorem dX5_figureHere_24 : decode cX5_figureHere 24 = .ok (.if_icmp .ge 37, 3) := by decide +kernel
theorem dX5_figureHere_27 : decode cX5_figureHere 27 = .ok (.aload_n 0, 1) := by decide +kernel
theorem dX5_figureHere_28 : decode cX5_figureHere 28 = .ok (.getfield 11, 3) := by decide +kernel
theorem dX5_figureHere_31 : decode cX5_figureHere 31 = .ok (.aload_n 0, 1) := by decide +kernel
theorem dX5_figureHere_32 : decode cX5_figureHere 32 = .ok (.getfield 29, 3) := by decide +kernel
theorem dX5_figureHere_35 : decode cX5_figureHere 35 = .ok (.iaload, 1) := by decide +kernel
theorem dX5_figureHere_36 : decode cX5_figureHere 36 = .ok (.bipush 48, 2) := by decide +kernel
theorem dX5_figureHere_38 : decode cX5_figureHere 38 = .ok (.bipush 57, 2) := by decide +kernel
theorem dX5_figureHere_40 : decode cX5_figureHere 40 = .ok (.invokestatic 44, 3) := by decide +kernel
theorem dX5_figureHere_43 : decode cX5_figureHere 43 = .ok (.ifCond .eq 18, 3) := by decide +kernel
theorem dX5_figureHere_46 : decode cX5_figureHere 46 = .ok (.aload_n 0, 1) := by decide +kernel
theorem dX5_figureHere_47 : decode cX5_figureHere 47 = .ok (.getfield 11, 3) := by decide +kernel
theorem dX5_figureHere_50 : decode cX5_figureHere 50 = .ok (.aload_n 0, 1) := by decide +kernel
theorem dX5_figureHere_51 : decode cX5_figureHere 51 = .ok (.getfield 29, 3) := by decide +kernel
theorem dX5_figureHere_54 : decode cX5_figureHere 54 = .ok (.iaload, 1) := by decide +kernel
theorem dX5_figureHere_55 : decode cX5_figureHere 55 = .ok (.bipush 48, 2) := by decide +kernel
theorem dX5_figureHere_57 : decode cX5_figureHere 57 = .ok (.isub, 1) := by decide +kernel
theorem dX5_figureHere_58 : decode cX5_figureHere 58 = .ok (.goto 4, 3) := by decide +kernel
theorem dX5_figureHere_61 : decode cX5_figureHere 61 = .ok (.iconst (-1), 1) := by decide +kernel
theorem dX5_figureHere_62 : decode cX5_figureHere 62 = .ok (.ireturn, 1) := by decide +kernel
theorem dX5_readFigures_0 : decode cX5_readFigures 0 = .ok (.aload_n 0, 1) := by decide +kernel
theorem dX5_readFigures_1 : decode cX5_readFigures 1 = .ok (.invokevirtual 48, 3) := by decide +kernel
theorem dX5_readFigures_4 : decode cX5_readFigures 4 = .ok (.istore_n 1, 1) := by decide +kernel
theorem dX5_readFigures_5 : decode cX5_readFigures 5 = .ok (.iload_n 1, 1) := by decide +kernel
theorem dX5_readFigures_6 : decode cX5_readFigures 6 = .ok (.iconst (-1), 1) := by decide +kernel
theorem dX5_readFigures_7 : decode cX5_readFigures 7 = .ok (.if_icmp .ne 5, 3) := by decide +kernel
theorem dX5_readFigures_10 : decode cX5_readFigures 10 = .ok (.iconst (-1), 1) := by decide +kernel
theorem dX5_readFigures_11 : decode cX5_readFigures 11 = .ok (.ireturn, 1) := by decide +kernel
theorem dX5_readFigures_12 : decode cX5_readFigures 12 = .ok (.aload_n 0, 1) := by decide +kernel
theorem dX5_readFigures_13 : decode cX5_readFigures 13 = .ok (.dup, 1) := by decide +kernel
theorem dX5_readFigures_14 : decode cX5_readFigures 14 = .ok (.getfield 29, 3) := by decide +kernel
theorem dX5_readFigures_17 : decode cX5_readFigures 17 = .ok (.iconst 1, 1) := by decide +kernel
theorem dX5_readFigures_18 : decode cX5_readFigures 18 = .ok (.iadd, 1) := by decide +kernel
theorem dX5_readFigures_19 : decode cX5_readFigures 19 = .ok (.putfield 29, 3) := by decide +kernel
theorem dX5_readFigures_22 : decode cX5_readFigures 22 = .ok (.aload_n 0, 1) := by decide +kernel
theorem dX5_readFigures_23 : decode cX5_readFigures 23 = .ok (.invokevirtual 48, 3) := by decide +kernel
theorem dX5_readFigures_26 : decode cX5_readFigures 26 = .ok (.istore_n 2, 1) := by decide +kernel
theorem dX5_readFigures_27 : decode cX5_readFigures 27 = .ok (.iload_n 2, 1) := by decide +kernel
theorem dX5_readFigures_28 : decode cX5_readFigures 28 = .ok (.iconst (-1), 1) := by decide +kernel
theorem dX5_readFigures_29 : decode cX5_readFigures 29 = .ok (.if_icmp .ne 5, 3) := by decide +kernel
theorem dX5_readFigures_32 : decode cX5_readFigures 32 = .ok (.iload_n 1, 1) := by decide +kernel
theorem dX5_readFigures_33 : decode cX5_readFigures 33 = .ok (.ireturn, 1) := by decide +kernel
theorem dX5_readFigures_34 : decode cX5_readFigures 34 = .ok (.aload_n 0, 1) := by decide +kernel
theorem dX5_readFigures_35 : decode cX5_readFigures 35 = .ok (.dup, 1) := by decide +kernel
theorem dX5_readFigures_36 : decode cX5_readFigures 36 = .ok (.getfield 29, 3) := by decide +kernel
theorem dX5_readFigures_39 : decode cX5_readFigures 39 = .ok (.iconst 1, 1) := by decide +kernel
theorem dX5_readFigures_40 : decode cX5_readFigures 40 = .ok (.iadd, 1) := by decide +kernel
theorem dX5_readFigures_41 : decode cX5_readFigures 41 = .ok (.putfield 29, 3) := by decide +kernel
theorem dX5_readFigures_44 : decode cX5_readFigures 44 = .ok (.bipush 10, 2) := by decide +kernel
theorem dX5_readFigures_46 : decode cX5_readFigures 46 = .ok (.iload_n 1, 1) := by decide +kernel
theorem dX5_readFigures_47 : decode cX5_readFigures 47 = .ok (.imul, 1) := by decide +kernel
theorem dX5_readFigures_48 : decode cX5_readFigures 48 = .ok (.iload_n 2, 1) := by decide +kernel
theorem dX5_readFigures_49 : decode cX5_readFigures 49 = .ok (.iadd, 1) := by decide +kernel
theorem dX5_readFigures_50 : decode cX5_readFigures 50 = .ok (.ireturn, 1) := by decide +kernel
theorem dJ6_bitCount_0f7a4_0 : decode cJ6_bitCount_0f7a4 0 = .ok (.iload_n 0, 1) := by decide +kernel
theorem dJ6_bitCount_0f7a4_1 : decode cJ6_bitCount_0f7a4 1 = .ok (.iload_n 0, 1) := by decide +kernel
theorem dJ6_bitCount_0f7a4_2 : decode cJ6_bitCount_0f7a4 2 = .ok (.iconst 1, 1) := by decide +kernel
theorem dJ6_bitCount_0f7a4_3 : decode cJ6_bitCount_0f7a4 3 = .ok (.iushr, 1) := by decide +kernel
theorem dJ6_bitCount_0f7a4_4 : decode cJ6_bitCount_0f7a4 4 = .ok (.ldc_w 265, 3) := by decide +kernel
theorem dJ6_bitCount_0f7a4_7 : decode cJ6_bitCount_0f7a4 7 = .ok (.iand, 1) := by decide +kernel
theorem dJ6_bitCount_0f7a4_8 : decode cJ6_bitCount_0f7a4 8 = .ok (.isub, 1) := by decide +kernel
theorem dJ6_bitCount_0f7a4_9 : decode cJ6_bitCount_0f7a4 9 = .ok (.istore_n 0, 1) := by decide +kernel
theorem dJ6_bitCount_0f7a4_10 : decode cJ6_bitCount_0f7a4 10 = .ok (.iload_n 0, 1) := by decide +kernel
theorem dJ6_bitCount_0f7a4_11 : decode cJ6_bitCount_0f7a4 11 = .ok (.ldc_w 266, 3) := by decide +kernel
theorem dJ6_bitCount_0f7a4_14 : decode cJ6_bitCount_0f7a4 14 = .ok (.iand, 1) := by decide +kernel
theorem dJ6_bitCount_0f7a4_15 : decode cJ6_bitCount_0f7a4 15 = .ok (.iload_n 0, 1) := by decide +kernel
theorem dJ6_bitCount_0f7a4_16 : decode cJ6_bitCount_0f7a4 16 = .ok (.iconst 2, 1) := by decide +kernel
theorem dJ6_bitCount_0f7a4_17 : decode cJ6_bitCount_0f7a4 17 = .ok (.iushr, 1) := by decide +kernel
theorem dJ6_bitCount_0f7a4_18 : decode cJ6_bitCount_0f7a4 18 = .ok (.ldc_w 266, 3) := by decide +kernel
theorem dJ6_bitCount_0f7a4_21 : decode cJ6_bitCount_0f7a4 21 = .ok (.iand, 1) := by decide +kernel
theorem dJ6_bitCount_0f7a4_22 : decode cJ6_bitCount_0f7a4 22 = .ok (.iadd, 1) := by decide +kernel
theorem dJ6_bitCount_0f7a4_23 : decode cJ6_bitCount_0f7a4 23 = .ok (.istore_n 0, 1) := by decide +kernel
theorem dJ6_bitCount_0f7a4_24 : decode cJ6_bitCount_0f7a4 24 = .ok (.iload_n 0, 1) := by decide +kernel
theorem dJ6_bitCount_0f7a4_25 : decode cJ6_bitCount_0f7a4 25 = .ok (.iload_n 0, 1) := by decide +kernel
theorem dJ6_bitCount_0f7a4_26 : decode cJ6_bitCount_0f7a4 26 = .ok (.iconst 4, 1) := by decide +kernel
theorem dJ6_bitCount_0f7a4_27 : decode cJ6_bitCount_0f7a4 27 = .ok (.iushr, 1) := by decide +kernel
theorem dJ6_bitCount_0f7a4_28 : decode cJ6_bitCount_0f7a4 28 = .ok (.iadd, 1) := by decide +kernel
theorem dJ6_bitCount_0f7a4_29 : decode cJ6_bitCount_0f7a4 29 = .ok (.ldc_w 267, 3) := by decide +kernel
theorem dJ6_bitCount_0f7a4_32 : decode cJ6_bitCount_0f7a4 32 = .ok (.iand, 1) := by decide +kernel
theorem dJ6_bitCount_0f7a4_33 : decode cJ6_bitCount_0f7a4 33 = .ok (.istore_n 0, 1) := by decide +kernel
theorem dJ6_bitCount_0f7a4_34 : decode cJ6_bitCount_0f7a4 34 = .ok (.iload_n 0, 1) := by decide +kernel
theorem dJ6_bitCount_0f7a4_35 : decode cJ6_bitCount_0f7a4 35 = .ok (.iload_n 0, 1) := by decide +kernel
theorem dJ6_bitCount_0f7a4_36 : decode cJ6_bitCount_0f7a4 36 = .ok (.bipush 8, 2) := by decide +kernel
theorem dJ6_bitCount_0f7a4_38 : decode cJ6_bitCount_0f7a4 38 = .ok (.iushr, 1) := by decide +kernel
theorem dJ6_bitCount_0f7a4_39 : decode cJ6_bitCount_0f7a4 39 = .ok (.iadd, 1) := by decide +kernel
theorem dJ6_bitCount_0f7a4_40 : decode cJ6_bitCount_0f7a4 40 = .ok (.istore_n 0, 1) := by decide +kernel
theorem dJ6_bitCount_0f7a4_41 : decode cJ6_bitCount_0f7a4 41 = .ok (.iload_n 0, 1) := by decide +kernel
theorem dJ6_bitCount_0f7a4_42 : decode cJ6_bitCount_0f7a4 42 = .ok (.iload_n 0, 1) := by decide +kernel
theorem dJ6_bitCount_0f7a4_43 : decode cJ6_bitCount_0f7a4 43 = .ok (.bipush 16, 2) := by decide +kernel
theorem dJ6_bitCount_0f7a4_45 : decode cJ6_bitCount_0f7a4 45 = .ok (.iushr, 1) := by decide +kernel
theorem dJ6_bitCount_0f7a4_46 : decode cJ6_bitCount_0f7a4 46 = .ok (.iadd, 1) := by decide +kernel
theorem dJ6_bitCount_0f7a4_47 : decode cJ6_bitCount_0f7a4 47 = .ok (.istore_n 0, 1) := by decide +kernel
theorem dJ6_bitCount_0f7a4_48 : decode cJ6_bitCount_0f7a4 48 = .ok (.iload_n 0, 1) := by decide +kernel
theorem dJ6_bitCount_0f7a4_49 : decode cJ6_bitCount_0f7a4 49 = .ok (.bipush 63, 2) := by decide +kernel
theorem dJ6_bitCount_0f7a4_51 : decode cJ6_bitCount_0f7a4 51 = .ok (.iand, 1) := by decide +kernel
theorem dJ6_bitCount_0f7a4_52 : decode cJ6_bitCount_0f7a4 52 = .ok (.ireturn, 1) := by decide +kernel
theorem dJ13_bitCount_95d88_0 : decode cJ13_bitCount_95d88 0 = .ok (.lload_n 0, 1) := by decide +kernel
theorem dJ13_bitCount_95d88_1 : decode cJ13_bitCount_95d88 1 = .ok (.lload_n 0, 1) := by decide +kernel
theorem dJ13_bitCount_95d88_2 : decode cJ13_bitCount_95d88 2 = .ok (.iconst 1, 1) := by decide +kernel
theorem dJ13_bitCount_95d88_3 : decode cJ13_bitCount_95d88 3 = .ok (.lushr, 1) := by decide +kernel
theorem dJ13_bitCount_95d88_4 : decode cJ13_bitCount_95d88 4 = .ok (.ldc2_w 314, 3) := by decide +kernel
theorem dJ13_bitCount_95d88_7 : decode cJ13_bitCount_95d88 7 = .ok (.land, 1) := by decide +kernel
theorem dJ13_bitCount_95d88_8 : decode cJ13_bitCount_95d88 8 = .ok (.lsub, 1) := by decide +kernel
theorem dJ13_bitCount_95d88_9 : decode cJ13_bitCount_95d88 9 = .ok (.lstore_n 0, 1) := by decide +kernel
theorem dJ13_bitCount_95d88_10 : decode cJ13_bitCount_95d88 10 = .ok (.lload_n 0, 1) := by decide +kernel
theorem dJ13_bitCount_95d88_11 : decode cJ13_bitCount_95d88 11 = .ok (.ldc2_w 316, 3) := by decide +kernel
theorem dJ13_bitCount_95d88_14 : decode cJ13_bitCount_95d88 14 = .ok (.land, 1) := by decide +kernel
theorem dJ13_bitCount_95d88_15 : decode cJ13_bitCount_95d88 15 = .ok (.lload_n 0, 1) := by decide +kernel
theorem dJ13_bitCount_95d88_16 : decode cJ13_bitCount_95d88 16 = .ok (.iconst 2, 1) := by decide +kernel
theorem dJ13_bitCount_95d88_17 : decode cJ13_bitCount_95d88 17 = .ok (.lushr, 1) := by decide +kernel
theorem dJ13_bitCount_95d88_18 : decode cJ13_bitCount_95d88 18 = .ok (.ldc2_w 316, 3) := by decide +kernel
theorem dJ13_bitCount_95d88_21 : decode cJ13_bitCount_95d88 21 = .ok (.land, 1) := by decide +kernel
theorem dJ13_bitCount_95d88_22 : decode cJ13_bitCount_95d88 22 = .ok (.ladd, 1) := by decide +kernel
theorem dJ13_bitCount_95d88_23 : decode cJ13_bitCount_95d88 23 = .ok (.lstore_n 0, 1) := by decide +kernel
theorem dJ13_bitCount_95d88_24 : decode cJ13_bitCount_95d88 24 = .ok (.lload_n 0, 1) := by decide +kernel
theorem dJ13_bitCount_95d88_25 : decode cJ13_bitCount_95d88 25 = .ok (.lload_n 0, 1) := by decide +kernel
theorem dJ13_bitCount_95d88_26 : decode cJ13_bitCount_95d88 26 = .ok (.iconst 4, 1) := by decide +kernel
theorem dJ13_bitCount_95d88_27 : decode cJ13_bitCount_95d88 27 = .ok (.lushr, 1) := by decide +kernel
theorem dJ13_bitCount_95d88_28 : decode cJ13_bitCount_95d88 28 = .ok (.ladd, 1) := by decide +kernel
theorem dJ13_bitCount_95d88_29 : decode cJ13_bitCount_95d88 29 = .ok (.ldc2_w 318, 3) := by decide +kernel
theorem dJ13_bitCount_95d88_32 : decode cJ13_bitCount_95d88 32 = .ok (.land, 1) := by decide +kernel
theorem dJ13_bitCount_95d88_33 : decode cJ13_bitCount_95d88 33 = .ok (.lstore_n 0, 1) := by decide +kernel
theorem dJ13_bitCount_95d88_34 : decode cJ13_bitCount_95d88 34 = .ok (.lload_n 0, 1) := by decide +kernel
theorem dJ13_bitCount_95d88_35 : decode cJ13_bitCount_95d88 35 = .ok (.lload_n 0, 1) := by decide +kernel
theorem dJ13_bitCount_95d88_36 : decode cJ13_bitCount_95d88 36 = .ok (.bipush 8, 2) := by decide +kernel
theorem dJ13_bitCount_95d88_38 : decode cJ13_bitCount_95d88 38 = .ok (.lushr, 1) := by decide +kernel
theorem dJ13_bitCount_95d88_39 : decode cJ13_bitCount_95d88 39 = .ok (.ladd, 1) := by decide +kernel
theorem dJ13_bitCount_95d88_40 : decode cJ13_bitCount_95d88 40 = .ok (.lstore_n 0, 1) := by decide +kernel
theorem dJ13_bitCount_95d88_41 : decode cJ13_bitCount_95d88 41 = .ok (.lload_n 0, 1) := by decide +kernel
theorem dJ13_bitCount_95d88_42 : decode cJ13_bitCount_95d88 42 = .ok (.lload_n 0, 1) := by decide +kernel
theorem dJ13_bitCount_95d88_43 : decode cJ13_bitCount_95d88 43 = .ok (.bipush 16, 2) := by decide +kernel
theorem dJ13_bitCount_95d88_45 : decode cJ13_bitCount_95d88 45 = .ok (.lushr, 1) := by decide +kernel
theorem dJ13_bitCount_95d88_46 : decode cJ13_bitCount_95d88 46 = .ok (.ladd, 1) := by decide +kernel
theorem dJ13_bitCount_95d88_47 : decode cJ13_bitCount_95d88 47 = .ok (.lstore_n 0, 1) := by decide +kernel
theorem dJ13_bitCount_95d88_48 : decode cJ13_bitCount_95d88 48 = .ok (.lload_n 0, 1) := by decide +kernel
theorem dJ13_bitCount_95d88_49 : decode cJ13_bitCount_95d88 49 = .ok (.lload_n 0, 1) := by decide +kernel
theorem dJ13_bitCount_95d88_50 : decode cJ13_bitCount_95d88 50 = .ok (.bipush 32, 2) := by decide +kernel
theorem dJ13_bitCount_95d88_52 : decode cJ13_bitCount_95d88 52 = .ok (.lushr, 1) := by decide +kernel
theorem dJ13_bitCount_95d88_53 : decode cJ13_bitCount_95d88 53 = .ok (.ladd, 1) := by decide +kernel
theorem dJ13_bitCount_95d88_54 : decode cJ13_bitCount_95d88 54 = .ok (.lstore_n 0, 1) := by decide +kernel
theorem dJ13_bitCount_95d88_55 : decode cJ13_bitCount_95d88 55 = .ok (.lload_n 0, 1) := by decide +kernel
theorem dJ13_bitCount_95d88_56 : decode cJ13_bitCount_95d88 56 = .ok (.l2i, 1) := by decide +kernel
theorem dJ13_bitCount_95d88_57 : decode cJ13_bitCount_95d88 57 = .ok (.bipush 127, 2) := by decide +kernel
theorem dJ13_bitCount_95d88_59 : decode cJ13_bitCount_95d88 59 = .ok (.iand, 1) := by decide +kernel
theorem dJ13_bitCount_95d88_60 : decode cJ13_bitCount_95d88 60 = .ok (.ireturn, 1) := by decide +kernel
theorem dJ9_max_7cf53_0 : decode cJ9_max_7cf53 0 = .ok (.iload_n 0, 1) := by decide +kernel
theorem dJ9_max_7cf53_1 : decode cJ9_max_7cf53 1 = .ok (.iload_n 1, 1) := by decide +kernel
theorem dJ9_max_7cf53_2 : decode cJ9_max_7cf53 2 = .ok (.if_icmp .lt 7, 3) := by decide +kernel
theorem dJ9_max_7cf53_5 : decode cJ9_max_7cf53 5 = .ok (.iload_n 0, 1) := by decide +kernel
theorem dJ9_max_7cf53_6 : decode cJ9_max_7cf53 6 = .ok (.goto 4, 3) := by decide +kernel
theorem dJ9_max_7cf53_9 : decode cJ9_max_7cf53 9 = .ok (.iload_n 1, 1) := by decide +kernel
theorem dJ9_max_7cf53_10 : decode cJ9_max_7cf53 10 = .ok (.ireturn, 1) := by decide +kernel
theorem dJ9_min_7cf53_0 : decode cJ9_min_7cf53 0 = .ok (.iload_n 0, 1) := by decide +kernel
theorem dJ9_min_7cf53_1 : decode cJ9_min_7cf53 1 = .ok (.iload_n 1, 1) := by decide +kernel
theorem dJ9_min_7cf53_2 : decode cJ9_min_7cf53 2 = .ok (.if_icmp .gt 7, 3) := by decide +kernel
theorem dJ9_min_7cf53_5 : decode cJ9_min_7cf53 5 = .ok (.iload_n 0, 1) := by decide +kernel
theorem dJ9_min_7cf53_6 : decode cJ9_min_7cf53 6 = .ok (.goto 4, 3) := by decide +kernel
theorem dJ9_min_7cf53_9 : decode cJ9_min_7cf53 9 = .ok (.iload_n 1, 1) := by decide +kernel
theorem dJ9_min_7cf53_10 : decode cJ9_min_7cf53 10 = .ok (.ireturn, 1) := by decide +kernel
theorem dJ7_fill_d0a16_0 : decode cJ7_fill_d0a16 0 = .ok (.iconst 0, 1) := by decide +kernel
theorem dJ7_fill_d0a16_1 : decode cJ7_fill_d0a16 1 = .ok (.istore_n 3, 1) := by decide +kernel
theorem dJ7_fill_d0a16_2 : decode cJ7_fill_d0a16 2 = .ok (.aload_n 0, 1) := by decide +kernel
theorem dJ7_fill_d0a16_3 : decode cJ7_fill_d0a16 3 = .ok (.arraylength, 1) := by decide +kernel
theorem dJ7_fill_d0a16_4 : decode cJ7_fill_d0a16 4 = .ok (.istore 4, 2) := by decide +kernel
theorem dJ7_fill_d0a16_6 : decode cJ7_fill_d0a16 6 = .ok (.iload_n 3, 1) := by decide +kernel
theorem dJ7_fill_d0a16_7 : decode cJ7_fill_d0a16 7 = .ok (.iload 4, 2) := by decide +kernel
theorem dJ7_fill_d0a16_9 : decode cJ7_fill_d0a16 9 = .ok (.if_icmp .ge 13, 3) := by decide +kernel
theorem dJ7_fill_d0a16_12 : decode cJ7_fill_d0a16 12 = .ok (.aload_n 0, 1) := by decide +kernel
theorem dJ7_fill_d0a16_13 : decode cJ7_fill_d0a16 13 = .ok (.iload_n 3, 1) := by decide +kernel
theorem dJ7_fill_d0a16_14 : decode cJ7_fill_d0a16 14 = .ok (.lload_n 1, 1) := by decide +kernel
theorem dJ7_fill_d0a16_15 : decode cJ7_fill_d0a16 15 = .ok (.lastore, 1) := by decide +kernel
theorem dJ7_fill_d0a16_16 : decode cJ7_fill_d0a16 16 = .ok (.iinc 3 1, 3) := by decide +kernel
theorem dJ7_fill_d0a16_19 : decode cJ7_fill_d0a16 19 = .ok (.goto (-13), 3) := by decide +kernel
theorem dJ7_fill_d0a16_22 : decode cJ7_fill_d0a16 22 = .ok (.return_, 1) := by decide +kernel
theorem dJ7_fill_53178_0 : decode cJ7_fill_53178 0 = .ok (.iconst 0, 1) := by decide +kernel
theorem dJ7_fill_53178_1 : decode cJ7_fill_53178 1 = .ok (.istore_n 2, 1) := by decide +kernel
theorem dJ7_fill_53178_2 : decode cJ7_fill_53178 2 = .ok (.aload_n 0, 1) := by decide +kernel
theorem dJ7_fill_53178_3 : decode cJ7_fill_53178 3 = .ok (.arraylength, 1) := by decide +kernel
theorem dJ7_fill_53178_4 : decode cJ7_fill_53178 4 = .ok (.istore_n 3, 1) := by decide +kernel
theorem dJ7_fill_53178_5 : decode cJ7_fill_53178 5 = .ok (.iload_n 2, 1) := by decide +kernel
theorem dJ7_fill_53178_6 : decode cJ7_fill_53178 6 = .ok (.iload_n 3, 1) := by decide +kernel
theorem dJ7_fill_53178_7 : decode cJ7_fill_53178 7 = .ok (.if_icmp .ge 13, 3) := by decide +kernel
theorem dJ7_fill_53178_10 : decode cJ7_fill_53178 10 = .ok (.aload_n 0, 1) := by decide +kernel
theorem dJ7_fill_53178_11 : decode cJ7_fill_53178 11 = .ok (.iload_n 2, 1) := by decide +kernel
theorem dJ7_fill_53178_12 : decode cJ7_fill_53178 12 = .ok (.iload_n 1, 1) := by decide +kernel
theorem dJ7_fill_53178_13 : decode cJ7_fill_53178 13 = .ok (.iastore, 1) := by decide +kernel
theorem dJ7_fill_53178_14 : decode cJ7_fill_53178 14 = .ok (.iinc 2 1, 3) := by decide +kernel
theorem dJ7_fill_53178_17 : decode cJ7_fill_53178 17 = .ok (.goto (-12), 3) := by decide +kernel
theorem dJ7_fill_53178_20 : decode cJ7_fill_53178 20 = .ok (.return_, 1) := by decide +kernel
end
section
theorem dX6_init_0 : decode cX6_init 0 = .ok (.aload_n 0, 1) := by decide +kernel
theorem dX6_init_1 : decode cX6_init 1 = .ok (.invokespecial 1, 3) := by decide +kernel
theorem dX6_init_4 : decode cX6_init 4 = .ok (.aload_n 0, 1) := by decide +kernel
theorem dX6_init_5 : decode cX6_init 5 = .ok (.new 7, 3) := by decide +kernel
theorem dX6_init_8 : decode cX6_init 8 = .ok (.dup, 1) := by decide +kernel
theorem dX6_init_9 : decode cX6_init 9 = .ok (.invokespecial 9, 3) := by decide +kernel
theorem dX6_init_12 : decode cX6_init 12 = .ok (.putfield 10, 3) := by decide +kernel
theorem dX6_init_15 : decode cX6_init 15 = .ok (.aload_n 0, 1) := by decide +kernel
theorem dX6_init_16 : decode cX6_init 16 = .ok (.new 16, 3) := by decide +kernel
theorem dX6_init_19 : decode cX6_init 19 = .ok (.dup, 1) := by decide +kernel
theorem dX6_init_20 : decode cX6_init 20 = .ok (.invokespecial 18, 3) := by decide +kernel
theorem dX6_init_23 : decode cX6_init 23 = .ok (.putfield 19, 3) := by decide +kernel
theorem dX6_init_26 : decode cX6_init 26 = .ok (.aload_n 0, 1) := by decide +kernel
theorem dX6_init_27 : decode cX6_init 27 = .ok (.new 23, 3) := by decide +kernel
theorem dX6_init_30 : decode cX6_init 30 = .ok (.dup, 1) := by decide +kernel
theorem dX6_init_31 : decode cX6_init 31 = .ok (.invokespecial 25, 3) := by decide +kernel
theorem dX6_init_34 : decode cX6_init 34 = .ok (.putfield 26, 3) := by decide +kernel
theorem dX6_init_37 : decode cX6_init 37 = .ok (.aload_n 0, 1) := by decide +kernel
theorem dX6_init_38 : decode cX6_init 38 = .ok (.new 30, 3) := by decide +kernel
theorem dX6_init_41 : decode cX6_init 41 = .ok (.dup, 1) := by decide +kernel
theorem dX6_init_42 : decode cX6_init 42 = .ok (.invokespecial 32, 3) := by decide +kernel
theorem dX6_init_45 : decode cX6_init 45 = .ok (.putfield 33, 3) := by decide +kernel
theorem dX6_init_48 : decode cX6_init 48 = .ok (.aload_n 0, 1) := by decide +kernel
theorem dX6_init_49 : decode cX6_init 49 = .ok (.new 37, 3) := by decide +kernel
theorem dX6_init_52 : decode cX6_init 52 = .ok (.dup, 1) := by decide +kernel
theorem dX6_init_53 : decode cX6_init 53 = .ok (.invokespecial 39, 3) := by decide +kernel
theorem dX6_init_56 : decode cX6_init 56 = .ok (.putfield 40, 3) := by decide +kernel
theorem dX6_init_59 : decode cX6_init 59 = .ok (.aload_n 0, 1) := by decide +kernel
theorem dX6_init_60 : decode cX6_init 60 = .ok (.new 44, 3) := by decide +kernel
theorem dX6_init_63 : decode cX6_init 63 = .ok (.dup, 1) := by decide +kernel
theorem dX6_init_64 : decode cX6_init 64 = .ok (.invokespecial 46, 3) := by decide +kernel
theorem dX6_init_67 : decode cX6_init 67 = .ok (.putfield 47, 3) := by decide +kernel
theorem dX6_init_70 : decode cX6_init 70 = .ok (.return_, 1) := by decide +kernel
theorem dX6_within_0 : decode cX6_within 0 = .ok (.iload_n 0, 1) := by decide +kernel
theorem dX6_within_1 : decode cX6_within 1 = .ok (.iload_n 1, 1) := by decide +kernel
theorem dX6_within_2 : decode cX6_within 2 = .ok (.if_icmp .lt 12, 3) := by decide +kernel
theorem dX6_within_5 : decode cX6_within 5 = .ok (.iload_n 0, 1) := by decide +kernel
theorem dX6_within_6 : decode cX6_within 6 = .ok (.iload_n 2, 1) := by decide +kernel
theorem dX6_within_7 : decode cX6_within 7 = .ok (.if_icmp .gt 7, 3) := by decide +kernel
theorem dX6_within_10 : decode cX6_within 10 = .ok (.iconst 1, 1) := by decide +kernel
theorem dX6_within_11 : decode cX6_within 11 = .ok (.goto 4, 3) := by decide +kernel
theorem dX6_within_14 : decode cX6_within 14 = .ok (.iconst 0, 1) := by decide +kernel
theorem dX6_within_15 : decode cX6_within 15 = .ok (.ireturn, 1) := by decide +kernel
theorem dX6_countBy_0 : decode cX6_countBy 0 = .ok (.aload_n 0, 1) := by decide +kernel
theorem dX6_countBy_1 : decode cX6_countBy 1 = .ok (.getfield 10, 3) := by decide +kernel
theorem dX6_countBy_4 : decode cX6_countBy 4 = .ok (.iload_n 1, 1) := by decide +kernel
theorem dX6_countBy_5 : decode cX6_countBy 5 = .ok (.invokevirtual 51, 3) := by decide +kernel
theorem dX6_countBy_8 : decode cX6_countBy 8 = .ok (.ifCond .eq 13, 3) := by decide +kernel
theorem dX6_countBy_11 : decode cX6_countBy 11 = .ok (.iload_n 2, 1) := by decide +kernel
theorem dX6_countBy_12 : decode cX6_countBy 12 = .ok (.iconst 1, 1) := by decide +kernel
theorem dX6_countBy_13 : decode cX6_countBy 13 = .ok (.bipush 20, 2) := by decide +kernel
theorem dX6_countBy_15 : decode cX6_countBy 15 = .ok (.invokestatic 55, 3) := by decide +kernel
theorem dX6_countBy_18 : decode cX6_countBy 18 = .ok (.ifCond .ne 6, 3) := by decide +kernel
theorem dX6_countBy_21 : decode cX6_countBy 21 = .ok (.bipush (-2), 2) := by decide +kernel
theorem dX6_countBy_23 : decode cX6_countBy 23 = .ok (.ireturn, 1) := by decide +kernel
theorem dX6_countBy_24 : decode cX6_countBy 24 = .ok (.aload_n 0, 1) := by decide +kernel
theorem dX6_countBy_25 : decode cX6_countBy 25 = .ok (.getfield 10, 3) := by decide +kernel
theorem dX6_countBy_28 : decode cX6_countBy 28 = .ok (.iload_n 1, 1) := by decide +kernel
theorem dX6_countBy_29 : decode cX6_countBy 29 = .ok (.invokevirtual 59, 3) := by decide +kernel
theorem dX6_countBy_32 : decode cX6_countBy 32 = .ok (.ifCond .eq 12, 3) := by decide +kernel
theorem dX6_countBy_35 : decode cX6_countBy 35 = .ok (.aload_n 0, 1) := by decide +kernel
theorem dX6_countBy_36 : decode cX6_countBy 36 = .ok (.getfield 10, 3) := by decide +kernel
theorem dX6_countBy_39 : decode cX6_countBy 39 = .ok (.iconst 1, 1) := by decide +kernel
theorem dX6_countBy_40 : decode cX6_countBy 40 = .ok (.invokevirtual 62, 3) := by decide +kernel
theorem dX6_countBy_43 : decode cX6_countBy 43 = .ok (.ireturn, 1) := by decide +kernel
theorem dX6_countBy_44 : decode cX6_countBy 44 = .ok (.iload_n 3, 1) := by decide +kernel
theorem dX6_countBy_45 : decode cX6_countBy 45 = .ok (.ifCond .eq 9, 3) := by decide +kernel
theorem dX6_countBy_48 : decode cX6_countBy 48 = .ok (.iload_n 2, 1) := by decide +kernel
theorem dX6_countBy_49 : decode cX6_countBy 49 = .ok (.iconst 1, 1) := by decide +kernel
theorem dX6_countBy_50 : decode cX6_countBy 50 = .ok (.iadd, 1) := by decide +kernel
theorem dX6_countBy_51 : decode cX6_countBy 51 = .ok (.goto 4, 3) := by decide +kernel
theorem dX6_countBy_54 : decode cX6_countBy 54 = .ok (.iload_n 2, 1) := by decide +kernel
theorem dX6_countBy_55 : decode cX6_countBy 55 = .ok (.istore 4, 2) := by decide +kernel
theorem dX6_countBy_57 : decode cX6_countBy 57 = .ok (.iload 4, 2) := by decide +kernel
theorem dX6_countBy_59 : decode cX6_countBy 59 = .ok (.aload_n 0, 1) := by decide +kernel
theorem dX6_countBy_60 : decode cX6_countBy 60 = .ok (.getfield 10, 3) := by decide +kernel
theorem dX6_countBy_63 : decode cX6_countBy 63 = .ok (.iload_n 1, 1) := by decide +kernel
theorem dX6_countBy_64 : decode cX6_countBy 64 = .ok (.invokevirtual 66, 3) := by decide +kernel
theorem dX6_countBy_67 : decode cX6_countBy 67 = .ok (.if_icmp .le 12, 3) := by decide +kernel
theorem dX6_countBy_70 : decode cX6_countBy 70 = .ok (.aload_n 0, 1) := by decide +kernel
theorem dX6_countBy_71 : decode cX6_countBy 71 = .ok (.getfield 10, 3) := by decide +kernel
theorem dX6_countBy_74 : decode cX6_countBy 74 = .ok (.iconst 2, 1) := by decide +kernel
theorem dX6_countBy_75 : decode cX6_countBy 75 = .ok (.invokevirtual 62, 3) := by decide +kernel
theorem dX6_countBy_78 : decode cX6_countBy 78 = .ok (.ireturn, 1) := by decide +kernel
theorem dX6_countBy_79 : decode cX6_countBy 79 = .ok (.aload_n 0, 1) := by decide +kernel
theorem dX6_countBy_80 : decode cX6_countBy 80 = .ok (.getfield 10, 3) := by decide +kernel
theorem dX6_countBy_83 : decode cX6_countBy 83 = .ok (.iload_n 1, 1) := by decide +kernel
theorem dX6_countBy_84 : decode cX6_countBy 84 = .ok (.iload 4, 2) := by decide +kernel
theorem dX6_countBy_86 : decode cX6_countBy 86 = .ok (.invokevirtual 69, 3) := by decide +kernel
theorem dX6_countBy_89 : decode cX6_countBy 89 = .ok (.ifCond .ne 6, 3) := by decide +kernel
theorem dX6_countBy_92 : decode cX6_countBy 92 = .ok (.bipush (-3), 2) := by decide +kernel
theorem dX6_countBy_94 : decode cX6_countBy 94 = .ok (.ireturn, 1) := by decide +kernel
theorem dX6_countBy_95 : decode cX6_countBy 95 = .ok (.aload_n 0, 1) := by decide +kernel
theorem dX6_countBy_96 : decode cX6_countBy 96 = .ok (.getfield 19, 3) := by decide +kernel
theorem dX6_countBy_99 : decode cX6_countBy 99 = .ok (.invokevirtual 73, 3) := by decide +kernel
theorem dX6_countBy_102 : decode cX6_countBy 102 = .ok (.ifCond .eq 8, 3) := by decide +kernel
theorem dX6_countBy_105 : decode cX6_countBy 105 = .ok (.bipush (-4), 2) := by decide +kernel
theorem dX6_countBy_107 : decode cX6_countBy 107 = .ok (.goto 17, 3) := by decide +kernel
theorem dX6_countBy_110 : decode cX6_countBy 110 = .ok (.aload_n 0, 1) := by decide +kernel
theorem dX6_countBy_111 : decode cX6_countBy 111 = .ok (.getfield 19, 3) := by decide +kernel
theorem dX6_countBy_114 : decode cX6_countBy 114 = .ok (.aload_n 0, 1) := by decide +kernel
theorem dX6_countBy_115 : decode cX6_countBy 115 = .ok (.getfield 10, 3) := by decide +kernel
theorem dX6_countBy_118 : decode cX6_countBy 118 = .ok (.iload_n 1, 1) := by decide +kernel
theorem dX6_countBy_119 : decode cX6_countBy 119 = .ok (.iload_n 2, 1) := by decide +kernel
theorem dX6_countBy_120 : decode cX6_countBy 120 = .ok (.iload_n 3, 1) := by decide +kernel
theorem dX6_countBy_121 : decode cX6_countBy 121 = .ok (.invokevirtual 77, 3) := by decide +kernel
theorem dX6_countBy_124 : decode cX6_countBy 124 = .ok (.ireturn, 1) := by decide +kernel
theorem dX6_begins_0 : decode cX6_begins 0 = .ok (.aload_n 0, 1) := by decide +kernel
theorem dX6_begins_1 : decode cX6_begins 1 = .ok (.getfield 19, 3) := by decide +kernel
theorem dX6_begins_4 : decode cX6_begins 4 = .ok (.iload_n 1, 1) := by decide +kernel
theorem dX6_begins_5 : decode cX6_begins 5 = .ok (.invokevirtual 81, 3) := by decide +kernel
theorem dX6_begins_8 : decode cX6_begins 8 = .ok (.ifCond .eq 12, 3) := by decide +kernel
theorem dX6_begins_11 : decode cX6_begins 11 = .ok (.iload_n 2, 1) := by decide +kernel
theorem dX6_begins_12 : decode cX6_begins 12 = .ok (.iconst 0, 1) := by decide +kernel
theorem dX6_begins_13 : decode cX6_begins 13 = .ok (.iconst 1, 1) := by decide +kernel
theorem dX6_begins_14 : decode cX6_begins 14 = .ok (.invokestatic 55, 3) := by decide +kernel
theorem dX6_begins_17 : decode cX6_begins 17 = .ok (.ifCond .ne 6, 3) := by decide +kernel
theorem dX6_begins_20 : decode cX6_begins 20 = .ok (.bipush (-2), 2) := by decide +kernel
theorem dX6_begins_22 : decode cX6_begins 22 = .ok (.ireturn, 1) := by decide +kernel
theorem dX6_begins_23 : decode cX6_begins 23 = .ok (.aload_n 0, 1) := by decide +kernel
theorem dX6_begins_24 : decode cX6_begins 24 = .ok (.getfield 19, 3) := by decide +kernel
theorem dX6_begins_27 : decode cX6_begins 27 = .ok (.iload_n 1, 1) := by decide +kernel
theorem dX6_begins_28 : decode cX6_begins 28 = .ok (.iload_n 2, 1) := by decide +kernel
theorem dX6_begins_29 : decode cX6_begins 29 = .ok (.invokevirtual 84, 3) := by decide +kernel
theorem dX6_begins_32 : decode cX6_begins 32 = .ok (.ireturn, 1) := by decide +kernel
theorem dX6_about_0 : decode cX6_about 0 = .ok (.aload_n 0, 1) := by decide +kernel
theorem dX6_about_1 : decode cX6_about 1 = .ok (.getfield 19, 3) := by decide +kernel
theorem dX6_about_4 : decode cX6_about 4 = .ok (.iload_n 1, 1) := by decide +kernel
theorem dX6_about_5 : decode cX6_about 5 = .ok (.invokevirtual 81, 3) := by decide +kernel
theorem dX6_about_8 : decode cX6_about 8 = .ok (.ifCond .ne 6, 3) := by decide +kernel
theorem dX6_about_11 : decode cX6_about 11 = .ok (.bipush (-2), 2) := by decide +kernel
theorem dX6_about_13 : decode cX6_about 13 = .ok (.ireturn, 1) := by decide +kernel
theorem dX6_about_14 : decode cX6_about 14 = .ok (.iload_n 2, 1) := by decide +kernel
theorem dX6_about_15 : decode cX6_about 15 = .ok (.tableswitch 65 0 3 #[29, 38, 47, 56], 29) := by decide +kernel
theorem dX6_about_44 : decode cX6_about 44 = .ok (.aload_n 0, 1) := by decide +kernel
theorem dX6_about_45 : decode cX6_about 45 = .ok (.getfield 19, 3) := by decide +kernel
theorem dX6_about_48 : decode cX6_about 48 = .ok (.iload_n 1, 1) := by decide +kernel
theorem dX6_about_49 : decode cX6_about 49 = .ok (.invokevirtual 88, 3) := by decide +kernel
theorem dX6_about_52 : decode cX6_about 52 = .ok (.ireturn, 1) := by decide +kernel
theorem dX6_about_53 : decode cX6_about 53 = .ok (.aload_n 0, 1) := by decide +kernel
theorem dX6_about_54 : decode cX6_about 54 = .ok (.getfield 19, 3) := by decide +kernel
theorem dX6_about_57 : decode cX6_about 57 = .ok (.iload_n 1, 1) := by decide +kernel
theorem dX6_about_58 : decode cX6_about 58 = .ok (.invokevirtual 91, 3) := by decide +kernel
theorem dX6_about_61 : decode cX6_about 61 = .ok (.ireturn, 1) := by decide +kernel
theorem dX6_about_62 : decode cX6_about 62 = .ok (.aload_n 0, 1) := by decide +kernel
theorem dX6_about_63 : decode cX6_about 63 = .ok (.getfield 19, 3) := by decide +kernel
theorem dX6_about_66 : decode cX6_about 66 = .ok (.iload_n 1, 1) := by decide +kernel
theorem dX6_about_67 : decode cX6_about 67 = .ok (.invokevirtual 94, 3) := by decide +kernel
theorem dX6_about_70 : decode cX6_about 70 = .ok (.ireturn, 1) := by decide +kernel
theorem dX6_about_71 : decode cX6_about 71 = .ok (.aload_n 0, 1) := by decide +kernel
theorem dX6_about_72 : decode cX6_about 72 = .ok (.getfield 19, 3) := by decide +kernel
theorem dX6_about_75 : decode cX6_about 75 = .ok (.iload_n 1, 1) := by decide +kernel
theorem dX6_about_76 : decode cX6_about 76 = .ok (.invokevirtual 97, 3) := by decide +kernel
theorem dX6_about_79 : decode cX6_about 79 = .ok (.ireturn, 1) := by decide +kernel
theorem dX6_about_80 : decode cX6_about 80 = .ok (.bipush (-2), 2) := by decide +kernel
theorem dX6_about_82 : decode cX6_about 82 = .ok (.ireturn, 1) := by decide +kernel
theorem dX6_place_0 : decode cX6_place 0 = .ok (.aload_n 0, 1) := by decide +kernel
theorem dX6_place_1 : decode cX6_place 1 = .ok (.getfield 19, 3) := by decide +kernel
theorem dX6_place_4 : decode cX6_place 4 = .ok (.iload_n 1, 1) := by decide +kernel
theorem dX6_place_5 : decode cX6_place 5 = .ok (.invokevirtual 81, 3) := by decide +kernel
theorem dX6_place_8 : decode cX6_place 8 = .ok (.ifCond .eq 19, 3) := by decide +kernel
theorem dX6_place_11 : decode cX6_place 11 = .ok (.iload_n 2, 1) := by decide +kernel
theorem dX6_place_12 : decode cX6_place 12 = .ok (.iconst 1, 1) := by decide +kernel
theorem dX6_place_13 : decode cX6_place 13 = .ok (.aload_n 0, 1) := by decide +kernel
theorem dX6_place_14 : decode cX6_place 14 = .ok (.getfield 19, 3) := by decide +kernel
theorem dX6_place_17 : decode cX6_place 17 = .ok (.iload_n 1, 1) := by decide +kernel
theorem dX6_place_18 : decode cX6_place 18 = .ok (.invokevirtual 88, 3) := by decide +kernel
theorem dX6_place_21 : decode cX6_place 21 = .ok (.invokestatic 55, 3) := by decide +kernel
theorem dX6_place_24 : decode cX6_place 24 = .ok (.ifCond .ne 6, 3) := by decide +kernel
theorem dX6_place_27 : decode cX6_place 27 = .ok (.bipush (-2), 2) := by decide +kernel
theorem dX6_place_29 : decode cX6_place 29 = .ok (.ireturn, 1) := by decide +kernel
theorem dX6_place_30 : decode cX6_place 30 = .ok (.iload_n 3, 1) := by decide +kernel
theorem dX6_place_31 : decode cX6_place 31 = .ok (.tableswitch 55 0 2 #[25, 35, 45], 25) := by decide +kernel
theorem dX6_place_56 : decode cX6_place 56 = .ok (.aload_n 0, 1) := by decide +kernel
theorem dX6_place_57 : decode cX6_place 57 = .ok (.getfield 19, 3) := by decide +kernel
theorem dX6_place_60 : decode cX6_place 60 = .ok (.iload_n 1, 1) := by decide +kernel
theorem dX6_place_61 : decode cX6_place 61 = .ok (.iload_n 2, 1) := by decide +kernel
theorem dX6_place_62 : decode cX6_place 62 = .ok (.invokevirtual 100, 3) := by decide +kernel
theorem dX6_place_65 : decode cX6_place 65 = .ok (.ireturn, 1) := by decide +kernel
theorem dX6_place_66 : decode cX6_place 66 = .ok (.aload_n 0, 1) := by decide +kernel
theorem dX6_place_67 : decode cX6_place 67 = .ok (.getfield 19, 3) := by decide +kernel
theorem dX6_place_70 : decode cX6_place 70 = .ok (.iload_n 1, 1) := by decide +kernel
theorem dX6_place_71 : decode cX6_place 71 = .ok (.iload_n 2, 1) := by decide +kernel
theorem dX6_place_72 : decode cX6_place 72 = .ok (.invokevirtual 103, 3) := by decide +kernel
theorem dX6_place_75 : decode cX6_place 75 = .ok (.ireturn, 1) := by decide +kernel
theorem dX6_place_76 : decode cX6_place 76 = .ok (.aload_n 0, 1) := by decide +kernel
theorem dX6_place_77 : decode cX6_place 77 = .ok (.getfield 19, 3) := by decide +kernel
theorem dX6_place_80 : decode cX6_place 80 = .ok (.iload_n 1, 1) := by decide +kernel
theorem dX6_place_81 : decode cX6_place 81 = .ok (.iload_n 2, 1) := by decide +kernel
theorem dX6_place_82 : decode cX6_place 82 = .ok (.invokevirtual 106, 3) := by decide +kernel
theorem dX6_place_85 : decode cX6_place 85 = .ok (.ireturn, 1) := by decide +kernel
theorem dX6_place_86 : decode cX6_place 86 = .ok (.bipush (-2), 2) := by decide +kernel
theorem dX6_place_88 : decode cX6_place 88 = .ok (.ireturn, 1) := by decide +kernel
theorem dX6_number_0 : decode cX6_number 0 = .ok (.aload_n 0, 1) := by decide +kernel
theorem dX6_number_1 : decode cX6_number 1 = .ok (.getfield 19, 3) := by decide +kernel
theorem dX6_number_4 : decode cX6_number 4 = .ok (.iload_n 1, 1) := by decide +kernel
theorem dX6_number_5 : decode cX6_number 5 = .ok (.invokevirtual 81, 3) := by decide +kernel
theorem dX6_number_8 : decode cX6_number 8 = .ok (.ifCond .eq 14, 3) := by decide +kernel
theorem dX6_number_11 : decode cX6_number 11 = .ok (.iload_n 2, 1) := by decide +kernel
theorem dX6_number_12 : decode cX6_number 12 = .ok (.iconst 1, 1) := by decide +kernel
theorem dX6_number_13 : decode cX6_number 13 = .ok (.sipush 400, 3) := by decide +kernel
theorem dX6_number_16 : decode cX6_number 16 = .ok (.invokestatic 55, 3) := by decide +kernel
theorem dX6_number_19 : decode cX6_number 19 = .ok (.ifCond .ne 6, 3) := by decide +kernel
theorem dX6_number_22 : decode cX6_number 22 = .ok (.bipush (-2), 2) := by decide +kernel
theorem dX6_number_24 : decode cX6_number 24 = .ok (.ireturn, 1) := by decide +kernel
theorem dX6_number_25 : decode cX6_number 25 = .ok (.aload_n 0, 1) := by decide +kernel
theorem dX6_number_26 : decode cX6_number 26 = .ok (.getfield 19, 3) := by decide +kernel
theorem dX6_number_29 : decode cX6_number 29 = .ok (.iload_n 1, 1) := by decide +kernel
theorem dX6_number_30 : decode cX6_number 30 = .ok (.iload_n 2, 1) := by decide +kernel
theorem dX6_number_31 : decode cX6_number 31 = .ok (.invokevirtual 109, 3) := by decide +kernel
theorem dX6_number_34 : decode cX6_number 34 = .ok (.istore 4, 2) := by decide +kernel
theorem dX6_number_36 : decode cX6_number 36 = .ok (.iload_n 3, 1) := by decide +kernel
theorem dX6_number_37 : decode cX6_number 37 = .ok (.tableswitch 66 0 3 #[31, 41, 44, 55], 31) := by decide +kernel
theorem dX6_number_68 : decode cX6_number 68 = .ok (.aload_n 0, 1) := by decide +kernel
theorem dX6_number_69 : decode cX6_number 69 = .ok (.getfield 19, 3) := by decide +kernel
theorem dX6_number_72 : decode cX6_number 72 = .ok (.iload_n 1, 1) := by decide +kernel
theorem dX6_number_73 : decode cX6_number 73 = .ok (.iload_n 2, 1) := by decide +kernel
theorem dX6_number_74 : decode cX6_number 74 = .ok (.invokevirtual 112, 3) := by decide +kernel
theorem dX6_number_77 : decode cX6_number 77 = .ok (.ireturn, 1) := by decide +kernel
theorem dX6_number_78 : decode cX6_number 78 = .ok (.iload 4, 2) := by decide +kernel
theorem dX6_number_80 : decode cX6_number 80 = .ok (.ireturn, 1) := by decide +kernel
theorem dX6_number_81 : decode cX6_number 81 = .ok (.aload_n 0, 1) := by decide +kernel
theorem dX6_number_82 : decode cX6_number 82 = .ok (.getfield 19, 3) := by decide +kernel
theorem dX6_number_85 : decode cX6_number 85 = .ok (.iload_n 1, 1) := by decide +kernel
theorem dX6_number_86 : decode cX6_number 86 = .ok (.iload 4, 2) := by decide +kernel
theorem dX6_number_88 : decode cX6_number 88 = .ok (.invokevirtual 100, 3) := by decide +kernel
theorem dX6_number_91 : decode cX6_number 91 = .ok (.ireturn, 1) := by decide +kernel
theorem dX6_number_92 : decode cX6_number 92 = .ok (.aload_n 0, 1) := by decide +kernel
theorem dX6_number_93 : decode cX6_number 93 = .ok (.getfield 19, 3) := by decide +kernel
theorem dX6_number_96 : decode cX6_number 96 = .ok (.iload_n 1, 1) := by decide +kernel
theorem dX6_number_97 : decode cX6_number 97 = .ok (.iload 4, 2) := by decide +kernel
theorem dX6_number_99 : decode cX6_number 99 = .ok (.invokevirtual 106, 3) := by decide +kernel
theorem dX6_number_102 : decode cX6_number 102 = .ok (.ireturn, 1) := by decide +kernel
theorem dX6_number_103 : decode cX6_number 103 = .ok (.bipush (-2), 2) := by decide +kernel
theorem dX6_number_105 : decode cX6_number 105 = .ok (.ireturn, 1) := by decide +kernel
theorem dX6_value_0 : decode cX6_value 0 = .ok (.aload_n 0, 1) := by decide +kernel
theorem dX6_value_1 : decode cX6_value 1 = .ok (.getfield 19, 3) := by decide +kernel
theorem dX6_value_4 : decode cX6_value 4 = .ok (.iload_n 1, 1) := by decide +kernel
theorem dX6_value_5 : decode cX6_value 5 = .ok (.invokevirtual 81, 3) := by decide +kernel
theorem dX6_value_8 : decode cX6_value 8 = .ok (.ifCond .eq 29, 3) := by decide +kernel
theorem dX6_value_11 : decode cX6_value 11 = .ok (.iload_n 2, 1) := by decide +kernel
theorem dX6_value_12 : decode cX6_value 12 = .ok (.iconst 0, 1) := by decide +kernel
theorem dX6_value_13 : decode cX6_value 13 = .ok (.bipush 20, 2) := by decide +kernel
theorem dX6_value_15 : decode cX6_value 15 = .ok (.invokestatic 55, 3) := by decide +kernel
theorem dX6_value_18 : decode cX6_value 18 = .ok (.ifCond .eq 19, 3) := by decide +kernel
theorem dX6_value_21 : decode cX6_value 21 = .ok (.iload_n 3, 1) := by decide +kernel
theorem dX6_value_22 : decode cX6_value 22 = .ok (.iconst 1, 1) := by decide +kernel
theorem dX6_value_23 : decode cX6_value 23 = .ok (.aload_n 0, 1) := by decide +kernel
theorem dX6_value_24 : decode cX6_value 24 = .ok (.getfield 19, 3) := by decide +kernel
theorem dX6_value_27 : decode cX6_value 27 = .ok (.iload_n 1, 1) := by decide +kernel
theorem dX6_value_28 : decode cX6_value 28 = .ok (.invokevirtual 88, 3) := by decide +kernel
theorem dX6_value_31 : decode cX6_value 31 = .ok (.invokestatic 55, 3) := by decide +kernel
theorem dX6_value_34 : decode cX6_value 34 = .ok (.ifCond .ne 6, 3) := by decide +kernel
theorem dX6_value_37 : decode cX6_value 37 = .ok (.bipush (-2), 2) := by decide +kernel
theorem dX6_value_39 : decode cX6_value 39 = .ok (.ireturn, 1) := by decide +kernel
theorem dX6_value_40 : decode cX6_value 40 = .ok (.iload_n 2, 1) := by decide +kernel
theorem dX6_value_41 : decode cX6_value 41 = .ok (.aload_n 0, 1) := by decide +kernel
theorem dX6_value_42 : decode cX6_value 42 = .ok (.getfield 19, 3) := by decide +kernel
theorem dX6_value_45 : decode cX6_value 45 = .ok (.iload_n 1, 1) := by decide +kernel
theorem dX6_value_46 : decode cX6_value 46 = .ok (.invokevirtual 88, 3) := by decide +kernel
theorem dX6_value_49 : decode cX6_value 49 = .ok (.imul, 1) := by decide +kernel
theorem dX6_value_50 : decode cX6_value 50 = .ok (.iload_n 3, 1) := by decide +kernel
theorem dX6_value_51 : decode cX6_value 51 = .ok (.iadd, 1) := by decide +kernel
theorem dX6_value_52 : decode cX6_value 52 = .ok (.ireturn, 1) := by decide +kernel
theorem dX6_isPoint_0 : decode cX6_isPoint 0 = .ok (.aload_n 0, 1) := by decide +kernel
theorem dX6_isPoint_1 : decode cX6_isPoint 1 = .ok (.getfield 19, 3) := by decide +kernel
theorem dX6_isPoint_4 : decode cX6_isPoint 4 = .ok (.iload_n 1, 1) := by decide +kernel
theorem dX6_isPoint_5 : decode cX6_isPoint 5 = .ok (.invokevirtual 81, 3) := by decide +kernel
theorem dX6_isPoint_8 : decode cX6_isPoint 8 = .ok (.ifCond .eq 37, 3) := by decide +kernel
theorem dX6_isPoint_11 : decode cX6_isPoint 11 = .ok (.iload_n 2, 1) := by decide +kernel
theorem dX6_isPoint_12 : decode cX6_isPoint 12 = .ok (.iconst 0, 1) := by decide +kernel
theorem dX6_isPoint_13 : decode cX6_isPoint 13 = .ok (.bipush 99, 2) := by decide +kernel
theorem dX6_isPoint_15 : decode cX6_isPoint 15 = .ok (.invokestatic 55, 3) := by decide +kernel
theorem dX6_isPoint_18 : decode cX6_isPoint 18 = .ok (.ifCond .eq 27, 3) := by decide +kernel
theorem dX6_isPoint_21 : decode cX6_isPoint 21 = .ok (.iload_n 3, 1) := by decide +kernel
theorem dX6_isPoint_22 : decode cX6_isPoint 22 = .ok (.iconst (-1), 1) := by decide +kernel
theorem dX6_isPoint_23 : decode cX6_isPoint 23 = .ok (.iconst 2, 1) := by decide +kernel
theorem dX6_isPoint_24 : decode cX6_isPoint 24 = .ok (.invokestatic 55, 3) := by decide +kernel
theorem dX6_isPoint_27 : decode cX6_isPoint 27 = .ok (.ifCond .eq 18, 3) := by decide +kernel
theorem dX6_isPoint_30 : decode cX6_isPoint 30 = .ok (.iload 4, 2) := by decide +kernel
theorem dX6_isPoint_32 : decode cX6_isPoint 32 = .ok (.iconst (-1), 1) := by decide +kernel
theorem dX6_isPoint_33 : decode cX6_isPoint 33 = .ok (.bipush 20, 2) := by decide +kernel
theorem dX6_isPoint_35 : decode cX6_isPoint 35 = .ok (.invokestatic 55, 3) := by decide +kernel
theorem dX6_isPoint_38 : decode cX6_isPoint 38 = .ok (.ifCond .eq 7, 3) := by decide +kernel
theorem dX6_isPoint_41 : decode cX6_isPoint 41 = .ok (.iconst 1, 1) := by decide +kernel
theorem dX6_isPoint_42 : decode cX6_isPoint 42 = .ok (.goto 4, 3) := by decide +kernel
theorem dX6_isPoint_45 : decode cX6_isPoint 45 = .ok (.iconst 0, 1) := by decide +kernel
theorem dX6_isPoint_46 : decode cX6_isPoint 46 = .ok (.ireturn, 1) := by decide +kernel
theorem dX6_meanings_0 : decode cX6_meanings 0 = .ok (.aload_n 0, 1) := by decide +kernel
theorem dX6_meanings_1 : decode cX6_meanings 1 = .ok (.iload_n 1, 1) := by decide +kernel
theorem dX6_meanings_2 : decode cX6_meanings 2 = .ok (.iload_n 2, 1) := by decide +kernel
theorem dX6_meanings_3 : decode cX6_meanings 3 = .ok (.iload_n 3, 1) := by decide +kernel
theorem dX6_meanings_4 : decode cX6_meanings 4 = .ok (.iload 4, 2) := by decide +kernel
theorem dX6_meanings_6 : decode cX6_meanings 6 = .ok (.invokevirtual 115, 3) := by decide +kernel
theorem dX6_meanings_9 : decode cX6_meanings 9 = .ok (.ifCond .eq 15, 3) := by decide +kernel
theorem dX6_meanings_12 : decode cX6_meanings 12 = .ok (.iload 5, 2) := by decide +kernel
theorem dX6_meanings_14 : decode cX6_meanings 14 = .ok (.iconst 1, 1) := by decide +kernel
theorem dX6_meanings_15 : decode cX6_meanings 15 = .ok (.sipush 400, 3) := by decide +kernel
theorem dX6_meanings_18 : decode cX6_meanings 18 = .ok (.invokestatic 55, 3) := by decide +kernel
theorem dX6_meanings_21 : decode cX6_meanings 21 = .ok (.ifCond .ne 6, 3) := by decide +kernel
theorem dX6_meanings_24 : decode cX6_meanings 24 = .ok (.bipush (-2), 2) := by decide +kernel
theorem dX6_meanings_26 : decode cX6_meanings 26 = .ok (.ireturn, 1) := by decide +kernel
theorem dX6_meanings_27 : decode cX6_meanings 27 = .ok (.iconst 0, 1) := by decide +kernel
theorem dX6_meanings_28 : decode cX6_meanings 28 = .ok (.istore 6, 2) := by decide +kernel
theorem dX6_meanings_30 : decode cX6_meanings 30 = .ok (.iconst 1, 1) := by decide +kernel
theorem dX6_meanings_31 : decode cX6_meanings 31 = .ok (.istore 7, 2) := by decide +kernel
theorem dX6_meanings_33 : decode cX6_meanings 33 = .ok (.iload 7, 2) := by decide +kernel
theorem dX6_meanings_35 : decode cX6_meanings 35 = .ok (.iload 5, 2) := by decide +kernel
theorem dX6_meanings_37 : decode cX6_meanings 37 = .ok (.if_icmp .gt 29, 3) := by decide +kernel
theorem dX6_meanings_40 : decode cX6_meanings 40 = .ok (.aload_n 0, 1) := by decide +kernel
theorem dX6_meanings_41 : decode cX6_meanings 41 = .ok (.getfield 19, 3) := by decide +kernel
theorem dX6_meanings_44 : decode cX6_meanings 44 = .ok (.iload_n 1, 1) := by decide +kernel
theorem dX6_meanings_45 : decode cX6_meanings 45 = .ok (.iload_n 2, 1) := by decide +kernel
theorem dX6_meanings_46 : decode cX6_meanings 46 = .ok (.iload_n 3, 1) := by decide +kernel
theorem dX6_meanings_47 : decode cX6_meanings 47 = .ok (.iload 4, 2) := by decide +kernel
theorem dX6_meanings_49 : decode cX6_meanings 49 = .ok (.iload 7, 2) := by decide +kernel
theorem dX6_meanings_51 : decode cX6_meanings 51 = .ok (.invokevirtual 119, 3) := by decide +kernel
theorem dX6_meanings_54 : decode cX6_meanings 54 = .ok (.ifCond .eq 6, 3) := by decide +kernel
theorem dX6_meanings_57 : decode cX6_meanings 57 = .ok (.iinc 6 1, 3) := by decide +kernel
theorem dX6_meanings_60 : decode cX6_meanings 60 = .ok (.iinc 7 1, 3) := by decide +kernel
theorem dX6_meanings_63 : decode cX6_meanings 63 = .ok (.goto (-30), 3) := by decide +kernel
theorem dX6_meanings_66 : decode cX6_meanings 66 = .ok (.iload 6, 2) := by decide +kernel
theorem dX6_meanings_68 : decode cX6_meanings 68 = .ok (.ireturn, 1) := by decide +kernel
theorem dX6_meaning_0 : decode cX6_meaning 0 = .ok (.aload_n 0, 1) := by decide +kernel
theorem dX6_meaning_1 : decode cX6_meaning 1 = .ok (.iload_n 1, 1) := by decide +kernel
theorem dX6_meaning_2 : decode cX6_meaning 2 = .ok (.iload_n 2, 1) := by decide +kernel
theorem dX6_meaning_3 : decode cX6_meaning 3 = .ok (.iload_n 3, 1) := by decide +kernel
theorem dX6_meaning_4 : decode cX6_meaning 4 = .ok (.iload 4, 2) := by decide +kernel
theorem dX6_meaning_6 : decode cX6_meaning 6 = .ok (.invokevirtual 115, 3) := by decide +kernel
theorem dX6_meaning_9 : decode cX6_meaning 9 = .ok (.ifCond .eq 8, 3) := by decide +kernel
theorem dX6_meaning_12 : decode cX6_meaning 12 = .ok (.iload 5, 2) := by decide +kernel
theorem dX6_meaning_14 : decode cX6_meaning 14 = .ok (.ifCond .ge 6, 3) := by decide +kernel
theorem dX6_meaning_17 : decode cX6_meaning 17 = .ok (.bipush (-2), 2) := by decide +kernel
theorem dX6_meaning_19 : decode cX6_meaning 19 = .ok (.ireturn, 1) := by decide +kernel
theorem dX6_meaning_20 : decode cX6_meaning 20 = .ok (.iconst 0, 1) := by decide +kernel
theorem dX6_meaning_21 : decode cX6_meaning 21 = .ok (.istore 6, 2) := by decide +kernel
theorem dX6_meaning_23 : decode cX6_meaning 23 = .ok (.iconst 1, 1) := by decide +kernel
theorem dX6_meaning_24 : decode cX6_meaning 24 = .ok (.istore 7, 2) := by decide +kernel
theorem dX6_meaning_26 : decode cX6_meaning 26 = .ok (.iload 7, 2) := by decide +kernel
theorem dX6_meaning_28 : decode cX6_meaning 28 = .ok (.sipush 400, 3) := by decide +kernel
theorem dX6_meaning_31 : decode cX6_meaning 31 = .ok (.if_icmp .gt 39, 3) := by decide +kernel
theorem dX6_meaning_34 : decode cX6_meaning 34 = .ok (.aload_n 0, 1) := by decide +kernel
theorem dX6_meaning_35 : decode cX6_meaning 35 = .ok (.getfield 19, 3) := by decide +kernel
theorem dX6_meaning_38 : decode cX6_meaning 38 = .ok (.iload_n 1, 1) := by decide +kernel
theorem dX6_meaning_39 : decode cX6_meaning 39 = .ok (.iload_n 2, 1) := by decide +kernel
theorem dX6_meaning_40 : decode cX6_meaning 40 = .ok (.iload_n 3, 1) := by decide +kernel
theorem dX6_meaning_41 : decode cX6_meaning 41 = .ok (.iload 4, 2) := by decide +kernel
theorem dX6_meaning_43 : decode cX6_meaning 43 = .ok (.iload 7, 2) := by decide +kernel
theorem dX6_meaning_45 : decode cX6_meaning 45 = .ok (.invokevirtual 119, 3) := by decide +kernel
theorem dX6_meaning_48 : decode cX6_meaning 48 = .ok (.ifCond .eq 16, 3) := by decide +kernel
theorem dX6_meaning_51 : decode cX6_meaning 51 = .ok (.iload 6, 2) := by decide +kernel
theorem dX6_meaning_53 : decode cX6_meaning 53 = .ok (.iload 5, 2) := by decide +kernel
theorem dX6_meaning_55 : decode cX6_meaning 55 = .ok (.if_icmp .ne 6, 3) := by decide +kernel
theorem dX6_meaning_58 : decode cX6_meaning 58 = .ok (.iload 7, 2) := by decide +kernel
theorem dX6_meaning_60 : decode cX6_meaning 60 = .ok (.ireturn, 1) := by decide +kernel
theorem dX6_meaning_61 : decode cX6_meaning 61 = .ok (.iinc 6 1, 3) := by decide +kernel
theorem dX6_meaning_64 : decode cX6_meaning 64 = .ok (.iinc 7 1, 3) := by decide +kernel
theorem dX6_meaning_67 : decode cX6_meaning 67 = .ok (.goto (-41), 3) := by decide +kernel
theorem dX6_meaning_70 : decode cX6_meaning 70 = .ok (.iconst (-1), 1) := by decide +kernel
theorem dX6_meaning_71 : decode cX6_meaning 71 = .ok (.ireturn, 1) := by decide +kernel
theorem dX6_mat_0 : decode cX6_mat 0 = .ok (.iload_n 1, 1) := by decide +kernel
theorem dX6_mat_1 : decode cX6_mat 1 = .ok (.iconst 1, 1) := by decide +kernel
theorem dX6_mat_2 : decode cX6_mat 2 = .ok (.bipush 40, 2) := by decide +kernel
theorem dX6_mat_4 : decode cX6_mat 4 = .ok (.invokestatic 55, 3) := by decide +kernel
theorem dX6_mat_7 : decode cX6_mat 7 = .ok (.ifCond .eq 14, 3) := by decide +kernel
theorem dX6_mat_10 : decode cX6_mat 10 = .ok (.aload_n 0, 1) := by decide +kernel
theorem dX6_mat_11 : decode cX6_mat 11 = .ok (.getfield 26, 3) := by decide +kernel
theorem dX6_mat_14 : decode cX6_mat 14 = .ok (.iload_n 1, 1) := by decide +kernel
theorem dX6_mat_15 : decode cX6_mat 15 = .ok (.invokevirtual 123, 3) := by decide +kernel
theorem dX6_mat_18 : decode cX6_mat 18 = .ok (.goto 5, 3) := by decide +kernel
theorem dX6_mat_21 : decode cX6_mat 21 = .ok (.bipush (-2), 2) := by decide +kernel
theorem dX6_mat_23 : decode cX6_mat 23 = .ok (.ireturn, 1) := by decide +kernel
theorem dX6_clue_0 : decode cX6_clue 0 = .ok (.iload_n 1, 1) := by decide +kernel
theorem dX6_clue_1 : decode cX6_clue 1 = .ok (.invokestatic 126, 3) := by decide +kernel
theorem dX6_clue_4 : decode cX6_clue 4 = .ok (.ifCond .eq 16, 3) := by decide +kernel
theorem dX6_clue_7 : decode cX6_clue 7 = .ok (.aload_n 0, 1) := by decide +kernel
theorem dX6_clue_8 : decode cX6_clue 8 = .ok (.iload_n 2, 1) := by decide +kernel
theorem dX6_clue_9 : decode cX6_clue 9 = .ok (.iload_n 3, 1) := by decide +kernel
theorem dX6_clue_10 : decode cX6_clue 10 = .ok (.iload 4, 2) := by decide +kernel
theorem dX6_clue_12 : decode cX6_clue 12 = .ok (.iload 5, 2) := by decide +kernel
theorem dX6_clue_14 : decode cX6_clue 14 = .ok (.invokevirtual 115, 3) := by decide +kernel
theorem dX6_clue_17 : decode cX6_clue 17 = .ok (.ifCond .ne 6, 3) := by decide +kernel
theorem dX6_clue_20 : decode cX6_clue 20 = .ok (.bipush (-2), 2) := by decide +kernel
theorem dX6_clue_22 : decode cX6_clue 22 = .ok (.ireturn, 1) := by decide +kernel
theorem dX6_clue_23 : decode cX6_clue 23 = .ok (.aload_n 0, 1) := by decide +kernel
theorem dX6_clue_24 : decode cX6_clue 24 = .ok (.getfield 26, 3) := by decide +kernel
theorem dX6_clue_27 : decode cX6_clue 27 = .ok (.iload_n 1, 1) := by decide +kernel
theorem dX6_clue_28 : decode cX6_clue 28 = .ok (.iload_n 2, 1) := by decide +kernel
theorem dX6_clue_29 : decode cX6_clue 29 = .ok (.iload_n 3, 1) := by decide +kernel
theorem dX6_clue_30 : decode cX6_clue 30 = .ok (.iload 4, 2) := by decide +kernel
theorem dX6_clue_32 : decode cX6_clue 32 = .ok (.iload 5, 2) := by decide +kernel
theorem dX6_clue_34 : decode cX6_clue 34 = .ok (.invokevirtual 129, 3) := by decide +kernel
theorem dX6_clue_37 : decode cX6_clue 37 = .ok (.ireturn, 1) := by decide +kernel
theorem dX6_sum_0 : decode cX6_sum 0 = .ok (.iload_n 1, 1) := by decide +kernel
theorem dX6_sum_1 : decode cX6_sum 1 = .ok (.invokestatic 126, 3) := by decide +kernel
theorem dX6_sum_4 : decode cX6_sum 4 = .ok (.ifCond .eq 17, 3) := by decide +kernel
theorem dX6_sum_7 : decode cX6_sum 7 = .ok (.iload_n 2, 1) := by decide +kernel
theorem dX6_sum_8 : decode cX6_sum 8 = .ok (.invokestatic 126, 3) := by decide +kernel
theorem dX6_sum_11 : decode cX6_sum 11 = .ok (.ifCond .eq 10, 3) := by decide +kernel
theorem dX6_sum_14 : decode cX6_sum 14 = .ok (.iload_n 3, 1) := by decide +kernel
theorem dX6_sum_15 : decode cX6_sum 15 = .ok (.invokestatic 126, 3) := by decide +kernel
theorem dX6_sum_18 : decode cX6_sum 18 = .ok (.ifCond .ne 6, 3) := by decide +kernel
theorem dX6_sum_21 : decode cX6_sum 21 = .ok (.bipush (-2), 2) := by decide +kernel
theorem dX6_sum_23 : decode cX6_sum 23 = .ok (.ireturn, 1) := by decide +kernel
theorem dX6_sum_24 : decode cX6_sum 24 = .ok (.aload_n 0, 1) := by decide +kernel
theorem dX6_sum_25 : decode cX6_sum 25 = .ok (.getfield 26, 3) := by decide +kernel
theorem dX6_sum_28 : decode cX6_sum 28 = .ok (.iconst 1, 1) := by decide +kernel
theorem dX6_sum_29 : decode cX6_sum 29 = .ok (.iload_n 1, 1) := by decide +kernel
theorem dX6_sum_30 : decode cX6_sum 30 = .ok (.iload_n 2, 1) := by decide +kernel
theorem dX6_sum_31 : decode cX6_sum 31 = .ok (.iload_n 3, 1) := by decide +kernel
theorem dX6_sum_32 : decode cX6_sum 32 = .ok (.invokevirtual 133, 3) := by decide +kernel
theorem dX6_sum_35 : decode cX6_sum 35 = .ok (.ireturn, 1) := by decide +kernel
theorem dX6_less_0 : decode cX6_less 0 = .ok (.iload_n 1, 1) := by decide +kernel
theorem dX6_less_1 : decode cX6_less 1 = .ok (.invokestatic 126, 3) := by decide +kernel
theorem dX6_less_4 : decode cX6_less 4 = .ok (.ifCond .eq 15, 3) := by decide +kernel
theorem dX6_less_7 : decode cX6_less 7 = .ok (.iload_n 2, 1) := by decide +kernel
theorem dX6_less_8 : decode cX6_less 8 = .ok (.invokestatic 126, 3) := by decide +kernel
theorem dX6_less_11 : decode cX6_less 11 = .ok (.ifCond .eq 8, 3) := by decide +kernel
theorem dX6_less_14 : decode cX6_less 14 = .ok (.iload_n 1, 1) := by decide +kernel
theorem dX6_less_15 : decode cX6_less 15 = .ok (.iload_n 2, 1) := by decide +kernel
theorem dX6_less_16 : decode cX6_less 16 = .ok (.if_icmp .ne 6, 3) := by decide +kernel
theorem dX6_less_19 : decode cX6_less 19 = .ok (.bipush (-2), 2) := by decide +kernel
theorem dX6_less_21 : decode cX6_less 21 = .ok (.ireturn, 1) := by decide +kernel
theorem dX6_less_22 : decode cX6_less 22 = .ok (.aload_n 0, 1) := by decide +kernel
theorem dX6_less_23 : decode cX6_less 23 = .ok (.getfield 26, 3) := by decide +kernel
theorem dX6_less_26 : decode cX6_less 26 = .ok (.iconst 2, 1) := by decide +kernel
theorem dX6_less_27 : decode cX6_less 27 = .ok (.iload_n 1, 1) := by decide +kernel
theorem dX6_less_28 : decode cX6_less 28 = .ok (.iload_n 2, 1) := by decide +kernel
theorem dX6_less_29 : decode cX6_less 29 = .ok (.iconst 0, 1) := by decide +kernel
theorem dX6_less_30 : decode cX6_less 30 = .ok (.invokevirtual 133, 3) := by decide +kernel
theorem dX6_less_33 : decode cX6_less 33 = .ok (.ireturn, 1) := by decide +kernel
theorem dX6_mats_0 : decode cX6_mats 0 = .ok (.iload_n 1, 1) := by decide +kernel
theorem dX6_mats_1 : decode cX6_mats 1 = .ok (.invokestatic 126, 3) := by decide +kernel
theorem dX6_mats_4 : decode cX6_mats 4 = .ok (.ifCond .eq 22, 3) := by decide +kernel
theorem dX6_mats_7 : decode cX6_mats 7 = .ok (.iload_n 3, 1) := by decide +kernel
theorem dX6_mats_8 : decode cX6_mats 8 = .ok (.iconst 1, 1) := by decide +kernel
theorem dX6_mats_9 : decode cX6_mats 9 = .ok (.bipush 40, 2) := by decide +kernel
theorem dX6_mats_11 : decode cX6_mats 11 = .ok (.invokestatic 55, 3) := by decide +kernel
theorem dX6_mats_14 : decode cX6_mats 14 = .ok (.ifCond .eq 12, 3) := by decide +kernel
theorem dX6_mats_17 : decode cX6_mats 17 = .ok (.iload_n 2, 1) := by decide +kernel
theorem dX6_mats_18 : decode cX6_mats 18 = .ok (.iconst 1, 1) := by decide +kernel
theorem dX6_mats_19 : decode cX6_mats 19 = .ok (.iload_n 3, 1) := by decide +kernel
theorem dX6_mats_20 : decode cX6_mats 20 = .ok (.invokestatic 55, 3) := by decide +kernel
theorem dX6_mats_23 : decode cX6_mats 23 = .ok (.ifCond .ne 6, 3) := by decide +kernel
theorem dX6_mats_26 : decode cX6_mats 26 = .ok (.bipush (-2), 2) := by decide +kernel
theorem dX6_mats_28 : decode cX6_mats 28 = .ok (.ireturn, 1) := by decide +kernel
theorem dX6_mats_29 : decode cX6_mats 29 = .ok (.aload_n 0, 1) := by decide +kernel
theorem dX6_mats_30 : decode cX6_mats 30 = .ok (.getfield 26, 3) := by decide +kernel
theorem dX6_mats_33 : decode cX6_mats 33 = .ok (.iconst 3, 1) := by decide +kernel
theorem dX6_mats_34 : decode cX6_mats 34 = .ok (.iload_n 1, 1) := by decide +kernel
theorem dX6_mats_35 : decode cX6_mats 35 = .ok (.iload_n 2, 1) := by decide +kernel
theorem dX6_mats_36 : decode cX6_mats 36 = .ok (.iload_n 3, 1) := by decide +kernel
theorem dX6_mats_37 : decode cX6_mats 37 = .ok (.invokevirtual 133, 3) := by decide +kernel
theorem dX6_mats_40 : decode cX6_mats 40 = .ok (.ireturn, 1) := by decide +kernel
theorem dX6_forget_0 : decode cX6_forget 0 = .ok (.aload_n 0, 1) := by decide +kernel
theorem dX6_forget_1 : decode cX6_forget 1 = .ok (.getfield 26, 3) := by decide +kernel
theorem dX6_forget_4 : decode cX6_forget 4 = .ok (.invokevirtual 137, 3) := by decide +kernel
theorem dX6_forget_7 : decode cX6_forget 7 = .ok (.ireturn, 1) := by decide +kernel
theorem dX6_solutions_0 : decode cX6_solutions 0 = .ok (.aload_n 0, 1) := by decide +kernel
theorem dX6_solutions_1 : decode cX6_solutions 1 = .ok (.getfield 26, 3) := by decide +kernel
theorem dX6_solutions_4 : decode cX6_solutions 4 = .ok (.aload_n 0, 1) := by decide +kernel
theorem dX6_solutions_5 : decode cX6_solutions 5 = .ok (.getfield 19, 3) := by decide +kernel
theorem dX6_solutions_8 : decode cX6_solutions 8 = .ok (.invokevirtual 141, 3) := by decide +kernel
theorem dX6_solutions_11 : decode cX6_solutions 11 = .ok (.ireturn, 1) := by decide +kernel
theorem dX6_solution_0 : decode cX6_solution 0 = .ok (.iload_n 1, 1) := by decide +kernel
theorem dX6_solution_1 : decode cX6_solution 1 = .ok (.ifCond .lt 10, 3) := by decide +kernel
theorem dX6_solution_4 : decode cX6_solution 4 = .ok (.iload_n 2, 1) := by decide +kernel
theorem dX6_solution_5 : decode cX6_solution 5 = .ok (.invokestatic 126, 3) := by decide +kernel
theorem dX6_solution_8 : decode cX6_solution 8 = .ok (.ifCond .ne 8, 3) := by decide +kernel
theorem dX6_solution_11 : decode cX6_solution 11 = .ok (.bipush (-2), 2) := by decide +kernel
theorem dX6_solution_13 : decode cX6_solution 13 = .ok (.goto 16, 3) := by decide +kernel
theorem dX6_solution_16 : decode cX6_solution 16 = .ok (.aload_n 0, 1) := by decide +kernel
theorem dX6_solution_17 : decode cX6_solution 17 = .ok (.getfield 26, 3) := by decide +kernel
theorem dX6_solution_20 : decode cX6_solution 20 = .ok (.aload_n 0, 1) := by decide +kernel
theorem dX6_solution_21 : decode cX6_solution 21 = .ok (.getfield 19, 3) := by decide +kernel
theorem dX6_solution_24 : decode cX6_solution 24 = .ok (.iload_n 1, 1) := by decide +kernel
theorem dX6_solution_25 : decode cX6_solution 25 = .ok (.iload_n 2, 1) := by decide +kernel
theorem dX6_solution_26 : decode cX6_solution 26 = .ok (.invokevirtual 145, 3) := by decide +kernel
theorem dX6_solution_29 : decode cX6_solution 29 = .ok (.ireturn, 1) := by decide +kernel
theorem dX6_sure_0 : decode cX6_sure 0 = .ok (.iload_n 1, 1) := by decide +kernel
theorem dX6_sure_1 : decode cX6_sure 1 = .ok (.invokestatic 126, 3) := by decide +kernel
theorem dX6_sure_4 : decode cX6_sure 4 = .ok (.ifCond .eq 18, 3) := by decide +kernel
theorem dX6_sure_7 : decode cX6_sure 7 = .ok (.aload_n 0, 1) := by decide +kernel
theorem dX6_sure_8 : decode cX6_sure 8 = .ok (.getfield 26, 3) := by decide +kernel
theorem dX6_sure_11 : decode cX6_sure 11 = .ok (.aload_n 0, 1) := by decide +kernel
theorem dX6_sure_12 : decode cX6_sure 12 = .ok (.getfield 19, 3) := by decide +kernel
theorem dX6_sure_15 : decode cX6_sure 15 = .ok (.iload_n 1, 1) := by decide +kernel
theorem dX6_sure_16 : decode cX6_sure 16 = .ok (.invokevirtual 149, 3) := by decide +kernel
theorem dX6_sure_19 : decode cX6_sure 19 = .ok (.goto 5, 3) := by decide +kernel
theorem dX6_sure_22 : decode cX6_sure 22 = .ok (.bipush (-2), 2) := by decide +kernel
theorem dX6_sure_24 : decode cX6_sure 24 = .ok (.ireturn, 1) := by decide +kernel
theorem dX6_quarrel_0 : decode cX6_quarrel 0 = .ok (.aload_n 0, 1) := by decide +kernel
theorem dX6_quarrel_1 : decode cX6_quarrel 1 = .ok (.getfield 26, 3) := by decide +kernel
theorem dX6_quarrel_4 : decode cX6_quarrel 4 = .ok (.aload_n 0, 1) := by decide +kernel
theorem dX6_quarrel_5 : decode cX6_quarrel 5 = .ok (.getfield 19, 3) := by decide +kernel
theorem dX6_quarrel_8 : decode cX6_quarrel 8 = .ok (.invokevirtual 153, 3) := by decide +kernel
theorem dX6_quarrel_11 : decode cX6_quarrel 11 = .ok (.ireturn, 1) := by decide +kernel
theorem dX6_heard_0 : decode cX6_heard 0 = .ok (.aload_n 0, 1) := by decide +kernel
theorem dX6_heard_1 : decode cX6_heard 1 = .ok (.getfield 19, 3) := by decide +kernel
theorem dX6_heard_4 : decode cX6_heard 4 = .ok (.iload_n 1, 1) := by decide +kernel
theorem dX6_heard_5 : decode cX6_heard 5 = .ok (.invokevirtual 81, 3) := by decide +kernel
theorem dX6_heard_8 : decode cX6_heard 8 = .ok (.ifCond .eq 25, 3) := by decide +kernel
theorem dX6_heard_11 : decode cX6_heard 11 = .ok (.aload_n 0, 1) := by decide +kernel
theorem dX6_heard_12 : decode cX6_heard 12 = .ok (.getfield 19, 3) := by decide +kernel
theorem dX6_heard_15 : decode cX6_heard 15 = .ok (.iload_n 2, 1) := by decide +kernel
theorem dX6_heard_16 : decode cX6_heard 16 = .ok (.invokevirtual 81, 3) := by decide +kernel
theorem dX6_heard_19 : decode cX6_heard 19 = .ok (.ifCond .eq 14, 3) := by decide +kernel
theorem dX6_heard_22 : decode cX6_heard 22 = .ok (.iload_n 3, 1) := by decide +kernel
theorem dX6_heard_23 : decode cX6_heard 23 = .ok (.iconst 1, 1) := by decide +kernel
theorem dX6_heard_24 : decode cX6_heard 24 = .ok (.sipush 400, 3) := by decide +kernel
theorem dX6_heard_27 : decode cX6_heard 27 = .ok (.invokestatic 55, 3) := by decide +kernel
theorem dX6_heard_30 : decode cX6_heard 30 = .ok (.ifCond .ne 6, 3) := by decide +kernel
theorem dX6_heard_33 : decode cX6_heard 33 = .ok (.bipush (-2), 2) := by decide +kernel
theorem dX6_heard_35 : decode cX6_heard 35 = .ok (.ireturn, 1) := by decide +kernel
theorem dX6_heard_36 : decode cX6_heard 36 = .ok (.aload_n 0, 1) := by decide +kernel
theorem dX6_heard_37 : decode cX6_heard 37 = .ok (.getfield 19, 3) := by decide +kernel
theorem dX6_heard_40 : decode cX6_heard 40 = .ok (.iload_n 1, 1) := by decide +kernel
theorem dX6_heard_41 : decode cX6_heard 41 = .ok (.iload_n 2, 1) := by decide +kernel
theorem dX6_heard_42 : decode cX6_heard 42 = .ok (.iload_n 3, 1) := by decide +kernel
theorem dX6_heard_43 : decode cX6_heard 43 = .ok (.invokevirtual 156, 3) := by decide +kernel
theorem dX6_heard_46 : decode cX6_heard 46 = .ok (.ireturn, 1) := by decide +kernel
theorem dX6_clear_0 : decode cX6_clear 0 = .ok (.aload_n 0, 1) := by decide +kernel
theorem dX6_clear_1 : decode cX6_clear 1 = .ok (.getfield 19, 3) := by decide +kernel
theorem dX6_clear_4 : decode cX6_clear 4 = .ok (.iload_n 1, 1) := by decide +kernel
theorem dX6_clear_5 : decode cX6_clear 5 = .ok (.invokevirtual 81, 3) := by decide +kernel
theorem dX6_clear_8 : decode cX6_clear 8 = .ok (.ifCond .eq 25, 3) := by decide +kernel
theorem dX6_clear_11 : decode cX6_clear 11 = .ok (.aload_n 0, 1) := by decide +kernel
theorem dX6_clear_12 : decode cX6_clear 12 = .ok (.getfield 19, 3) := by decide +kernel
theorem dX6_clear_15 : decode cX6_clear 15 = .ok (.iload_n 2, 1) := by decide +kernel
theorem dX6_clear_16 : decode cX6_clear 16 = .ok (.invokevirtual 81, 3) := by decide +kernel
theorem dX6_clear_19 : decode cX6_clear 19 = .ok (.ifCond .eq 14, 3) := by decide +kernel
theorem dX6_clear_22 : decode cX6_clear 22 = .ok (.iload_n 3, 1) := by decide +kernel
theorem dX6_clear_23 : decode cX6_clear 23 = .ok (.iconst 1, 1) := by decide +kernel
theorem dX6_clear_24 : decode cX6_clear 24 = .ok (.sipush 400, 3) := by decide +kernel
theorem dX6_clear_27 : decode cX6_clear 27 = .ok (.invokestatic 55, 3) := by decide +kernel
theorem dX6_clear_30 : decode cX6_clear 30 = .ok (.ifCond .ne 6, 3) := by decide +kernel
theorem dX6_clear_33 : decode cX6_clear 33 = .ok (.bipush (-2), 2) := by decide +kernel
theorem dX6_clear_35 : decode cX6_clear 35 = .ok (.ireturn, 1) := by decide +kernel
theorem dX6_clear_36 : decode cX6_clear 36 = .ok (.iconst 0, 1) := by decide +kernel
theorem dX6_clear_37 : decode cX6_clear 37 = .ok (.istore 4, 2) := by decide +kernel
theorem dX6_clear_39 : decode cX6_clear 39 = .ok (.iconst 1, 1) := by decide +kernel
theorem dX6_clear_40 : decode cX6_clear 40 = .ok (.istore 5, 2) := by decide +kernel
theorem dX6_clear_42 : decode cX6_clear 42 = .ok (.iload 5, 2) := by decide +kernel
theorem dX6_clear_44 : decode cX6_clear 44 = .ok (.iload_n 3, 1) := by decide +kernel
theorem dX6_clear_45 : decode cX6_clear 45 = .ok (.if_icmp .gt 28, 3) := by decide +kernel
theorem dX6_clear_48 : decode cX6_clear 48 = .ok (.aload_n 0, 1) := by decide +kernel
theorem dX6_clear_49 : decode cX6_clear 49 = .ok (.getfield 19, 3) := by decide +kernel
theorem dX6_clear_52 : decode cX6_clear 52 = .ok (.iload_n 1, 1) := by decide +kernel
theorem dX6_clear_53 : decode cX6_clear 53 = .ok (.iload_n 2, 1) := by decide +kernel
theorem dX6_clear_54 : decode cX6_clear 54 = .ok (.iload 5, 2) := by decide +kernel
theorem dX6_clear_56 : decode cX6_clear 56 = .ok (.invokevirtual 156, 3) := by decide +kernel
theorem dX6_clear_59 : decode cX6_clear 59 = .ok (.iload 5, 2) := by decide +kernel
theorem dX6_clear_61 : decode cX6_clear 61 = .ok (.if_icmp .ne 6, 3) := by decide +kernel
theorem dX6_clear_64 : decode cX6_clear 64 = .ok (.iinc 4 1, 3) := by decide +kernel
theorem dX6_clear_67 : decode cX6_clear 67 = .ok (.iinc 5 1, 3) := by decide +kernel
theorem dX6_clear_70 : decode cX6_clear 70 = .ok (.goto (-28), 3) := by decide +kernel
theorem dX6_clear_73 : decode cX6_clear 73 = .ok (.iload 4, 2) := by decide +kernel
theorem dX6_clear_75 : decode cX6_clear 75 = .ok (.ireturn, 1) := by decide +kernel
theorem dX6_trap_0 : decode cX6_trap 0 = .ok (.aload_n 0, 1) := by decide +kernel
theorem dX6_trap_1 : decode cX6_trap 1 = .ok (.getfield 19, 3) := by decide +kernel
theorem dX6_trap_4 : decode cX6_trap 4 = .ok (.iload_n 1, 1) := by decide +kernel
theorem dX6_trap_5 : decode cX6_trap 5 = .ok (.invokevirtual 81, 3) := by decide +kernel
theorem dX6_trap_8 : decode cX6_trap 8 = .ok (.ifCond .eq 14, 3) := by decide +kernel
theorem dX6_trap_11 : decode cX6_trap 11 = .ok (.aload_n 0, 1) := by decide +kernel
theorem dX6_trap_12 : decode cX6_trap 12 = .ok (.getfield 19, 3) := by decide +kernel
theorem dX6_trap_15 : decode cX6_trap 15 = .ok (.iload_n 2, 1) := by decide +kernel
theorem dX6_trap_16 : decode cX6_trap 16 = .ok (.invokevirtual 81, 3) := by decide +kernel
theorem dX6_trap_19 : decode cX6_trap 19 = .ok (.ifCond .ne 6, 3) := by decide +kernel
theorem dX6_trap_22 : decode cX6_trap 22 = .ok (.bipush (-2), 2) := by decide +kernel
theorem dX6_trap_24 : decode cX6_trap 24 = .ok (.ireturn, 1) := by decide +kernel
theorem dX6_trap_25 : decode cX6_trap 25 = .ok (.iconst 1, 1) := by decide +kernel
theorem dX6_trap_26 : decode cX6_trap 26 = .ok (.istore_n 3, 1) := by decide +kernel
theorem dX6_trap_27 : decode cX6_trap 27 = .ok (.iload_n 3, 1) := by decide +kernel
theorem dX6_trap_28 : decode cX6_trap 28 = .ok (.sipush 400, 3) := by decide +kernel
theorem dX6_trap_31 : decode cX6_trap 31 = .ok (.if_icmp .gt 35, 3) := by decide +kernel
theorem dX6_trap_34 : decode cX6_trap 34 = .ok (.aload_n 0, 1) := by decide +kernel
theorem dX6_trap_35 : decode cX6_trap 35 = .ok (.getfield 19, 3) := by decide +kernel
theorem dX6_trap_38 : decode cX6_trap 38 = .ok (.iload_n 1, 1) := by decide +kernel
theorem dX6_trap_39 : decode cX6_trap 39 = .ok (.iload_n 2, 1) := by decide +kernel
theorem dX6_trap_40 : decode cX6_trap 40 = .ok (.iload_n 3, 1) := by decide +kernel
theorem dX6_trap_41 : decode cX6_trap 41 = .ok (.invokevirtual 156, 3) := by decide +kernel
theorem dX6_trap_44 : decode cX6_trap 44 = .ok (.istore 4, 2) := by decide +kernel
theorem dX6_trap_46 : decode cX6_trap 46 = .ok (.iload 4, 2) := by decide +kernel
theorem dX6_trap_48 : decode cX6_trap 48 = .ok (.iconst (-1), 1) := by decide +kernel
theorem dX6_trap_49 : decode cX6_trap 49 = .ok (.if_icmp .eq 11, 3) := by decide +kernel
theorem dX6_trap_52 : decode cX6_trap 52 = .ok (.iload 4, 2) := by decide +kernel
theorem dX6_trap_54 : decode cX6_trap 54 = .ok (.iload_n 3, 1) := by decide +kernel
theorem dX6_trap_55 : decode cX6_trap 55 = .ok (.if_icmp .eq 5, 3) := by decide +kernel
theorem dX6_trap_58 : decode cX6_trap 58 = .ok (.iload_n 3, 1) := by decide +kernel
theorem dX6_trap_59 : decode cX6_trap 59 = .ok (.ireturn, 1) := by decide +kernel
theorem dX6_trap_60 : decode cX6_trap 60 = .ok (.iinc 3 1, 3) := by decide +kernel
theorem dX6_trap_63 : decode cX6_trap 63 = .ok (.goto (-36), 3) := by decide +kernel
theorem dX6_trap_66 : decode cX6_trap 66 = .ok (.iconst (-1), 1) := by decide +kernel
theorem dX6_trap_67 : decode cX6_trap 67 = .ok (.ireturn, 1) := by decide +kernel
theorem dX6_person_0 : decode cX6_person 0 = .ok (.aload_n 0, 1) := by decide +kernel
theorem dX6_person_1 : decode cX6_person 1 = .ok (.getfield 19, 3) := by decide +kernel
theorem dX6_person_4 : decode cX6_person 4 = .ok (.iload_n 1, 1) := by decide +kernel
theorem dX6_person_5 : decode cX6_person 5 = .ok (.invokevirtual 81, 3) := by decide +kernel
theorem dX6_person_8 : decode cX6_person 8 = .ok (.ifCond .eq 14, 3) := by decide +kernel
theorem dX6_person_11 : decode cX6_person 11 = .ok (.aload_n 0, 1) := by decide +kernel
theorem dX6_person_12 : decode cX6_person 12 = .ok (.getfield 33, 3) := by decide +kernel
theorem dX6_person_15 : decode cX6_person 15 = .ok (.iload_n 1, 1) := by decide +kernel
theorem dX6_person_16 : decode cX6_person 16 = .ok (.invokevirtual 160, 3) := by decide +kernel
theorem dX6_person_19 : decode cX6_person 19 = .ok (.goto 5, 3) := by decide +kernel
theorem dX6_person_22 : decode cX6_person 22 = .ok (.bipush (-2), 2) := by decide +kernel
theorem dX6_person_24 : decode cX6_person 24 = .ok (.ireturn, 1) := by decide +kernel
theorem dX6_gift_0 : decode cX6_gift 0 = .ok (.aload_n 0, 1) := by decide +kernel
theorem dX6_gift_1 : decode cX6_gift 1 = .ok (.getfield 33, 3) := by decide +kernel
theorem dX6_gift_4 : decode cX6_gift 4 = .ok (.iload_n 1, 1) := by decide +kernel
theorem dX6_gift_5 : decode cX6_gift 5 = .ok (.iload_n 2, 1) := by decide +kernel
theorem dX6_gift_6 : decode cX6_gift 6 = .ok (.invokevirtual 163, 3) := by decide +kernel
theorem dX6_gift_9 : decode cX6_gift 9 = .ok (.ifCond .eq 14, 3) := by decide +kernel
theorem dX6_gift_12 : decode cX6_gift 12 = .ok (.iload_n 3, 1) := by decide +kernel
theorem dX6_gift_13 : decode cX6_gift 13 = .ok (.iconst 1, 1) := by decide +kernel
theorem dX6_gift_14 : decode cX6_gift 14 = .ok (.sipush 400, 3) := by decide +kernel
theorem dX6_gift_17 : decode cX6_gift 17 = .ok (.invokestatic 55, 3) := by decide +kernel
theorem dX6_gift_20 : decode cX6_gift 20 = .ok (.ifCond .ne 6, 3) := by decide +kernel
theorem dX6_gift_23 : decode cX6_gift 23 = .ok (.bipush (-2), 2) := by decide +kernel
theorem dX6_gift_25 : decode cX6_gift 25 = .ok (.ireturn, 1) := by decide +kernel
theorem dX6_gift_26 : decode cX6_gift 26 = .ok (.aload_n 0, 1) := by decide +kernel
theorem dX6_gift_27 : decode cX6_gift 27 = .ok (.getfield 33, 3) := by decide +kernel
theorem dX6_gift_30 : decode cX6_gift 30 = .ok (.iload_n 1, 1) := by decide +kernel
theorem dX6_gift_31 : decode cX6_gift 31 = .ok (.iload_n 2, 1) := by decide +kernel
theorem dX6_gift_32 : decode cX6_gift 32 = .ok (.iload_n 3, 1) := by decide +kernel
theorem dX6_gift_33 : decode cX6_gift 33 = .ok (.invokevirtual 166, 3) := by decide +kernel
theorem dX6_gift_36 : decode cX6_gift 36 = .ok (.ireturn, 1) := by decide +kernel
theorem dX6_owed_0 : decode cX6_owed 0 = .ok (.aload_n 0, 1) := by decide +kernel
theorem dX6_owed_1 : decode cX6_owed 1 = .ok (.getfield 33, 3) := by decide +kernel
theorem dX6_owed_4 : decode cX6_owed 4 = .ok (.iload_n 1, 1) := by decide +kernel
theorem dX6_owed_5 : decode cX6_owed 5 = .ok (.iload_n 2, 1) := by decide +kernel
theorem dX6_owed_6 : decode cX6_owed 6 = .ok (.invokevirtual 163, 3) := by decide +kernel
theorem dX6_owed_9 : decode cX6_owed 9 = .ok (.ifCond .eq 15, 3) := by decide +kernel
theorem dX6_owed_12 : decode cX6_owed 12 = .ok (.aload_n 0, 1) := by decide +kernel
theorem dX6_owed_13 : decode cX6_owed 13 = .ok (.getfield 33, 3) := by decide +kernel
theorem dX6_owed_16 : decode cX6_owed 16 = .ok (.iload_n 1, 1) := by decide +kernel
theorem dX6_owed_17 : decode cX6_owed 17 = .ok (.iload_n 2, 1) := by decide +kernel
theorem dX6_owed_18 : decode cX6_owed 18 = .ok (.invokevirtual 169, 3) := by decide +kernel
theorem dX6_owed_21 : decode cX6_owed 21 = .ok (.goto 5, 3) := by decide +kernel
theorem dX6_owed_24 : decode cX6_owed 24 = .ok (.bipush (-2), 2) := by decide +kernel
theorem dX6_owed_26 : decode cX6_owed 26 = .ok (.ireturn, 1) := by decide +kernel
theorem dX6_told_0 : decode cX6_told 0 = .ok (.aload_n 0, 1) := by decide +kernel
theorem dX6_told_1 : decode cX6_told 1 = .ok (.getfield 33, 3) := by decide +kernel
theorem dX6_told_4 : decode cX6_told 4 = .ok (.iload_n 1, 1) := by decide +kernel
theorem dX6_told_5 : decode cX6_told 5 = .ok (.iload_n 2, 1) := by decide +kernel
theorem dX6_told_6 : decode cX6_told 6 = .ok (.invokevirtual 163, 3) := by decide +kernel
theorem dX6_told_9 : decode cX6_told 9 = .ok (.ifCond .ne 6, 3) := by decide +kernel
theorem dX6_told_12 : decode cX6_told 12 = .ok (.bipush (-2), 2) := by decide +kernel
theorem dX6_told_14 : decode cX6_told 14 = .ok (.ireturn, 1) := by decide +kernel
theorem dX6_told_15 : decode cX6_told 15 = .ok (.aload_n 0, 1) := by decide +kernel
theorem dX6_told_16 : decode cX6_told 16 = .ok (.getfield 33, 3) := by decide +kernel
theorem dX6_told_19 : decode cX6_told 19 = .ok (.iload_n 1, 1) := by decide +kernel
theorem dX6_told_20 : decode cX6_told 20 = .ok (.iload_n 2, 1) := by decide +kernel
theorem dX6_told_21 : decode cX6_told 21 = .ok (.invokevirtual 169, 3) := by decide +kernel
theorem dX6_told_24 : decode cX6_told 24 = .ok (.istore_n 3, 1) := by decide +kernel
theorem dX6_told_25 : decode cX6_told 25 = .ok (.aload_n 0, 1) := by decide +kernel
theorem dX6_told_26 : decode cX6_told 26 = .ok (.getfield 33, 3) := by decide +kernel
theorem dX6_told_29 : decode cX6_told 29 = .ok (.iload_n 2, 1) := by decide +kernel
theorem dX6_told_30 : decode cX6_told 30 = .ok (.invokevirtual 172, 3) := by decide +kernel
theorem dX6_told_33 : decode cX6_told 33 = .ok (.istore 4, 2) := by decide +kernel
theorem dX6_told_35 : decode cX6_told 35 = .ok (.iload_n 3, 1) := by decide +kernel
theorem dX6_told_36 : decode cX6_told 36 = .ok (.ifCond .ne 7, 3) := by decide +kernel
theorem dX6_told_39 : decode cX6_told 39 = .ok (.iconst 0, 1) := by decide +kernel
theorem dX6_told_40 : decode cX6_told 40 = .ok (.goto 27, 3) := by decide +kernel
theorem dX6_told_43 : decode cX6_told 43 = .ok (.bipush 100, 2) := by decide +kernel
theorem dX6_told_45 : decode cX6_told 45 = .ok (.aload_n 0, 1) := by decide +kernel
theorem dX6_told_46 : decode cX6_told 46 = .ok (.getfield 19, 3) := by decide +kernel
theorem dX6_told_49 : decode cX6_told 49 = .ok (.iload 4, 2) := by decide +kernel
theorem dX6_told_51 : decode cX6_told 51 = .ok (.iload_n 3, 1) := by decide +kernel
theorem dX6_told_52 : decode cX6_told 52 = .ok (.invokevirtual 112, 3) := by decide +kernel
theorem dX6_told_55 : decode cX6_told 55 = .ok (.imul, 1) := by decide +kernel
theorem dX6_told_56 : decode cX6_told 56 = .ok (.aload_n 0, 1) := by decide +kernel
theorem dX6_told_57 : decode cX6_told 57 = .ok (.getfield 19, 3) := by decide +kernel
theorem dX6_told_60 : decode cX6_told 60 = .ok (.iload 4, 2) := by decide +kernel
theorem dX6_told_62 : decode cX6_told 62 = .ok (.iload_n 3, 1) := by decide +kernel
theorem dX6_told_63 : decode cX6_told 63 = .ok (.invokevirtual 109, 3) := by decide +kernel
theorem dX6_told_66 : decode cX6_told 66 = .ok (.iadd, 1) := by decide +kernel
theorem dX6_told_67 : decode cX6_told 67 = .ok (.ireturn, 1) := by decide +kernel
theorem dX6_close_0 : decode cX6_close 0 = .ok (.aload_n 0, 1) := by decide +kernel
theorem dX6_close_1 : decode cX6_close 1 = .ok (.getfield 33, 3) := by decide +kernel
theorem dX6_close_4 : decode cX6_close 4 = .ok (.invokevirtual 175, 3) := by decide +kernel
theorem dX6_close_7 : decode cX6_close 7 = .ok (.ireturn, 1) := by decide +kernel
theorem dX6_worth_0 : decode cX6_worth 0 = .ok (.aload_n 0, 1) := by decide +kernel
theorem dX6_worth_1 : decode cX6_worth 1 = .ok (.getfield 33, 3) := by decide +kernel
theorem dX6_worth_4 : decode cX6_worth 4 = .ok (.iload_n 1, 1) := by decide +kernel
theorem dX6_worth_5 : decode cX6_worth 5 = .ok (.invokevirtual 178, 3) := by decide +kernel
theorem dX6_worth_8 : decode cX6_worth 8 = .ok (.ifCond .eq 14, 3) := by decide +kernel
theorem dX6_worth_11 : decode cX6_worth 11 = .ok (.aload_n 0, 1) := by decide +kernel
theorem dX6_worth_12 : decode cX6_worth 12 = .ok (.getfield 33, 3) := by decide +kernel
theorem dX6_worth_15 : decode cX6_worth 15 = .ok (.iload_n 1, 1) := by decide +kernel
theorem dX6_worth_16 : decode cX6_worth 16 = .ok (.invokevirtual 179, 3) := by decide +kernel
theorem dX6_worth_19 : decode cX6_worth 19 = .ok (.goto 5, 3) := by decide +kernel
theorem dX6_worth_22 : decode cX6_worth 22 = .ok (.ldc 182, 2) := by decide +kernel
theorem dX6_worth_24 : decode cX6_worth 24 = .ok (.ireturn, 1) := by decide +kernel
theorem dX6_list_0 : decode cX6_list 0 = .ok (.aload_n 0, 1) := by decide +kernel
theorem dX6_list_1 : decode cX6_list 1 = .ok (.getfield 10, 3) := by decide +kernel
theorem dX6_list_4 : decode cX6_list 4 = .ok (.iload_n 1, 1) := by decide +kernel
theorem dX6_list_5 : decode cX6_list 5 = .ok (.invokevirtual 51, 3) := by decide +kernel
theorem dX6_list_8 : decode cX6_list 8 = .ok (.ifCond .eq 24, 3) := by decide +kernel
theorem dX6_list_11 : decode cX6_list 11 = .ok (.iload_n 2, 1) := by decide +kernel
theorem dX6_list_12 : decode cX6_list 12 = .ok (.iconst 0, 1) := by decide +kernel
theorem dX6_list_13 : decode cX6_list 13 = .ok (.bipush 30, 2) := by decide +kernel
theorem dX6_list_15 : decode cX6_list 15 = .ok (.invokestatic 55, 3) := by decide +kernel
theorem dX6_list_18 : decode cX6_list 18 = .ok (.ifCond .eq 14, 3) := by decide +kernel
theorem dX6_list_21 : decode cX6_list 21 = .ok (.iload_n 3, 1) := by decide +kernel
theorem dX6_list_22 : decode cX6_list 22 = .ok (.iconst 0, 1) := by decide +kernel
theorem dX6_list_23 : decode cX6_list 23 = .ok (.sipush 3000, 3) := by decide +kernel
theorem dX6_list_26 : decode cX6_list 26 = .ok (.invokestatic 55, 3) := by decide +kernel
theorem dX6_list_29 : decode cX6_list 29 = .ok (.ifCond .ne 6, 3) := by decide +kernel
theorem dX6_list_32 : decode cX6_list 32 = .ok (.bipush (-2), 2) := by decide +kernel
theorem dX6_list_34 : decode cX6_list 34 = .ok (.ireturn, 1) := by decide +kernel
theorem dX6_list_35 : decode cX6_list 35 = .ok (.aload_n 0, 1) := by decide +kernel
theorem dX6_list_36 : decode cX6_list 36 = .ok (.getfield 10, 3) := by decide +kernel
theorem dX6_list_39 : decode cX6_list 39 = .ok (.iload_n 1, 1) := by decide +kernel
theorem dX6_list_40 : decode cX6_list 40 = .ok (.invokevirtual 59, 3) := by decide +kernel
theorem dX6_list_43 : decode cX6_list 43 = .ok (.ifCond .eq 12, 3) := by decide +kernel
theorem dX6_list_46 : decode cX6_list 46 = .ok (.aload_n 0, 1) := by decide +kernel
theorem dX6_list_47 : decode cX6_list 47 = .ok (.getfield 10, 3) := by decide +kernel
theorem dX6_list_50 : decode cX6_list 50 = .ok (.iconst 1, 1) := by decide +kernel
theorem dX6_list_51 : decode cX6_list 51 = .ok (.invokevirtual 62, 3) := by decide +kernel
theorem dX6_list_54 : decode cX6_list 54 = .ok (.ireturn, 1) := by decide +kernel
theorem dX6_list_55 : decode cX6_list 55 = .ok (.iload_n 2, 1) := by decide +kernel
theorem dX6_list_56 : decode cX6_list 56 = .ok (.aload_n 0, 1) := by decide +kernel
theorem dX6_list_57 : decode cX6_list 57 = .ok (.getfield 10, 3) := by decide +kernel
theorem dX6_list_60 : decode cX6_list 60 = .ok (.iload_n 1, 1) := by decide +kernel
theorem dX6_list_61 : decode cX6_list 61 = .ok (.invokevirtual 66, 3) := by decide +kernel
theorem dX6_list_64 : decode cX6_list 64 = .ok (.if_icmp .le 12, 3) := by decide +kernel
theorem dX6_list_67 : decode cX6_list 67 = .ok (.aload_n 0, 1) := by decide +kernel
theorem dX6_list_68 : decode cX6_list 68 = .ok (.getfield 10, 3) := by decide +kernel
theorem dX6_list_71 : decode cX6_list 71 = .ok (.iconst 2, 1) := by decide +kernel
theorem dX6_list_72 : decode cX6_list 72 = .ok (.invokevirtual 62, 3) := by decide +kernel
theorem dX6_list_75 : decode cX6_list 75 = .ok (.ireturn, 1) := by decide +kernel
theorem dX6_list_76 : decode cX6_list 76 = .ok (.aload_n 0, 1) := by decide +kernel
theorem dX6_list_77 : decode cX6_list 77 = .ok (.getfield 40, 3) := by decide +kernel
theorem dX6_list_80 : decode cX6_list 80 = .ok (.invokevirtual 183, 3) := by decide +kernel
theorem dX6_list_83 : decode cX6_list 83 = .ok (.ifCond .eq 8, 3) := by decide +kernel
theorem dX6_list_86 : decode cX6_list 86 = .ok (.bipush (-4), 2) := by decide +kernel
theorem dX6_list_88 : decode cX6_list 88 = .ok (.goto 17, 3) := by decide +kernel
theorem dX6_list_91 : decode cX6_list 91 = .ok (.aload_n 0, 1) := by decide +kernel
theorem dX6_list_92 : decode cX6_list 92 = .ok (.getfield 40, 3) := by decide +kernel
theorem dX6_list_95 : decode cX6_list 95 = .ok (.aload_n 0, 1) := by decide +kernel
theorem dX6_list_96 : decode cX6_list 96 = .ok (.getfield 10, 3) := by decide +kernel
theorem dX6_list_99 : decode cX6_list 99 = .ok (.iload_n 1, 1) := by decide +kernel
theorem dX6_list_100 : decode cX6_list 100 = .ok (.iload_n 2, 1) := by decide +kernel
theorem dX6_list_101 : decode cX6_list 101 = .ok (.iload_n 3, 1) := by decide +kernel
theorem dX6_list_102 : decode cX6_list 102 = .ok (.invokevirtual 184, 3) := by decide +kernel
theorem dX6_list_105 : decode cX6_list 105 = .ok (.ireturn, 1) := by decide +kernel
theorem dX6_word_0 : decode cX6_word 0 = .ok (.aload_n 0, 1) := by decide +kernel
theorem dX6_word_1 : decode cX6_word 1 = .ok (.getfield 40, 3) := by decide +kernel
theorem dX6_word_4 : decode cX6_word 4 = .ok (.iload_n 1, 1) := by decide +kernel
theorem dX6_word_5 : decode cX6_word 5 = .ok (.invokevirtual 188, 3) := by decide +kernel
theorem dX6_word_8 : decode cX6_word 8 = .ok (.ifCond .eq 21, 3) := by decide +kernel
theorem dX6_word_11 : decode cX6_word 11 = .ok (.iload_n 2, 1) := by decide +kernel
theorem dX6_word_12 : decode cX6_word 12 = .ok (.iconst 0, 1) := by decide +kernel
theorem dX6_word_13 : decode cX6_word 13 = .ok (.aload_n 0, 1) := by decide +kernel
theorem dX6_word_14 : decode cX6_word 14 = .ok (.getfield 40, 3) := by decide +kernel
theorem dX6_word_17 : decode cX6_word 17 = .ok (.iload_n 1, 1) := by decide +kernel
theorem dX6_word_18 : decode cX6_word 18 = .ok (.invokevirtual 189, 3) := by decide +kernel
theorem dX6_word_21 : decode cX6_word 21 = .ok (.iconst 1, 1) := by decide +kernel
theorem dX6_word_22 : decode cX6_word 22 = .ok (.isub, 1) := by decide +kernel
theorem dX6_word_23 : decode cX6_word 23 = .ok (.invokestatic 55, 3) := by decide +kernel
theorem dX6_word_26 : decode cX6_word 26 = .ok (.ifCond .ne 6, 3) := by decide +kernel
theorem dX6_word_29 : decode cX6_word 29 = .ok (.bipush (-2), 2) := by decide +kernel
theorem dX6_word_31 : decode cX6_word 31 = .ok (.ireturn, 1) := by decide +kernel
theorem dX6_word_32 : decode cX6_word 32 = .ok (.aload_n 0, 1) := by decide +kernel
theorem dX6_word_33 : decode cX6_word 33 = .ok (.getfield 40, 3) := by decide +kernel
theorem dX6_word_36 : decode cX6_word 36 = .ok (.iload_n 1, 1) := by decide +kernel
theorem dX6_word_37 : decode cX6_word 37 = .ok (.iload_n 2, 1) := by decide +kernel
theorem dX6_word_38 : decode cX6_word 38 = .ok (.invokevirtual 192, 3) := by decide +kernel
theorem dX6_word_41 : decode cX6_word 41 = .ok (.ireturn, 1) := by decide +kernel
theorem dX6_listIs_0 : decode cX6_listIs 0 = .ok (.aload_n 0, 1) := by decide +kernel
theorem dX6_listIs_1 : decode cX6_listIs 1 = .ok (.getfield 40, 3) := by decide +kernel
theorem dX6_listIs_4 : decode cX6_listIs 4 = .ok (.iload_n 1, 1) := by decide +kernel
theorem dX6_listIs_5 : decode cX6_listIs 5 = .ok (.invokevirtual 188, 3) := by decide +kernel
theorem dX6_listIs_8 : decode cX6_listIs 8 = .ok (.ifCond .ne 6, 3) := by decide +kernel
theorem dX6_listIs_11 : decode cX6_listIs 11 = .ok (.bipush (-2), 2) := by decide +kernel
theorem dX6_listIs_13 : decode cX6_listIs 13 = .ok (.ireturn, 1) := by decide +kernel
theorem dX6_listIs_14 : decode cX6_listIs 14 = .ok (.iload_n 2, 1) := by decide +kernel
theorem dX6_listIs_15 : decode cX6_listIs 15 = .ok (.tableswitch 86 0 4 #[33, 42, 51, 60, 69], 33) := by decide +kernel
theorem dX6_listIs_48 : decode cX6_listIs 48 = .ok (.aload_n 0, 1) := by decide +kernel
theorem dX6_listIs_49 : decode cX6_listIs 49 = .ok (.getfield 40, 3) := by decide +kernel
theorem dX6_listIs_52 : decode cX6_listIs 52 = .ok (.iload_n 1, 1) := by decide +kernel
theorem dX6_listIs_53 : decode cX6_listIs 53 = .ok (.invokevirtual 189, 3) := by decide +kernel
theorem dX6_listIs_56 : decode cX6_listIs 56 = .ok (.ireturn, 1) := by decide +kernel
theorem dX6_listIs_57 : decode cX6_listIs 57 = .ok (.aload_n 0, 1) := by decide +kernel
theorem dX6_listIs_58 : decode cX6_listIs 58 = .ok (.getfield 40, 3) := by decide +kernel
theorem dX6_listIs_61 : decode cX6_listIs 61 = .ok (.iload_n 1, 1) := by decide +kernel
theorem dX6_listIs_62 : decode cX6_listIs 62 = .ok (.invokevirtual 195, 3) := by decide +kernel
theorem dX6_listIs_65 : decode cX6_listIs 65 = .ok (.ireturn, 1) := by decide +kernel
theorem dX6_listIs_66 : decode cX6_listIs 66 = .ok (.aload_n 0, 1) := by decide +kernel
theorem dX6_listIs_67 : decode cX6_listIs 67 = .ok (.getfield 40, 3) := by decide +kernel
theorem dX6_listIs_70 : decode cX6_listIs 70 = .ok (.iload_n 1, 1) := by decide +kernel
theorem dX6_listIs_71 : decode cX6_listIs 71 = .ok (.invokevirtual 198, 3) := by decide +kernel
theorem dX6_listIs_74 : decode cX6_listIs 74 = .ok (.ireturn, 1) := by decide +kernel
theorem dX6_listIs_75 : decode cX6_listIs 75 = .ok (.aload_n 0, 1) := by decide +kernel
theorem dX6_listIs_76 : decode cX6_listIs 76 = .ok (.getfield 40, 3) := by decide +kernel
theorem dX6_listIs_79 : decode cX6_listIs 79 = .ok (.iload_n 1, 1) := by decide +kernel
theorem dX6_listIs_80 : decode cX6_listIs 80 = .ok (.invokevirtual 201, 3) := by decide +kernel
theorem dX6_listIs_83 : decode cX6_listIs 83 = .ok (.ireturn, 1) := by decide +kernel
theorem dX6_listIs_84 : decode cX6_listIs 84 = .ok (.aload_n 0, 1) := by decide +kernel
theorem dX6_listIs_85 : decode cX6_listIs 85 = .ok (.getfield 40, 3) := by decide +kernel
theorem dX6_listIs_88 : decode cX6_listIs 88 = .ok (.iload_n 1, 1) := by decide +kernel
theorem dX6_listIs_89 : decode cX6_listIs 89 = .ok (.invokevirtual 204, 3) := by decide +kernel
theorem dX6_listIs_92 : decode cX6_listIs 92 = .ok (.ifCond .eq 7, 3) := by decide +kernel
theorem dX6_listIs_95 : decode cX6_listIs 95 = .ok (.iconst 1, 1) := by decide +kernel
theorem dX6_listIs_96 : decode cX6_listIs 96 = .ok (.goto 4, 3) := by decide +kernel
theorem dX6_listIs_99 : decode cX6_listIs 99 = .ok (.iconst 0, 1) := by decide +kernel
theorem dX6_listIs_100 : decode cX6_listIs 100 = .ok (.ireturn, 1) := by decide +kernel
theorem dX6_listIs_101 : decode cX6_listIs 101 = .ok (.bipush (-2), 2) := by decide +kernel
theorem dX6_listIs_103 : decode cX6_listIs 103 = .ok (.ireturn, 1) := by decide +kernel
theorem dX6_changes_0 : decode cX6_changes 0 = .ok (.aload_n 0, 1) := by decide +kernel
theorem dX6_changes_1 : decode cX6_changes 1 = .ok (.getfield 40, 3) := by decide +kernel
theorem dX6_changes_4 : decode cX6_changes 4 = .ok (.iload_n 1, 1) := by decide +kernel
theorem dX6_changes_5 : decode cX6_changes 5 = .ok (.invokevirtual 188, 3) := by decide +kernel
theorem dX6_changes_8 : decode cX6_changes 8 = .ok (.ifCond .eq 26, 3) := by decide +kernel
theorem dX6_changes_11 : decode cX6_changes 11 = .ok (.aload_n 0, 1) := by decide +kernel
theorem dX6_changes_12 : decode cX6_changes 12 = .ok (.getfield 40, 3) := by decide +kernel
theorem dX6_changes_15 : decode cX6_changes 15 = .ok (.iload_n 2, 1) := by decide +kernel
theorem dX6_changes_16 : decode cX6_changes 16 = .ok (.invokevirtual 188, 3) := by decide +kernel
theorem dX6_changes_19 : decode cX6_changes 19 = .ok (.ifCond .eq 15, 3) := by decide +kernel
theorem dX6_changes_22 : decode cX6_changes 22 = .ok (.aload_n 0, 1) := by decide +kernel
theorem dX6_changes_23 : decode cX6_changes 23 = .ok (.getfield 40, 3) := by decide +kernel
theorem dX6_changes_26 : decode cX6_changes 26 = .ok (.iload_n 1, 1) := by decide +kernel
theorem dX6_changes_27 : decode cX6_changes 27 = .ok (.iload_n 2, 1) := by decide +kernel
theorem dX6_changes_28 : decode cX6_changes 28 = .ok (.invokevirtual 207, 3) := by decide +kernel
theorem dX6_changes_31 : decode cX6_changes 31 = .ok (.goto 5, 3) := by decide +kernel
theorem dX6_changes_34 : decode cX6_changes 34 = .ok (.bipush (-2), 2) := by decide +kernel
theorem dX6_changes_36 : decode cX6_changes 36 = .ok (.ireturn, 1) := by decide +kernel
theorem dX6_mother_0 : decode cX6_mother 0 = .ok (.aload_n 0, 1) := by decide +kernel
theorem dX6_mother_1 : decode cX6_mother 1 = .ok (.getfield 40, 3) := by decide +kernel
theorem dX6_mother_4 : decode cX6_mother 4 = .ok (.iload_n 1, 1) := by decide +kernel
theorem dX6_mother_5 : decode cX6_mother 5 = .ok (.invokevirtual 188, 3) := by decide +kernel
theorem dX6_mother_8 : decode cX6_mother 8 = .ok (.ifCond .eq 14, 3) := by decide +kernel
theorem dX6_mother_11 : decode cX6_mother 11 = .ok (.aload_n 0, 1) := by decide +kernel
theorem dX6_mother_12 : decode cX6_mother 12 = .ok (.getfield 40, 3) := by decide +kernel
theorem dX6_mother_15 : decode cX6_mother 15 = .ok (.iload_n 1, 1) := by decide +kernel
theorem dX6_mother_16 : decode cX6_mother 16 = .ok (.invokevirtual 210, 3) := by decide +kernel
theorem dX6_mother_19 : decode cX6_mother 19 = .ok (.goto 5, 3) := by decide +kernel
theorem dX6_mother_22 : decode cX6_mother 22 = .ok (.bipush (-2), 2) := by decide +kernel
theorem dX6_mother_24 : decode cX6_mother 24 = .ok (.ireturn, 1) := by decide +kernel
theorem dX6_mothers_0 : decode cX6_mothers 0 = .ok (.aload_n 0, 1) := by decide +kernel
theorem dX6_mothers_1 : decode cX6_mothers 1 = .ok (.getfield 40, 3) := by decide +kernel
theorem dX6_mothers_4 : decode cX6_mothers 4 = .ok (.iload_n 1, 1) := by decide +kernel
theorem dX6_mothers_5 : decode cX6_mothers 5 = .ok (.invokevirtual 188, 3) := by decide +kernel
theorem dX6_mothers_8 : decode cX6_mothers 8 = .ok (.ifCond .eq 14, 3) := by decide +kernel
theorem dX6_mothers_11 : decode cX6_mothers 11 = .ok (.aload_n 0, 1) := by decide +kernel
theorem dX6_mothers_12 : decode cX6_mothers 12 = .ok (.getfield 40, 3) := by decide +kernel
theorem dX6_mothers_15 : decode cX6_mothers 15 = .ok (.iload_n 1, 1) := by decide +kernel
theorem dX6_mothers_16 : decode cX6_mothers 16 = .ok (.invokevirtual 213, 3) := by decide +kernel
theorem dX6_mothers_19 : decode cX6_mothers 19 = .ok (.goto 5, 3) := by decide +kernel
theorem dX6_mothers_22 : decode cX6_mothers 22 = .ok (.bipush (-2), 2) := by decide +kernel
theorem dX6_mothers_24 : decode cX6_mothers 24 = .ok (.ireturn, 1) := by decide +kernel
theorem dX6_strange_0 : decode cX6_strange 0 = .ok (.aload_n 0, 1) := by decide +kernel
theorem dX6_strange_1 : decode cX6_strange 1 = .ok (.getfield 40, 3) := by decide +kernel
theorem dX6_strange_4 : decode cX6_strange 4 = .ok (.iload_n 1, 1) := by decide +kernel
theorem dX6_strange_5 : decode cX6_strange 5 = .ok (.invokevirtual 188, 3) := by decide +kernel
theorem dX6_strange_8 : decode cX6_strange 8 = .ok (.ifCond .ne 6, 3) := by decide +kernel
theorem dX6_strange_11 : decode cX6_strange 11 = .ok (.bipush (-2), 2) := by decide +kernel
theorem dX6_strange_13 : decode cX6_strange 13 = .ok (.ireturn, 1) := by decide +kernel
theorem dX6_strange_14 : decode cX6_strange 14 = .ok (.aload_n 0, 1) := by decide +kernel
theorem dX6_strange_15 : decode cX6_strange 15 = .ok (.getfield 40, 3) := by decide +kernel
theorem dX6_strange_18 : decode cX6_strange 18 = .ok (.iload_n 1, 1) := by decide +kernel
theorem dX6_strange_19 : decode cX6_strange 19 = .ok (.invokevirtual 213, 3) := by decide +kernel
theorem dX6_strange_22 : decode cX6_strange 22 = .ok (.istore_n 2, 1) := by decide +kernel
theorem dX6_strange_23 : decode cX6_strange 23 = .ok (.iload_n 2, 1) := by decide +kernel
theorem dX6_strange_24 : decode cX6_strange 24 = .ok (.iconst (-1), 1) := by decide +kernel
theorem dX6_strange_25 : decode cX6_strange 25 = .ok (.if_icmp .ne 7, 3) := by decide +kernel
theorem dX6_strange_28 : decode cX6_strange 28 = .ok (.iconst (-1), 1) := by decide +kernel
theorem dX6_strange_29 : decode cX6_strange 29 = .ok (.goto 19, 3) := by decide +kernel
theorem dX6_strange_32 : decode cX6_strange 32 = .ok (.aload_n 0, 1) := by decide +kernel
theorem dX6_strange_33 : decode cX6_strange 33 = .ok (.getfield 40, 3) := by decide +kernel
theorem dX6_strange_36 : decode cX6_strange 36 = .ok (.iload_n 1, 1) := by decide +kernel
theorem dX6_strange_37 : decode cX6_strange 37 = .ok (.iload_n 2, 1) := by decide +kernel
theorem dX6_strange_38 : decode cX6_strange 38 = .ok (.bipush 10, 2) := by decide +kernel
theorem dX6_strange_40 : decode cX6_strange 40 = .ok (.idiv, 1) := by decide +kernel
theorem dX6_strange_41 : decode cX6_strange 41 = .ok (.iload_n 2, 1) := by decide +kernel
theorem dX6_strange_42 : decode cX6_strange 42 = .ok (.bipush 10, 2) := by decide +kernel
theorem dX6_strange_44 : decode cX6_strange 44 = .ok (.irem, 1) := by decide +kernel
theorem dX6_strange_45 : decode cX6_strange 45 = .ok (.invokevirtual 216, 3) := by decide +kernel
theorem dX6_strange_48 : decode cX6_strange 48 = .ok (.ireturn, 1) := by decide +kernel
theorem dX6_age_0 : decode cX6_age 0 = .ok (.aload_n 0, 1) := by decide +kernel
theorem dX6_age_1 : decode cX6_age 1 = .ok (.getfield 40, 3) := by decide +kernel
theorem dX6_age_4 : decode cX6_age 4 = .ok (.iload_n 1, 1) := by decide +kernel
theorem dX6_age_5 : decode cX6_age 5 = .ok (.invokevirtual 188, 3) := by decide +kernel
theorem dX6_age_8 : decode cX6_age 8 = .ok (.ifCond .eq 14, 3) := by decide +kernel
theorem dX6_age_11 : decode cX6_age 11 = .ok (.aload_n 0, 1) := by decide +kernel
theorem dX6_age_12 : decode cX6_age 12 = .ok (.getfield 40, 3) := by decide +kernel
theorem dX6_age_15 : decode cX6_age 15 = .ok (.iload_n 1, 1) := by decide +kernel
theorem dX6_age_16 : decode cX6_age 16 = .ok (.invokevirtual 219, 3) := by decide +kernel
theorem dX6_age_19 : decode cX6_age 19 = .ok (.goto 5, 3) := by decide +kernel
theorem dX6_age_22 : decode cX6_age 22 = .ok (.bipush (-2), 2) := by decide +kernel
theorem dX6_age_24 : decode cX6_age 24 = .ok (.ireturn, 1) := by decide +kernel
theorem dX6_slips_0 : decode cX6_slips 0 = .ok (.aload_n 0, 1) := by decide +kernel
theorem dX6_slips_1 : decode cX6_slips 1 = .ok (.getfield 40, 3) := by decide +kernel
theorem dX6_slips_4 : decode cX6_slips 4 = .ok (.iload_n 1, 1) := by decide +kernel
theorem dX6_slips_5 : decode cX6_slips 5 = .ok (.invokevirtual 188, 3) := by decide +kernel
theorem dX6_slips_8 : decode cX6_slips 8 = .ok (.ifCond .eq 19, 3) := by decide +kernel
theorem dX6_slips_11 : decode cX6_slips 11 = .ok (.aload_n 0, 1) := by decide +kernel
theorem dX6_slips_12 : decode cX6_slips 12 = .ok (.getfield 40, 3) := by decide +kernel
theorem dX6_slips_15 : decode cX6_slips 15 = .ok (.iload_n 2, 1) := by decide +kernel
theorem dX6_slips_16 : decode cX6_slips 16 = .ok (.invokevirtual 188, 3) := by decide +kernel
theorem dX6_slips_19 : decode cX6_slips 19 = .ok (.ifCond .eq 8, 3) := by decide +kernel
theorem dX6_slips_22 : decode cX6_slips 22 = .ok (.iload_n 1, 1) := by decide +kernel
theorem dX6_slips_23 : decode cX6_slips 23 = .ok (.iload_n 2, 1) := by decide +kernel
theorem dX6_slips_24 : decode cX6_slips 24 = .ok (.if_icmp .ne 6, 3) := by decide +kernel
theorem dX6_slips_27 : decode cX6_slips 27 = .ok (.bipush (-2), 2) := by decide +kernel
theorem dX6_slips_29 : decode cX6_slips 29 = .ok (.ireturn, 1) := by decide +kernel
theorem dX6_slips_30 : decode cX6_slips 30 = .ok (.aload_n 0, 1) := by decide +kernel
theorem dX6_slips_31 : decode cX6_slips 31 = .ok (.getfield 40, 3) := by decide +kernel
theorem dX6_slips_34 : decode cX6_slips 34 = .ok (.iload_n 1, 1) := by decide +kernel
theorem dX6_slips_35 : decode cX6_slips 35 = .ok (.iload_n 2, 1) := by decide +kernel
theorem dX6_slips_36 : decode cX6_slips 36 = .ok (.invokevirtual 222, 3) := by decide +kernel
theorem dX6_slips_39 : decode cX6_slips 39 = .ok (.ireturn, 1) := by decide +kernel
theorem dX6_isTale_0 : decode cX6_isTale 0 = .ok (.aload_n 0, 1) := by decide +kernel
theorem dX6_isTale_1 : decode cX6_isTale 1 = .ok (.getfield 10, 3) := by decide +kernel
theorem dX6_isTale_4 : decode cX6_isTale 4 = .ok (.iload_n 1, 1) := by decide +kernel
theorem dX6_isTale_5 : decode cX6_isTale 5 = .ok (.invokevirtual 51, 3) := by decide +kernel
theorem dX6_isTale_8 : decode cX6_isTale 8 = .ok (.ifCond .eq 17, 3) := by decide +kernel
theorem dX6_isTale_11 : decode cX6_isTale 11 = .ok (.iload_n 2, 1) := by decide +kernel
theorem dX6_isTale_12 : decode cX6_isTale 12 = .ok (.iconst 1, 1) := by decide +kernel
theorem dX6_isTale_13 : decode cX6_isTale 13 = .ok (.bipush 30, 2) := by decide +kernel
theorem dX6_isTale_15 : decode cX6_isTale 15 = .ok (.invokestatic 55, 3) := by decide +kernel
theorem dX6_isTale_18 : decode cX6_isTale 18 = .ok (.ifCond .eq 7, 3) := by decide +kernel
theorem dX6_isTale_21 : decode cX6_isTale 21 = .ok (.iconst 1, 1) := by decide +kernel
theorem dX6_isTale_22 : decode cX6_isTale 22 = .ok (.goto 4, 3) := by decide +kernel
theorem dX6_isTale_25 : decode cX6_isTale 25 = .ok (.iconst 0, 1) := by decide +kernel
theorem dX6_isTale_26 : decode cX6_isTale 26 = .ok (.ireturn, 1) := by decide +kernel
theorem dX6_missing_0 : decode cX6_missing 0 = .ok (.aload_n 0, 1) := by decide +kernel
theorem dX6_missing_1 : decode cX6_missing 1 = .ok (.getfield 10, 3) := by decide +kernel
theorem dX6_missing_4 : decode cX6_missing 4 = .ok (.iload_n 1, 1) := by decide +kernel
theorem dX6_missing_5 : decode cX6_missing 5 = .ok (.invokevirtual 59, 3) := by decide +kernel
theorem dX6_missing_8 : decode cX6_missing 8 = .ok (.ifCond .eq 12, 3) := by decide +kernel
theorem dX6_missing_11 : decode cX6_missing 11 = .ok (.aload_n 0, 1) := by decide +kernel
theorem dX6_missing_12 : decode cX6_missing 12 = .ok (.getfield 10, 3) := by decide +kernel
theorem dX6_missing_15 : decode cX6_missing 15 = .ok (.iconst 1, 1) := by decide +kernel
theorem dX6_missing_16 : decode cX6_missing 16 = .ok (.invokevirtual 62, 3) := by decide +kernel
theorem dX6_missing_19 : decode cX6_missing 19 = .ok (.ireturn, 1) := by decide +kernel
theorem dX6_missing_20 : decode cX6_missing 20 = .ok (.iload_n 2, 1) := by decide +kernel
theorem dX6_missing_21 : decode cX6_missing 21 = .ok (.aload_n 0, 1) := by decide +kernel
theorem dX6_missing_22 : decode cX6_missing 22 = .ok (.getfield 10, 3) := by decide +kernel
theorem dX6_missing_25 : decode cX6_missing 25 = .ok (.iload_n 1, 1) := by decide +kernel
theorem dX6_missing_26 : decode cX6_missing 26 = .ok (.invokevirtual 66, 3) := by decide +kernel
theorem dX6_missing_29 : decode cX6_missing 29 = .ok (.if_icmp .le 14, 3) := by decide +kernel
theorem dX6_missing_32 : decode cX6_missing 32 = .ok (.aload_n 0, 1) := by decide +kernel
theorem dX6_missing_33 : decode cX6_missing 33 = .ok (.getfield 10, 3) := by decide +kernel
theorem dX6_missing_36 : decode cX6_missing 36 = .ok (.iconst 2, 1) := by decide +kernel
theorem dX6_missing_37 : decode cX6_missing 37 = .ok (.invokevirtual 62, 3) := by decide +kernel
theorem dX6_missing_40 : decode cX6_missing 40 = .ok (.goto 4, 3) := by decide +kernel
theorem dX6_missing_43 : decode cX6_missing 43 = .ok (.iconst 0, 1) := by decide +kernel
theorem dX6_missing_44 : decode cX6_missing 44 = .ok (.ireturn, 1) := by decide +kernel
theorem dX6_tells_0 : decode cX6_tells 0 = .ok (.iload 4, 2) := by decide +kernel
theorem dX6_tells_2 : decode cX6_tells 2 = .ok (.iload_n 2, 1) := by decide +kernel
theorem dX6_tells_3 : decode cX6_tells 3 = .ok (.iconst 1, 1) := by decide +kernel
theorem dX6_tells_4 : decode cX6_tells 4 = .ok (.isub, 1) := by decide +kernel
theorem dX6_tells_5 : decode cX6_tells 5 = .ok (.iload 5, 2) := by decide +kernel
theorem dX6_tells_7 : decode cX6_tells 7 = .ok (.imul, 1) := by decide +kernel
theorem dX6_tells_8 : decode cX6_tells 8 = .ok (.iadd, 1) := by decide +kernel
theorem dX6_tells_9 : decode cX6_tells 9 = .ok (.sipush 400, 3) := by decide +kernel
theorem dX6_tells_12 : decode cX6_tells 12 = .ok (.if_icmp .le 5, 3) := by decide +kernel
theorem dX6_tells_15 : decode cX6_tells 15 = .ok (.iconst 0, 1) := by decide +kernel
theorem dX6_tells_16 : decode cX6_tells 16 = .ok (.ireturn, 1) := by decide +kernel
theorem dX6_tells_17 : decode cX6_tells 17 = .ok (.iconst 0, 1) := by decide +kernel
theorem dX6_tells_18 : decode cX6_tells 18 = .ok (.istore 6, 2) := by decide +kernel
theorem dX6_tells_20 : decode cX6_tells 20 = .ok (.iload 6, 2) := by decide +kernel
theorem dX6_tells_22 : decode cX6_tells 22 = .ok (.iload_n 2, 1) := by decide +kernel
theorem dX6_tells_23 : decode cX6_tells 23 = .ok (.if_icmp .ge 50, 3) := by decide +kernel
theorem dX6_tells_26 : decode cX6_tells 26 = .ok (.aload_n 0, 1) := by decide +kernel
theorem dX6_tells_27 : decode cX6_tells 27 = .ok (.getfield 10, 3) := by decide +kernel
theorem dX6_tells_30 : decode cX6_tells 30 = .ok (.iload_n 1, 1) := by decide +kernel
theorem dX6_tells_31 : decode cX6_tells 31 = .ok (.iload 6, 2) := by decide +kernel
theorem dX6_tells_33 : decode cX6_tells 33 = .ok (.invokevirtual 225, 3) := by decide +kernel
theorem dX6_tells_36 : decode cX6_tells 36 = .ok (.istore 7, 2) := by decide +kernel
theorem dX6_tells_38 : decode cX6_tells 38 = .ok (.iload 7, 2) := by decide +kernel
theorem dX6_tells_40 : decode cX6_tells 40 = .ok (.iconst (-1), 1) := by decide +kernel
theorem dX6_tells_41 : decode cX6_tells 41 = .ok (.if_icmp .eq 26, 3) := by decide +kernel
theorem dX6_tells_44 : decode cX6_tells 44 = .ok (.iload 7, 2) := by decide +kernel
theorem dX6_tells_46 : decode cX6_tells 46 = .ok (.aload_n 0, 1) := by decide +kernel
theorem dX6_tells_47 : decode cX6_tells 47 = .ok (.getfield 19, 3) := by decide +kernel
theorem dX6_tells_50 : decode cX6_tells 50 = .ok (.iload_n 3, 1) := by decide +kernel
theorem dX6_tells_51 : decode cX6_tells 51 = .ok (.iload 4, 2) := by decide +kernel
theorem dX6_tells_53 : decode cX6_tells 53 = .ok (.iload 6, 2) := by decide +kernel
theorem dX6_tells_55 : decode cX6_tells 55 = .ok (.iload 5, 2) := by decide +kernel
theorem dX6_tells_57 : decode cX6_tells 57 = .ok (.imul, 1) := by decide +kernel
theorem dX6_tells_58 : decode cX6_tells 58 = .ok (.iadd, 1) := by decide +kernel
theorem dX6_tells_59 : decode cX6_tells 59 = .ok (.invokevirtual 226, 3) := by decide +kernel
theorem dX6_tells_62 : decode cX6_tells 62 = .ok (.if_icmp .eq 5, 3) := by decide +kernel
theorem dX6_tells_65 : decode cX6_tells 65 = .ok (.iconst 0, 1) := by decide +kernel
theorem dX6_tells_66 : decode cX6_tells 66 = .ok (.ireturn, 1) := by decide +kernel
theorem dX6_tells_67 : decode cX6_tells 67 = .ok (.iinc 6 1, 3) := by decide +kernel
theorem dX6_tells_70 : decode cX6_tells 70 = .ok (.goto (-50), 3) := by decide +kernel
theorem dX6_tells_73 : decode cX6_tells 73 = .ok (.iconst 1, 1) := by decide +kernel
theorem dX6_tells_74 : decode cX6_tells 74 = .ok (.ireturn, 1) := by decide +kernel
theorem dX6_countOfWalk_0 : decode cX6_countOfWalk 0 = .ok (.iload_n 0, 1) := by decide +kernel
theorem dX6_countOfWalk_1 : decode cX6_countOfWalk 1 = .ok (.sipush 1980, 3) := by decide +kernel
theorem dX6_countOfWalk_4 : decode cX6_countOfWalk 4 = .ok (.idiv, 1) := by decide +kernel
theorem dX6_countOfWalk_5 : decode cX6_countOfWalk 5 = .ok (.ireturn, 1) := by decide +kernel
theorem dX6_startOfWalk_0 : decode cX6_startOfWalk 0 = .ok (.iload_n 0, 1) := by decide +kernel
theorem dX6_startOfWalk_1 : decode cX6_startOfWalk 1 = .ok (.bipush 20, 2) := by decide +kernel
theorem dX6_startOfWalk_3 : decode cX6_startOfWalk 3 = .ok (.idiv, 1) := by decide +kernel
theorem dX6_startOfWalk_4 : decode cX6_startOfWalk 4 = .ok (.bipush 99, 2) := by decide +kernel
theorem dX6_startOfWalk_6 : decode cX6_startOfWalk 6 = .ok (.irem, 1) := by decide +kernel
theorem dX6_startOfWalk_7 : decode cX6_startOfWalk 7 = .ok (.iconst 1, 1) := by decide +kernel
theorem dX6_startOfWalk_8 : decode cX6_startOfWalk 8 = .ok (.iadd, 1) := by decide +kernel
theorem dX6_startOfWalk_9 : decode cX6_startOfWalk 9 = .ok (.ireturn, 1) := by decide +kernel
theorem dX6_stepOfWalk_0 : decode cX6_stepOfWalk 0 = .ok (.iload_n 0, 1) := by decide +kernel
theorem dX6_stepOfWalk_1 : decode cX6_stepOfWalk 1 = .ok (.bipush 20, 2) := by decide +kernel
theorem dX6_stepOfWalk_3 : decode cX6_stepOfWalk 3 = .ok (.irem, 1) := by decide +kernel
theorem dX6_stepOfWalk_4 : decode cX6_stepOfWalk 4 = .ok (.iconst 1, 1) := by decide +kernel
theorem dX6_stepOfWalk_5 : decode cX6_stepOfWalk 5 = .ok (.iadd, 1) := by decide +kernel
theorem dX6_stepOfWalk_6 : decode cX6_stepOfWalk 6 = .ok (.ireturn, 1) := by decide +kernel
theorem dX6_allWalks_0 : decode cX6_allWalks 0 = .ok (.aload_n 0, 1) := by decide +kernel
theorem dX6_allWalks_1 : decode cX6_allWalks 1 = .ok (.getfield 19, 3) := by decide +kernel
theorem dX6_allWalks_4 : decode cX6_allWalks 4 = .ok (.invokevirtual 229, 3) := by decide +kernel
theorem dX6_allWalks_7 : decode cX6_allWalks 7 = .ok (.bipush 99, 2) := by decide +kernel
theorem dX6_allWalks_9 : decode cX6_allWalks 9 = .ok (.imul, 1) := by decide +kernel
theorem dX6_allWalks_10 : decode cX6_allWalks 10 = .ok (.bipush 20, 2) := by decide +kernel
theorem dX6_allWalks_12 : decode cX6_allWalks 12 = .ok (.imul, 1) := by decide +kernel
theorem dX6_allWalks_13 : decode cX6_allWalks 13 = .ok (.ireturn, 1) := by decide +kernel
theorem dX6_isReading_0 : decode cX6_isReading 0 = .ok (.aload_n 0, 1) := by decide +kernel
theorem dX6_isReading_1 : decode cX6_isReading 1 = .ok (.iload_n 1, 1) := by decide +kernel
theorem dX6_isReading_2 : decode cX6_isReading 2 = .ok (.iload_n 2, 1) := by decide +kernel
theorem dX6_isReading_3 : decode cX6_isReading 3 = .ok (.iload_n 3, 1) := by decide +kernel
theorem dX6_isReading_4 : decode cX6_isReading 4 = .ok (.invokestatic 232, 3) := by decide +kernel
theorem dX6_isReading_7 : decode cX6_isReading 7 = .ok (.iload_n 3, 1) := by decide +kernel
theorem dX6_isReading_8 : decode cX6_isReading 8 = .ok (.invokestatic 235, 3) := by decide +kernel
theorem dX6_isReading_11 : decode cX6_isReading 11 = .ok (.iload_n 3, 1) := by decide +kernel
theorem dX6_isReading_12 : decode cX6_isReading 12 = .ok (.invokestatic 238, 3) := by decide +kernel
theorem dX6_isReading_15 : decode cX6_isReading 15 = .ok (.invokevirtual 241, 3) := by decide +kernel
theorem dX6_isReading_18 : decode cX6_isReading 18 = .ok (.ireturn, 1) := by decide +kernel
theorem dX6_readings_0 : decode cX6_readings 0 = .ok (.aload_n 0, 1) := by decide +kernel
theorem dX6_readings_1 : decode cX6_readings 1 = .ok (.iload_n 1, 1) := by decide +kernel
theorem dX6_readings_2 : decode cX6_readings 2 = .ok (.iload_n 2, 1) := by decide +kernel
theorem dX6_readings_3 : decode cX6_readings 3 = .ok (.invokevirtual 244, 3) := by decide +kernel
theorem dX6_readings_6 : decode cX6_readings 6 = .ok (.ifCond .ne 6, 3) := by decide +kernel
theorem dX6_readings_9 : decode cX6_readings 9 = .ok (.bipush (-2), 2) := by decide +kernel
theorem dX6_readings_11 : decode cX6_readings 11 = .ok (.ireturn, 1) := by decide +kernel
theorem dX6_readings_12 : decode cX6_readings 12 = .ok (.aload_n 0, 1) := by decide +kernel
theorem dX6_readings_13 : decode cX6_readings 13 = .ok (.iload_n 1, 1) := by decide +kernel
theorem dX6_readings_14 : decode cX6_readings 14 = .ok (.iload_n 2, 1) := by decide +kernel
theorem dX6_readings_15 : decode cX6_readings 15 = .ok (.invokevirtual 247, 3) := by decide +kernel
theorem dX6_readings_18 : decode cX6_readings 18 = .ok (.istore_n 3, 1) := by decide +kernel
theorem dX6_readings_19 : decode cX6_readings 19 = .ok (.iload_n 3, 1) := by decide +kernel
theorem dX6_readings_20 : decode cX6_readings 20 = .ok (.ifCond .eq 5, 3) := by decide +kernel
theorem dX6_readings_23 : decode cX6_readings 23 = .ok (.iload_n 3, 1) := by decide +kernel
theorem dX6_readings_24 : decode cX6_readings 24 = .ok (.ireturn, 1) := by decide +kernel
theorem dX6_readings_25 : decode cX6_readings 25 = .ok (.iconst 0, 1) := by decide +kernel
theorem dX6_readings_26 : decode cX6_readings 26 = .ok (.istore 4, 2) := by decide +kernel
theorem dX6_readings_28 : decode cX6_readings 28 = .ok (.aload_n 0, 1) := by decide +kernel
theorem dX6_readings_29 : decode cX6_readings 29 = .ok (.invokevirtual 250, 3) := by decide +kernel
theorem dX6_readings_32 : decode cX6_readings 32 = .ok (.istore 5, 2) := by decide +kernel
theorem dX6_readings_34 : decode cX6_readings 34 = .ok (.iconst 0, 1) := by decide +kernel
theorem dX6_readings_35 : decode cX6_readings 35 = .ok (.istore 6, 2) := by decide +kernel
theorem dX6_readings_37 : decode cX6_readings 37 = .ok (.iload 6, 2) := by decide +kernel
theorem dX6_readings_39 : decode cX6_readings 39 = .ok (.iload 5, 2) := by decide +kernel
theorem dX6_readings_41 : decode cX6_readings 41 = .ok (.if_icmp .ge 23, 3) := by decide +kernel
theorem dX6_readings_44 : decode cX6_readings 44 = .ok (.aload_n 0, 1) := by decide +kernel
theorem dX6_readings_45 : decode cX6_readings 45 = .ok (.iload_n 1, 1) := by decide +kernel
theorem dX6_readings_46 : decode cX6_readings 46 = .ok (.iload_n 2, 1) := by decide +kernel
theorem dX6_readings_47 : decode cX6_readings 47 = .ok (.iload 6, 2) := by decide +kernel
theorem dX6_readings_49 : decode cX6_readings 49 = .ok (.invokevirtual 253, 3) := by decide +kernel
theorem dX6_readings_52 : decode cX6_readings 52 = .ok (.ifCond .eq 6, 3) := by decide +kernel
theorem dX6_readings_55 : decode cX6_readings 55 = .ok (.iinc 4 1, 3) := by decide +kernel
theorem dX6_readings_58 : decode cX6_readings 58 = .ok (.iinc 6 1, 3) := by decide +kernel
theorem dX6_readings_61 : decode cX6_readings 61 = .ok (.goto (-24), 3) := by decide +kernel
theorem dX6_readings_64 : decode cX6_readings 64 = .ok (.iload 4, 2) := by decide +kernel
theorem dX6_readings_66 : decode cX6_readings 66 = .ok (.ireturn, 1) := by decide +kernel
theorem dX6_reading_0 : decode cX6_reading 0 = .ok (.aload_n 0, 1) := by decide +kernel
theorem dX6_reading_1 : decode cX6_reading 1 = .ok (.iload_n 1, 1) := by decide +kernel
theorem dX6_reading_2 : decode cX6_reading 2 = .ok (.iload_n 2, 1) := by decide +kernel
theorem dX6_reading_3 : decode cX6_reading 3 = .ok (.invokevirtual 244, 3) := by decide +kernel
theorem dX6_reading_6 : decode cX6_reading 6 = .ok (.ifCond .eq 7, 3) := by decide +kernel
theorem dX6_reading_9 : decode cX6_reading 9 = .ok (.iload_n 3, 1) := by decide +kernel
theorem dX6_reading_10 : decode cX6_reading 10 = .ok (.ifCond .ge 6, 3) := by decide +kernel
theorem dX6_reading_13 : decode cX6_reading 13 = .ok (.bipush (-2), 2) := by decide +kernel
theorem dX6_reading_15 : decode cX6_reading 15 = .ok (.ireturn, 1) := by decide +kernel
theorem dX6_reading_16 : decode cX6_reading 16 = .ok (.aload_n 0, 1) := by decide +kernel
theorem dX6_reading_17 : decode cX6_reading 17 = .ok (.iload_n 1, 1) := by decide +kernel
theorem dX6_reading_18 : decode cX6_reading 18 = .ok (.iload_n 2, 1) := by decide +kernel
theorem dX6_reading_19 : decode cX6_reading 19 = .ok (.invokevirtual 247, 3) := by decide +kernel
theorem dX6_reading_22 : decode cX6_reading 22 = .ok (.istore 4, 2) := by decide +kernel
theorem dX6_reading_24 : decode cX6_reading 24 = .ok (.iload 4, 2) := by decide +kernel
theorem dX6_reading_26 : decode cX6_reading 26 = .ok (.ifCond .eq 6, 3) := by decide +kernel
theorem dX6_reading_29 : decode cX6_reading 29 = .ok (.iload 4, 2) := by decide +kernel
theorem dX6_reading_31 : decode cX6_reading 31 = .ok (.ireturn, 1) := by decide +kernel
theorem dX6_reading_32 : decode cX6_reading 32 = .ok (.iconst 0, 1) := by decide +kernel
theorem dX6_reading_33 : decode cX6_reading 33 = .ok (.istore 5, 2) := by decide +kernel
theorem dX6_reading_35 : decode cX6_reading 35 = .ok (.aload_n 0, 1) := by decide +kernel
theorem dX6_reading_36 : decode cX6_reading 36 = .ok (.invokevirtual 250, 3) := by decide +kernel
theorem dX6_reading_39 : decode cX6_reading 39 = .ok (.istore 6, 2) := by decide +kernel
theorem dX6_reading_41 : decode cX6_reading 41 = .ok (.iconst 0, 1) := by decide +kernel
theorem dX6_reading_42 : decode cX6_reading 42 = .ok (.istore 7, 2) := by decide +kernel
theorem dX6_reading_44 : decode cX6_reading 44 = .ok (.iload 7, 2) := by decide +kernel
theorem dX6_reading_46 : decode cX6_reading 46 = .ok (.iload 6, 2) := by decide +kernel
theorem dX6_reading_48 : decode cX6_reading 48 = .ok (.if_icmp .ge 55, 3) := by decide +kernel
theorem dX6_reading_51 : decode cX6_reading 51 = .ok (.aload_n 0, 1) := by decide +kernel
theorem dX6_reading_52 : decode cX6_reading 52 = .ok (.iload_n 1, 1) := by decide +kernel
theorem dX6_reading_53 : decode cX6_reading 53 = .ok (.iload_n 2, 1) := by decide +kernel
theorem dX6_reading_54 : decode cX6_reading 54 = .ok (.iload 7, 2) := by decide +kernel
theorem dX6_reading_56 : decode cX6_reading 56 = .ok (.invokevirtual 253, 3) := by decide +kernel
theorem dX6_reading_59 : decode cX6_reading 59 = .ok (.ifCond .eq 38, 3) := by decide +kernel
theorem dX6_reading_62 : decode cX6_reading 62 = .ok (.iload 5, 2) := by decide +kernel
theorem dX6_reading_64 : decode cX6_reading 64 = .ok (.iload_n 3, 1) := by decide +kernel
theorem dX6_reading_65 : decode cX6_reading 65 = .ok (.if_icmp .ne 29, 3) := by decide +kernel
theorem dX6_reading_68 : decode cX6_reading 68 = .ok (.ldc_w 256, 3) := by decide +kernel
theorem dX6_reading_71 : decode cX6_reading 71 = .ok (.iload 7, 2) := by decide +kernel
theorem dX6_reading_73 : decode cX6_reading 73 = .ok (.invokestatic 232, 3) := by decide +kernel
theorem dX6_reading_76 : decode cX6_reading 76 = .ok (.imul, 1) := by decide +kernel
theorem dX6_reading_77 : decode cX6_reading 77 = .ok (.sipush 1000, 3) := by decide +kernel
theorem dX6_reading_80 : decode cX6_reading 80 = .ok (.iload 7, 2) := by decide +kernel
theorem dX6_reading_82 : decode cX6_reading 82 = .ok (.invokestatic 238, 3) := by decide +kernel
theorem dX6_reading_85 : decode cX6_reading 85 = .ok (.imul, 1) := by decide +kernel
theorem dX6_reading_86 : decode cX6_reading 86 = .ok (.iadd, 1) := by decide +kernel
theorem dX6_reading_87 : decode cX6_reading 87 = .ok (.iload 7, 2) := by decide +kernel
theorem dX6_reading_89 : decode cX6_reading 89 = .ok (.invokestatic 235, 3) := by decide +kernel
theorem dX6_reading_92 : decode cX6_reading 92 = .ok (.iadd, 1) := by decide +kernel
theorem dX6_reading_93 : decode cX6_reading 93 = .ok (.ireturn, 1) := by decide +kernel
theorem dX6_reading_94 : decode cX6_reading 94 = .ok (.iinc 5 1, 3) := by decide +kernel
theorem dX6_reading_97 : decode cX6_reading 97 = .ok (.iinc 7 1, 3) := by decide +kernel
theorem dX6_reading_100 : decode cX6_reading 100 = .ok (.goto (-56), 3) := by decide +kernel
theorem dX6_reading_103 : decode cX6_reading 103 = .ok (.iconst (-1), 1) := by decide +kernel
theorem dX6_reading_104 : decode cX6_reading 104 = .ok (.ireturn, 1) := by decide +kernel
theorem dX6_fits_0 : decode cX6_fits 0 = .ok (.aload_n 0, 1) := by decide +kernel
theorem dX6_fits_1 : decode cX6_fits 1 = .ok (.iload_n 1, 1) := by decide +kernel
theorem dX6_fits_2 : decode cX6_fits 2 = .ok (.iload_n 2, 1) := by decide +kernel
theorem dX6_fits_3 : decode cX6_fits 3 = .ok (.invokevirtual 244, 3) := by decide +kernel
theorem dX6_fits_6 : decode cX6_fits 6 = .ok (.ifCond .eq 15, 3) := by decide +kernel
theorem dX6_fits_9 : decode cX6_fits 9 = .ok (.aload_n 0, 1) := by decide +kernel
theorem dX6_fits_10 : decode cX6_fits 10 = .ok (.iload_n 3, 1) := by decide +kernel
theorem dX6_fits_11 : decode cX6_fits 11 = .ok (.iload 4, 2) := by decide +kernel
theorem dX6_fits_13 : decode cX6_fits 13 = .ok (.iload 5, 2) := by decide +kernel
theorem dX6_fits_15 : decode cX6_fits 15 = .ok (.invokevirtual 257, 3) := by decide +kernel
theorem dX6_fits_18 : decode cX6_fits 18 = .ok (.ifCond .ne 6, 3) := by decide +kernel
theorem dX6_fits_21 : decode cX6_fits 21 = .ok (.bipush (-2), 2) := by decide +kernel
theorem dX6_fits_23 : decode cX6_fits 23 = .ok (.ireturn, 1) := by decide +kernel
theorem dX6_fits_24 : decode cX6_fits 24 = .ok (.aload_n 0, 1) := by decide +kernel
theorem dX6_fits_25 : decode cX6_fits 25 = .ok (.iload_n 1, 1) := by decide +kernel
theorem dX6_fits_26 : decode cX6_fits 26 = .ok (.iload_n 2, 1) := by decide +kernel
theorem dX6_fits_27 : decode cX6_fits 27 = .ok (.invokevirtual 247, 3) := by decide +kernel
theorem dX6_fits_30 : decode cX6_fits 30 = .ok (.istore 6, 2) := by decide +kernel
theorem dX6_fits_32 : decode cX6_fits 32 = .ok (.iload 6, 2) := by decide +kernel
theorem dX6_fits_34 : decode cX6_fits 34 = .ok (.ifCond .eq 6, 3) := by decide +kernel
theorem dX6_fits_37 : decode cX6_fits 37 = .ok (.iload 6, 2) := by decide +kernel
theorem dX6_fits_39 : decode cX6_fits 39 = .ok (.ireturn, 1) := by decide +kernel
theorem dX6_fits_40 : decode cX6_fits 40 = .ok (.aload_n 0, 1) := by decide +kernel
theorem dX6_fits_41 : decode cX6_fits 41 = .ok (.iload_n 1, 1) := by decide +kernel
theorem dX6_fits_42 : decode cX6_fits 42 = .ok (.iload_n 2, 1) := by decide +kernel
theorem dX6_fits_43 : decode cX6_fits 43 = .ok (.iload_n 3, 1) := by decide +kernel
theorem dX6_fits_44 : decode cX6_fits 44 = .ok (.iload 4, 2) := by decide +kernel
theorem dX6_fits_46 : decode cX6_fits 46 = .ok (.iload 5, 2) := by decide +kernel
theorem dX6_fits_48 : decode cX6_fits 48 = .ok (.invokevirtual 241, 3) := by decide +kernel
theorem dX6_fits_51 : decode cX6_fits 51 = .ok (.ifCond .eq 7, 3) := by decide +kernel
theorem dX6_fits_54 : decode cX6_fits 54 = .ok (.iconst 1, 1) := by decide +kernel
theorem dX6_fits_55 : decode cX6_fits 55 = .ok (.goto 4, 3) := by decide +kernel
theorem dX6_fits_58 : decode cX6_fits 58 = .ok (.iconst 0, 1) := by decide +kernel
theorem dX6_fits_59 : decode cX6_fits 59 = .ok (.ireturn, 1) := by decide +kernel
theorem dX6_isWalk_0 : decode cX6_isWalk 0 = .ok (.aload_n 0, 1) := by decide +kernel
theorem dX6_isWalk_1 : decode cX6_isWalk 1 = .ok (.getfield 19, 3) := by decide +kernel
theorem dX6_isWalk_4 : decode cX6_isWalk 4 = .ok (.iload_n 1, 1) := by decide +kernel
theorem dX6_isWalk_5 : decode cX6_isWalk 5 = .ok (.invokevirtual 81, 3) := by decide +kernel
theorem dX6_isWalk_8 : decode cX6_isWalk 8 = .ok (.ifCond .eq 27, 3) := by decide +kernel
theorem dX6_isWalk_11 : decode cX6_isWalk 11 = .ok (.iload_n 2, 1) := by decide +kernel
theorem dX6_isWalk_12 : decode cX6_isWalk 12 = .ok (.iconst 1, 1) := by decide +kernel
theorem dX6_isWalk_13 : decode cX6_isWalk 13 = .ok (.bipush 99, 2) := by decide +kernel
theorem dX6_isWalk_15 : decode cX6_isWalk 15 = .ok (.invokestatic 55, 3) := by decide +kernel
theorem dX6_isWalk_18 : decode cX6_isWalk 18 = .ok (.ifCond .eq 17, 3) := by decide +kernel
theorem dX6_isWalk_21 : decode cX6_isWalk 21 = .ok (.iload_n 3, 1) := by decide +kernel
theorem dX6_isWalk_22 : decode cX6_isWalk 22 = .ok (.iconst 1, 1) := by decide +kernel
theorem dX6_isWalk_23 : decode cX6_isWalk 23 = .ok (.bipush 20, 2) := by decide +kernel
theorem dX6_isWalk_25 : decode cX6_isWalk 25 = .ok (.invokestatic 55, 3) := by decide +kernel
theorem dX6_isWalk_28 : decode cX6_isWalk 28 = .ok (.ifCond .eq 7, 3) := by decide +kernel
theorem dX6_isWalk_31 : decode cX6_isWalk 31 = .ok (.iconst 1, 1) := by decide +kernel
theorem dX6_isWalk_32 : decode cX6_isWalk 32 = .ok (.goto 4, 3) := by decide +kernel
theorem dX6_isWalk_35 : decode cX6_isWalk 35 = .ok (.iconst 0, 1) := by decide +kernel
theorem dX6_isWalk_36 : decode cX6_isWalk 36 = .ok (.ireturn, 1) := by decide +kernel
theorem dX6_type_0 : decode cX6_type 0 = .ok (.iload_n 1, 1) := by decide +kernel
theorem dX6_type_1 : decode cX6_type 1 = .ok (.iconst 0, 1) := by decide +kernel
theorem dX6_type_2 : decode cX6_type 2 = .ok (.sipush 255, 3) := by decide +kernel
theorem dX6_type_5 : decode cX6_type 5 = .ok (.invokestatic 55, 3) := by decide +kernel
theorem dX6_type_8 : decode cX6_type 8 = .ok (.ifCond .eq 14, 3) := by decide +kernel
theorem dX6_type_11 : decode cX6_type 11 = .ok (.aload_n 0, 1) := by decide +kernel
theorem dX6_type_12 : decode cX6_type 12 = .ok (.getfield 47, 3) := by decide +kernel
theorem dX6_type_15 : decode cX6_type 15 = .ok (.iload_n 1, 1) := by decide +kernel
theorem dX6_type_16 : decode cX6_type 16 = .ok (.invokevirtual 260, 3) := by decide +kernel
theorem dX6_type_19 : decode cX6_type 19 = .ok (.goto 5, 3) := by decide +kernel
theorem dX6_type_22 : decode cX6_type 22 = .ok (.bipush (-2), 2) := by decide +kernel
theorem dX6_type_24 : decode cX6_type 24 = .ok (.ireturn, 1) := by decide +kernel
theorem dX6_hush_0 : decode cX6_hush 0 = .ok (.aload_n 0, 1) := by decide +kernel
theorem dX6_hush_1 : decode cX6_hush 1 = .ok (.getfield 47, 3) := by decide +kernel
theorem dX6_hush_4 : decode cX6_hush 4 = .ok (.invokevirtual 263, 3) := by decide +kernel
theorem dX6_hush_7 : decode cX6_hush 7 = .ok (.ireturn, 1) := by decide +kernel
theorem dX6_fault_0 : decode cX6_fault 0 = .ok (.aload_n 0, 1) := by decide +kernel
theorem dX6_fault_1 : decode cX6_fault 1 = .ok (.getfield 47, 3) := by decide +kernel
theorem dX6_fault_4 : decode cX6_fault 4 = .ok (.iconst 1, 1) := by decide +kernel
theorem dX6_fault_5 : decode cX6_fault 5 = .ok (.invokevirtual 264, 3) := by decide +kernel
theorem dX6_fault_8 : decode cX6_fault 8 = .ok (.aload_n 0, 1) := by decide +kernel
theorem dX6_fault_9 : decode cX6_fault 9 = .ok (.getfield 47, 3) := by decide +kernel
theorem dX6_fault_12 : decode cX6_fault 12 = .ok (.invokevirtual 268, 3) := by decide +kernel
theorem dX6_fault_15 : decode cX6_fault 15 = .ok (.ireturn, 1) := by decide +kernel
theorem dX6_speech_0 : decode cX6_speech 0 = .ok (.aload_n 0, 1) := by decide +kernel
theorem dX6_speech_1 : decode cX6_speech 1 = .ok (.getfield 19, 3) := by decide +kernel
theorem dX6_speech_4 : decode cX6_speech 4 = .ok (.iload_n 1, 1) := by decide +kernel
theorem dX6_speech_5 : decode cX6_speech 5 = .ok (.invokevirtual 81, 3) := by decide +kernel
theorem dX6_speech_8 : decode cX6_speech 8 = .ok (.ifCond .ne 6, 3) := by decide +kernel
theorem dX6_speech_11 : decode cX6_speech 11 = .ok (.ldc 182, 2) := by decide +kernel
theorem dX6_speech_13 : decode cX6_speech 13 = .ok (.ireturn, 1) := by decide +kernel
theorem dX6_speech_14 : decode cX6_speech 14 = .ok (.aload_n 0, 1) := by decide +kernel
theorem dX6_speech_15 : decode cX6_speech 15 = .ok (.getfield 47, 3) := by decide +kernel
theorem dX6_speech_18 : decode cX6_speech 18 = .ok (.aload_n 0, 1) := by decide +kernel
theorem dX6_speech_19 : decode cX6_speech 19 = .ok (.getfield 19, 3) := by decide +kernel
theorem dX6_speech_22 : decode cX6_speech 22 = .ok (.iload_n 1, 1) := by decide +kernel
theorem dX6_speech_23 : decode cX6_speech 23 = .ok (.invokevirtual 88, 3) := by decide +kernel
theorem dX6_speech_26 : decode cX6_speech 26 = .ok (.invokevirtual 264, 3) := by decide +kernel
theorem dX6_speech_29 : decode cX6_speech 29 = .ok (.aload_n 0, 1) := by decide +kernel
theorem dX6_speech_30 : decode cX6_speech 30 = .ok (.getfield 47, 3) := by decide +kernel
theorem dX6_speech_33 : decode cX6_speech 33 = .ok (.invokevirtual 268, 3) := by decide +kernel
theorem dX6_speech_36 : decode cX6_speech 36 = .ok (.iconst (-1), 1) := by decide +kernel
theorem dX6_speech_37 : decode cX6_speech 37 = .ok (.if_icmp .ne 13, 3) := by decide +kernel
theorem dX6_speech_40 : decode cX6_speech 40 = .ok (.aload_n 0, 1) := by decide +kernel
theorem dX6_speech_41 : decode cX6_speech 41 = .ok (.getfield 47, 3) := by decide +kernel
theorem dX6_speech_44 : decode cX6_speech 44 = .ok (.invokevirtual 271, 3) := by decide +kernel
theorem dX6_speech_47 : decode cX6_speech 47 = .ok (.ifCond .eq 9, 3) := by decide +kernel
theorem dX6_speech_50 : decode cX6_speech 50 = .ok (.ldc_w 274, 3) := by decide +kernel
theorem dX6_speech_53 : decode cX6_speech 53 = .ok (.goto 10, 3) := by decide +kernel
theorem dX6_speech_56 : decode cX6_speech 56 = .ok (.aload_n 0, 1) := by decide +kernel
theorem dX6_speech_57 : decode cX6_speech 57 = .ok (.getfield 47, 3) := by decide +kernel
theorem dX6_speech_60 : decode cX6_speech 60 = .ok (.invokevirtual 275, 3) := by decide +kernel
theorem dX6_speech_63 : decode cX6_speech 63 = .ok (.ireturn, 1) := by decide +kernel
theorem dX6_sheet_0 : decode cX6_sheet 0 = .ok (.aload_n 0, 1) := by decide +kernel
theorem dX6_sheet_1 : decode cX6_sheet 1 = .ok (.getfield 10, 3) := by decide +kernel
theorem dX6_sheet_4 : decode cX6_sheet 4 = .ok (.iload_n 1, 1) := by decide +kernel
theorem dX6_sheet_5 : decode cX6_sheet 5 = .ok (.invokevirtual 51, 3) := by decide +kernel
theorem dX6_sheet_8 : decode cX6_sheet 8 = .ok (.ifCond .eq 16, 3) := by decide +kernel
theorem dX6_sheet_11 : decode cX6_sheet 11 = .ok (.iload_n 2, 1) := by decide +kernel
theorem dX6_sheet_12 : decode cX6_sheet 12 = .ok (.invokestatic 278, 3) := by decide +kernel
theorem dX6_sheet_15 : decode cX6_sheet 15 = .ok (.ifCond .eq 9, 3) := by decide +kernel
theorem dX6_sheet_18 : decode cX6_sheet 18 = .ok (.iload_n 3, 1) := by decide +kernel
theorem dX6_sheet_19 : decode cX6_sheet 19 = .ok (.bipush 60, 2) := by decide +kernel
theorem dX6_sheet_21 : decode cX6_sheet 21 = .ok (.if_icmp .le 6, 3) := by decide +kernel
theorem dX6_sheet_24 : decode cX6_sheet 24 = .ok (.bipush (-2), 2) := by decide +kernel
theorem dX6_sheet_26 : decode cX6_sheet 26 = .ok (.ireturn, 1) := by decide +kernel
theorem dX6_sheet_27 : decode cX6_sheet 27 = .ok (.iload_n 3, 1) := by decide +kernel
theorem dX6_sheet_28 : decode cX6_sheet 28 = .ok (.ifCond .ge 14, 3) := by decide +kernel
theorem dX6_sheet_31 : decode cX6_sheet 31 = .ok (.aload_n 0, 1) := by decide +kernel
theorem dX6_sheet_32 : decode cX6_sheet 32 = .ok (.getfield 10, 3) := by decide +kernel
theorem dX6_sheet_35 : decode cX6_sheet 35 = .ok (.iconst 5, 1) := by decide +kernel
theorem dX6_sheet_36 : decode cX6_sheet 36 = .ok (.invokevirtual 62, 3) := by decide +kernel
theorem dX6_sheet_39 : decode cX6_sheet 39 = .ok (.goto 13, 3) := by decide +kernel
theorem dX6_sheet_42 : decode cX6_sheet 42 = .ok (.aload_n 0, 1) := by decide +kernel
theorem dX6_sheet_43 : decode cX6_sheet 43 = .ok (.getfield 10, 3) := by decide +kernel
theorem dX6_sheet_46 : decode cX6_sheet 46 = .ok (.iload_n 1, 1) := by decide +kernel
theorem dX6_sheet_47 : decode cX6_sheet 47 = .ok (.iload_n 2, 1) := by decide +kernel
theorem dX6_sheet_48 : decode cX6_sheet 48 = .ok (.iload_n 3, 1) := by decide +kernel
theorem dX6_sheet_49 : decode cX6_sheet 49 = .ok (.invokevirtual 281, 3) := by decide +kernel
theorem dX6_sheet_52 : decode cX6_sheet 52 = .ok (.ireturn, 1) := by decide +kernel
theorem dX6_lose_0 : decode cX6_lose 0 = .ok (.aload_n 0, 1) := by decide +kernel
theorem dX6_lose_1 : decode cX6_lose 1 = .ok (.getfield 10, 3) := by decide +kernel
theorem dX6_lose_4 : decode cX6_lose 4 = .ok (.iload_n 1, 1) := by decide +kernel
theorem dX6_lose_5 : decode cX6_lose 5 = .ok (.invokevirtual 51, 3) := by decide +kernel
theorem dX6_lose_8 : decode cX6_lose 8 = .ok (.ifCond .ne 6, 3) := by decide +kernel
theorem dX6_lose_11 : decode cX6_lose 11 = .ok (.bipush (-2), 2) := by decide +kernel
theorem dX6_lose_13 : decode cX6_lose 13 = .ok (.ireturn, 1) := by decide +kernel
theorem dX6_lose_14 : decode cX6_lose 14 = .ok (.aload_n 0, 1) := by decide +kernel
theorem dX6_lose_15 : decode cX6_lose 15 = .ok (.getfield 10, 3) := by decide +kernel
theorem dX6_lose_18 : decode cX6_lose 18 = .ok (.iload_n 1, 1) := by decide +kernel
theorem dX6_lose_19 : decode cX6_lose 19 = .ok (.invokevirtual 59, 3) := by decide +kernel
theorem dX6_lose_22 : decode cX6_lose 22 = .ok (.ifCond .eq 14, 3) := by decide +kernel
theorem dX6_lose_25 : decode cX6_lose 25 = .ok (.aload_n 0, 1) := by decide +kernel
theorem dX6_lose_26 : decode cX6_lose 26 = .ok (.getfield 10, 3) := by decide +kernel
theorem dX6_lose_29 : decode cX6_lose 29 = .ok (.iconst 1, 1) := by decide +kernel
theorem dX6_lose_30 : decode cX6_lose 30 = .ok (.invokevirtual 62, 3) := by decide +kernel
theorem dX6_lose_33 : decode cX6_lose 33 = .ok (.goto 11, 3) := by decide +kernel
theorem dX6_lose_36 : decode cX6_lose 36 = .ok (.aload_n 0, 1) := by decide +kernel
theorem dX6_lose_37 : decode cX6_lose 37 = .ok (.getfield 10, 3) := by decide +kernel
theorem dX6_lose_40 : decode cX6_lose 40 = .ok (.iload_n 1, 1) := by decide +kernel
theorem dX6_lose_41 : decode cX6_lose 41 = .ok (.invokevirtual 284, 3) := by decide +kernel
theorem dX6_lose_44 : decode cX6_lose 44 = .ok (.ireturn, 1) := by decide +kernel
theorem dX6_touch_0 : decode cX6_touch 0 = .ok (.aload_n 0, 1) := by decide +kernel
theorem dX6_touch_1 : decode cX6_touch 1 = .ok (.getfield 10, 3) := by decide +kernel
theorem dX6_touch_4 : decode cX6_touch 4 = .ok (.iload_n 1, 1) := by decide +kernel
theorem dX6_touch_5 : decode cX6_touch 5 = .ok (.invokevirtual 59, 3) := by decide +kernel
theorem dX6_touch_8 : decode cX6_touch 8 = .ok (.ifCond .eq 12, 3) := by decide +kernel
theorem dX6_touch_11 : decode cX6_touch 11 = .ok (.aload_n 0, 1) := by decide +kernel
theorem dX6_touch_12 : decode cX6_touch 12 = .ok (.getfield 10, 3) := by decide +kernel
theorem dX6_touch_15 : decode cX6_touch 15 = .ok (.iconst 1, 1) := by decide +kernel
theorem dX6_touch_16 : decode cX6_touch 16 = .ok (.invokevirtual 62, 3) := by decide +kernel
theorem dX6_touch_19 : decode cX6_touch 19 = .ok (.ireturn, 1) := by decide +kernel
theorem dX6_touch_20 : decode cX6_touch 20 = .ok (.aload_n 0, 1) := by decide +kernel
theorem dX6_touch_21 : decode cX6_touch 21 = .ok (.getfield 10, 3) := by decide +kernel
theorem dX6_touch_24 : decode cX6_touch 24 = .ok (.iload_n 1, 1) := by decide +kernel
theorem dX6_touch_25 : decode cX6_touch 25 = .ok (.invokevirtual 287, 3) := by decide +kernel
theorem dX6_touch_28 : decode cX6_touch 28 = .ok (.iload_n 2, 1) := by decide +kernel
theorem dX6_touch_29 : decode cX6_touch 29 = .ok (.if_icmp .eq 12, 3) := by decide +kernel
theorem dX6_touch_32 : decode cX6_touch 32 = .ok (.aload_n 0, 1) := by decide +kernel
theorem dX6_touch_33 : decode cX6_touch 33 = .ok (.getfield 10, 3) := by decide +kernel
theorem dX6_touch_36 : decode cX6_touch 36 = .ok (.iconst 3, 1) := by decide +kernel
theorem dX6_touch_37 : decode cX6_touch 37 = .ok (.invokevirtual 62, 3) := by decide +kernel
theorem dX6_touch_40 : decode cX6_touch 40 = .ok (.ireturn, 1) := by decide +kernel
theorem dX6_touch_41 : decode cX6_touch 41 = .ok (.iload_n 3, 1) := by decide +kernel
theorem dX6_touch_42 : decode cX6_touch 42 = .ok (.iconst 0, 1) := by decide +kernel
theorem dX6_touch_43 : decode cX6_touch 43 = .ok (.aload_n 0, 1) := by decide +kernel
theorem dX6_touch_44 : decode cX6_touch 44 = .ok (.getfield 10, 3) := by decide +kernel
theorem dX6_touch_47 : decode cX6_touch 47 = .ok (.iload_n 1, 1) := by decide +kernel
theorem dX6_touch_48 : decode cX6_touch 48 = .ok (.invokevirtual 66, 3) := by decide +kernel
theorem dX6_touch_51 : decode cX6_touch 51 = .ok (.iconst 1, 1) := by decide +kernel
theorem dX6_touch_52 : decode cX6_touch 52 = .ok (.isub, 1) := by decide +kernel
theorem dX6_touch_53 : decode cX6_touch 53 = .ok (.invokestatic 55, 3) := by decide +kernel
theorem dX6_touch_56 : decode cX6_touch 56 = .ok (.ifCond .eq 7, 3) := by decide +kernel
theorem dX6_touch_59 : decode cX6_touch 59 = .ok (.iconst 0, 1) := by decide +kernel
theorem dX6_touch_60 : decode cX6_touch 60 = .ok (.goto 11, 3) := by decide +kernel
theorem dX6_touch_63 : decode cX6_touch 63 = .ok (.aload_n 0, 1) := by decide +kernel
theorem dX6_touch_64 : decode cX6_touch 64 = .ok (.getfield 10, 3) := by decide +kernel
theorem dX6_touch_67 : decode cX6_touch 67 = .ok (.iconst 2, 1) := by decide +kernel
theorem dX6_touch_68 : decode cX6_touch 68 = .ok (.invokevirtual 62, 3) := by decide +kernel
theorem dX6_touch_71 : decode cX6_touch 71 = .ok (.ireturn, 1) := by decide +kernel
theorem dX6_put_0 : decode cX6_put 0 = .ok (.aload_n 0, 1) := by decide +kernel
theorem dX6_put_1 : decode cX6_put 1 = .ok (.getfield 10, 3) := by decide +kernel
theorem dX6_put_4 : decode cX6_put 4 = .ok (.iload_n 1, 1) := by decide +kernel
theorem dX6_put_5 : decode cX6_put 5 = .ok (.invokevirtual 51, 3) := by decide +kernel
theorem dX6_put_8 : decode cX6_put 8 = .ok (.ifCond .eq 10, 3) := by decide +kernel
theorem dX6_put_11 : decode cX6_put 11 = .ok (.iload_n 2, 1) := by decide +kernel
theorem dX6_put_12 : decode cX6_put 12 = .ok (.invokestatic 278, 3) := by decide +kernel
theorem dX6_put_15 : decode cX6_put 15 = .ok (.ifCond .ne 6, 3) := by decide +kernel
theorem dX6_put_18 : decode cX6_put 18 = .ok (.bipush (-2), 2) := by decide +kernel
theorem dX6_put_20 : decode cX6_put 20 = .ok (.ireturn, 1) := by decide +kernel
theorem dX6_put_21 : decode cX6_put 21 = .ok (.aload_n 0, 1) := by decide +kernel
theorem dX6_put_22 : decode cX6_put 22 = .ok (.iload_n 1, 1) := by decide +kernel
theorem dX6_put_23 : decode cX6_put 23 = .ok (.iload_n 2, 1) := by decide +kernel
theorem dX6_put_24 : decode cX6_put 24 = .ok (.iload_n 3, 1) := by decide +kernel
theorem dX6_put_25 : decode cX6_put 25 = .ok (.invokevirtual 290, 3) := by decide +kernel
theorem dX6_put_28 : decode cX6_put 28 = .ok (.istore 5, 2) := by decide +kernel
theorem dX6_put_30 : decode cX6_put 30 = .ok (.iload 5, 2) := by decide +kernel
theorem dX6_put_32 : decode cX6_put 32 = .ok (.ifCond .ne 14, 3) := by decide +kernel
theorem dX6_put_35 : decode cX6_put 35 = .ok (.aload_n 0, 1) := by decide +kernel
theorem dX6_put_36 : decode cX6_put 36 = .ok (.getfield 10, 3) := by decide +kernel
theorem dX6_put_39 : decode cX6_put 39 = .ok (.iload_n 1, 1) := by decide +kernel
theorem dX6_put_40 : decode cX6_put 40 = .ok (.iload_n 3, 1) := by decide +kernel
theorem dX6_put_41 : decode cX6_put 41 = .ok (.iload 4, 2) := by decide +kernel
theorem dX6_put_43 : decode cX6_put 43 = .ok (.invokevirtual 293, 3) := by decide +kernel
theorem dX6_put_46 : decode cX6_put 46 = .ok (.iload 5, 2) := by decide +kernel
theorem dX6_put_48 : decode cX6_put 48 = .ok (.ifCond .ne 7, 3) := by decide +kernel
theorem dX6_put_51 : decode cX6_put 51 = .ok (.iconst 1, 1) := by decide +kernel
theorem dX6_put_52 : decode cX6_put 52 = .ok (.goto 5, 3) := by decide +kernel
theorem dX6_put_55 : decode cX6_put 55 = .ok (.iload 5, 2) := by decide +kernel
theorem dX6_put_57 : decode cX6_put 57 = .ok (.ireturn, 1) := by decide +kernel
theorem dX6_get_0 : decode cX6_get 0 = .ok (.aload_n 0, 1) := by decide +kernel
theorem dX6_get_1 : decode cX6_get 1 = .ok (.getfield 10, 3) := by decide +kernel
theorem dX6_get_4 : decode cX6_get 4 = .ok (.iload_n 1, 1) := by decide +kernel
theorem dX6_get_5 : decode cX6_get 5 = .ok (.invokevirtual 51, 3) := by decide +kernel
theorem dX6_get_8 : decode cX6_get 8 = .ok (.ifCond .eq 20, 3) := by decide +kernel
theorem dX6_get_11 : decode cX6_get 11 = .ok (.iload_n 2, 1) := by decide +kernel
theorem dX6_get_12 : decode cX6_get 12 = .ok (.invokestatic 278, 3) := by decide +kernel
theorem dX6_get_15 : decode cX6_get 15 = .ok (.ifCond .eq 13, 3) := by decide +kernel
theorem dX6_get_18 : decode cX6_get 18 = .ok (.aload_n 0, 1) := by decide +kernel
theorem dX6_get_19 : decode cX6_get 19 = .ok (.iload_n 1, 1) := by decide +kernel
theorem dX6_get_20 : decode cX6_get 20 = .ok (.iload_n 2, 1) := by decide +kernel
theorem dX6_get_21 : decode cX6_get 21 = .ok (.iload_n 3, 1) := by decide +kernel
theorem dX6_get_22 : decode cX6_get 22 = .ok (.invokevirtual 290, 3) := by decide +kernel
theorem dX6_get_25 : decode cX6_get 25 = .ok (.ifCond .eq 7, 3) := by decide +kernel
theorem dX6_get_28 : decode cX6_get 28 = .ok (.ldc_w 299, 3) := by decide +kernel
theorem dX6_get_31 : decode cX6_get 31 = .ok (.ireturn, 1) := by decide +kernel
theorem dX6_get_32 : decode cX6_get 32 = .ok (.aload_n 0, 1) := by decide +kernel
theorem dX6_get_33 : decode cX6_get 33 = .ok (.getfield 10, 3) := by decide +kernel
theorem dX6_get_36 : decode cX6_get 36 = .ok (.iload_n 1, 1) := by decide +kernel
theorem dX6_get_37 : decode cX6_get 37 = .ok (.iload_n 3, 1) := by decide +kernel
theorem dX6_get_38 : decode cX6_get 38 = .ok (.invokevirtual 300, 3) := by decide +kernel
theorem dX6_get_41 : decode cX6_get 41 = .ok (.ireturn, 1) := by decide +kernel
theorem dX6_copy_0 : decode cX6_copy 0 = .ok (.aload_n 0, 1) := by decide +kernel
theorem dX6_copy_1 : decode cX6_copy 1 = .ok (.getfield 10, 3) := by decide +kernel
theorem dX6_copy_4 : decode cX6_copy 4 = .ok (.iload_n 1, 1) := by decide +kernel
theorem dX6_copy_5 : decode cX6_copy 5 = .ok (.invokevirtual 51, 3) := by decide +kernel
theorem dX6_copy_8 : decode cX6_copy 8 = .ok (.ifCond .eq 14, 3) := by decide +kernel
theorem dX6_copy_11 : decode cX6_copy 11 = .ok (.aload_n 0, 1) := by decide +kernel
theorem dX6_copy_12 : decode cX6_copy 12 = .ok (.getfield 10, 3) := by decide +kernel
theorem dX6_copy_15 : decode cX6_copy 15 = .ok (.iload_n 3, 1) := by decide +kernel
theorem dX6_copy_16 : decode cX6_copy 16 = .ok (.invokevirtual 51, 3) := by decide +kernel
theorem dX6_copy_19 : decode cX6_copy 19 = .ok (.ifCond .ne 6, 3) := by decide +kernel
theorem dX6_copy_22 : decode cX6_copy 22 = .ok (.bipush (-2), 2) := by decide +kernel
theorem dX6_copy_24 : decode cX6_copy 24 = .ok (.ireturn, 1) := by decide +kernel
theorem dX6_copy_25 : decode cX6_copy 25 = .ok (.aload_n 0, 1) := by decide +kernel
theorem dX6_copy_26 : decode cX6_copy 26 = .ok (.getfield 10, 3) := by decide +kernel
theorem dX6_copy_29 : decode cX6_copy 29 = .ok (.iload_n 1, 1) := by decide +kernel
theorem dX6_copy_30 : decode cX6_copy 30 = .ok (.invokevirtual 59, 3) := by decide +kernel
theorem dX6_copy_33 : decode cX6_copy 33 = .ok (.ifCond .ne 14, 3) := by decide +kernel
theorem dX6_copy_36 : decode cX6_copy 36 = .ok (.aload_n 0, 1) := by decide +kernel
theorem dX6_copy_37 : decode cX6_copy 37 = .ok (.getfield 10, 3) := by decide +kernel
theorem dX6_copy_40 : decode cX6_copy 40 = .ok (.iload_n 3, 1) := by decide +kernel
theorem dX6_copy_41 : decode cX6_copy 41 = .ok (.invokevirtual 59, 3) := by decide +kernel
theorem dX6_copy_44 : decode cX6_copy 44 = .ok (.ifCond .eq 12, 3) := by decide +kernel
theorem dX6_copy_47 : decode cX6_copy 47 = .ok (.aload_n 0, 1) := by decide +kernel
theorem dX6_copy_48 : decode cX6_copy 48 = .ok (.getfield 10, 3) := by decide +kernel
theorem dX6_copy_51 : decode cX6_copy 51 = .ok (.iconst 1, 1) := by decide +kernel
theorem dX6_copy_52 : decode cX6_copy 52 = .ok (.invokevirtual 62, 3) := by decide +kernel
theorem dX6_copy_55 : decode cX6_copy 55 = .ok (.ireturn, 1) := by decide +kernel
theorem dX6_copy_56 : decode cX6_copy 56 = .ok (.aload_n 0, 1) := by decide +kernel
theorem dX6_copy_57 : decode cX6_copy 57 = .ok (.getfield 10, 3) := by decide +kernel
theorem dX6_copy_60 : decode cX6_copy 60 = .ok (.iload_n 1, 1) := by decide +kernel
theorem dX6_copy_61 : decode cX6_copy 61 = .ok (.invokevirtual 287, 3) := by decide +kernel
theorem dX6_copy_64 : decode cX6_copy 64 = .ok (.aload_n 0, 1) := by decide +kernel
theorem dX6_copy_65 : decode cX6_copy 65 = .ok (.getfield 10, 3) := by decide +kernel
theorem dX6_copy_68 : decode cX6_copy 68 = .ok (.iload_n 3, 1) := by decide +kernel
theorem dX6_copy_69 : decode cX6_copy 69 = .ok (.invokevirtual 287, 3) := by decide +kernel
theorem dX6_copy_72 : decode cX6_copy 72 = .ok (.if_icmp .eq 12, 3) := by decide +kernel
theorem dX6_copy_75 : decode cX6_copy 75 = .ok (.aload_n 0, 1) := by decide +kernel
theorem dX6_copy_76 : decode cX6_copy 76 = .ok (.getfield 10, 3) := by decide +kernel
theorem dX6_copy_79 : decode cX6_copy 79 = .ok (.iconst 4, 1) := by decide +kernel
theorem dX6_copy_80 : decode cX6_copy 80 = .ok (.invokevirtual 62, 3) := by decide +kernel
theorem dX6_copy_83 : decode cX6_copy 83 = .ok (.ireturn, 1) := by decide +kernel
theorem dX6_copy_84 : decode cX6_copy 84 = .ok (.aload_n 0, 1) := by decide +kernel
theorem dX6_copy_85 : decode cX6_copy 85 = .ok (.getfield 10, 3) := by decide +kernel
theorem dX6_copy_88 : decode cX6_copy 88 = .ok (.iload_n 1, 1) := by decide +kernel
theorem dX6_copy_89 : decode cX6_copy 89 = .ok (.iload_n 2, 1) := by decide +kernel
theorem dX6_copy_90 : decode cX6_copy 90 = .ok (.iload_n 3, 1) := by decide +kernel
theorem dX6_copy_91 : decode cX6_copy 91 = .ok (.iload 4, 2) := by decide +kernel
theorem dX6_copy_93 : decode cX6_copy 93 = .ok (.iload 5, 2) := by decide +kernel
theorem dX6_copy_95 : decode cX6_copy 95 = .ok (.invokevirtual 301, 3) := by decide +kernel
theorem dX6_copy_98 : decode cX6_copy 98 = .ok (.ifCond .eq 7, 3) := by decide +kernel
theorem dX6_copy_101 : decode cX6_copy 101 = .ok (.iconst 1, 1) := by decide +kernel
theorem dX6_copy_102 : decode cX6_copy 102 = .ok (.goto 11, 3) := by decide +kernel
theorem dX6_copy_105 : decode cX6_copy 105 = .ok (.aload_n 0, 1) := by decide +kernel
theorem dX6_copy_106 : decode cX6_copy 106 = .ok (.getfield 10, 3) := by decide +kernel
theorem dX6_copy_109 : decode cX6_copy 109 = .ok (.iconst 2, 1) := by decide +kernel
theorem dX6_copy_110 : decode cX6_copy 110 = .ok (.invokevirtual 62, 3) := by decide +kernel
theorem dX6_copy_113 : decode cX6_copy 113 = .ok (.ireturn, 1) := by decide +kernel
theorem dX6_write_0 : decode cX6_write 0 = .ok (.aload_n 0, 1) := by decide +kernel
theorem dX6_write_1 : decode cX6_write 1 = .ok (.getfield 10, 3) := by decide +kernel
theorem dX6_write_4 : decode cX6_write 4 = .ok (.iload_n 1, 1) := by decide +kernel
theorem dX6_write_5 : decode cX6_write 5 = .ok (.invokevirtual 51, 3) := by decide +kernel
theorem dX6_write_8 : decode cX6_write 8 = .ok (.ifCond .eq 14, 3) := by decide +kernel
theorem dX6_write_11 : decode cX6_write 11 = .ok (.aload_n 0, 1) := by decide +kernel
theorem dX6_write_12 : decode cX6_write 12 = .ok (.iload_n 2, 1) := by decide +kernel
theorem dX6_write_13 : decode cX6_write 13 = .ok (.iload_n 3, 1) := by decide +kernel
theorem dX6_write_14 : decode cX6_write 14 = .ok (.iload 4, 2) := by decide +kernel
theorem dX6_write_16 : decode cX6_write 16 = .ok (.invokevirtual 257, 3) := by decide +kernel
theorem dX6_write_19 : decode cX6_write 19 = .ok (.ifCond .ne 6, 3) := by decide +kernel
theorem dX6_write_22 : decode cX6_write 22 = .ok (.bipush (-2), 2) := by decide +kernel
theorem dX6_write_24 : decode cX6_write 24 = .ok (.ireturn, 1) := by decide +kernel
theorem dX6_write_25 : decode cX6_write 25 = .ok (.aload_n 0, 1) := by decide +kernel
theorem dX6_write_26 : decode cX6_write 26 = .ok (.getfield 10, 3) := by decide +kernel
theorem dX6_write_29 : decode cX6_write 29 = .ok (.iload_n 1, 1) := by decide +kernel
theorem dX6_write_30 : decode cX6_write 30 = .ok (.invokevirtual 59, 3) := by decide +kernel
theorem dX6_write_33 : decode cX6_write 33 = .ok (.ifCond .eq 12, 3) := by decide +kernel
theorem dX6_write_36 : decode cX6_write 36 = .ok (.aload_n 0, 1) := by decide +kernel
theorem dX6_write_37 : decode cX6_write 37 = .ok (.getfield 10, 3) := by decide +kernel
theorem dX6_write_40 : decode cX6_write 40 = .ok (.iconst 1, 1) := by decide +kernel
theorem dX6_write_41 : decode cX6_write 41 = .ok (.invokevirtual 62, 3) := by decide +kernel
theorem dX6_write_44 : decode cX6_write 44 = .ok (.ireturn, 1) := by decide +kernel
theorem dX6_write_45 : decode cX6_write 45 = .ok (.aload_n 0, 1) := by decide +kernel
theorem dX6_write_46 : decode cX6_write 46 = .ok (.getfield 10, 3) := by decide +kernel
theorem dX6_write_49 : decode cX6_write 49 = .ok (.iload_n 1, 1) := by decide +kernel
theorem dX6_write_50 : decode cX6_write 50 = .ok (.invokevirtual 66, 3) := by decide +kernel
theorem dX6_write_53 : decode cX6_write 53 = .ok (.sipush 400, 3) := by decide +kernel
theorem dX6_write_56 : decode cX6_write 56 = .ok (.iload_n 3, 1) := by decide +kernel
theorem dX6_write_57 : decode cX6_write 57 = .ok (.isub, 1) := by decide +kernel
theorem dX6_write_58 : decode cX6_write 58 = .ok (.iload 4, 2) := by decide +kernel
theorem dX6_write_60 : decode cX6_write 60 = .ok (.idiv, 1) := by decide +kernel
theorem dX6_write_61 : decode cX6_write 61 = .ok (.iconst 1, 1) := by decide +kernel
theorem dX6_write_62 : decode cX6_write 62 = .ok (.iadd, 1) := by decide +kernel
theorem dX6_write_63 : decode cX6_write 63 = .ok (.invokestatic 304, 3) := by decide +kernel
theorem dX6_write_66 : decode cX6_write 66 = .ok (.istore 5, 2) := by decide +kernel
theorem dX6_write_68 : decode cX6_write 68 = .ok (.iconst 0, 1) := by decide +kernel
theorem dX6_write_69 : decode cX6_write 69 = .ok (.istore 6, 2) := by decide +kernel
theorem dX6_write_71 : decode cX6_write 71 = .ok (.iload 6, 2) := by decide +kernel
theorem dX6_write_73 : decode cX6_write 73 = .ok (.iload 5, 2) := by decide +kernel
theorem dX6_write_75 : decode cX6_write 75 = .ok (.if_icmp .ge 34, 3) := by decide +kernel
theorem dX6_write_78 : decode cX6_write 78 = .ok (.aload_n 0, 1) := by decide +kernel
theorem dX6_write_79 : decode cX6_write 79 = .ok (.getfield 10, 3) := by decide +kernel
theorem dX6_write_82 : decode cX6_write 82 = .ok (.iload_n 1, 1) := by decide +kernel
theorem dX6_write_83 : decode cX6_write 83 = .ok (.iload 6, 2) := by decide +kernel
theorem dX6_write_85 : decode cX6_write 85 = .ok (.aload_n 0, 1) := by decide +kernel
theorem dX6_write_86 : decode cX6_write 86 = .ok (.getfield 19, 3) := by decide +kernel
theorem dX6_write_89 : decode cX6_write 89 = .ok (.iload_n 2, 1) := by decide +kernel
theorem dX6_write_90 : decode cX6_write 90 = .ok (.iload_n 3, 1) := by decide +kernel
theorem dX6_write_91 : decode cX6_write 91 = .ok (.iload 6, 2) := by decide +kernel
theorem dX6_write_93 : decode cX6_write 93 = .ok (.iload 4, 2) := by decide +kernel
theorem dX6_write_95 : decode cX6_write 95 = .ok (.imul, 1) := by decide +kernel
theorem dX6_write_96 : decode cX6_write 96 = .ok (.iadd, 1) := by decide +kernel
theorem dX6_write_97 : decode cX6_write 97 = .ok (.invokevirtual 226, 3) := by decide +kernel
theorem dX6_write_100 : decode cX6_write 100 = .ok (.invokevirtual 293, 3) := by decide +kernel
theorem dX6_write_103 : decode cX6_write 103 = .ok (.iinc 6 1, 3) := by decide +kernel
theorem dX6_write_106 : decode cX6_write 106 = .ok (.goto (-35), 3) := by decide +kernel
theorem dX6_write_109 : decode cX6_write 109 = .ok (.iload 5, 2) := by decide +kernel
theorem dX6_write_111 : decode cX6_write 111 = .ok (.ireturn, 1) := by decide +kernel
theorem dX6_count_0 : decode cX6_count 0 = .ok (.iload_n 1, 1) := by decide +kernel
theorem dX6_count_1 : decode cX6_count 1 = .ok (.tableswitch 123 0 8 #[51, 59, 67, 75, 83, 91, 99, 107, 115], 51) := by decide +kernel
theorem dX6_count_52 : decode cX6_count 52 = .ok (.aload_n 0, 1) := by decide +kernel
theorem dX6_count_53 : decode cX6_count 53 = .ok (.getfield 19, 3) := by decide +kernel
theorem dX6_count_56 : decode cX6_count 56 = .ok (.invokevirtual 229, 3) := by decide +kernel
theorem dX6_count_59 : decode cX6_count 59 = .ok (.ireturn, 1) := by decide +kernel
theorem dX6_count_60 : decode cX6_count 60 = .ok (.aload_n 0, 1) := by decide +kernel
theorem dX6_count_61 : decode cX6_count 61 = .ok (.getfield 26, 3) := by decide +kernel
theorem dX6_count_64 : decode cX6_count 64 = .ok (.invokevirtual 309, 3) := by decide +kernel
theorem dX6_count_67 : decode cX6_count 67 = .ok (.ireturn, 1) := by decide +kernel
theorem dX6_count_68 : decode cX6_count 68 = .ok (.aload_n 0, 1) := by decide +kernel
theorem dX6_count_69 : decode cX6_count 69 = .ok (.getfield 26, 3) := by decide +kernel
theorem dX6_count_72 : decode cX6_count 72 = .ok (.invokevirtual 310, 3) := by decide +kernel
theorem dX6_count_75 : decode cX6_count 75 = .ok (.ireturn, 1) := by decide +kernel
theorem dX6_count_76 : decode cX6_count 76 = .ok (.aload_n 0, 1) := by decide +kernel
theorem dX6_count_77 : decode cX6_count 77 = .ok (.getfield 33, 3) := by decide +kernel
theorem dX6_count_80 : decode cX6_count 80 = .ok (.invokevirtual 313, 3) := by decide +kernel
theorem dX6_count_83 : decode cX6_count 83 = .ok (.ireturn, 1) := by decide +kernel
theorem dX6_count_84 : decode cX6_count 84 = .ok (.aload_n 0, 1) := by decide +kernel
theorem dX6_count_85 : decode cX6_count 85 = .ok (.getfield 40, 3) := by decide +kernel
theorem dX6_count_88 : decode cX6_count 88 = .ok (.invokevirtual 314, 3) := by decide +kernel
theorem dX6_count_91 : decode cX6_count 91 = .ok (.ireturn, 1) := by decide +kernel
theorem dX6_count_92 : decode cX6_count 92 = .ok (.aload_n 0, 1) := by decide +kernel
theorem dX6_count_93 : decode cX6_count 93 = .ok (.getfield 47, 3) := by decide +kernel
theorem dX6_count_96 : decode cX6_count 96 = .ok (.invokevirtual 315, 3) := by decide +kernel
theorem dX6_count_99 : decode cX6_count 99 = .ok (.ireturn, 1) := by decide +kernel
theorem dX6_count_100 : decode cX6_count 100 = .ok (.aload_n 0, 1) := by decide +kernel
theorem dX6_count_101 : decode cX6_count 101 = .ok (.getfield 33, 3) := by decide +kernel
theorem dX6_count_104 : decode cX6_count 104 = .ok (.invokevirtual 316, 3) := by decide +kernel
theorem dX6_count_107 : decode cX6_count 107 = .ok (.ireturn, 1) := by decide +kernel
theorem dX6_count_108 : decode cX6_count 108 = .ok (.aload_n 0, 1) := by decide +kernel
theorem dX6_count_109 : decode cX6_count 109 = .ok (.getfield 10, 3) := by decide +kernel
theorem dX6_count_112 : decode cX6_count 112 = .ok (.invokevirtual 319, 3) := by decide +kernel
theorem dX6_count_115 : decode cX6_count 115 = .ok (.ireturn, 1) := by decide +kernel
theorem dX6_count_116 : decode cX6_count 116 = .ok (.aload_n 0, 1) := by decide +kernel
theorem dX6_count_117 : decode cX6_count 117 = .ok (.getfield 10, 3) := by decide +kernel
theorem dX6_count_120 : decode cX6_count 120 = .ok (.invokevirtual 322, 3) := by decide +kernel
theorem dX6_count_123 : decode cX6_count 123 = .ok (.ireturn, 1) := by decide +kernel
theorem dX6_count_124 : decode cX6_count 124 = .ok (.bipush (-2), 2) := by decide +kernel
theorem dX6_count_126 : decode cX6_count 126 = .ok (.ireturn, 1) := by decide +kernel
theorem dX6_digest_0 : decode cX6_digest 0 = .ok (.ldc2_w 325, 3) := by decide +kernel
theorem dX6_digest_3 : decode cX6_digest 3 = .ok (.lstore_n 1, 1) := by decide +kernel
theorem dX6_digest_4 : decode cX6_digest 4 = .ok (.iconst 0, 1) := by decide +kernel
theorem dX6_digest_5 : decode cX6_digest 5 = .ok (.istore_n 3, 1) := by decide +kernel
theorem dX6_digest_6 : decode cX6_digest 6 = .ok (.iload_n 3, 1) := by decide +kernel
theorem dX6_digest_7 : decode cX6_digest 7 = .ok (.bipush 7, 2) := by decide +kernel
theorem dX6_digest_9 : decode cX6_digest 9 = .ok (.if_icmp .gt 22, 3) := by decide +kernel
theorem dX6_digest_12 : decode cX6_digest 12 = .ok (.ldc2_w 327, 3) := by decide +kernel
theorem dX6_digest_15 : decode cX6_digest 15 = .ok (.lload_n 1, 1) := by decide +kernel
theorem dX6_digest_16 : decode cX6_digest 16 = .ok (.lmul, 1) := by decide +kernel
theorem dX6_digest_17 : decode cX6_digest 17 = .ok (.aload_n 0, 1) := by decide +kernel
theorem dX6_digest_18 : decode cX6_digest 18 = .ok (.iload_n 3, 1) := by decide +kernel
theorem dX6_digest_19 : decode cX6_digest 19 = .ok (.invokevirtual 329, 3) := by decide +kernel
theorem dX6_digest_22 : decode cX6_digest 22 = .ok (.i2l, 1) := by decide +kernel
theorem dX6_digest_23 : decode cX6_digest 23 = .ok (.ladd, 1) := by decide +kernel
theorem dX6_digest_24 : decode cX6_digest 24 = .ok (.lstore_n 1, 1) := by decide +kernel
theorem dX6_digest_25 : decode cX6_digest 25 = .ok (.iinc 3 1, 3) := by decide +kernel
theorem dX6_digest_28 : decode cX6_digest 28 = .ok (.goto (-22), 3) := by decide +kernel
theorem dX6_digest_31 : decode cX6_digest 31 = .ok (.ldc2_w 327, 3) := by decide +kernel
theorem dX6_digest_34 : decode cX6_digest 34 = .ok (.aload_n 0, 1) := by decide +kernel
theorem dX6_digest_35 : decode cX6_digest 35 = .ok (.lload_n 1, 1) := by decide +kernel
theorem dX6_digest_36 : decode cX6_digest 36 = .ok (.invokevirtual 332, 3) := by decide +kernel
theorem dX6_digest_39 : decode cX6_digest 39 = .ok (.lmul, 1) := by decide +kernel
theorem dX6_digest_40 : decode cX6_digest 40 = .ok (.aload_n 0, 1) := by decide +kernel
theorem dX6_digest_41 : decode cX6_digest 41 = .ok (.getfield 26, 3) := by decide +kernel
theorem dX6_digest_44 : decode cX6_digest 44 = .ok (.aload_n 0, 1) := by decide +kernel
theorem dX6_digest_45 : decode cX6_digest 45 = .ok (.getfield 19, 3) := by decide +kernel
theorem dX6_digest_48 : decode cX6_digest 48 = .ok (.invokevirtual 141, 3) := by decide +kernel
theorem dX6_digest_51 : decode cX6_digest 51 = .ok (.i2l, 1) := by decide +kernel
theorem dX6_digest_52 : decode cX6_digest 52 = .ok (.ladd, 1) := by decide +kernel
theorem dX6_digest_53 : decode cX6_digest 53 = .ok (.lstore_n 1, 1) := by decide +kernel
theorem dX6_digest_54 : decode cX6_digest 54 = .ok (.aload_n 0, 1) := by decide +kernel
theorem dX6_digest_55 : decode cX6_digest 55 = .ok (.aload_n 0, 1) := by decide +kernel
theorem dX6_digest_56 : decode cX6_digest 56 = .ok (.lload_n 1, 1) := by decide +kernel
theorem dX6_digest_57 : decode cX6_digest 57 = .ok (.invokevirtual 336, 3) := by decide +kernel
theorem dX6_digest_60 : decode cX6_digest 60 = .ok (.invokevirtual 339, 3) := by decide +kernel
theorem dX6_digest_63 : decode cX6_digest 63 = .ok (.lreturn, 1) := by decide +kernel
theorem dX6_digestCounts_0 : decode cX6_digestCounts 0 = .ok (.lload_n 1, 1) := by decide +kernel
theorem dX6_digestCounts_1 : decode cX6_digestCounts 1 = .ok (.lstore_n 3, 1) := by decide +kernel
theorem dX6_digestCounts_2 : decode cX6_digestCounts 2 = .ok (.iconst 0, 1) := by decide +kernel
theorem dX6_digestCounts_3 : decode cX6_digestCounts 3 = .ok (.istore 5, 2) := by decide +kernel
theorem dX6_digestCounts_5 : decode cX6_digestCounts 5 = .ok (.iload 5, 2) := by decide +kernel
theorem dX6_digestCounts_7 : decode cX6_digestCounts 7 = .ok (.aload_n 0, 1) := by decide +kernel
theorem dX6_digestCounts_8 : decode cX6_digestCounts 8 = .ok (.getfield 19, 3) := by decide +kernel
theorem dX6_digestCounts_11 : decode cX6_digestCounts 11 = .ok (.invokevirtual 229, 3) := by decide +kernel
theorem dX6_digestCounts_14 : decode cX6_digestCounts 14 = .ok (.if_icmp .ge 82, 3) := by decide +kernel
theorem dX6_digestCounts_17 : decode cX6_digestCounts 17 = .ok (.iconst 0, 1) := by decide +kernel
theorem dX6_digestCounts_18 : decode cX6_digestCounts 18 = .ok (.istore 6, 2) := by decide +kernel
theorem dX6_digestCounts_20 : decode cX6_digestCounts 20 = .ok (.iload 6, 2) := by decide +kernel
theorem dX6_digestCounts_22 : decode cX6_digestCounts 22 = .ok (.iconst 3, 1) := by decide +kernel
theorem dX6_digestCounts_23 : decode cX6_digestCounts 23 = .ok (.if_icmp .gt 25, 3) := by decide +kernel
theorem dX6_digestCounts_26 : decode cX6_digestCounts 26 = .ok (.ldc2_w 327, 3) := by decide +kernel
theorem dX6_digestCounts_29 : decode cX6_digestCounts 29 = .ok (.lload_n 3, 1) := by decide +kernel
theorem dX6_digestCounts_30 : decode cX6_digestCounts 30 = .ok (.lmul, 1) := by decide +kernel
theorem dX6_digestCounts_31 : decode cX6_digestCounts 31 = .ok (.aload_n 0, 1) := by decide +kernel
theorem dX6_digestCounts_32 : decode cX6_digestCounts 32 = .ok (.iload 5, 2) := by decide +kernel
theorem dX6_digestCounts_34 : decode cX6_digestCounts 34 = .ok (.iload 6, 2) := by decide +kernel
theorem dX6_digestCounts_36 : decode cX6_digestCounts 36 = .ok (.invokevirtual 342, 3) := by decide +kernel
theorem dX6_digestCounts_39 : decode cX6_digestCounts 39 = .ok (.i2l, 1) := by decide +kernel
theorem dX6_digestCounts_40 : decode cX6_digestCounts 40 = .ok (.ladd, 1) := by decide +kernel
theorem dX6_digestCounts_41 : decode cX6_digestCounts 41 = .ok (.lstore_n 3, 1) := by decide +kernel
theorem dX6_digestCounts_42 : decode cX6_digestCounts 42 = .ok (.iinc 6 1, 3) := by decide +kernel
theorem dX6_digestCounts_45 : decode cX6_digestCounts 45 = .ok (.goto (-25), 3) := by decide +kernel
theorem dX6_digestCounts_48 : decode cX6_digestCounts 48 = .ok (.iconst 1, 1) := by decide +kernel
theorem dX6_digestCounts_49 : decode cX6_digestCounts 49 = .ok (.istore 6, 2) := by decide +kernel
theorem dX6_digestCounts_51 : decode cX6_digestCounts 51 = .ok (.iload 6, 2) := by decide +kernel
theorem dX6_digestCounts_53 : decode cX6_digestCounts 53 = .ok (.aload_n 0, 1) := by decide +kernel
theorem dX6_digestCounts_54 : decode cX6_digestCounts 54 = .ok (.getfield 19, 3) := by decide +kernel
theorem dX6_digestCounts_57 : decode cX6_digestCounts 57 = .ok (.iload 5, 2) := by decide +kernel
theorem dX6_digestCounts_59 : decode cX6_digestCounts 59 = .ok (.invokevirtual 88, 3) := by decide +kernel
theorem dX6_digestCounts_62 : decode cX6_digestCounts 62 = .ok (.if_icmp .gt 28, 3) := by decide +kernel
theorem dX6_digestCounts_65 : decode cX6_digestCounts 65 = .ok (.ldc2_w 327, 3) := by decide +kernel
theorem dX6_digestCounts_68 : decode cX6_digestCounts 68 = .ok (.lload_n 3, 1) := by decide +kernel
theorem dX6_digestCounts_69 : decode cX6_digestCounts 69 = .ok (.lmul, 1) := by decide +kernel
theorem dX6_digestCounts_70 : decode cX6_digestCounts 70 = .ok (.aload_n 0, 1) := by decide +kernel
theorem dX6_digestCounts_71 : decode cX6_digestCounts 71 = .ok (.getfield 19, 3) := by decide +kernel
theorem dX6_digestCounts_74 : decode cX6_digestCounts 74 = .ok (.iload 5, 2) := by decide +kernel
theorem dX6_digestCounts_76 : decode cX6_digestCounts 76 = .ok (.iload 6, 2) := by decide +kernel
theorem dX6_digestCounts_78 : decode cX6_digestCounts 78 = .ok (.invokevirtual 100, 3) := by decide +kernel
theorem dX6_digestCounts_81 : decode cX6_digestCounts 81 = .ok (.i2l, 1) := by decide +kernel
theorem dX6_digestCounts_82 : decode cX6_digestCounts 82 = .ok (.ladd, 1) := by decide +kernel
theorem dX6_digestCounts_83 : decode cX6_digestCounts 83 = .ok (.lstore_n 3, 1) := by decide +kernel
theorem dX6_digestCounts_84 : decode cX6_digestCounts 84 = .ok (.iinc 6 1, 3) := by decide +kernel
theorem dX6_digestCounts_87 : decode cX6_digestCounts 87 = .ok (.goto (-36), 3) := by decide +kernel
theorem dX6_digestCounts_90 : decode cX6_digestCounts 90 = .ok (.iinc 5 1, 3) := by decide +kernel
theorem dX6_digestCounts_93 : decode cX6_digestCounts 93 = .ok (.goto (-88), 3) := by decide +kernel
theorem dX6_digestCounts_96 : decode cX6_digestCounts 96 = .ok (.lload_n 3, 1) := by decide +kernel
theorem dX6_digestCounts_97 : decode cX6_digestCounts 97 = .ok (.lreturn, 1) := by decide +kernel
theorem dX6_digestDebts_0 : decode cX6_digestDebts 0 = .ok (.lload_n 1, 1) := by decide +kernel
theorem dX6_digestDebts_1 : decode cX6_digestDebts 1 = .ok (.lstore_n 3, 1) := by decide +kernel
theorem dX6_digestDebts_2 : decode cX6_digestDebts 2 = .ok (.iconst 0, 1) := by decide +kernel
theorem dX6_digestDebts_3 : decode cX6_digestDebts 3 = .ok (.istore 5, 2) := by decide +kernel
theorem dX6_digestDebts_5 : decode cX6_digestDebts 5 = .ok (.iload 5, 2) := by decide +kernel
theorem dX6_digestDebts_7 : decode cX6_digestDebts 7 = .ok (.aload_n 0, 1) := by decide +kernel
theorem dX6_digestDebts_8 : decode cX6_digestDebts 8 = .ok (.getfield 33, 3) := by decide +kernel
theorem dX6_digestDebts_11 : decode cX6_digestDebts 11 = .ok (.invokevirtual 313, 3) := by decide +kernel
theorem dX6_digestDebts_14 : decode cX6_digestDebts 14 = .ok (.if_icmp .ge 49, 3) := by decide +kernel
theorem dX6_digestDebts_17 : decode cX6_digestDebts 17 = .ok (.iconst 0, 1) := by decide +kernel
theorem dX6_digestDebts_18 : decode cX6_digestDebts 18 = .ok (.istore 6, 2) := by decide +kernel
theorem dX6_digestDebts_20 : decode cX6_digestDebts 20 = .ok (.iload 6, 2) := by decide +kernel
theorem dX6_digestDebts_22 : decode cX6_digestDebts 22 = .ok (.aload_n 0, 1) := by decide +kernel
theorem dX6_digestDebts_23 : decode cX6_digestDebts 23 = .ok (.getfield 33, 3) := by decide +kernel
theorem dX6_digestDebts_26 : decode cX6_digestDebts 26 = .ok (.invokevirtual 313, 3) := by decide +kernel
theorem dX6_digestDebts_29 : decode cX6_digestDebts 29 = .ok (.if_icmp .ge 28, 3) := by decide +kernel
theorem dX6_digestDebts_32 : decode cX6_digestDebts 32 = .ok (.ldc2_w 327, 3) := by decide +kernel
theorem dX6_digestDebts_35 : decode cX6_digestDebts 35 = .ok (.lload_n 3, 1) := by decide +kernel
theorem dX6_digestDebts_36 : decode cX6_digestDebts 36 = .ok (.lmul, 1) := by decide +kernel
theorem dX6_digestDebts_37 : decode cX6_digestDebts 37 = .ok (.aload_n 0, 1) := by decide +kernel
theorem dX6_digestDebts_38 : decode cX6_digestDebts 38 = .ok (.getfield 33, 3) := by decide +kernel
theorem dX6_digestDebts_41 : decode cX6_digestDebts 41 = .ok (.iload 5, 2) := by decide +kernel
theorem dX6_digestDebts_43 : decode cX6_digestDebts 43 = .ok (.iload 6, 2) := by decide +kernel
theorem dX6_digestDebts_45 : decode cX6_digestDebts 45 = .ok (.invokevirtual 169, 3) := by decide +kernel
theorem dX6_digestDebts_48 : decode cX6_digestDebts 48 = .ok (.i2l, 1) := by decide +kernel
theorem dX6_digestDebts_49 : decode cX6_digestDebts 49 = .ok (.ladd, 1) := by decide +kernel
theorem dX6_digestDebts_50 : decode cX6_digestDebts 50 = .ok (.lstore_n 3, 1) := by decide +kernel
theorem dX6_digestDebts_51 : decode cX6_digestDebts 51 = .ok (.iinc 6 1, 3) := by decide +kernel
theorem dX6_digestDebts_54 : decode cX6_digestDebts 54 = .ok (.goto (-34), 3) := by decide +kernel
theorem dX6_digestDebts_57 : decode cX6_digestDebts 57 = .ok (.iinc 5 1, 3) := by decide +kernel
theorem dX6_digestDebts_60 : decode cX6_digestDebts 60 = .ok (.goto (-55), 3) := by decide +kernel
theorem dX6_digestDebts_63 : decode cX6_digestDebts 63 = .ok (.lload_n 3, 1) := by decide +kernel
theorem dX6_digestDebts_64 : decode cX6_digestDebts 64 = .ok (.lreturn, 1) := by decide +kernel
theorem dX6_digestLists_0 : decode cX6_digestLists 0 = .ok (.lload_n 1, 1) := by decide +kernel
theorem dX6_digestLists_1 : decode cX6_digestLists 1 = .ok (.lstore_n 3, 1) := by decide +kernel
theorem dX6_digestLists_2 : decode cX6_digestLists 2 = .ok (.iconst 0, 1) := by decide +kernel
theorem dX6_digestLists_3 : decode cX6_digestLists 3 = .ok (.istore 5, 2) := by decide +kernel
theorem dX6_digestLists_5 : decode cX6_digestLists 5 = .ok (.iload 5, 2) := by decide +kernel
theorem dX6_digestLists_7 : decode cX6_digestLists 7 = .ok (.aload_n 0, 1) := by decide +kernel
theorem dX6_digestLists_8 : decode cX6_digestLists 8 = .ok (.getfield 40, 3) := by decide +kernel
theorem dX6_digestLists_11 : decode cX6_digestLists 11 = .ok (.invokevirtual 314, 3) := by decide +kernel
theorem dX6_digestLists_14 : decode cX6_digestLists 14 = .ok (.if_icmp .ge 57, 3) := by decide +kernel
theorem dX6_digestLists_17 : decode cX6_digestLists 17 = .ok (.iconst 0, 1) := by decide +kernel
theorem dX6_digestLists_18 : decode cX6_digestLists 18 = .ok (.istore 6, 2) := by decide +kernel
theorem dX6_digestLists_20 : decode cX6_digestLists 20 = .ok (.iload 6, 2) := by decide +kernel
theorem dX6_digestLists_22 : decode cX6_digestLists 22 = .ok (.iconst 4, 1) := by decide +kernel
theorem dX6_digestLists_23 : decode cX6_digestLists 23 = .ok (.if_icmp .gt 25, 3) := by decide +kernel
theorem dX6_digestLists_26 : decode cX6_digestLists 26 = .ok (.ldc2_w 327, 3) := by decide +kernel
theorem dX6_digestLists_29 : decode cX6_digestLists 29 = .ok (.lload_n 3, 1) := by decide +kernel
theorem dX6_digestLists_30 : decode cX6_digestLists 30 = .ok (.lmul, 1) := by decide +kernel
theorem dX6_digestLists_31 : decode cX6_digestLists 31 = .ok (.aload_n 0, 1) := by decide +kernel
theorem dX6_digestLists_32 : decode cX6_digestLists 32 = .ok (.iload 5, 2) := by decide +kernel
theorem dX6_digestLists_34 : decode cX6_digestLists 34 = .ok (.iload 6, 2) := by decide +kernel
theorem dX6_digestLists_36 : decode cX6_digestLists 36 = .ok (.invokevirtual 345, 3) := by decide +kernel
theorem dX6_digestLists_39 : decode cX6_digestLists 39 = .ok (.i2l, 1) := by decide +kernel
theorem dX6_digestLists_40 : decode cX6_digestLists 40 = .ok (.ladd, 1) := by decide +kernel
theorem dX6_digestLists_41 : decode cX6_digestLists 41 = .ok (.lstore_n 3, 1) := by decide +kernel
theorem dX6_digestLists_42 : decode cX6_digestLists 42 = .ok (.iinc 6 1, 3) := by decide +kernel
theorem dX6_digestLists_45 : decode cX6_digestLists 45 = .ok (.goto (-25), 3) := by decide +kernel
theorem dX6_digestLists_48 : decode cX6_digestLists 48 = .ok (.ldc2_w 327, 3) := by decide +kernel
theorem dX6_digestLists_51 : decode cX6_digestLists 51 = .ok (.lload_n 3, 1) := by decide +kernel
theorem dX6_digestLists_52 : decode cX6_digestLists 52 = .ok (.lmul, 1) := by decide +kernel
theorem dX6_digestLists_53 : decode cX6_digestLists 53 = .ok (.aload_n 0, 1) := by decide +kernel
theorem dX6_digestLists_54 : decode cX6_digestLists 54 = .ok (.getfield 40, 3) := by decide +kernel
theorem dX6_digestLists_57 : decode cX6_digestLists 57 = .ok (.iload 5, 2) := by decide +kernel
theorem dX6_digestLists_59 : decode cX6_digestLists 59 = .ok (.invokevirtual 210, 3) := by decide +kernel
theorem dX6_digestLists_62 : decode cX6_digestLists 62 = .ok (.i2l, 1) := by decide +kernel
theorem dX6_digestLists_63 : decode cX6_digestLists 63 = .ok (.ladd, 1) := by decide +kernel
theorem dX6_digestLists_64 : decode cX6_digestLists 64 = .ok (.lstore_n 3, 1) := by decide +kernel
theorem dX6_digestLists_65 : decode cX6_digestLists 65 = .ok (.iinc 5 1, 3) := by decide +kernel
theorem dX6_digestLists_68 : decode cX6_digestLists 68 = .ok (.goto (-63), 3) := by decide +kernel
theorem dX6_digestLists_71 : decode cX6_digestLists 71 = .ok (.lload_n 3, 1) := by decide +kernel
theorem dX6_digestLists_72 : decode cX6_digestLists 72 = .ok (.lreturn, 1) := by decide +kernel
end
section
theorem dX7_init_0 : decode cX7_init 0 = .ok (.aload_n 0, 1) := by decide +kernel
theorem dX7_init_1 : decode cX7_init 1 = .ok (.invokespecial 1, 3) := by decide +kernel
theorem dX7_init_4 : decode cX7_init 4 = .ok (.aload_n 0, 1) := by decide +kernel
theorem dX7_init_5 : decode cX7_init 5 = .ok (.bipush 126, 2) := by decide +kernel
theorem dX7_init_7 : decode cX7_init 7 = .ok (.newarray .int, 2) := by decide +kernel
theorem dX7_init_9 : decode cX7_init 9 = .ok (.putfield 7, 3) := by decide +kernel
theorem dX7_init_12 : decode cX7_init 12 = .ok (.aload_n 0, 1) := by decide +kernel
theorem dX7_init_13 : decode cX7_init 13 = .ok (.bipush 6, 2) := by decide +kernel
theorem dX7_init_15 : decode cX7_init 15 = .ok (.newarray .int, 2) := by decide +kernel
theorem dX7_init_17 : decode cX7_init 17 = .ok (.putfield 13, 3) := by decide +kernel
theorem dX7_init_20 : decode cX7_init 20 = .ok (.aload_n 0, 1) := by decide +kernel
theorem dX7_init_21 : decode cX7_init 21 = .ok (.bipush 6, 2) := by decide +kernel
theorem dX7_init_23 : decode cX7_init 23 = .ok (.newarray .boolean, 2) := by decide +kernel
theorem dX7_init_25 : decode cX7_init 25 = .ok (.putfield 16, 3) := by decide +kernel
theorem dX7_init_28 : decode cX7_init 28 = .ok (.aload_n 0, 1) := by decide +kernel
theorem dX7_init_29 : decode cX7_init 29 = .ok (.bipush 6, 2) := by decide +kernel
theorem dX7_init_31 : decode cX7_init 31 = .ok (.newarray .int, 2) := by decide +kernel
theorem dX7_init_33 : decode cX7_init 33 = .ok (.putfield 20, 3) := by decide +kernel
theorem dX7_init_36 : decode cX7_init 36 = .ok (.aload_n 0, 1) := by decide +kernel
theorem dX7_init_37 : decode cX7_init 37 = .ok (.bipush 30, 2) := by decide +kernel
theorem dX7_init_39 : decode cX7_init 39 = .ok (.putfield 23, 3) := by decide +kernel
theorem dX7_init_42 : decode cX7_init 42 = .ok (.aload_n 0, 1) := by decide +kernel
theorem dX7_init_43 : decode cX7_init 43 = .ok (.bipush 48, 2) := by decide +kernel
theorem dX7_init_45 : decode cX7_init 45 = .ok (.newarray .int, 2) := by decide +kernel
theorem dX7_init_47 : decode cX7_init 47 = .ok (.putfield 27, 3) := by decide +kernel
theorem dX7_init_50 : decode cX7_init 50 = .ok (.aload_n 0, 1) := by decide +kernel
theorem dX7_init_51 : decode cX7_init 51 = .ok (.iconst 3, 1) := by decide +kernel
theorem dX7_init_52 : decode cX7_init 52 = .ok (.newarray .int, 2) := by decide +kernel
theorem dX7_init_54 : decode cX7_init 54 = .ok (.putfield 30, 3) := by decide +kernel
theorem dX7_init_57 : decode cX7_init 57 = .ok (.aload_n 0, 1) := by decide +kernel
theorem dX7_init_58 : decode cX7_init 58 = .ok (.sipush 256, 3) := by decide +kernel
theorem dX7_init_61 : decode cX7_init 61 = .ok (.newarray .boolean, 2) := by decide +kernel
theorem dX7_init_63 : decode cX7_init 63 = .ok (.putfield 33, 3) := by decide +kernel
theorem dX7_init_66 : decode cX7_init 66 = .ok (.aload_n 0, 1) := by decide +kernel
theorem dX7_init_67 : decode cX7_init 67 = .ok (.bipush 8, 2) := by decide +kernel
theorem dX7_init_69 : decode cX7_init 69 = .ok (.newarray .int, 2) := by decide +kernel
theorem dX7_init_71 : decode cX7_init 71 = .ok (.putfield 36, 3) := by decide +kernel
theorem dX7_init_74 : decode cX7_init 74 = .ok (.aload_n 0, 1) := by decide +kernel
theorem dX7_init_75 : decode cX7_init 75 = .ok (.bipush 64, 2) := by decide +kernel
theorem dX7_init_77 : decode cX7_init 77 = .ok (.newarray .int, 2) := by decide +kernel
theorem dX7_init_79 : decode cX7_init 79 = .ok (.putfield 39, 3) := by decide +kernel
theorem dX7_init_82 : decode cX7_init 82 = .ok (.aload_n 0, 1) := by decide +kernel
theorem dX7_init_83 : decode cX7_init 83 = .ok (.bipush 8, 2) := by decide +kernel
theorem dX7_init_85 : decode cX7_init 85 = .ok (.newarray .int, 2) := by decide +kernel
theorem dX7_init_87 : decode cX7_init 87 = .ok (.putfield 42, 3) := by decide +kernel
theorem dX7_init_90 : decode cX7_init 90 = .ok (.aload_n 0, 1) := by decide +kernel
theorem dX7_init_91 : decode cX7_init 91 = .ok (.bipush 8, 2) := by decide +kernel
theorem dX7_init_93 : decode cX7_init 93 = .ok (.newarray .int, 2) := by decide +kernel
theorem dX7_init_95 : decode cX7_init 95 = .ok (.putfield 45, 3) := by decide +kernel
theorem dX7_init_98 : decode cX7_init 98 = .ok (.aload_n 0, 1) := by decide +kernel
theorem dX7_init_99 : decode cX7_init 99 = .ok (.bipush 8, 2) := by decide +kernel
theorem dX7_init_101 : decode cX7_init 101 = .ok (.newarray .int, 2) := by decide +kernel
theorem dX7_init_103 : decode cX7_init 103 = .ok (.putfield 48, 3) := by decide +kernel
theorem dX7_init_106 : decode cX7_init 106 = .ok (.aload_n 0, 1) := by decide +kernel
theorem dX7_init_107 : decode cX7_init 107 = .ok (.sipush 240, 3) := by decide +kernel
theorem dX7_init_110 : decode cX7_init 110 = .ok (.newarray .int, 2) := by decide +kernel
theorem dX7_init_112 : decode cX7_init 112 = .ok (.putfield 51, 3) := by decide +kernel
theorem dX7_init_115 : decode cX7_init 115 = .ok (.aload_n 0, 1) := by decide +kernel
theorem dX7_init_116 : decode cX7_init 116 = .ok (.sipush 961, 3) := by decide +kernel
theorem dX7_init_119 : decode cX7_init 119 = .ok (.newarray .int, 2) := by decide +kernel
theorem dX7_init_121 : decode cX7_init 121 = .ok (.putfield 54, 3) := by decide +kernel
theorem dX7_init_124 : decode cX7_init 124 = .ok (.aload_n 0, 1) := by decide +kernel
theorem dX7_init_125 : decode cX7_init 125 = .ok (.bipush 60, 2) := by decide +kernel
theorem dX7_init_127 : decode cX7_init 127 = .ok (.newarray .int, 2) := by decide +kernel
theorem dX7_init_129 : decode cX7_init 129 = .ok (.putfield 57, 3) := by decide +kernel
theorem dX7_init_132 : decode cX7_init 132 = .ok (.aload_n 0, 1) := by decide +kernel
theorem dX7_init_133 : decode cX7_init 133 = .ok (.iconst 4, 1) := by decide +kernel
theorem dX7_init_134 : decode cX7_init 134 = .ok (.newarray .boolean, 2) := by decide +kernel
theorem dX7_init_136 : decode cX7_init 136 = .ok (.putfield 60, 3) := by decide +kernel
theorem dX7_init_139 : decode cX7_init 139 = .ok (.aload_n 0, 1) := by decide +kernel
theorem dX7_init_140 : decode cX7_init 140 = .ok (.iconst 4, 1) := by decide +kernel
theorem dX7_init_141 : decode cX7_init 141 = .ok (.newarray .int, 2) := by decide +kernel
theorem dX7_init_143 : decode cX7_init 143 = .ok (.putfield 63, 3) := by decide +kernel
theorem dX7_init_146 : decode cX7_init 146 = .ok (.aload_n 0, 1) := by decide +kernel
theorem dX7_init_147 : decode cX7_init 147 = .ok (.iconst 4, 1) := by decide +kernel
theorem dX7_init_148 : decode cX7_init 148 = .ok (.newarray .int, 2) := by decide +kernel
theorem dX7_init_150 : decode cX7_init 150 = .ok (.putfield 66, 3) := by decide +kernel
theorem dX7_init_153 : decode cX7_init 153 = .ok (.aload_n 0, 1) := by decide +kernel
theorem dX7_init_154 : decode cX7_init 154 = .ok (.sipush 240, 3) := by decide +kernel
theorem dX7_init_157 : decode cX7_init 157 = .ok (.newarray .int, 2) := by decide +kernel
theorem dX7_init_159 : decode cX7_init 159 = .ok (.putfield 69, 3) := by decide +kernel
theorem dX7_init_162 : decode cX7_init 162 = .ok (.aload_n 0, 1) := by decide +kernel
theorem dX7_init_163 : decode cX7_init 163 = .ok (.bipush 60, 2) := by decide +kernel
theorem dX7_init_165 : decode cX7_init 165 = .ok (.newarray .int, 2) := by decide +kernel
theorem dX7_init_167 : decode cX7_init 167 = .ok (.putfield 72, 3) := by decide +kernel
theorem dX7_init_170 : decode cX7_init 170 = .ok (.return_, 1) := by decide +kernel
theorem dX7_in_0 : decode cX7_in 0 = .ok (.iload_n 0, 1) := by decide +kernel
theorem dX7_in_1 : decode cX7_in 1 = .ok (.iload_n 1, 1) := by decide +kernel
theorem dX7_in_2 : decode cX7_in 2 = .ok (.if_icmp .lt 12, 3) := by decide +kernel
theorem dX7_in_5 : decode cX7_in 5 = .ok (.iload_n 0, 1) := by decide +kernel
theorem dX7_in_6 : decode cX7_in 6 = .ok (.iload_n 2, 1) := by decide +kernel
theorem dX7_in_7 : decode cX7_in 7 = .ok (.if_icmp .gt 7, 3) := by decide +kernel
theorem dX7_in_10 : decode cX7_in 10 = .ok (.iconst 1, 1) := by decide +kernel
theorem dX7_in_11 : decode cX7_in 11 = .ok (.goto 4, 3) := by decide +kernel
theorem dX7_in_14 : decode cX7_in 14 = .ok (.iconst 0, 1) := by decide +kernel
theorem dX7_in_15 : decode cX7_in 15 = .ok (.ireturn, 1) := by decide +kernel
theorem dX7_isWord_0 : decode cX7_isWord 0 = .ok (.iload_n 0, 1) := by decide +kernel
theorem dX7_isWord_1 : decode cX7_isWord 1 = .ok (.iconst 0, 1) := by decide +kernel
theorem dX7_isWord_2 : decode cX7_isWord 2 = .ok (.bipush 99, 2) := by decide +kernel
theorem dX7_isWord_4 : decode cX7_isWord 4 = .ok (.invokestatic 75, 3) := by decide +kernel
theorem dX7_isWord_7 : decode cX7_isWord 7 = .ok (.ireturn, 1) := by decide +kernel
theorem dX7_isCount_0 : decode cX7_isCount 0 = .ok (.iload_n 1, 1) := by decide +kernel
theorem dX7_isCount_1 : decode cX7_isCount 1 = .ok (.iconst 0, 1) := by decide +kernel
theorem dX7_isCount_2 : decode cX7_isCount 2 = .ok (.aload_n 0, 1) := by decide +kernel
theorem dX7_isCount_3 : decode cX7_isCount 3 = .ok (.getfield 79, 3) := by decide +kernel
theorem dX7_isCount_6 : decode cX7_isCount 6 = .ok (.iconst 1, 1) := by decide +kernel
theorem dX7_isCount_7 : decode cX7_isCount 7 = .ok (.isub, 1) := by decide +kernel
theorem dX7_isCount_8 : decode cX7_isCount 8 = .ok (.invokestatic 75, 3) := by decide +kernel
theorem dX7_isCount_11 : decode cX7_isCount 11 = .ok (.ireturn, 1) := by decide +kernel
theorem dX7_countBy_0 : decode cX7_countBy 0 = .ok (.iload_n 1, 1) := by decide +kernel
theorem dX7_countBy_1 : decode cX7_countBy 1 = .ok (.invokestatic 82, 3) := by decide +kernel
theorem dX7_countBy_4 : decode cX7_countBy 4 = .ok (.ifCond .eq 13, 3) := by decide +kernel
theorem dX7_countBy_7 : decode cX7_countBy 7 = .ok (.iload_n 2, 1) := by decide +kernel
theorem dX7_countBy_8 : decode cX7_countBy 8 = .ok (.iconst 1, 1) := by decide +kernel
theorem dX7_countBy_9 : decode cX7_countBy 9 = .ok (.bipush 20, 2) := by decide +kernel
theorem dX7_countBy_11 : decode cX7_countBy 11 = .ok (.invokestatic 75, 3) := by decide +kernel
theorem dX7_countBy_14 : decode cX7_countBy 14 = .ok (.ifCond .ne 6, 3) := by decide +kernel
theorem dX7_countBy_17 : decode cX7_countBy 17 = .ok (.bipush (-2), 2) := by decide +kernel
theorem dX7_countBy_19 : decode cX7_countBy 19 = .ok (.ireturn, 1) := by decide +kernel
theorem dX7_countBy_20 : decode cX7_countBy 20 = .ok (.aload_n 0, 1) := by decide +kernel
theorem dX7_countBy_21 : decode cX7_countBy 21 = .ok (.getfield 60, 3) := by decide +kernel
theorem dX7_countBy_24 : decode cX7_countBy 24 = .ok (.iload_n 1, 1) := by decide +kernel
theorem dX7_countBy_25 : decode cX7_countBy 25 = .ok (.baload, 1) := by decide +kernel
theorem dX7_countBy_26 : decode cX7_countBy 26 = .ok (.ifCond .ne 9, 3) := by decide +kernel
theorem dX7_countBy_29 : decode cX7_countBy 29 = .ok (.aload_n 0, 1) := by decide +kernel
theorem dX7_countBy_30 : decode cX7_countBy 30 = .ok (.iconst 1, 1) := by decide +kernel
theorem dX7_countBy_31 : decode cX7_countBy 31 = .ok (.invokevirtual 86, 3) := by decide +kernel
theorem dX7_countBy_34 : decode cX7_countBy 34 = .ok (.ireturn, 1) := by decide +kernel
theorem dX7_countBy_35 : decode cX7_countBy 35 = .ok (.iload_n 2, 1) := by decide +kernel
theorem dX7_countBy_36 : decode cX7_countBy 36 = .ok (.iload_n 3, 1) := by decide +kernel
theorem dX7_countBy_37 : decode cX7_countBy 37 = .ok (.ifCond .eq 7, 3) := by decide +kernel
theorem dX7_countBy_40 : decode cX7_countBy 40 = .ok (.iconst 1, 1) := by decide +kernel
theorem dX7_countBy_41 : decode cX7_countBy 41 = .ok (.goto 4, 3) := by decide +kernel
theorem dX7_countBy_44 : decode cX7_countBy 44 = .ok (.iconst 0, 1) := by decide +kernel
theorem dX7_countBy_45 : decode cX7_countBy 45 = .ok (.iadd, 1) := by decide +kernel
theorem dX7_countBy_46 : decode cX7_countBy 46 = .ok (.istore 4, 2) := by decide +kernel
theorem dX7_countBy_48 : decode cX7_countBy 48 = .ok (.aload_n 0, 1) := by decide +kernel
theorem dX7_countBy_49 : decode cX7_countBy 49 = .ok (.getfield 66, 3) := by decide +kernel
theorem dX7_countBy_52 : decode cX7_countBy 52 = .ok (.iload_n 1, 1) := by decide +kernel
theorem dX7_countBy_53 : decode cX7_countBy 53 = .ok (.iaload, 1) := by decide +kernel
theorem dX7_countBy_54 : decode cX7_countBy 54 = .ok (.iload 4, 2) := by decide +kernel
theorem dX7_countBy_56 : decode cX7_countBy 56 = .ok (.if_icmp .ge 9, 3) := by decide +kernel
theorem dX7_countBy_59 : decode cX7_countBy 59 = .ok (.aload_n 0, 1) := by decide +kernel
theorem dX7_countBy_60 : decode cX7_countBy 60 = .ok (.iconst 2, 1) := by decide +kernel
theorem dX7_countBy_61 : decode cX7_countBy 61 = .ok (.invokevirtual 86, 3) := by decide +kernel
theorem dX7_countBy_64 : decode cX7_countBy 64 = .ok (.ireturn, 1) := by decide +kernel
theorem dX7_countBy_65 : decode cX7_countBy 65 = .ok (.iconst 0, 1) := by decide +kernel
theorem dX7_countBy_66 : decode cX7_countBy 66 = .ok (.istore 5, 2) := by decide +kernel
theorem dX7_countBy_68 : decode cX7_countBy 68 = .ok (.iload 5, 2) := by decide +kernel
theorem dX7_countBy_70 : decode cX7_countBy 70 = .ok (.iload 4, 2) := by decide +kernel
theorem dX7_countBy_72 : decode cX7_countBy 72 = .ok (.if_icmp .ge 85, 3) := by decide +kernel
theorem dX7_countBy_75 : decode cX7_countBy 75 = .ok (.aload_n 0, 1) := by decide +kernel
theorem dX7_countBy_76 : decode cX7_countBy 76 = .ok (.getfield 69, 3) := by decide +kernel
theorem dX7_countBy_79 : decode cX7_countBy 79 = .ok (.bipush 60, 2) := by decide +kernel
theorem dX7_countBy_81 : decode cX7_countBy 81 = .ok (.iload_n 1, 1) := by decide +kernel
theorem dX7_countBy_82 : decode cX7_countBy 82 = .ok (.imul, 1) := by decide +kernel
theorem dX7_countBy_83 : decode cX7_countBy 83 = .ok (.iload 5, 2) := by decide +kernel
theorem dX7_countBy_85 : decode cX7_countBy 85 = .ok (.iadd, 1) := by decide +kernel
theorem dX7_countBy_86 : decode cX7_countBy 86 = .ok (.iaload, 1) := by decide +kernel
theorem dX7_countBy_87 : decode cX7_countBy 87 = .ok (.istore 6, 2) := by decide +kernel
theorem dX7_countBy_89 : decode cX7_countBy 89 = .ok (.iconst 0, 1) := by decide +kernel
theorem dX7_countBy_90 : decode cX7_countBy 90 = .ok (.istore 7, 2) := by decide +kernel
theorem dX7_countBy_92 : decode cX7_countBy 92 = .ok (.iconst 0, 1) := by decide +kernel
theorem dX7_countBy_93 : decode cX7_countBy 93 = .ok (.istore 8, 2) := by decide +kernel
theorem dX7_countBy_95 : decode cX7_countBy 95 = .ok (.iload 8, 2) := by decide +kernel
theorem dX7_countBy_97 : decode cX7_countBy 97 = .ok (.iload 5, 2) := by decide +kernel
theorem dX7_countBy_99 : decode cX7_countBy 99 = .ok (.if_icmp .ge 36, 3) := by decide +kernel
theorem dX7_countBy_102 : decode cX7_countBy 102 = .ok (.iload 7, 2) := by decide +kernel
theorem dX7_countBy_104 : decode cX7_countBy 104 = .ok (.aload_n 0, 1) := by decide +kernel
theorem dX7_countBy_105 : decode cX7_countBy 105 = .ok (.getfield 69, 3) := by decide +kernel
theorem dX7_countBy_108 : decode cX7_countBy 108 = .ok (.bipush 60, 2) := by decide +kernel
theorem dX7_countBy_110 : decode cX7_countBy 110 = .ok (.iload_n 1, 1) := by decide +kernel
theorem dX7_countBy_111 : decode cX7_countBy 111 = .ok (.imul, 1) := by decide +kernel
theorem dX7_countBy_112 : decode cX7_countBy 112 = .ok (.iload 8, 2) := by decide +kernel
theorem dX7_countBy_114 : decode cX7_countBy 114 = .ok (.iadd, 1) := by decide +kernel
theorem dX7_countBy_115 : decode cX7_countBy 115 = .ok (.iaload, 1) := by decide +kernel
theorem dX7_countBy_116 : decode cX7_countBy 116 = .ok (.iload 6, 2) := by decide +kernel
theorem dX7_countBy_118 : decode cX7_countBy 118 = .ok (.if_icmp .ne 7, 3) := by decide +kernel
theorem dX7_countBy_121 : decode cX7_countBy 121 = .ok (.iconst 1, 1) := by decide +kernel
theorem dX7_countBy_122 : decode cX7_countBy 122 = .ok (.goto 4, 3) := by decide +kernel
theorem dX7_countBy_125 : decode cX7_countBy 125 = .ok (.iconst 0, 1) := by decide +kernel
theorem dX7_countBy_126 : decode cX7_countBy 126 = .ok (.ior, 1) := by decide +kernel
theorem dX7_countBy_127 : decode cX7_countBy 127 = .ok (.istore 7, 2) := by decide +kernel
theorem dX7_countBy_129 : decode cX7_countBy 129 = .ok (.iinc 8 1, 3) := by decide +kernel
theorem dX7_countBy_132 : decode cX7_countBy 132 = .ok (.goto (-37), 3) := by decide +kernel
theorem dX7_countBy_135 : decode cX7_countBy 135 = .ok (.iload 6, 2) := by decide +kernel
theorem dX7_countBy_137 : decode cX7_countBy 137 = .ok (.invokestatic 90, 3) := by decide +kernel
theorem dX7_countBy_140 : decode cX7_countBy 140 = .ok (.ifCond .eq 8, 3) := by decide +kernel
theorem dX7_countBy_143 : decode cX7_countBy 143 = .ok (.iload 7, 2) := by decide +kernel
theorem dX7_countBy_145 : decode cX7_countBy 145 = .ok (.ifCond .eq 6, 3) := by decide +kernel
theorem dX7_countBy_148 : decode cX7_countBy 148 = .ok (.bipush (-3), 2) := by decide +kernel
theorem dX7_countBy_150 : decode cX7_countBy 150 = .ok (.ireturn, 1) := by decide +kernel
theorem dX7_countBy_151 : decode cX7_countBy 151 = .ok (.iinc 5 1, 3) := by decide +kernel
theorem dX7_countBy_154 : decode cX7_countBy 154 = .ok (.goto (-86), 3) := by decide +kernel
theorem dX7_countBy_157 : decode cX7_countBy 157 = .ok (.aload_n 0, 1) := by decide +kernel
theorem dX7_countBy_158 : decode cX7_countBy 158 = .ok (.getfield 79, 3) := by decide +kernel
theorem dX7_countBy_161 : decode cX7_countBy 161 = .ok (.bipush 6, 2) := by decide +kernel
theorem dX7_countBy_163 : decode cX7_countBy 163 = .ok (.if_icmp .ne 6, 3) := by decide +kernel
theorem dX7_countBy_166 : decode cX7_countBy 166 = .ok (.bipush (-4), 2) := by decide +kernel
theorem dX7_countBy_168 : decode cX7_countBy 168 = .ok (.ireturn, 1) := by decide +kernel
theorem dX7_countBy_169 : decode cX7_countBy 169 = .ok (.iconst 0, 1) := by decide +kernel
theorem dX7_countBy_170 : decode cX7_countBy 170 = .ok (.istore 5, 2) := by decide +kernel
theorem dX7_countBy_172 : decode cX7_countBy 172 = .ok (.iload 5, 2) := by decide +kernel
theorem dX7_countBy_174 : decode cX7_countBy 174 = .ok (.iload 4, 2) := by decide +kernel
theorem dX7_countBy_176 : decode cX7_countBy 176 = .ok (.if_icmp .ge 36, 3) := by decide +kernel
theorem dX7_countBy_179 : decode cX7_countBy 179 = .ok (.aload_n 0, 1) := by decide +kernel
theorem dX7_countBy_180 : decode cX7_countBy 180 = .ok (.getfield 7, 3) := by decide +kernel
theorem dX7_countBy_183 : decode cX7_countBy 183 = .ok (.bipush 21, 2) := by decide +kernel
theorem dX7_countBy_185 : decode cX7_countBy 185 = .ok (.aload_n 0, 1) := by decide +kernel
theorem dX7_countBy_186 : decode cX7_countBy 186 = .ok (.getfield 79, 3) := by decide +kernel
theorem dX7_countBy_189 : decode cX7_countBy 189 = .ok (.imul, 1) := by decide +kernel
theorem dX7_countBy_190 : decode cX7_countBy 190 = .ok (.iload 5, 2) := by decide +kernel
theorem dX7_countBy_192 : decode cX7_countBy 192 = .ok (.iadd, 1) := by decide +kernel
theorem dX7_countBy_193 : decode cX7_countBy 193 = .ok (.aload_n 0, 1) := by decide +kernel
theorem dX7_countBy_194 : decode cX7_countBy 194 = .ok (.getfield 69, 3) := by decide +kernel
theorem dX7_countBy_197 : decode cX7_countBy 197 = .ok (.bipush 60, 2) := by decide +kernel
theorem dX7_countBy_199 : decode cX7_countBy 199 = .ok (.iload_n 1, 1) := by decide +kernel
theorem dX7_countBy_200 : decode cX7_countBy 200 = .ok (.imul, 1) := by decide +kernel
theorem dX7_countBy_201 : decode cX7_countBy 201 = .ok (.iload 5, 2) := by decide +kernel
theorem dX7_countBy_203 : decode cX7_countBy 203 = .ok (.iadd, 1) := by decide +kernel
theorem dX7_countBy_204 : decode cX7_countBy 204 = .ok (.iaload, 1) := by decide +kernel
theorem dX7_countBy_205 : decode cX7_countBy 205 = .ok (.iastore, 1) := by decide +kernel
theorem dX7_countBy_206 : decode cX7_countBy 206 = .ok (.iinc 5 1, 3) := by decide +kernel
theorem dX7_countBy_209 : decode cX7_countBy 209 = .ok (.goto (-37), 3) := by decide +kernel
theorem dX7_countBy_212 : decode cX7_countBy 212 = .ok (.aload_n 0, 1) := by decide +kernel
theorem dX7_countBy_213 : decode cX7_countBy 213 = .ok (.getfield 13, 3) := by decide +kernel
theorem dX7_countBy_216 : decode cX7_countBy 216 = .ok (.aload_n 0, 1) := by decide +kernel
theorem dX7_countBy_217 : decode cX7_countBy 217 = .ok (.getfield 79, 3) := by decide +kernel
theorem dX7_countBy_220 : decode cX7_countBy 220 = .ok (.iload_n 2, 1) := by decide +kernel
theorem dX7_countBy_221 : decode cX7_countBy 221 = .ok (.iastore, 1) := by decide +kernel
theorem dX7_countBy_222 : decode cX7_countBy 222 = .ok (.aload_n 0, 1) := by decide +kernel
theorem dX7_countBy_223 : decode cX7_countBy 223 = .ok (.getfield 16, 3) := by decide +kernel
theorem dX7_countBy_226 : decode cX7_countBy 226 = .ok (.aload_n 0, 1) := by decide +kernel
theorem dX7_countBy_227 : decode cX7_countBy 227 = .ok (.getfield 79, 3) := by decide +kernel
theorem dX7_countBy_230 : decode cX7_countBy 230 = .ok (.iload_n 3, 1) := by decide +kernel
theorem dX7_countBy_231 : decode cX7_countBy 231 = .ok (.bastore, 1) := by decide +kernel
theorem dX7_countBy_232 : decode cX7_countBy 232 = .ok (.aload_n 0, 1) := by decide +kernel
theorem dX7_countBy_233 : decode cX7_countBy 233 = .ok (.getfield 20, 3) := by decide +kernel
theorem dX7_countBy_236 : decode cX7_countBy 236 = .ok (.aload_n 0, 1) := by decide +kernel
theorem dX7_countBy_237 : decode cX7_countBy 237 = .ok (.getfield 79, 3) := by decide +kernel
theorem dX7_countBy_240 : decode cX7_countBy 240 = .ok (.iconst 0, 1) := by decide +kernel
theorem dX7_countBy_241 : decode cX7_countBy 241 = .ok (.iastore, 1) := by decide +kernel
theorem dX7_countBy_242 : decode cX7_countBy 242 = .ok (.aload_n 0, 1) := by decide +kernel
theorem dX7_countBy_243 : decode cX7_countBy 243 = .ok (.dup, 1) := by decide +kernel
theorem dX7_countBy_244 : decode cX7_countBy 244 = .ok (.getfield 79, 3) := by decide +kernel
theorem dX7_countBy_247 : decode cX7_countBy 247 = .ok (.iconst 1, 1) := by decide +kernel
theorem dX7_countBy_248 : decode cX7_countBy 248 = .ok (.iadd, 1) := by decide +kernel
theorem dX7_countBy_249 : decode cX7_countBy 249 = .ok (.putfield 79, 3) := by decide +kernel
theorem dX7_countBy_252 : decode cX7_countBy 252 = .ok (.aload_n 0, 1) := by decide +kernel
theorem dX7_countBy_253 : decode cX7_countBy 253 = .ok (.getfield 79, 3) := by decide +kernel
theorem dX7_countBy_256 : decode cX7_countBy 256 = .ok (.iconst 1, 1) := by decide +kernel
theorem dX7_countBy_257 : decode cX7_countBy 257 = .ok (.isub, 1) := by decide +kernel
theorem dX7_countBy_258 : decode cX7_countBy 258 = .ok (.ireturn, 1) := by decide +kernel
theorem dX7_begins_0 : decode cX7_begins 0 = .ok (.aload_n 0, 1) := by decide +kernel
theorem dX7_begins_1 : decode cX7_begins 1 = .ok (.iload_n 1, 1) := by decide +kernel
theorem dX7_begins_2 : decode cX7_begins 2 = .ok (.invokevirtual 93, 3) := by decide +kernel
theorem dX7_begins_5 : decode cX7_begins 5 = .ok (.ifCond .eq 12, 3) := by decide +kernel
theorem dX7_begins_8 : decode cX7_begins 8 = .ok (.iload_n 2, 1) := by decide +kernel
theorem dX7_begins_9 : decode cX7_begins 9 = .ok (.iconst 0, 1) := by decide +kernel
theorem dX7_begins_10 : decode cX7_begins 10 = .ok (.iconst 1, 1) := by decide +kernel
theorem dX7_begins_11 : decode cX7_begins 11 = .ok (.invokestatic 75, 3) := by decide +kernel
theorem dX7_begins_14 : decode cX7_begins 14 = .ok (.ifCond .ne 6, 3) := by decide +kernel
theorem dX7_begins_17 : decode cX7_begins 17 = .ok (.bipush (-2), 2) := by decide +kernel
theorem dX7_begins_19 : decode cX7_begins 19 = .ok (.ireturn, 1) := by decide +kernel
theorem dX7_begins_20 : decode cX7_begins 20 = .ok (.aload_n 0, 1) := by decide +kernel
theorem dX7_begins_21 : decode cX7_begins 21 = .ok (.getfield 20, 3) := by decide +kernel
theorem dX7_begins_24 : decode cX7_begins 24 = .ok (.iload_n 1, 1) := by decide +kernel
theorem dX7_begins_25 : decode cX7_begins 25 = .ok (.iaload, 1) := by decide +kernel
theorem dX7_begins_26 : decode cX7_begins 26 = .ok (.istore_n 3, 1) := by decide +kernel
theorem dX7_begins_27 : decode cX7_begins 27 = .ok (.aload_n 0, 1) := by decide +kernel
theorem dX7_begins_28 : decode cX7_begins 28 = .ok (.getfield 20, 3) := by decide +kernel
theorem dX7_begins_31 : decode cX7_begins 31 = .ok (.iload_n 1, 1) := by decide +kernel
theorem dX7_begins_32 : decode cX7_begins 32 = .ok (.iload_n 2, 1) := by decide +kernel
theorem dX7_begins_33 : decode cX7_begins 33 = .ok (.iastore, 1) := by decide +kernel
theorem dX7_begins_34 : decode cX7_begins 34 = .ok (.iload_n 3, 1) := by decide +kernel
theorem dX7_begins_35 : decode cX7_begins 35 = .ok (.ireturn, 1) := by decide +kernel
theorem dX7_totalOf_0 : decode cX7_totalOf 0 = .ok (.iconst 2, 1) := by decide +kernel
theorem dX7_totalOf_1 : decode cX7_totalOf 1 = .ok (.aload_n 0, 1) := by decide +kernel
theorem dX7_totalOf_2 : decode cX7_totalOf 2 = .ok (.getfield 13, 3) := by decide +kernel
theorem dX7_totalOf_5 : decode cX7_totalOf 5 = .ok (.iload_n 1, 1) := by decide +kernel
theorem dX7_totalOf_6 : decode cX7_totalOf 6 = .ok (.iaload, 1) := by decide +kernel
theorem dX7_totalOf_7 : decode cX7_totalOf 7 = .ok (.imul, 1) := by decide +kernel
theorem dX7_totalOf_8 : decode cX7_totalOf 8 = .ok (.aload_n 0, 1) := by decide +kernel
theorem dX7_totalOf_9 : decode cX7_totalOf 9 = .ok (.getfield 16, 3) := by decide +kernel
theorem dX7_totalOf_12 : decode cX7_totalOf 12 = .ok (.iload_n 1, 1) := by decide +kernel
theorem dX7_totalOf_13 : decode cX7_totalOf 13 = .ok (.baload, 1) := by decide +kernel
theorem dX7_totalOf_14 : decode cX7_totalOf 14 = .ok (.ifCond .eq 7, 3) := by decide +kernel
theorem dX7_totalOf_17 : decode cX7_totalOf 17 = .ok (.iconst 1, 1) := by decide +kernel
theorem dX7_totalOf_18 : decode cX7_totalOf 18 = .ok (.goto 4, 3) := by decide +kernel
theorem dX7_totalOf_21 : decode cX7_totalOf 21 = .ok (.iconst 0, 1) := by decide +kernel
theorem dX7_totalOf_22 : decode cX7_totalOf 22 = .ok (.iadd, 1) := by decide +kernel
theorem dX7_totalOf_23 : decode cX7_totalOf 23 = .ok (.ireturn, 1) := by decide +kernel
theorem dX7_aboutOf_0 : decode cX7_aboutOf 0 = .ok (.iload_n 2, 1) := by decide +kernel
theorem dX7_aboutOf_1 : decode cX7_aboutOf 1 = .ok (.tableswitch 66 0 3 #[31, 37, 44, 59], 31) := by decide +kernel
theorem dX7_aboutOf_32 : decode cX7_aboutOf 32 = .ok (.aload_n 0, 1) := by decide +kernel
theorem dX7_aboutOf_33 : decode cX7_aboutOf 33 = .ok (.iload_n 1, 1) := by decide +kernel
theorem dX7_aboutOf_34 : decode cX7_aboutOf 34 = .ok (.invokevirtual 96, 3) := by decide +kernel
theorem dX7_aboutOf_37 : decode cX7_aboutOf 37 = .ok (.ireturn, 1) := by decide +kernel
theorem dX7_aboutOf_38 : decode cX7_aboutOf 38 = .ok (.aload_n 0, 1) := by decide +kernel
theorem dX7_aboutOf_39 : decode cX7_aboutOf 39 = .ok (.getfield 13, 3) := by decide +kernel
theorem dX7_aboutOf_42 : decode cX7_aboutOf 42 = .ok (.iload_n 1, 1) := by decide +kernel
theorem dX7_aboutOf_43 : decode cX7_aboutOf 43 = .ok (.iaload, 1) := by decide +kernel
theorem dX7_aboutOf_44 : decode cX7_aboutOf 44 = .ok (.ireturn, 1) := by decide +kernel
theorem dX7_aboutOf_45 : decode cX7_aboutOf 45 = .ok (.aload_n 0, 1) := by decide +kernel
theorem dX7_aboutOf_46 : decode cX7_aboutOf 46 = .ok (.getfield 16, 3) := by decide +kernel
theorem dX7_aboutOf_49 : decode cX7_aboutOf 49 = .ok (.iload_n 1, 1) := by decide +kernel
theorem dX7_aboutOf_50 : decode cX7_aboutOf 50 = .ok (.baload, 1) := by decide +kernel
theorem dX7_aboutOf_51 : decode cX7_aboutOf 51 = .ok (.ifCond .eq 7, 3) := by decide +kernel
theorem dX7_aboutOf_54 : decode cX7_aboutOf 54 = .ok (.iconst 1, 1) := by decide +kernel
theorem dX7_aboutOf_55 : decode cX7_aboutOf 55 = .ok (.goto 4, 3) := by decide +kernel
theorem dX7_aboutOf_58 : decode cX7_aboutOf 58 = .ok (.iconst 0, 1) := by decide +kernel
theorem dX7_aboutOf_59 : decode cX7_aboutOf 59 = .ok (.ireturn, 1) := by decide +kernel
theorem dX7_aboutOf_60 : decode cX7_aboutOf 60 = .ok (.aload_n 0, 1) := by decide +kernel
theorem dX7_aboutOf_61 : decode cX7_aboutOf 61 = .ok (.getfield 20, 3) := by decide +kernel
theorem dX7_aboutOf_64 : decode cX7_aboutOf 64 = .ok (.iload_n 1, 1) := by decide +kernel
theorem dX7_aboutOf_65 : decode cX7_aboutOf 65 = .ok (.iaload, 1) := by decide +kernel
theorem dX7_aboutOf_66 : decode cX7_aboutOf 66 = .ok (.ireturn, 1) := by decide +kernel
theorem dX7_aboutOf_67 : decode cX7_aboutOf 67 = .ok (.bipush (-2), 2) := by decide +kernel
theorem dX7_aboutOf_69 : decode cX7_aboutOf 69 = .ok (.ireturn, 1) := by decide +kernel
theorem dX7_about_0 : decode cX7_about 0 = .ok (.aload_n 0, 1) := by decide +kernel
theorem dX7_about_1 : decode cX7_about 1 = .ok (.iload_n 1, 1) := by decide +kernel
theorem dX7_about_2 : decode cX7_about 2 = .ok (.invokevirtual 93, 3) := by decide +kernel
theorem dX7_about_5 : decode cX7_about 5 = .ok (.ifCond .eq 12, 3) := by decide +kernel
theorem dX7_about_8 : decode cX7_about 8 = .ok (.aload_n 0, 1) := by decide +kernel
theorem dX7_about_9 : decode cX7_about 9 = .ok (.iload_n 1, 1) := by decide +kernel
theorem dX7_about_10 : decode cX7_about 10 = .ok (.iload_n 2, 1) := by decide +kernel
theorem dX7_about_11 : decode cX7_about 11 = .ok (.invokevirtual 99, 3) := by decide +kernel
theorem dX7_about_14 : decode cX7_about 14 = .ok (.goto 5, 3) := by decide +kernel
theorem dX7_about_17 : decode cX7_about 17 = .ok (.bipush (-2), 2) := by decide +kernel
theorem dX7_about_19 : decode cX7_about 19 = .ok (.ireturn, 1) := by decide +kernel
theorem dX7_sideOf_0 : decode cX7_sideOf 0 = .ok (.iload_n 2, 1) := by decide +kernel
theorem dX7_sideOf_1 : decode cX7_sideOf 1 = .ok (.aload_n 0, 1) := by decide +kernel
theorem dX7_sideOf_2 : decode cX7_sideOf 2 = .ok (.getfield 13, 3) := by decide +kernel
theorem dX7_sideOf_5 : decode cX7_sideOf 5 = .ok (.iload_n 1, 1) := by decide +kernel
theorem dX7_sideOf_6 : decode cX7_sideOf 6 = .ok (.iaload, 1) := by decide +kernel
theorem dX7_sideOf_7 : decode cX7_sideOf 7 = .ok (.if_icmp .gt 7, 3) := by decide +kernel
theorem dX7_sideOf_10 : decode cX7_sideOf 10 = .ok (.iconst 0, 1) := by decide +kernel
theorem dX7_sideOf_11 : decode cX7_sideOf 11 = .ok (.goto 29, 3) := by decide +kernel
theorem dX7_sideOf_14 : decode cX7_sideOf 14 = .ok (.aload_n 0, 1) := by decide +kernel
theorem dX7_sideOf_15 : decode cX7_sideOf 15 = .ok (.getfield 16, 3) := by decide +kernel
theorem dX7_sideOf_18 : decode cX7_sideOf 18 = .ok (.iload_n 1, 1) := by decide +kernel
theorem dX7_sideOf_19 : decode cX7_sideOf 19 = .ok (.baload, 1) := by decide +kernel
theorem dX7_sideOf_20 : decode cX7_sideOf 20 = .ok (.ifCond .eq 19, 3) := by decide +kernel
theorem dX7_sideOf_23 : decode cX7_sideOf 23 = .ok (.iload_n 2, 1) := by decide +kernel
theorem dX7_sideOf_24 : decode cX7_sideOf 24 = .ok (.aload_n 0, 1) := by decide +kernel
theorem dX7_sideOf_25 : decode cX7_sideOf 25 = .ok (.getfield 13, 3) := by decide +kernel
theorem dX7_sideOf_28 : decode cX7_sideOf 28 = .ok (.iload_n 1, 1) := by decide +kernel
theorem dX7_sideOf_29 : decode cX7_sideOf 29 = .ok (.iaload, 1) := by decide +kernel
theorem dX7_sideOf_30 : decode cX7_sideOf 30 = .ok (.iconst 1, 1) := by decide +kernel
theorem dX7_sideOf_31 : decode cX7_sideOf 31 = .ok (.iadd, 1) := by decide +kernel
theorem dX7_sideOf_32 : decode cX7_sideOf 32 = .ok (.if_icmp .ne 7, 3) := by decide +kernel
theorem dX7_sideOf_35 : decode cX7_sideOf 35 = .ok (.iconst 2, 1) := by decide +kernel
theorem dX7_sideOf_36 : decode cX7_sideOf 36 = .ok (.goto 4, 3) := by decide +kernel
theorem dX7_sideOf_39 : decode cX7_sideOf 39 = .ok (.iconst 1, 1) := by decide +kernel
theorem dX7_sideOf_40 : decode cX7_sideOf 40 = .ok (.ireturn, 1) := by decide +kernel
theorem dX7_wordOf_0 : decode cX7_wordOf 0 = .ok (.aload_n 0, 1) := by decide +kernel
theorem dX7_wordOf_1 : decode cX7_wordOf 1 = .ok (.iload_n 1, 1) := by decide +kernel
theorem dX7_wordOf_2 : decode cX7_wordOf 2 = .ok (.iload_n 2, 1) := by decide +kernel
theorem dX7_wordOf_3 : decode cX7_wordOf 3 = .ok (.invokevirtual 103, 3) := by decide +kernel
theorem dX7_wordOf_6 : decode cX7_wordOf 6 = .ok (.istore_n 3, 1) := by decide +kernel
theorem dX7_wordOf_7 : decode cX7_wordOf 7 = .ok (.aload_n 0, 1) := by decide +kernel
theorem dX7_wordOf_8 : decode cX7_wordOf 8 = .ok (.getfield 7, 3) := by decide +kernel
theorem dX7_wordOf_11 : decode cX7_wordOf 11 = .ok (.bipush 21, 2) := by decide +kernel
theorem dX7_wordOf_13 : decode cX7_wordOf 13 = .ok (.iload_n 1, 1) := by decide +kernel
theorem dX7_wordOf_14 : decode cX7_wordOf 14 = .ok (.imul, 1) := by decide +kernel
theorem dX7_wordOf_15 : decode cX7_wordOf 15 = .ok (.iload_n 3, 1) := by decide +kernel
theorem dX7_wordOf_16 : decode cX7_wordOf 16 = .ok (.ifCond .ne 9, 3) := by decide +kernel
theorem dX7_wordOf_19 : decode cX7_wordOf 19 = .ok (.iload_n 2, 1) := by decide +kernel
theorem dX7_wordOf_20 : decode cX7_wordOf 20 = .ok (.iconst 1, 1) := by decide +kernel
theorem dX7_wordOf_21 : decode cX7_wordOf 21 = .ok (.isub, 1) := by decide +kernel
theorem dX7_wordOf_22 : decode cX7_wordOf 22 = .ok (.goto 24, 3) := by decide +kernel
theorem dX7_wordOf_25 : decode cX7_wordOf 25 = .ok (.iload_n 3, 1) := by decide +kernel
theorem dX7_wordOf_26 : decode cX7_wordOf 26 = .ok (.iconst 2, 1) := by decide +kernel
theorem dX7_wordOf_27 : decode cX7_wordOf 27 = .ok (.if_icmp .ne 12, 3) := by decide +kernel
theorem dX7_wordOf_30 : decode cX7_wordOf 30 = .ok (.aload_n 0, 1) := by decide +kernel
theorem dX7_wordOf_31 : decode cX7_wordOf 31 = .ok (.getfield 13, 3) := by decide +kernel
theorem dX7_wordOf_34 : decode cX7_wordOf 34 = .ok (.iload_n 1, 1) := by decide +kernel
theorem dX7_wordOf_35 : decode cX7_wordOf 35 = .ok (.iaload, 1) := by decide +kernel
theorem dX7_wordOf_36 : decode cX7_wordOf 36 = .ok (.goto 10, 3) := by decide +kernel
theorem dX7_wordOf_39 : decode cX7_wordOf 39 = .ok (.aload_n 0, 1) := by decide +kernel
theorem dX7_wordOf_40 : decode cX7_wordOf 40 = .ok (.iload_n 1, 1) := by decide +kernel
theorem dX7_wordOf_41 : decode cX7_wordOf 41 = .ok (.invokevirtual 96, 3) := by decide +kernel
theorem dX7_wordOf_44 : decode cX7_wordOf 44 = .ok (.iload_n 2, 1) := by decide +kernel
theorem dX7_wordOf_45 : decode cX7_wordOf 45 = .ok (.isub, 1) := by decide +kernel
theorem dX7_wordOf_46 : decode cX7_wordOf 46 = .ok (.iadd, 1) := by decide +kernel
theorem dX7_wordOf_47 : decode cX7_wordOf 47 = .ok (.iaload, 1) := by decide +kernel
theorem dX7_wordOf_48 : decode cX7_wordOf 48 = .ok (.ireturn, 1) := by decide +kernel
theorem dX7_handOf_0 : decode cX7_handOf 0 = .ok (.aload_n 0, 1) := by decide +kernel
theorem dX7_handOf_1 : decode cX7_handOf 1 = .ok (.iload_n 1, 1) := by decide +kernel
theorem dX7_handOf_2 : decode cX7_handOf 2 = .ok (.iload_n 2, 1) := by decide +kernel
theorem dX7_handOf_3 : decode cX7_handOf 3 = .ok (.invokevirtual 103, 3) := by decide +kernel
theorem dX7_handOf_6 : decode cX7_handOf 6 = .ok (.istore_n 3, 1) := by decide +kernel
theorem dX7_handOf_7 : decode cX7_handOf 7 = .ok (.iload_n 3, 1) := by decide +kernel
theorem dX7_handOf_8 : decode cX7_handOf 8 = .ok (.iconst 2, 1) := by decide +kernel
theorem dX7_handOf_9 : decode cX7_handOf 9 = .ok (.if_icmp .ne 7, 3) := by decide +kernel
theorem dX7_handOf_12 : decode cX7_handOf 12 = .ok (.iconst 2, 1) := by decide +kernel
theorem dX7_handOf_13 : decode cX7_handOf 13 = .ok (.goto 24, 3) := by decide +kernel
theorem dX7_handOf_16 : decode cX7_handOf 16 = .ok (.iload_n 3, 1) := by decide +kernel
theorem dX7_handOf_17 : decode cX7_handOf 17 = .ok (.ifCond .ne 12, 3) := by decide +kernel
theorem dX7_handOf_20 : decode cX7_handOf 20 = .ok (.aload_n 0, 1) := by decide +kernel
theorem dX7_handOf_21 : decode cX7_handOf 21 = .ok (.getfield 20, 3) := by decide +kernel
theorem dX7_handOf_24 : decode cX7_handOf 24 = .ok (.iload_n 1, 1) := by decide +kernel
theorem dX7_handOf_25 : decode cX7_handOf 25 = .ok (.iaload, 1) := by decide +kernel
theorem dX7_handOf_26 : decode cX7_handOf 26 = .ok (.goto 11, 3) := by decide +kernel
theorem dX7_handOf_29 : decode cX7_handOf 29 = .ok (.iconst 1, 1) := by decide +kernel
theorem dX7_handOf_30 : decode cX7_handOf 30 = .ok (.aload_n 0, 1) := by decide +kernel
theorem dX7_handOf_31 : decode cX7_handOf 31 = .ok (.getfield 20, 3) := by decide +kernel
theorem dX7_handOf_34 : decode cX7_handOf 34 = .ok (.iload_n 1, 1) := by decide +kernel
theorem dX7_handOf_35 : decode cX7_handOf 35 = .ok (.iaload, 1) := by decide +kernel
theorem dX7_handOf_36 : decode cX7_handOf 36 = .ok (.isub, 1) := by decide +kernel
theorem dX7_handOf_37 : decode cX7_handOf 37 = .ok (.ireturn, 1) := by decide +kernel
theorem dX7_place_0 : decode cX7_place 0 = .ok (.aload_n 0, 1) := by decide +kernel
theorem dX7_place_1 : decode cX7_place 1 = .ok (.iload_n 1, 1) := by decide +kernel
theorem dX7_place_2 : decode cX7_place 2 = .ok (.invokevirtual 93, 3) := by decide +kernel
theorem dX7_place_5 : decode cX7_place 5 = .ok (.ifCond .eq 25, 3) := by decide +kernel
theorem dX7_place_8 : decode cX7_place 8 = .ok (.iload_n 2, 1) := by decide +kernel
theorem dX7_place_9 : decode cX7_place 9 = .ok (.iconst 1, 1) := by decide +kernel
theorem dX7_place_10 : decode cX7_place 10 = .ok (.aload_n 0, 1) := by decide +kernel
theorem dX7_place_11 : decode cX7_place 11 = .ok (.iload_n 1, 1) := by decide +kernel
theorem dX7_place_12 : decode cX7_place 12 = .ok (.invokevirtual 96, 3) := by decide +kernel
theorem dX7_place_15 : decode cX7_place 15 = .ok (.invokestatic 75, 3) := by decide +kernel
theorem dX7_place_18 : decode cX7_place 18 = .ok (.ifCond .eq 12, 3) := by decide +kernel
theorem dX7_place_21 : decode cX7_place 21 = .ok (.iload_n 3, 1) := by decide +kernel
theorem dX7_place_22 : decode cX7_place 22 = .ok (.iconst 0, 1) := by decide +kernel
theorem dX7_place_23 : decode cX7_place 23 = .ok (.iconst 2, 1) := by decide +kernel
theorem dX7_place_24 : decode cX7_place 24 = .ok (.invokestatic 75, 3) := by decide +kernel
theorem dX7_place_27 : decode cX7_place 27 = .ok (.ifCond .ne 6, 3) := by decide +kernel
theorem dX7_place_30 : decode cX7_place 30 = .ok (.bipush (-2), 2) := by decide +kernel
theorem dX7_place_32 : decode cX7_place 32 = .ok (.ireturn, 1) := by decide +kernel
theorem dX7_place_33 : decode cX7_place 33 = .ok (.iload_n 3, 1) := by decide +kernel
theorem dX7_place_34 : decode cX7_place 34 = .ok (.ifCond .ne 12, 3) := by decide +kernel
theorem dX7_place_37 : decode cX7_place 37 = .ok (.aload_n 0, 1) := by decide +kernel
theorem dX7_place_38 : decode cX7_place 38 = .ok (.iload_n 1, 1) := by decide +kernel
theorem dX7_place_39 : decode cX7_place 39 = .ok (.iload_n 2, 1) := by decide +kernel
theorem dX7_place_40 : decode cX7_place 40 = .ok (.invokevirtual 106, 3) := by decide +kernel
theorem dX7_place_43 : decode cX7_place 43 = .ok (.goto 23, 3) := by decide +kernel
theorem dX7_place_46 : decode cX7_place 46 = .ok (.iload_n 3, 1) := by decide +kernel
theorem dX7_place_47 : decode cX7_place 47 = .ok (.iconst 1, 1) := by decide +kernel
theorem dX7_place_48 : decode cX7_place 48 = .ok (.if_icmp .ne 12, 3) := by decide +kernel
theorem dX7_place_51 : decode cX7_place 51 = .ok (.aload_n 0, 1) := by decide +kernel
theorem dX7_place_52 : decode cX7_place 52 = .ok (.iload_n 1, 1) := by decide +kernel
theorem dX7_place_53 : decode cX7_place 53 = .ok (.iload_n 2, 1) := by decide +kernel
theorem dX7_place_54 : decode cX7_place 54 = .ok (.invokevirtual 103, 3) := by decide +kernel
theorem dX7_place_57 : decode cX7_place 57 = .ok (.goto 9, 3) := by decide +kernel
theorem dX7_place_60 : decode cX7_place 60 = .ok (.aload_n 0, 1) := by decide +kernel
theorem dX7_place_61 : decode cX7_place 61 = .ok (.iload_n 1, 1) := by decide +kernel
theorem dX7_place_62 : decode cX7_place 62 = .ok (.iload_n 2, 1) := by decide +kernel
theorem dX7_place_63 : decode cX7_place 63 = .ok (.invokevirtual 109, 3) := by decide +kernel
theorem dX7_place_66 : decode cX7_place 66 = .ok (.ireturn, 1) := by decide +kernel
theorem dX7_menOf_0 : decode cX7_menOf 0 = .ok (.iload_n 2, 1) := by decide +kernel
theorem dX7_menOf_1 : decode cX7_menOf 1 = .ok (.iconst 1, 1) := by decide +kernel
theorem dX7_menOf_2 : decode cX7_menOf 2 = .ok (.isub, 1) := by decide +kernel
theorem dX7_menOf_3 : decode cX7_menOf 3 = .ok (.aload_n 0, 1) := by decide +kernel
theorem dX7_menOf_4 : decode cX7_menOf 4 = .ok (.iload_n 1, 1) := by decide +kernel
theorem dX7_menOf_5 : decode cX7_menOf 5 = .ok (.invokevirtual 96, 3) := by decide +kernel
theorem dX7_menOf_8 : decode cX7_menOf 8 = .ok (.idiv, 1) := by decide +kernel
theorem dX7_menOf_9 : decode cX7_menOf 9 = .ok (.ireturn, 1) := by decide +kernel
theorem dX7_placeOf_0 : decode cX7_placeOf 0 = .ok (.iload_n 2, 1) := by decide +kernel
theorem dX7_placeOf_1 : decode cX7_placeOf 1 = .ok (.aload_n 0, 1) := by decide +kernel
theorem dX7_placeOf_2 : decode cX7_placeOf 2 = .ok (.iload_n 1, 1) := by decide +kernel
theorem dX7_placeOf_3 : decode cX7_placeOf 3 = .ok (.invokevirtual 96, 3) := by decide +kernel
theorem dX7_placeOf_6 : decode cX7_placeOf 6 = .ok (.aload_n 0, 1) := by decide +kernel
theorem dX7_placeOf_7 : decode cX7_placeOf 7 = .ok (.iload_n 1, 1) := by decide +kernel
theorem dX7_placeOf_8 : decode cX7_placeOf 8 = .ok (.iload_n 2, 1) := by decide +kernel
theorem dX7_placeOf_9 : decode cX7_placeOf 9 = .ok (.invokevirtual 112, 3) := by decide +kernel
theorem dX7_placeOf_12 : decode cX7_placeOf 12 = .ok (.imul, 1) := by decide +kernel
theorem dX7_placeOf_13 : decode cX7_placeOf 13 = .ok (.isub, 1) := by decide +kernel
theorem dX7_placeOf_14 : decode cX7_placeOf 14 = .ok (.ireturn, 1) := by decide +kernel
theorem dX7_number_0 : decode cX7_number 0 = .ok (.aload_n 0, 1) := by decide +kernel
theorem dX7_number_1 : decode cX7_number 1 = .ok (.iload_n 1, 1) := by decide +kernel
theorem dX7_number_2 : decode cX7_number 2 = .ok (.invokevirtual 93, 3) := by decide +kernel
theorem dX7_number_5 : decode cX7_number 5 = .ok (.ifCond .eq 23, 3) := by decide +kernel
theorem dX7_number_8 : decode cX7_number 8 = .ok (.iload_n 2, 1) := by decide +kernel
theorem dX7_number_9 : decode cX7_number 9 = .ok (.iconst 1, 1) := by decide +kernel
theorem dX7_number_10 : decode cX7_number 10 = .ok (.sipush 400, 3) := by decide +kernel
theorem dX7_number_13 : decode cX7_number 13 = .ok (.invokestatic 75, 3) := by decide +kernel
theorem dX7_number_16 : decode cX7_number 16 = .ok (.ifCond .eq 12, 3) := by decide +kernel
theorem dX7_number_19 : decode cX7_number 19 = .ok (.iload_n 3, 1) := by decide +kernel
theorem dX7_number_20 : decode cX7_number 20 = .ok (.iconst 0, 1) := by decide +kernel
theorem dX7_number_21 : decode cX7_number 21 = .ok (.iconst 3, 1) := by decide +kernel
theorem dX7_number_22 : decode cX7_number 22 = .ok (.invokestatic 75, 3) := by decide +kernel
theorem dX7_number_25 : decode cX7_number 25 = .ok (.ifCond .ne 6, 3) := by decide +kernel
theorem dX7_number_28 : decode cX7_number 28 = .ok (.bipush (-2), 2) := by decide +kernel
theorem dX7_number_30 : decode cX7_number 30 = .ok (.ireturn, 1) := by decide +kernel
theorem dX7_number_31 : decode cX7_number 31 = .ok (.aload_n 0, 1) := by decide +kernel
theorem dX7_number_32 : decode cX7_number 32 = .ok (.iload_n 1, 1) := by decide +kernel
theorem dX7_number_33 : decode cX7_number 33 = .ok (.iload_n 2, 1) := by decide +kernel
theorem dX7_number_34 : decode cX7_number 34 = .ok (.invokevirtual 115, 3) := by decide +kernel
theorem dX7_number_37 : decode cX7_number 37 = .ok (.istore 4, 2) := by decide +kernel
theorem dX7_number_39 : decode cX7_number 39 = .ok (.iload_n 3, 1) := by decide +kernel
theorem dX7_number_40 : decode cX7_number 40 = .ok (.ifCond .ne 12, 3) := by decide +kernel
theorem dX7_number_43 : decode cX7_number 43 = .ok (.aload_n 0, 1) := by decide +kernel
theorem dX7_number_44 : decode cX7_number 44 = .ok (.iload_n 1, 1) := by decide +kernel
theorem dX7_number_45 : decode cX7_number 45 = .ok (.iload_n 2, 1) := by decide +kernel
theorem dX7_number_46 : decode cX7_number 46 = .ok (.invokevirtual 112, 3) := by decide +kernel
theorem dX7_number_49 : decode cX7_number 49 = .ok (.goto 35, 3) := by decide +kernel
theorem dX7_number_52 : decode cX7_number 52 = .ok (.iload_n 3, 1) := by decide +kernel
theorem dX7_number_53 : decode cX7_number 53 = .ok (.iconst 1, 1) := by decide +kernel
theorem dX7_number_54 : decode cX7_number 54 = .ok (.if_icmp .ne 8, 3) := by decide +kernel
theorem dX7_number_57 : decode cX7_number 57 = .ok (.iload 4, 2) := by decide +kernel
theorem dX7_number_59 : decode cX7_number 59 = .ok (.goto 25, 3) := by decide +kernel
theorem dX7_number_62 : decode cX7_number 62 = .ok (.iload_n 3, 1) := by decide +kernel
theorem dX7_number_63 : decode cX7_number 63 = .ok (.iconst 2, 1) := by decide +kernel
theorem dX7_number_64 : decode cX7_number 64 = .ok (.if_icmp .ne 13, 3) := by decide +kernel
theorem dX7_number_67 : decode cX7_number 67 = .ok (.aload_n 0, 1) := by decide +kernel
theorem dX7_number_68 : decode cX7_number 68 = .ok (.iload_n 1, 1) := by decide +kernel
theorem dX7_number_69 : decode cX7_number 69 = .ok (.iload 4, 2) := by decide +kernel
theorem dX7_number_71 : decode cX7_number 71 = .ok (.invokevirtual 106, 3) := by decide +kernel
theorem dX7_number_74 : decode cX7_number 74 = .ok (.goto 10, 3) := by decide +kernel
theorem dX7_number_77 : decode cX7_number 77 = .ok (.aload_n 0, 1) := by decide +kernel
theorem dX7_number_78 : decode cX7_number 78 = .ok (.iload_n 1, 1) := by decide +kernel
theorem dX7_number_79 : decode cX7_number 79 = .ok (.iload 4, 2) := by decide +kernel
theorem dX7_number_81 : decode cX7_number 81 = .ok (.invokevirtual 109, 3) := by decide +kernel
theorem dX7_number_84 : decode cX7_number 84 = .ok (.ireturn, 1) := by decide +kernel
theorem dX7_value_0 : decode cX7_value 0 = .ok (.aload_n 0, 1) := by decide +kernel
theorem dX7_value_1 : decode cX7_value 1 = .ok (.iload_n 1, 1) := by decide +kernel
theorem dX7_value_2 : decode cX7_value 2 = .ok (.invokevirtual 93, 3) := by decide +kernel
theorem dX7_value_5 : decode cX7_value 5 = .ok (.ifCond .eq 38, 3) := by decide +kernel
theorem dX7_value_8 : decode cX7_value 8 = .ok (.iload_n 2, 1) := by decide +kernel
theorem dX7_value_9 : decode cX7_value 9 = .ok (.iconst 0, 1) := by decide +kernel
theorem dX7_value_10 : decode cX7_value 10 = .ok (.bipush 20, 2) := by decide +kernel
theorem dX7_value_12 : decode cX7_value 12 = .ok (.invokestatic 75, 3) := by decide +kernel
theorem dX7_value_15 : decode cX7_value 15 = .ok (.ifCond .eq 28, 3) := by decide +kernel
theorem dX7_value_18 : decode cX7_value 18 = .ok (.iload_n 3, 1) := by decide +kernel
theorem dX7_value_19 : decode cX7_value 19 = .ok (.iconst 1, 1) := by decide +kernel
theorem dX7_value_20 : decode cX7_value 20 = .ok (.aload_n 0, 1) := by decide +kernel
theorem dX7_value_21 : decode cX7_value 21 = .ok (.iload_n 1, 1) := by decide +kernel
theorem dX7_value_22 : decode cX7_value 22 = .ok (.invokevirtual 96, 3) := by decide +kernel
theorem dX7_value_25 : decode cX7_value 25 = .ok (.invokestatic 75, 3) := by decide +kernel
theorem dX7_value_28 : decode cX7_value 28 = .ok (.ifCond .eq 15, 3) := by decide +kernel
theorem dX7_value_31 : decode cX7_value 31 = .ok (.iload_n 2, 1) := by decide +kernel
theorem dX7_value_32 : decode cX7_value 32 = .ok (.aload_n 0, 1) := by decide +kernel
theorem dX7_value_33 : decode cX7_value 33 = .ok (.iload_n 1, 1) := by decide +kernel
theorem dX7_value_34 : decode cX7_value 34 = .ok (.invokevirtual 96, 3) := by decide +kernel
theorem dX7_value_37 : decode cX7_value 37 = .ok (.imul, 1) := by decide +kernel
theorem dX7_value_38 : decode cX7_value 38 = .ok (.iload_n 3, 1) := by decide +kernel
theorem dX7_value_39 : decode cX7_value 39 = .ok (.iadd, 1) := by decide +kernel
theorem dX7_value_40 : decode cX7_value 40 = .ok (.goto 5, 3) := by decide +kernel
theorem dX7_value_43 : decode cX7_value 43 = .ok (.bipush (-2), 2) := by decide +kernel
theorem dX7_value_45 : decode cX7_value 45 = .ok (.ireturn, 1) := by decide +kernel
theorem dX7_mayMean_0 : decode cX7_mayMean 0 = .ok (.aload_n 0, 1) := by decide +kernel
theorem dX7_mayMean_1 : decode cX7_mayMean 1 = .ok (.iload_n 1, 1) := by decide +kernel
theorem dX7_mayMean_2 : decode cX7_mayMean 2 = .ok (.iload 5, 2) := by decide +kernel
theorem dX7_mayMean_4 : decode cX7_mayMean 4 = .ok (.invokevirtual 115, 3) := by decide +kernel
theorem dX7_mayMean_7 : decode cX7_mayMean 7 = .ok (.istore 6, 2) := by decide +kernel
theorem dX7_mayMean_9 : decode cX7_mayMean 9 = .ok (.aload_n 0, 1) := by decide +kernel
theorem dX7_mayMean_10 : decode cX7_mayMean 10 = .ok (.iload_n 1, 1) := by decide +kernel
theorem dX7_mayMean_11 : decode cX7_mayMean 11 = .ok (.iload 6, 2) := by decide +kernel
theorem dX7_mayMean_13 : decode cX7_mayMean 13 = .ok (.invokevirtual 106, 3) := by decide +kernel
theorem dX7_mayMean_16 : decode cX7_mayMean 16 = .ok (.iload_n 2, 1) := by decide +kernel
theorem dX7_mayMean_17 : decode cX7_mayMean 17 = .ok (.if_icmp .ne 41, 3) := by decide +kernel
theorem dX7_mayMean_20 : decode cX7_mayMean 20 = .ok (.iload_n 3, 1) := by decide +kernel
theorem dX7_mayMean_21 : decode cX7_mayMean 21 = .ok (.iconst (-1), 1) := by decide +kernel
theorem dX7_mayMean_22 : decode cX7_mayMean 22 = .ok (.if_icmp .eq 14, 3) := by decide +kernel
theorem dX7_mayMean_25 : decode cX7_mayMean 25 = .ok (.aload_n 0, 1) := by decide +kernel
theorem dX7_mayMean_26 : decode cX7_mayMean 26 = .ok (.iload_n 1, 1) := by decide +kernel
theorem dX7_mayMean_27 : decode cX7_mayMean 27 = .ok (.iload 6, 2) := by decide +kernel
theorem dX7_mayMean_29 : decode cX7_mayMean 29 = .ok (.invokevirtual 109, 3) := by decide +kernel
theorem dX7_mayMean_32 : decode cX7_mayMean 32 = .ok (.iload_n 3, 1) := by decide +kernel
theorem dX7_mayMean_33 : decode cX7_mayMean 33 = .ok (.if_icmp .ne 25, 3) := by decide +kernel
theorem dX7_mayMean_36 : decode cX7_mayMean 36 = .ok (.iload 4, 2) := by decide +kernel
theorem dX7_mayMean_38 : decode cX7_mayMean 38 = .ok (.iconst (-1), 1) := by decide +kernel
theorem dX7_mayMean_39 : decode cX7_mayMean 39 = .ok (.if_icmp .eq 15, 3) := by decide +kernel
theorem dX7_mayMean_42 : decode cX7_mayMean 42 = .ok (.aload_n 0, 1) := by decide +kernel
theorem dX7_mayMean_43 : decode cX7_mayMean 43 = .ok (.iload_n 1, 1) := by decide +kernel
theorem dX7_mayMean_44 : decode cX7_mayMean 44 = .ok (.iload 5, 2) := by decide +kernel
theorem dX7_mayMean_46 : decode cX7_mayMean 46 = .ok (.invokevirtual 112, 3) := by decide +kernel
theorem dX7_mayMean_49 : decode cX7_mayMean 49 = .ok (.iload 4, 2) := by decide +kernel
theorem dX7_mayMean_51 : decode cX7_mayMean 51 = .ok (.if_icmp .ne 7, 3) := by decide +kernel
theorem dX7_mayMean_54 : decode cX7_mayMean 54 = .ok (.iconst 1, 1) := by decide +kernel
theorem dX7_mayMean_55 : decode cX7_mayMean 55 = .ok (.goto 4, 3) := by decide +kernel
theorem dX7_mayMean_58 : decode cX7_mayMean 58 = .ok (.iconst 0, 1) := by decide +kernel
theorem dX7_mayMean_59 : decode cX7_mayMean 59 = .ok (.ireturn, 1) := by decide +kernel
theorem dX7_isPoint_0 : decode cX7_isPoint 0 = .ok (.aload_n 0, 1) := by decide +kernel
theorem dX7_isPoint_1 : decode cX7_isPoint 1 = .ok (.iload_n 1, 1) := by decide +kernel
theorem dX7_isPoint_2 : decode cX7_isPoint 2 = .ok (.invokevirtual 93, 3) := by decide +kernel
theorem dX7_isPoint_5 : decode cX7_isPoint 5 = .ok (.ifCond .eq 34, 3) := by decide +kernel
theorem dX7_isPoint_8 : decode cX7_isPoint 8 = .ok (.iload_n 2, 1) := by decide +kernel
theorem dX7_isPoint_9 : decode cX7_isPoint 9 = .ok (.invokestatic 90, 3) := by decide +kernel
theorem dX7_isPoint_12 : decode cX7_isPoint 12 = .ok (.ifCond .eq 27, 3) := by decide +kernel
theorem dX7_isPoint_15 : decode cX7_isPoint 15 = .ok (.iload_n 3, 1) := by decide +kernel
theorem dX7_isPoint_16 : decode cX7_isPoint 16 = .ok (.iconst (-1), 1) := by decide +kernel
theorem dX7_isPoint_17 : decode cX7_isPoint 17 = .ok (.iconst 2, 1) := by decide +kernel
theorem dX7_isPoint_18 : decode cX7_isPoint 18 = .ok (.invokestatic 75, 3) := by decide +kernel
theorem dX7_isPoint_21 : decode cX7_isPoint 21 = .ok (.ifCond .eq 18, 3) := by decide +kernel
theorem dX7_isPoint_24 : decode cX7_isPoint 24 = .ok (.iload 4, 2) := by decide +kernel
theorem dX7_isPoint_26 : decode cX7_isPoint 26 = .ok (.iconst (-1), 1) := by decide +kernel
theorem dX7_isPoint_27 : decode cX7_isPoint 27 = .ok (.bipush 20, 2) := by decide +kernel
theorem dX7_isPoint_29 : decode cX7_isPoint 29 = .ok (.invokestatic 75, 3) := by decide +kernel
theorem dX7_isPoint_32 : decode cX7_isPoint 32 = .ok (.ifCond .eq 7, 3) := by decide +kernel
theorem dX7_isPoint_35 : decode cX7_isPoint 35 = .ok (.iconst 1, 1) := by decide +kernel
theorem dX7_isPoint_36 : decode cX7_isPoint 36 = .ok (.goto 4, 3) := by decide +kernel
theorem dX7_isPoint_39 : decode cX7_isPoint 39 = .ok (.iconst 0, 1) := by decide +kernel
theorem dX7_isPoint_40 : decode cX7_isPoint 40 = .ok (.ireturn, 1) := by decide +kernel
theorem dX7_meanings_0 : decode cX7_meanings 0 = .ok (.aload_n 0, 1) := by decide +kernel
theorem dX7_meanings_1 : decode cX7_meanings 1 = .ok (.iload_n 1, 1) := by decide +kernel
theorem dX7_meanings_2 : decode cX7_meanings 2 = .ok (.iload_n 2, 1) := by decide +kernel
theorem dX7_meanings_3 : decode cX7_meanings 3 = .ok (.iload_n 3, 1) := by decide +kernel
theorem dX7_meanings_4 : decode cX7_meanings 4 = .ok (.iload 4, 2) := by decide +kernel
theorem dX7_meanings_6 : decode cX7_meanings 6 = .ok (.invokevirtual 118, 3) := by decide +kernel
theorem dX7_meanings_9 : decode cX7_meanings 9 = .ok (.ifCond .eq 15, 3) := by decide +kernel
theorem dX7_meanings_12 : decode cX7_meanings 12 = .ok (.iload 5, 2) := by decide +kernel
theorem dX7_meanings_14 : decode cX7_meanings 14 = .ok (.iconst 1, 1) := by decide +kernel
theorem dX7_meanings_15 : decode cX7_meanings 15 = .ok (.sipush 400, 3) := by decide +kernel
theorem dX7_meanings_18 : decode cX7_meanings 18 = .ok (.invokestatic 75, 3) := by decide +kernel
theorem dX7_meanings_21 : decode cX7_meanings 21 = .ok (.ifCond .ne 6, 3) := by decide +kernel
theorem dX7_meanings_24 : decode cX7_meanings 24 = .ok (.bipush (-2), 2) := by decide +kernel
theorem dX7_meanings_26 : decode cX7_meanings 26 = .ok (.ireturn, 1) := by decide +kernel
theorem dX7_meanings_27 : decode cX7_meanings 27 = .ok (.iconst 0, 1) := by decide +kernel
theorem dX7_meanings_28 : decode cX7_meanings 28 = .ok (.istore 6, 2) := by decide +kernel
theorem dX7_meanings_30 : decode cX7_meanings 30 = .ok (.iconst 1, 1) := by decide +kernel
theorem dX7_meanings_31 : decode cX7_meanings 31 = .ok (.istore 7, 2) := by decide +kernel
theorem dX7_meanings_33 : decode cX7_meanings 33 = .ok (.iload 7, 2) := by decide +kernel
theorem dX7_meanings_35 : decode cX7_meanings 35 = .ok (.iload 5, 2) := by decide +kernel
theorem dX7_meanings_37 : decode cX7_meanings 37 = .ok (.if_icmp .gt 33, 3) := by decide +kernel
theorem dX7_meanings_40 : decode cX7_meanings 40 = .ok (.iload 6, 2) := by decide +kernel
theorem dX7_meanings_42 : decode cX7_meanings 42 = .ok (.aload_n 0, 1) := by decide +kernel
theorem dX7_meanings_43 : decode cX7_meanings 43 = .ok (.iload_n 1, 1) := by decide +kernel
theorem dX7_meanings_44 : decode cX7_meanings 44 = .ok (.iload_n 2, 1) := by decide +kernel
theorem dX7_meanings_45 : decode cX7_meanings 45 = .ok (.iload_n 3, 1) := by decide +kernel
theorem dX7_meanings_46 : decode cX7_meanings 46 = .ok (.iload 4, 2) := by decide +kernel
theorem dX7_meanings_48 : decode cX7_meanings 48 = .ok (.iload 7, 2) := by decide +kernel
theorem dX7_meanings_50 : decode cX7_meanings 50 = .ok (.invokevirtual 122, 3) := by decide +kernel
theorem dX7_meanings_53 : decode cX7_meanings 53 = .ok (.ifCond .eq 7, 3) := by decide +kernel
theorem dX7_meanings_56 : decode cX7_meanings 56 = .ok (.iconst 1, 1) := by decide +kernel
theorem dX7_meanings_57 : decode cX7_meanings 57 = .ok (.goto 4, 3) := by decide +kernel
theorem dX7_meanings_60 : decode cX7_meanings 60 = .ok (.iconst 0, 1) := by decide +kernel
theorem dX7_meanings_61 : decode cX7_meanings 61 = .ok (.iadd, 1) := by decide +kernel
theorem dX7_meanings_62 : decode cX7_meanings 62 = .ok (.istore 6, 2) := by decide +kernel
theorem dX7_meanings_64 : decode cX7_meanings 64 = .ok (.iinc 7 1, 3) := by decide +kernel
theorem dX7_meanings_67 : decode cX7_meanings 67 = .ok (.goto (-34), 3) := by decide +kernel
theorem dX7_meanings_70 : decode cX7_meanings 70 = .ok (.iload 6, 2) := by decide +kernel
theorem dX7_meanings_72 : decode cX7_meanings 72 = .ok (.ireturn, 1) := by decide +kernel
theorem dX7_meaning_0 : decode cX7_meaning 0 = .ok (.aload_n 0, 1) := by decide +kernel
theorem dX7_meaning_1 : decode cX7_meaning 1 = .ok (.iload_n 1, 1) := by decide +kernel
theorem dX7_meaning_2 : decode cX7_meaning 2 = .ok (.iload_n 2, 1) := by decide +kernel
theorem dX7_meaning_3 : decode cX7_meaning 3 = .ok (.iload_n 3, 1) := by decide +kernel
theorem dX7_meaning_4 : decode cX7_meaning 4 = .ok (.iload 4, 2) := by decide +kernel
theorem dX7_meaning_6 : decode cX7_meaning 6 = .ok (.invokevirtual 118, 3) := by decide +kernel
theorem dX7_meaning_9 : decode cX7_meaning 9 = .ok (.ifCond .eq 8, 3) := by decide +kernel
theorem dX7_meaning_12 : decode cX7_meaning 12 = .ok (.iload 5, 2) := by decide +kernel
theorem dX7_meaning_14 : decode cX7_meaning 14 = .ok (.ifCond .ge 6, 3) := by decide +kernel
theorem dX7_meaning_17 : decode cX7_meaning 17 = .ok (.bipush (-2), 2) := by decide +kernel
theorem dX7_meaning_19 : decode cX7_meaning 19 = .ok (.ireturn, 1) := by decide +kernel
theorem dX7_meaning_20 : decode cX7_meaning 20 = .ok (.iload 5, 2) := by decide +kernel
theorem dX7_meaning_22 : decode cX7_meaning 22 = .ok (.istore 6, 2) := by decide +kernel
theorem dX7_meaning_24 : decode cX7_meaning 24 = .ok (.iconst 1, 1) := by decide +kernel
theorem dX7_meaning_25 : decode cX7_meaning 25 = .ok (.istore 7, 2) := by decide +kernel
theorem dX7_meaning_27 : decode cX7_meaning 27 = .ok (.iload 7, 2) := by decide +kernel
theorem dX7_meaning_29 : decode cX7_meaning 29 = .ok (.sipush 400, 3) := by decide +kernel
theorem dX7_meaning_32 : decode cX7_meaning 32 = .ok (.if_icmp .gt 34, 3) := by decide +kernel
theorem dX7_meaning_35 : decode cX7_meaning 35 = .ok (.aload_n 0, 1) := by decide +kernel
theorem dX7_meaning_36 : decode cX7_meaning 36 = .ok (.iload_n 1, 1) := by decide +kernel
theorem dX7_meaning_37 : decode cX7_meaning 37 = .ok (.iload_n 2, 1) := by decide +kernel
theorem dX7_meaning_38 : decode cX7_meaning 38 = .ok (.iload_n 3, 1) := by decide +kernel
theorem dX7_meaning_39 : decode cX7_meaning 39 = .ok (.iload 4, 2) := by decide +kernel
theorem dX7_meaning_41 : decode cX7_meaning 41 = .ok (.iload 7, 2) := by decide +kernel
theorem dX7_meaning_43 : decode cX7_meaning 43 = .ok (.invokevirtual 122, 3) := by decide +kernel
theorem dX7_meaning_46 : decode cX7_meaning 46 = .ok (.ifCond .eq 14, 3) := by decide +kernel
theorem dX7_meaning_49 : decode cX7_meaning 49 = .ok (.iload 6, 2) := by decide +kernel
theorem dX7_meaning_51 : decode cX7_meaning 51 = .ok (.ifCond .ne 6, 3) := by decide +kernel
theorem dX7_meaning_54 : decode cX7_meaning 54 = .ok (.iload 7, 2) := by decide +kernel
theorem dX7_meaning_56 : decode cX7_meaning 56 = .ok (.ireturn, 1) := by decide +kernel
theorem dX7_meaning_57 : decode cX7_meaning 57 = .ok (.iinc 6 (-1), 3) := by decide +kernel
theorem dX7_meaning_60 : decode cX7_meaning 60 = .ok (.iinc 7 1, 3) := by decide +kernel
theorem dX7_meaning_63 : decode cX7_meaning 63 = .ok (.goto (-36), 3) := by decide +kernel
theorem dX7_meaning_66 : decode cX7_meaning 66 = .ok (.iconst (-1), 1) := by decide +kernel
theorem dX7_meaning_67 : decode cX7_meaning 67 = .ok (.ireturn, 1) := by decide +kernel
theorem dX7_mat_0 : decode cX7_mat 0 = .ok (.iload_n 1, 1) := by decide +kernel
theorem dX7_mat_1 : decode cX7_mat 1 = .ok (.iconst 1, 1) := by decide +kernel
theorem dX7_mat_2 : decode cX7_mat 2 = .ok (.bipush 40, 2) := by decide +kernel
theorem dX7_mat_4 : decode cX7_mat 4 = .ok (.invokestatic 75, 3) := by decide +kernel
theorem dX7_mat_7 : decode cX7_mat 7 = .ok (.ifCond .ne 6, 3) := by decide +kernel
theorem dX7_mat_10 : decode cX7_mat 10 = .ok (.bipush (-2), 2) := by decide +kernel
theorem dX7_mat_12 : decode cX7_mat 12 = .ok (.ireturn, 1) := by decide +kernel
theorem dX7_mat_13 : decode cX7_mat 13 = .ok (.aload_n 0, 1) := by decide +kernel
theorem dX7_mat_14 : decode cX7_mat 14 = .ok (.getfield 23, 3) := by decide +kernel
theorem dX7_mat_17 : decode cX7_mat 17 = .ok (.istore_n 2, 1) := by decide +kernel
theorem dX7_mat_18 : decode cX7_mat 18 = .ok (.aload_n 0, 1) := by decide +kernel
theorem dX7_mat_19 : decode cX7_mat 19 = .ok (.iload_n 1, 1) := by decide +kernel
theorem dX7_mat_20 : decode cX7_mat 20 = .ok (.putfield 23, 3) := by decide +kernel
theorem dX7_mat_23 : decode cX7_mat 23 = .ok (.iload_n 2, 1) := by decide +kernel
theorem dX7_mat_24 : decode cX7_mat 24 = .ok (.ireturn, 1) := by decide +kernel
theorem dX7_clueMore_0 : decode cX7_clueMore 0 = .ok (.aload_n 0, 1) := by decide +kernel
theorem dX7_clueMore_1 : decode cX7_clueMore 1 = .ok (.getfield 126, 3) := by decide +kernel
theorem dX7_clueMore_4 : decode cX7_clueMore 4 = .ok (.bipush 8, 2) := by decide +kernel
theorem dX7_clueMore_6 : decode cX7_clueMore 6 = .ok (.if_icmp .ne 6, 3) := by decide +kernel
theorem dX7_clueMore_9 : decode cX7_clueMore 9 = .ok (.bipush (-4), 2) := by decide +kernel
theorem dX7_clueMore_11 : decode cX7_clueMore 11 = .ok (.ireturn, 1) := by decide +kernel
theorem dX7_clueMore_12 : decode cX7_clueMore 12 = .ok (.bipush 6, 2) := by decide +kernel
theorem dX7_clueMore_14 : decode cX7_clueMore 14 = .ok (.aload_n 0, 1) := by decide +kernel
theorem dX7_clueMore_15 : decode cX7_clueMore 15 = .ok (.getfield 126, 3) := by decide +kernel
theorem dX7_clueMore_18 : decode cX7_clueMore 18 = .ok (.imul, 1) := by decide +kernel
theorem dX7_clueMore_19 : decode cX7_clueMore 19 = .ok (.istore 7, 2) := by decide +kernel
theorem dX7_clueMore_21 : decode cX7_clueMore 21 = .ok (.aload_n 0, 1) := by decide +kernel
theorem dX7_clueMore_22 : decode cX7_clueMore 22 = .ok (.getfield 27, 3) := by decide +kernel
theorem dX7_clueMore_25 : decode cX7_clueMore 25 = .ok (.iload 7, 2) := by decide +kernel
theorem dX7_clueMore_27 : decode cX7_clueMore 27 = .ok (.iload_n 1, 1) := by decide +kernel
theorem dX7_clueMore_28 : decode cX7_clueMore 28 = .ok (.iastore, 1) := by decide +kernel
theorem dX7_clueMore_29 : decode cX7_clueMore 29 = .ok (.aload_n 0, 1) := by decide +kernel
theorem dX7_clueMore_30 : decode cX7_clueMore 30 = .ok (.getfield 27, 3) := by decide +kernel
theorem dX7_clueMore_33 : decode cX7_clueMore 33 = .ok (.iload 7, 2) := by decide +kernel
theorem dX7_clueMore_35 : decode cX7_clueMore 35 = .ok (.iconst 1, 1) := by decide +kernel
theorem dX7_clueMore_36 : decode cX7_clueMore 36 = .ok (.iadd, 1) := by decide +kernel
theorem dX7_clueMore_37 : decode cX7_clueMore 37 = .ok (.iload_n 2, 1) := by decide +kernel
theorem dX7_clueMore_38 : decode cX7_clueMore 38 = .ok (.iastore, 1) := by decide +kernel
theorem dX7_clueMore_39 : decode cX7_clueMore 39 = .ok (.aload_n 0, 1) := by decide +kernel
theorem dX7_clueMore_40 : decode cX7_clueMore 40 = .ok (.getfield 27, 3) := by decide +kernel
theorem dX7_clueMore_43 : decode cX7_clueMore 43 = .ok (.iload 7, 2) := by decide +kernel
theorem dX7_clueMore_45 : decode cX7_clueMore 45 = .ok (.iconst 2, 1) := by decide +kernel
theorem dX7_clueMore_46 : decode cX7_clueMore 46 = .ok (.iadd, 1) := by decide +kernel
theorem dX7_clueMore_47 : decode cX7_clueMore 47 = .ok (.iload_n 3, 1) := by decide +kernel
theorem dX7_clueMore_48 : decode cX7_clueMore 48 = .ok (.iastore, 1) := by decide +kernel
theorem dX7_clueMore_49 : decode cX7_clueMore 49 = .ok (.aload_n 0, 1) := by decide +kernel
theorem dX7_clueMore_50 : decode cX7_clueMore 50 = .ok (.getfield 27, 3) := by decide +kernel
theorem dX7_clueMore_53 : decode cX7_clueMore 53 = .ok (.iload 7, 2) := by decide +kernel
theorem dX7_clueMore_55 : decode cX7_clueMore 55 = .ok (.iconst 3, 1) := by decide +kernel
theorem dX7_clueMore_56 : decode cX7_clueMore 56 = .ok (.iadd, 1) := by decide +kernel
theorem dX7_clueMore_57 : decode cX7_clueMore 57 = .ok (.iload 4, 2) := by decide +kernel
theorem dX7_clueMore_59 : decode cX7_clueMore 59 = .ok (.iastore, 1) := by decide +kernel
theorem dX7_clueMore_60 : decode cX7_clueMore 60 = .ok (.aload_n 0, 1) := by decide +kernel
theorem dX7_clueMore_61 : decode cX7_clueMore 61 = .ok (.getfield 27, 3) := by decide +kernel
theorem dX7_clueMore_64 : decode cX7_clueMore 64 = .ok (.iload 7, 2) := by decide +kernel
theorem dX7_clueMore_66 : decode cX7_clueMore 66 = .ok (.iconst 4, 1) := by decide +kernel
theorem dX7_clueMore_67 : decode cX7_clueMore 67 = .ok (.iadd, 1) := by decide +kernel
theorem dX7_clueMore_68 : decode cX7_clueMore 68 = .ok (.iload 5, 2) := by decide +kernel
theorem dX7_clueMore_70 : decode cX7_clueMore 70 = .ok (.iastore, 1) := by decide +kernel
theorem dX7_clueMore_71 : decode cX7_clueMore 71 = .ok (.aload_n 0, 1) := by decide +kernel
theorem dX7_clueMore_72 : decode cX7_clueMore 72 = .ok (.getfield 27, 3) := by decide +kernel
theorem dX7_clueMore_75 : decode cX7_clueMore 75 = .ok (.iload 7, 2) := by decide +kernel
theorem dX7_clueMore_77 : decode cX7_clueMore 77 = .ok (.iconst 5, 1) := by decide +kernel
theorem dX7_clueMore_78 : decode cX7_clueMore 78 = .ok (.iadd, 1) := by decide +kernel
theorem dX7_clueMore_79 : decode cX7_clueMore 79 = .ok (.iload 6, 2) := by decide +kernel
theorem dX7_clueMore_81 : decode cX7_clueMore 81 = .ok (.iastore, 1) := by decide +kernel
theorem dX7_clueMore_82 : decode cX7_clueMore 82 = .ok (.aload_n 0, 1) := by decide +kernel
theorem dX7_clueMore_83 : decode cX7_clueMore 83 = .ok (.dup, 1) := by decide +kernel
theorem dX7_clueMore_84 : decode cX7_clueMore 84 = .ok (.getfield 126, 3) := by decide +kernel
theorem dX7_clueMore_87 : decode cX7_clueMore 87 = .ok (.iconst 1, 1) := by decide +kernel
theorem dX7_clueMore_88 : decode cX7_clueMore 88 = .ok (.iadd, 1) := by decide +kernel
theorem dX7_clueMore_89 : decode cX7_clueMore 89 = .ok (.putfield 126, 3) := by decide +kernel
theorem dX7_clueMore_92 : decode cX7_clueMore 92 = .ok (.aload_n 0, 1) := by decide +kernel
theorem dX7_clueMore_93 : decode cX7_clueMore 93 = .ok (.getfield 126, 3) := by decide +kernel
theorem dX7_clueMore_96 : decode cX7_clueMore 96 = .ok (.ireturn, 1) := by decide +kernel
theorem dX7_isUnknown_0 : decode cX7_isUnknown 0 = .ok (.iload_n 0, 1) := by decide +kernel
theorem dX7_isUnknown_1 : decode cX7_isUnknown 1 = .ok (.iconst 0, 1) := by decide +kernel
theorem dX7_isUnknown_2 : decode cX7_isUnknown 2 = .ok (.iconst 2, 1) := by decide +kernel
theorem dX7_isUnknown_3 : decode cX7_isUnknown 3 = .ok (.invokestatic 75, 3) := by decide +kernel
theorem dX7_isUnknown_6 : decode cX7_isUnknown 6 = .ok (.ireturn, 1) := by decide +kernel
theorem dX7_clue_0 : decode cX7_clue 0 = .ok (.iload_n 1, 1) := by decide +kernel
theorem dX7_clue_1 : decode cX7_clue 1 = .ok (.invokestatic 129, 3) := by decide +kernel
theorem dX7_clue_4 : decode cX7_clue 4 = .ok (.ifCond .eq 31, 3) := by decide +kernel
theorem dX7_clue_7 : decode cX7_clue 7 = .ok (.aload_n 0, 1) := by decide +kernel
theorem dX7_clue_8 : decode cX7_clue 8 = .ok (.iload_n 2, 1) := by decide +kernel
theorem dX7_clue_9 : decode cX7_clue 9 = .ok (.iload_n 3, 1) := by decide +kernel
theorem dX7_clue_10 : decode cX7_clue 10 = .ok (.iload 4, 2) := by decide +kernel
theorem dX7_clue_12 : decode cX7_clue 12 = .ok (.iload 5, 2) := by decide +kernel
theorem dX7_clue_14 : decode cX7_clue 14 = .ok (.invokevirtual 118, 3) := by decide +kernel
theorem dX7_clue_17 : decode cX7_clue 17 = .ok (.ifCond .eq 18, 3) := by decide +kernel
theorem dX7_clue_20 : decode cX7_clue 20 = .ok (.aload_n 0, 1) := by decide +kernel
theorem dX7_clue_21 : decode cX7_clue 21 = .ok (.iconst 0, 1) := by decide +kernel
theorem dX7_clue_22 : decode cX7_clue 22 = .ok (.iload_n 1, 1) := by decide +kernel
theorem dX7_clue_23 : decode cX7_clue 23 = .ok (.iload_n 2, 1) := by decide +kernel
theorem dX7_clue_24 : decode cX7_clue 24 = .ok (.iload_n 3, 1) := by decide +kernel
theorem dX7_clue_25 : decode cX7_clue 25 = .ok (.iload 4, 2) := by decide +kernel
theorem dX7_clue_27 : decode cX7_clue 27 = .ok (.iload 5, 2) := by decide +kernel
theorem dX7_clue_29 : decode cX7_clue 29 = .ok (.invokevirtual 132, 3) := by decide +kernel
theorem dX7_clue_32 : decode cX7_clue 32 = .ok (.goto 5, 3) := by decide +kernel
theorem dX7_clue_35 : decode cX7_clue 35 = .ok (.bipush (-2), 2) := by decide +kernel
theorem dX7_clue_37 : decode cX7_clue 37 = .ok (.ireturn, 1) := by decide +kernel
theorem dX7_sum_0 : decode cX7_sum 0 = .ok (.iload_n 1, 1) := by decide +kernel
theorem dX7_sum_1 : decode cX7_sum 1 = .ok (.invokestatic 129, 3) := by decide +kernel
theorem dX7_sum_4 : decode cX7_sum 4 = .ok (.ifCond .eq 30, 3) := by decide +kernel
theorem dX7_sum_7 : decode cX7_sum 7 = .ok (.iload_n 2, 1) := by decide +kernel
theorem dX7_sum_8 : decode cX7_sum 8 = .ok (.invokestatic 129, 3) := by decide +kernel
theorem dX7_sum_11 : decode cX7_sum 11 = .ok (.ifCond .eq 23, 3) := by decide +kernel
theorem dX7_sum_14 : decode cX7_sum 14 = .ok (.iload_n 3, 1) := by decide +kernel
theorem dX7_sum_15 : decode cX7_sum 15 = .ok (.invokestatic 129, 3) := by decide +kernel
theorem dX7_sum_18 : decode cX7_sum 18 = .ok (.ifCond .eq 16, 3) := by decide +kernel
theorem dX7_sum_21 : decode cX7_sum 21 = .ok (.aload_n 0, 1) := by decide +kernel
theorem dX7_sum_22 : decode cX7_sum 22 = .ok (.iconst 1, 1) := by decide +kernel
theorem dX7_sum_23 : decode cX7_sum 23 = .ok (.iload_n 1, 1) := by decide +kernel
theorem dX7_sum_24 : decode cX7_sum 24 = .ok (.iload_n 2, 1) := by decide +kernel
theorem dX7_sum_25 : decode cX7_sum 25 = .ok (.iload_n 3, 1) := by decide +kernel
theorem dX7_sum_26 : decode cX7_sum 26 = .ok (.iconst 0, 1) := by decide +kernel
theorem dX7_sum_27 : decode cX7_sum 27 = .ok (.iconst 0, 1) := by decide +kernel
theorem dX7_sum_28 : decode cX7_sum 28 = .ok (.invokevirtual 132, 3) := by decide +kernel
theorem dX7_sum_31 : decode cX7_sum 31 = .ok (.goto 5, 3) := by decide +kernel
theorem dX7_sum_34 : decode cX7_sum 34 = .ok (.bipush (-2), 2) := by decide +kernel
theorem dX7_sum_36 : decode cX7_sum 36 = .ok (.ireturn, 1) := by decide +kernel
theorem dX7_less_0 : decode cX7_less 0 = .ok (.iload_n 1, 1) := by decide +kernel
theorem dX7_less_1 : decode cX7_less 1 = .ok (.invokestatic 129, 3) := by decide +kernel
theorem dX7_less_4 : decode cX7_less 4 = .ok (.ifCond .eq 28, 3) := by decide +kernel
theorem dX7_less_7 : decode cX7_less 7 = .ok (.iload_n 2, 1) := by decide +kernel
theorem dX7_less_8 : decode cX7_less 8 = .ok (.invokestatic 129, 3) := by decide +kernel
theorem dX7_less_11 : decode cX7_less 11 = .ok (.ifCond .eq 21, 3) := by decide +kernel
theorem dX7_less_14 : decode cX7_less 14 = .ok (.iload_n 1, 1) := by decide +kernel
theorem dX7_less_15 : decode cX7_less 15 = .ok (.iload_n 2, 1) := by decide +kernel
theorem dX7_less_16 : decode cX7_less 16 = .ok (.if_icmp .eq 16, 3) := by decide +kernel
theorem dX7_less_19 : decode cX7_less 19 = .ok (.aload_n 0, 1) := by decide +kernel
theorem dX7_less_20 : decode cX7_less 20 = .ok (.iconst 2, 1) := by decide +kernel
theorem dX7_less_21 : decode cX7_less 21 = .ok (.iload_n 1, 1) := by decide +kernel
theorem dX7_less_22 : decode cX7_less 22 = .ok (.iload_n 2, 1) := by decide +kernel
theorem dX7_less_23 : decode cX7_less 23 = .ok (.iconst 0, 1) := by decide +kernel
theorem dX7_less_24 : decode cX7_less 24 = .ok (.iconst 0, 1) := by decide +kernel
theorem dX7_less_25 : decode cX7_less 25 = .ok (.iconst 0, 1) := by decide +kernel
theorem dX7_less_26 : decode cX7_less 26 = .ok (.invokevirtual 132, 3) := by decide +kernel
theorem dX7_less_29 : decode cX7_less 29 = .ok (.goto 5, 3) := by decide +kernel
theorem dX7_less_32 : decode cX7_less 32 = .ok (.bipush (-2), 2) := by decide +kernel
theorem dX7_less_34 : decode cX7_less 34 = .ok (.ireturn, 1) := by decide +kernel
theorem dX7_mats_0 : decode cX7_mats 0 = .ok (.iload_n 1, 1) := by decide +kernel
theorem dX7_mats_1 : decode cX7_mats 1 = .ok (.invokestatic 129, 3) := by decide +kernel
theorem dX7_mats_4 : decode cX7_mats 4 = .ok (.ifCond .eq 35, 3) := by decide +kernel
theorem dX7_mats_7 : decode cX7_mats 7 = .ok (.iload_n 2, 1) := by decide +kernel
theorem dX7_mats_8 : decode cX7_mats 8 = .ok (.iconst 1, 1) := by decide +kernel
theorem dX7_mats_9 : decode cX7_mats 9 = .ok (.iload_n 3, 1) := by decide +kernel
theorem dX7_mats_10 : decode cX7_mats 10 = .ok (.invokestatic 75, 3) := by decide +kernel
theorem dX7_mats_13 : decode cX7_mats 13 = .ok (.ifCond .eq 26, 3) := by decide +kernel
theorem dX7_mats_16 : decode cX7_mats 16 = .ok (.iload_n 3, 1) := by decide +kernel
theorem dX7_mats_17 : decode cX7_mats 17 = .ok (.iconst 1, 1) := by decide +kernel
theorem dX7_mats_18 : decode cX7_mats 18 = .ok (.bipush 40, 2) := by decide +kernel
theorem dX7_mats_20 : decode cX7_mats 20 = .ok (.invokestatic 75, 3) := by decide +kernel
theorem dX7_mats_23 : decode cX7_mats 23 = .ok (.ifCond .eq 16, 3) := by decide +kernel
theorem dX7_mats_26 : decode cX7_mats 26 = .ok (.aload_n 0, 1) := by decide +kernel
theorem dX7_mats_27 : decode cX7_mats 27 = .ok (.iconst 3, 1) := by decide +kernel
theorem dX7_mats_28 : decode cX7_mats 28 = .ok (.iload_n 1, 1) := by decide +kernel
theorem dX7_mats_29 : decode cX7_mats 29 = .ok (.iload_n 2, 1) := by decide +kernel
theorem dX7_mats_30 : decode cX7_mats 30 = .ok (.iload_n 3, 1) := by decide +kernel
theorem dX7_mats_31 : decode cX7_mats 31 = .ok (.iconst 0, 1) := by decide +kernel
theorem dX7_mats_32 : decode cX7_mats 32 = .ok (.iconst 0, 1) := by decide +kernel
theorem dX7_mats_33 : decode cX7_mats 33 = .ok (.invokevirtual 132, 3) := by decide +kernel
theorem dX7_mats_36 : decode cX7_mats 36 = .ok (.goto 5, 3) := by decide +kernel
theorem dX7_mats_39 : decode cX7_mats 39 = .ok (.bipush (-2), 2) := by decide +kernel
theorem dX7_mats_41 : decode cX7_mats 41 = .ok (.ireturn, 1) := by decide +kernel
theorem dX7_forget_0 : decode cX7_forget 0 = .ok (.aload_n 0, 1) := by decide +kernel
theorem dX7_forget_1 : decode cX7_forget 1 = .ok (.getfield 126, 3) := by decide +kernel
theorem dX7_forget_4 : decode cX7_forget 4 = .ok (.istore_n 1, 1) := by decide +kernel
theorem dX7_forget_5 : decode cX7_forget 5 = .ok (.aload_n 0, 1) := by decide +kernel
theorem dX7_forget_6 : decode cX7_forget 6 = .ok (.iconst 0, 1) := by decide +kernel
theorem dX7_forget_7 : decode cX7_forget 7 = .ok (.putfield 126, 3) := by decide +kernel
theorem dX7_forget_10 : decode cX7_forget 10 = .ok (.iload_n 1, 1) := by decide +kernel
theorem dX7_forget_11 : decode cX7_forget 11 = .ok (.ireturn, 1) := by decide +kernel
theorem dX7_holds_0 : decode cX7_holds 0 = .ok (.bipush 6, 2) := by decide +kernel
theorem dX7_holds_2 : decode cX7_holds 2 = .ok (.iload_n 1, 1) := by decide +kernel
theorem dX7_holds_3 : decode cX7_holds 3 = .ok (.imul, 1) := by decide +kernel
theorem dX7_holds_4 : decode cX7_holds 4 = .ok (.istore_n 2, 1) := by decide +kernel
theorem dX7_holds_5 : decode cX7_holds 5 = .ok (.aload_n 0, 1) := by decide +kernel
theorem dX7_holds_6 : decode cX7_holds 6 = .ok (.getfield 30, 3) := by decide +kernel
theorem dX7_holds_9 : decode cX7_holds 9 = .ok (.aload_n 0, 1) := by decide +kernel
theorem dX7_holds_10 : decode cX7_holds 10 = .ok (.getfield 27, 3) := by decide +kernel
theorem dX7_holds_13 : decode cX7_holds 13 = .ok (.iload_n 2, 1) := by decide +kernel
theorem dX7_holds_14 : decode cX7_holds 14 = .ok (.iconst 1, 1) := by decide +kernel
theorem dX7_holds_15 : decode cX7_holds 15 = .ok (.iadd, 1) := by decide +kernel
theorem dX7_holds_16 : decode cX7_holds 16 = .ok (.iaload, 1) := by decide +kernel
theorem dX7_holds_17 : decode cX7_holds 17 = .ok (.iaload, 1) := by decide +kernel
theorem dX7_holds_18 : decode cX7_holds 18 = .ok (.istore_n 3, 1) := by decide +kernel
theorem dX7_holds_19 : decode cX7_holds 19 = .ok (.aload_n 0, 1) := by decide +kernel
theorem dX7_holds_20 : decode cX7_holds 20 = .ok (.getfield 27, 3) := by decide +kernel
theorem dX7_holds_23 : decode cX7_holds 23 = .ok (.iload_n 2, 1) := by decide +kernel
theorem dX7_holds_24 : decode cX7_holds 24 = .ok (.iaload, 1) := by decide +kernel
theorem dX7_holds_25 : decode cX7_holds 25 = .ok (.tableswitch 125 0 2 #[27, 65, 102], 27) := by decide +kernel
theorem dX7_holds_52 : decode cX7_holds 52 = .ok (.aload_n 0, 1) := by decide +kernel
theorem dX7_holds_53 : decode cX7_holds 53 = .ok (.aload_n 0, 1) := by decide +kernel
theorem dX7_holds_54 : decode cX7_holds 54 = .ok (.getfield 27, 3) := by decide +kernel
theorem dX7_holds_57 : decode cX7_holds 57 = .ok (.iload_n 2, 1) := by decide +kernel
theorem dX7_holds_58 : decode cX7_holds 58 = .ok (.iconst 2, 1) := by decide +kernel
theorem dX7_holds_59 : decode cX7_holds 59 = .ok (.iadd, 1) := by decide +kernel
theorem dX7_holds_60 : decode cX7_holds 60 = .ok (.iaload, 1) := by decide +kernel
theorem dX7_holds_61 : decode cX7_holds 61 = .ok (.aload_n 0, 1) := by decide +kernel
theorem dX7_holds_62 : decode cX7_holds 62 = .ok (.getfield 27, 3) := by decide +kernel
theorem dX7_holds_65 : decode cX7_holds 65 = .ok (.iload_n 2, 1) := by decide +kernel
theorem dX7_holds_66 : decode cX7_holds 66 = .ok (.iconst 3, 1) := by decide +kernel
theorem dX7_holds_67 : decode cX7_holds 67 = .ok (.iadd, 1) := by decide +kernel
theorem dX7_holds_68 : decode cX7_holds 68 = .ok (.iaload, 1) := by decide +kernel
theorem dX7_holds_69 : decode cX7_holds 69 = .ok (.aload_n 0, 1) := by decide +kernel
theorem dX7_holds_70 : decode cX7_holds 70 = .ok (.getfield 27, 3) := by decide +kernel
theorem dX7_holds_73 : decode cX7_holds 73 = .ok (.iload_n 2, 1) := by decide +kernel
theorem dX7_holds_74 : decode cX7_holds 74 = .ok (.iconst 4, 1) := by decide +kernel
theorem dX7_holds_75 : decode cX7_holds 75 = .ok (.iadd, 1) := by decide +kernel
theorem dX7_holds_76 : decode cX7_holds 76 = .ok (.iaload, 1) := by decide +kernel
theorem dX7_holds_77 : decode cX7_holds 77 = .ok (.aload_n 0, 1) := by decide +kernel
theorem dX7_holds_78 : decode cX7_holds 78 = .ok (.getfield 27, 3) := by decide +kernel
theorem dX7_holds_81 : decode cX7_holds 81 = .ok (.iload_n 2, 1) := by decide +kernel
theorem dX7_holds_82 : decode cX7_holds 82 = .ok (.iconst 5, 1) := by decide +kernel
theorem dX7_holds_83 : decode cX7_holds 83 = .ok (.iadd, 1) := by decide +kernel
theorem dX7_holds_84 : decode cX7_holds 84 = .ok (.iaload, 1) := by decide +kernel
theorem dX7_holds_85 : decode cX7_holds 85 = .ok (.iload_n 3, 1) := by decide +kernel
theorem dX7_holds_86 : decode cX7_holds 86 = .ok (.invokevirtual 122, 3) := by decide +kernel
theorem dX7_holds_89 : decode cX7_holds 89 = .ok (.ireturn, 1) := by decide +kernel
theorem dX7_holds_90 : decode cX7_holds 90 = .ok (.iload_n 3, 1) := by decide +kernel
theorem dX7_holds_91 : decode cX7_holds 91 = .ok (.aload_n 0, 1) := by decide +kernel
theorem dX7_holds_92 : decode cX7_holds 92 = .ok (.getfield 30, 3) := by decide +kernel
theorem dX7_holds_95 : decode cX7_holds 95 = .ok (.aload_n 0, 1) := by decide +kernel
theorem dX7_holds_96 : decode cX7_holds 96 = .ok (.getfield 27, 3) := by decide +kernel
theorem dX7_holds_99 : decode cX7_holds 99 = .ok (.iload_n 2, 1) := by decide +kernel
theorem dX7_holds_100 : decode cX7_holds 100 = .ok (.iconst 2, 1) := by decide +kernel
theorem dX7_holds_101 : decode cX7_holds 101 = .ok (.iadd, 1) := by decide +kernel
theorem dX7_holds_102 : decode cX7_holds 102 = .ok (.iaload, 1) := by decide +kernel
theorem dX7_holds_103 : decode cX7_holds 103 = .ok (.iaload, 1) := by decide +kernel
theorem dX7_holds_104 : decode cX7_holds 104 = .ok (.iadd, 1) := by decide +kernel
theorem dX7_holds_105 : decode cX7_holds 105 = .ok (.aload_n 0, 1) := by decide +kernel
theorem dX7_holds_106 : decode cX7_holds 106 = .ok (.getfield 30, 3) := by decide +kernel
theorem dX7_holds_109 : decode cX7_holds 109 = .ok (.aload_n 0, 1) := by decide +kernel
theorem dX7_holds_110 : decode cX7_holds 110 = .ok (.getfield 27, 3) := by decide +kernel
theorem dX7_holds_113 : decode cX7_holds 113 = .ok (.iload_n 2, 1) := by decide +kernel
theorem dX7_holds_114 : decode cX7_holds 114 = .ok (.iconst 3, 1) := by decide +kernel
theorem dX7_holds_115 : decode cX7_holds 115 = .ok (.iadd, 1) := by decide +kernel
theorem dX7_holds_116 : decode cX7_holds 116 = .ok (.iaload, 1) := by decide +kernel
theorem dX7_holds_117 : decode cX7_holds 117 = .ok (.iaload, 1) := by decide +kernel
theorem dX7_holds_118 : decode cX7_holds 118 = .ok (.if_icmp .ne 7, 3) := by decide +kernel
theorem dX7_holds_121 : decode cX7_holds 121 = .ok (.iconst 1, 1) := by decide +kernel
theorem dX7_holds_122 : decode cX7_holds 122 = .ok (.goto 4, 3) := by decide +kernel
theorem dX7_holds_125 : decode cX7_holds 125 = .ok (.iconst 0, 1) := by decide +kernel
theorem dX7_holds_126 : decode cX7_holds 126 = .ok (.ireturn, 1) := by decide +kernel
theorem dX7_holds_127 : decode cX7_holds 127 = .ok (.iload_n 3, 1) := by decide +kernel
theorem dX7_holds_128 : decode cX7_holds 128 = .ok (.aload_n 0, 1) := by decide +kernel
theorem dX7_holds_129 : decode cX7_holds 129 = .ok (.getfield 30, 3) := by decide +kernel
theorem dX7_holds_132 : decode cX7_holds 132 = .ok (.aload_n 0, 1) := by decide +kernel
theorem dX7_holds_133 : decode cX7_holds 133 = .ok (.getfield 27, 3) := by decide +kernel
theorem dX7_holds_136 : decode cX7_holds 136 = .ok (.iload_n 2, 1) := by decide +kernel
theorem dX7_holds_137 : decode cX7_holds 137 = .ok (.iconst 2, 1) := by decide +kernel
theorem dX7_holds_138 : decode cX7_holds 138 = .ok (.iadd, 1) := by decide +kernel
theorem dX7_holds_139 : decode cX7_holds 139 = .ok (.iaload, 1) := by decide +kernel
theorem dX7_holds_140 : decode cX7_holds 140 = .ok (.iaload, 1) := by decide +kernel
theorem dX7_holds_141 : decode cX7_holds 141 = .ok (.if_icmp .ge 7, 3) := by decide +kernel
theorem dX7_holds_144 : decode cX7_holds 144 = .ok (.iconst 1, 1) := by decide +kernel
theorem dX7_holds_145 : decode cX7_holds 145 = .ok (.goto 4, 3) := by decide +kernel
theorem dX7_holds_148 : decode cX7_holds 148 = .ok (.iconst 0, 1) := by decide +kernel
theorem dX7_holds_149 : decode cX7_holds 149 = .ok (.ireturn, 1) := by decide +kernel
theorem dX7_holds_150 : decode cX7_holds 150 = .ok (.iload_n 3, 1) := by decide +kernel
theorem dX7_holds_151 : decode cX7_holds 151 = .ok (.aload_n 0, 1) := by decide +kernel
theorem dX7_holds_152 : decode cX7_holds 152 = .ok (.getfield 27, 3) := by decide +kernel
theorem dX7_holds_155 : decode cX7_holds 155 = .ok (.iload_n 2, 1) := by decide +kernel
theorem dX7_holds_156 : decode cX7_holds 156 = .ok (.iconst 2, 1) := by decide +kernel
theorem dX7_holds_157 : decode cX7_holds 157 = .ok (.iadd, 1) := by decide +kernel
theorem dX7_holds_158 : decode cX7_holds 158 = .ok (.iaload, 1) := by decide +kernel
theorem dX7_holds_159 : decode cX7_holds 159 = .ok (.aload_n 0, 1) := by decide +kernel
theorem dX7_holds_160 : decode cX7_holds 160 = .ok (.getfield 27, 3) := by decide +kernel
theorem dX7_holds_163 : decode cX7_holds 163 = .ok (.iload_n 2, 1) := by decide +kernel
theorem dX7_holds_164 : decode cX7_holds 164 = .ok (.iconst 3, 1) := by decide +kernel
theorem dX7_holds_165 : decode cX7_holds 165 = .ok (.iadd, 1) := by decide +kernel
theorem dX7_holds_166 : decode cX7_holds 166 = .ok (.iaload, 1) := by decide +kernel
theorem dX7_holds_167 : decode cX7_holds 167 = .ok (.invokestatic 75, 3) := by decide +kernel
theorem dX7_holds_170 : decode cX7_holds 170 = .ok (.ireturn, 1) := by decide +kernel
theorem dX7_holding_0 : decode cX7_holding 0 = .ok (.iconst 0, 1) := by decide +kernel
theorem dX7_holding_1 : decode cX7_holding 1 = .ok (.istore_n 1, 1) := by decide +kernel
theorem dX7_holding_2 : decode cX7_holding 2 = .ok (.iconst 0, 1) := by decide +kernel
theorem dX7_holding_3 : decode cX7_holding 3 = .ok (.istore_n 2, 1) := by decide +kernel
theorem dX7_holding_4 : decode cX7_holding 4 = .ok (.iload_n 2, 1) := by decide +kernel
theorem dX7_holding_5 : decode cX7_holding 5 = .ok (.aload_n 0, 1) := by decide +kernel
theorem dX7_holding_6 : decode cX7_holding 6 = .ok (.getfield 126, 3) := by decide +kernel
theorem dX7_holding_9 : decode cX7_holding 9 = .ok (.if_icmp .ge 27, 3) := by decide +kernel
theorem dX7_holding_12 : decode cX7_holding 12 = .ok (.iload_n 1, 1) := by decide +kernel
theorem dX7_holding_13 : decode cX7_holding 13 = .ok (.aload_n 0, 1) := by decide +kernel
theorem dX7_holding_14 : decode cX7_holding 14 = .ok (.iload_n 2, 1) := by decide +kernel
theorem dX7_holding_15 : decode cX7_holding 15 = .ok (.invokevirtual 136, 3) := by decide +kernel
theorem dX7_holding_18 : decode cX7_holding 18 = .ok (.ifCond .eq 9, 3) := by decide +kernel
theorem dX7_holding_21 : decode cX7_holding 21 = .ok (.iconst 1, 1) := by decide +kernel
theorem dX7_holding_22 : decode cX7_holding 22 = .ok (.iload_n 2, 1) := by decide +kernel
theorem dX7_holding_23 : decode cX7_holding 23 = .ok (.ishl, 1) := by decide +kernel
theorem dX7_holding_24 : decode cX7_holding 24 = .ok (.goto 4, 3) := by decide +kernel
theorem dX7_holding_27 : decode cX7_holding 27 = .ok (.iconst 0, 1) := by decide +kernel
theorem dX7_holding_28 : decode cX7_holding 28 = .ok (.ior, 1) := by decide +kernel
theorem dX7_holding_29 : decode cX7_holding 29 = .ok (.istore_n 1, 1) := by decide +kernel
theorem dX7_holding_30 : decode cX7_holding 30 = .ok (.iinc 2 1, 3) := by decide +kernel
theorem dX7_holding_33 : decode cX7_holding 33 = .ok (.goto (-29), 3) := by decide +kernel
theorem dX7_holding_36 : decode cX7_holding 36 = .ok (.iload_n 1, 1) := by decide +kernel
theorem dX7_holding_37 : decode cX7_holding 37 = .ok (.ireturn, 1) := by decide +kernel
theorem dX7_tryOut_0 : decode cX7_tryOut 0 = .ok (.aload_n 0, 1) := by decide +kernel
theorem dX7_tryOut_1 : decode cX7_tryOut 1 = .ok (.getfield 30, 3) := by decide +kernel
theorem dX7_tryOut_4 : decode cX7_tryOut 4 = .ok (.iconst 0, 1) := by decide +kernel
theorem dX7_tryOut_5 : decode cX7_tryOut 5 = .ok (.iconst 1, 1) := by decide +kernel
theorem dX7_tryOut_6 : decode cX7_tryOut 6 = .ok (.iload_n 1, 1) := by decide +kernel
theorem dX7_tryOut_7 : decode cX7_tryOut 7 = .ok (.aload_n 0, 1) := by decide +kernel
theorem dX7_tryOut_8 : decode cX7_tryOut 8 = .ok (.getfield 23, 3) := by decide +kernel
theorem dX7_tryOut_11 : decode cX7_tryOut 11 = .ok (.idiv, 1) := by decide +kernel
theorem dX7_tryOut_12 : decode cX7_tryOut 12 = .ok (.aload_n 0, 1) := by decide +kernel
theorem dX7_tryOut_13 : decode cX7_tryOut 13 = .ok (.getfield 23, 3) := by decide +kernel
theorem dX7_tryOut_16 : decode cX7_tryOut 16 = .ok (.idiv, 1) := by decide +kernel
theorem dX7_tryOut_17 : decode cX7_tryOut 17 = .ok (.iadd, 1) := by decide +kernel
theorem dX7_tryOut_18 : decode cX7_tryOut 18 = .ok (.iastore, 1) := by decide +kernel
theorem dX7_tryOut_19 : decode cX7_tryOut 19 = .ok (.aload_n 0, 1) := by decide +kernel
theorem dX7_tryOut_20 : decode cX7_tryOut 20 = .ok (.getfield 30, 3) := by decide +kernel
theorem dX7_tryOut_23 : decode cX7_tryOut 23 = .ok (.iconst 1, 1) := by decide +kernel
theorem dX7_tryOut_24 : decode cX7_tryOut 24 = .ok (.iconst 1, 1) := by decide +kernel
theorem dX7_tryOut_25 : decode cX7_tryOut 25 = .ok (.iload_n 1, 1) := by decide +kernel
theorem dX7_tryOut_26 : decode cX7_tryOut 26 = .ok (.aload_n 0, 1) := by decide +kernel
theorem dX7_tryOut_27 : decode cX7_tryOut 27 = .ok (.getfield 23, 3) := by decide +kernel
theorem dX7_tryOut_30 : decode cX7_tryOut 30 = .ok (.idiv, 1) := by decide +kernel
theorem dX7_tryOut_31 : decode cX7_tryOut 31 = .ok (.aload_n 0, 1) := by decide +kernel
theorem dX7_tryOut_32 : decode cX7_tryOut 32 = .ok (.getfield 23, 3) := by decide +kernel
theorem dX7_tryOut_35 : decode cX7_tryOut 35 = .ok (.irem, 1) := by decide +kernel
theorem dX7_tryOut_36 : decode cX7_tryOut 36 = .ok (.iadd, 1) := by decide +kernel
theorem dX7_tryOut_37 : decode cX7_tryOut 37 = .ok (.iastore, 1) := by decide +kernel
theorem dX7_tryOut_38 : decode cX7_tryOut 38 = .ok (.aload_n 0, 1) := by decide +kernel
theorem dX7_tryOut_39 : decode cX7_tryOut 39 = .ok (.getfield 30, 3) := by decide +kernel
theorem dX7_tryOut_42 : decode cX7_tryOut 42 = .ok (.iconst 2, 1) := by decide +kernel
theorem dX7_tryOut_43 : decode cX7_tryOut 43 = .ok (.iconst 1, 1) := by decide +kernel
theorem dX7_tryOut_44 : decode cX7_tryOut 44 = .ok (.iload_n 1, 1) := by decide +kernel
theorem dX7_tryOut_45 : decode cX7_tryOut 45 = .ok (.aload_n 0, 1) := by decide +kernel
theorem dX7_tryOut_46 : decode cX7_tryOut 46 = .ok (.getfield 23, 3) := by decide +kernel
theorem dX7_tryOut_49 : decode cX7_tryOut 49 = .ok (.irem, 1) := by decide +kernel
theorem dX7_tryOut_50 : decode cX7_tryOut 50 = .ok (.iadd, 1) := by decide +kernel
theorem dX7_tryOut_51 : decode cX7_tryOut 51 = .ok (.iastore, 1) := by decide +kernel
theorem dX7_tryOut_52 : decode cX7_tryOut 52 = .ok (.return_, 1) := by decide +kernel
theorem dX7_solutionsNow_0 : decode cX7_solutionsNow 0 = .ok (.iconst 0, 1) := by decide +kernel
theorem dX7_solutionsNow_1 : decode cX7_solutionsNow 1 = .ok (.istore_n 1, 1) := by decide +kernel
theorem dX7_solutionsNow_2 : decode cX7_solutionsNow 2 = .ok (.iconst 0, 1) := by decide +kernel
theorem dX7_solutionsNow_3 : decode cX7_solutionsNow 3 = .ok (.istore_n 2, 1) := by decide +kernel
theorem dX7_solutionsNow_4 : decode cX7_solutionsNow 4 = .ok (.iload_n 2, 1) := by decide +kernel
theorem dX7_solutionsNow_5 : decode cX7_solutionsNow 5 = .ok (.aload_n 0, 1) := by decide +kernel
theorem dX7_solutionsNow_6 : decode cX7_solutionsNow 6 = .ok (.getfield 23, 3) := by decide +kernel
theorem dX7_solutionsNow_9 : decode cX7_solutionsNow 9 = .ok (.aload_n 0, 1) := by decide +kernel
theorem dX7_solutionsNow_10 : decode cX7_solutionsNow 10 = .ok (.getfield 23, 3) := by decide +kernel
theorem dX7_solutionsNow_13 : decode cX7_solutionsNow 13 = .ok (.imul, 1) := by decide +kernel
theorem dX7_solutionsNow_14 : decode cX7_solutionsNow 14 = .ok (.aload_n 0, 1) := by decide +kernel
theorem dX7_solutionsNow_15 : decode cX7_solutionsNow 15 = .ok (.getfield 23, 3) := by decide +kernel
theorem dX7_solutionsNow_18 : decode cX7_solutionsNow 18 = .ok (.imul, 1) := by decide +kernel
theorem dX7_solutionsNow_19 : decode cX7_solutionsNow 19 = .ok (.if_icmp .ge 37, 3) := by decide +kernel
theorem dX7_solutionsNow_22 : decode cX7_solutionsNow 22 = .ok (.aload_n 0, 1) := by decide +kernel
theorem dX7_solutionsNow_23 : decode cX7_solutionsNow 23 = .ok (.iload_n 2, 1) := by decide +kernel
theorem dX7_solutionsNow_24 : decode cX7_solutionsNow 24 = .ok (.invokevirtual 139, 3) := by decide +kernel
theorem dX7_solutionsNow_27 : decode cX7_solutionsNow 27 = .ok (.iload_n 1, 1) := by decide +kernel
theorem dX7_solutionsNow_28 : decode cX7_solutionsNow 28 = .ok (.aload_n 0, 1) := by decide +kernel
theorem dX7_solutionsNow_29 : decode cX7_solutionsNow 29 = .ok (.invokevirtual 143, 3) := by decide +kernel
theorem dX7_solutionsNow_32 : decode cX7_solutionsNow 32 = .ok (.iconst 1, 1) := by decide +kernel
theorem dX7_solutionsNow_33 : decode cX7_solutionsNow 33 = .ok (.aload_n 0, 1) := by decide +kernel
theorem dX7_solutionsNow_34 : decode cX7_solutionsNow 34 = .ok (.getfield 126, 3) := by decide +kernel
theorem dX7_solutionsNow_37 : decode cX7_solutionsNow 37 = .ok (.ishl, 1) := by decide +kernel
theorem dX7_solutionsNow_38 : decode cX7_solutionsNow 38 = .ok (.iconst 1, 1) := by decide +kernel
theorem dX7_solutionsNow_39 : decode cX7_solutionsNow 39 = .ok (.isub, 1) := by decide +kernel
theorem dX7_solutionsNow_40 : decode cX7_solutionsNow 40 = .ok (.if_icmp .ne 7, 3) := by decide +kernel
theorem dX7_solutionsNow_43 : decode cX7_solutionsNow 43 = .ok (.iconst 1, 1) := by decide +kernel
theorem dX7_solutionsNow_44 : decode cX7_solutionsNow 44 = .ok (.goto 4, 3) := by decide +kernel
theorem dX7_solutionsNow_47 : decode cX7_solutionsNow 47 = .ok (.iconst 0, 1) := by decide +kernel
theorem dX7_solutionsNow_48 : decode cX7_solutionsNow 48 = .ok (.iadd, 1) := by decide +kernel
theorem dX7_solutionsNow_49 : decode cX7_solutionsNow 49 = .ok (.istore_n 1, 1) := by decide +kernel
theorem dX7_solutionsNow_50 : decode cX7_solutionsNow 50 = .ok (.iinc 2 1, 3) := by decide +kernel
theorem dX7_solutionsNow_53 : decode cX7_solutionsNow 53 = .ok (.goto (-49), 3) := by decide +kernel
theorem dX7_solutionsNow_56 : decode cX7_solutionsNow 56 = .ok (.iload_n 1, 1) := by decide +kernel
theorem dX7_solutionsNow_57 : decode cX7_solutionsNow 57 = .ok (.ireturn, 1) := by decide +kernel
theorem dX7_solutions_0 : decode cX7_solutions 0 = .ok (.aload_n 0, 1) := by decide +kernel
theorem dX7_solutions_1 : decode cX7_solutions 1 = .ok (.invokevirtual 147, 3) := by decide +kernel
theorem dX7_solutions_4 : decode cX7_solutions 4 = .ok (.ireturn, 1) := by decide +kernel
theorem dX7_solution_0 : decode cX7_solution 0 = .ok (.iload_n 1, 1) := by decide +kernel
theorem dX7_solution_1 : decode cX7_solution 1 = .ok (.ifCond .lt 10, 3) := by decide +kernel
theorem dX7_solution_4 : decode cX7_solution 4 = .ok (.iload_n 2, 1) := by decide +kernel
theorem dX7_solution_5 : decode cX7_solution 5 = .ok (.invokestatic 129, 3) := by decide +kernel
theorem dX7_solution_8 : decode cX7_solution 8 = .ok (.ifCond .ne 6, 3) := by decide +kernel
theorem dX7_solution_11 : decode cX7_solution 11 = .ok (.bipush (-2), 2) := by decide +kernel
theorem dX7_solution_13 : decode cX7_solution 13 = .ok (.ireturn, 1) := by decide +kernel
theorem dX7_solution_14 : decode cX7_solution 14 = .ok (.iload_n 1, 1) := by decide +kernel
theorem dX7_solution_15 : decode cX7_solution 15 = .ok (.istore_n 3, 1) := by decide +kernel
theorem dX7_solution_16 : decode cX7_solution 16 = .ok (.iconst 0, 1) := by decide +kernel
theorem dX7_solution_17 : decode cX7_solution 17 = .ok (.istore 4, 2) := by decide +kernel
theorem dX7_solution_19 : decode cX7_solution 19 = .ok (.iload 4, 2) := by decide +kernel
theorem dX7_solution_21 : decode cX7_solution 21 = .ok (.aload_n 0, 1) := by decide +kernel
theorem dX7_solution_22 : decode cX7_solution 22 = .ok (.getfield 23, 3) := by decide +kernel
theorem dX7_solution_25 : decode cX7_solution 25 = .ok (.aload_n 0, 1) := by decide +kernel
theorem dX7_solution_26 : decode cX7_solution 26 = .ok (.getfield 23, 3) := by decide +kernel
theorem dX7_solution_29 : decode cX7_solution 29 = .ok (.imul, 1) := by decide +kernel
theorem dX7_solution_30 : decode cX7_solution 30 = .ok (.aload_n 0, 1) := by decide +kernel
theorem dX7_solution_31 : decode cX7_solution 31 = .ok (.getfield 23, 3) := by decide +kernel
theorem dX7_solution_34 : decode cX7_solution 34 = .ok (.imul, 1) := by decide +kernel
theorem dX7_solution_35 : decode cX7_solution 35 = .ok (.if_icmp .ge 44, 3) := by decide +kernel
theorem dX7_solution_38 : decode cX7_solution 38 = .ok (.aload_n 0, 1) := by decide +kernel
theorem dX7_solution_39 : decode cX7_solution 39 = .ok (.iload 4, 2) := by decide +kernel
theorem dX7_solution_41 : decode cX7_solution 41 = .ok (.invokevirtual 139, 3) := by decide +kernel
theorem dX7_solution_44 : decode cX7_solution 44 = .ok (.aload_n 0, 1) := by decide +kernel
theorem dX7_solution_45 : decode cX7_solution 45 = .ok (.invokevirtual 143, 3) := by decide +kernel
theorem dX7_solution_48 : decode cX7_solution 48 = .ok (.iconst 1, 1) := by decide +kernel
theorem dX7_solution_49 : decode cX7_solution 49 = .ok (.aload_n 0, 1) := by decide +kernel
theorem dX7_solution_50 : decode cX7_solution 50 = .ok (.getfield 126, 3) := by decide +kernel
theorem dX7_solution_53 : decode cX7_solution 53 = .ok (.ishl, 1) := by decide +kernel
theorem dX7_solution_54 : decode cX7_solution 54 = .ok (.iconst 1, 1) := by decide +kernel
theorem dX7_solution_55 : decode cX7_solution 55 = .ok (.isub, 1) := by decide +kernel
theorem dX7_solution_56 : decode cX7_solution 56 = .ok (.if_icmp .ne 17, 3) := by decide +kernel
theorem dX7_solution_59 : decode cX7_solution 59 = .ok (.iload_n 3, 1) := by decide +kernel
theorem dX7_solution_60 : decode cX7_solution 60 = .ok (.ifCond .ne 10, 3) := by decide +kernel
theorem dX7_solution_63 : decode cX7_solution 63 = .ok (.aload_n 0, 1) := by decide +kernel
theorem dX7_solution_64 : decode cX7_solution 64 = .ok (.getfield 30, 3) := by decide +kernel
theorem dX7_solution_67 : decode cX7_solution 67 = .ok (.iload_n 2, 1) := by decide +kernel
theorem dX7_solution_68 : decode cX7_solution 68 = .ok (.iaload, 1) := by decide +kernel
theorem dX7_solution_69 : decode cX7_solution 69 = .ok (.ireturn, 1) := by decide +kernel
theorem dX7_solution_70 : decode cX7_solution 70 = .ok (.iinc 3 (-1), 3) := by decide +kernel
theorem dX7_solution_73 : decode cX7_solution 73 = .ok (.iinc 4 1, 3) := by decide +kernel
theorem dX7_solution_76 : decode cX7_solution 76 = .ok (.goto (-57), 3) := by decide +kernel
theorem dX7_solution_79 : decode cX7_solution 79 = .ok (.iconst (-1), 1) := by decide +kernel
theorem dX7_solution_80 : decode cX7_solution 80 = .ok (.ireturn, 1) := by decide +kernel
theorem dX7_sure_0 : decode cX7_sure 0 = .ok (.iload_n 1, 1) := by decide +kernel
theorem dX7_sure_1 : decode cX7_sure 1 = .ok (.invokestatic 129, 3) := by decide +kernel
theorem dX7_sure_4 : decode cX7_sure 4 = .ok (.ifCond .ne 6, 3) := by decide +kernel
theorem dX7_sure_7 : decode cX7_sure 7 = .ok (.bipush (-2), 2) := by decide +kernel
theorem dX7_sure_9 : decode cX7_sure 9 = .ok (.ireturn, 1) := by decide +kernel
theorem dX7_sure_10 : decode cX7_sure 10 = .ok (.bipush (-3), 2) := by decide +kernel
theorem dX7_sure_12 : decode cX7_sure 12 = .ok (.istore_n 2, 1) := by decide +kernel
theorem dX7_sure_13 : decode cX7_sure 13 = .ok (.iconst 0, 1) := by decide +kernel
theorem dX7_sure_14 : decode cX7_sure 14 = .ok (.istore_n 3, 1) := by decide +kernel
theorem dX7_sure_15 : decode cX7_sure 15 = .ok (.iload_n 3, 1) := by decide +kernel
theorem dX7_sure_16 : decode cX7_sure 16 = .ok (.aload_n 0, 1) := by decide +kernel
theorem dX7_sure_17 : decode cX7_sure 17 = .ok (.getfield 23, 3) := by decide +kernel
theorem dX7_sure_20 : decode cX7_sure 20 = .ok (.aload_n 0, 1) := by decide +kernel
theorem dX7_sure_21 : decode cX7_sure 21 = .ok (.getfield 23, 3) := by decide +kernel
theorem dX7_sure_24 : decode cX7_sure 24 = .ok (.imul, 1) := by decide +kernel
theorem dX7_sure_25 : decode cX7_sure 25 = .ok (.aload_n 0, 1) := by decide +kernel
theorem dX7_sure_26 : decode cX7_sure 26 = .ok (.getfield 23, 3) := by decide +kernel
theorem dX7_sure_29 : decode cX7_sure 29 = .ok (.imul, 1) := by decide +kernel
theorem dX7_sure_30 : decode cX7_sure 30 = .ok (.if_icmp .ge 56, 3) := by decide +kernel
theorem dX7_sure_33 : decode cX7_sure 33 = .ok (.aload_n 0, 1) := by decide +kernel
theorem dX7_sure_34 : decode cX7_sure 34 = .ok (.iload_n 3, 1) := by decide +kernel
theorem dX7_sure_35 : decode cX7_sure 35 = .ok (.invokevirtual 139, 3) := by decide +kernel
theorem dX7_sure_38 : decode cX7_sure 38 = .ok (.aload_n 0, 1) := by decide +kernel
theorem dX7_sure_39 : decode cX7_sure 39 = .ok (.invokevirtual 143, 3) := by decide +kernel
theorem dX7_sure_42 : decode cX7_sure 42 = .ok (.iconst 1, 1) := by decide +kernel
theorem dX7_sure_43 : decode cX7_sure 43 = .ok (.aload_n 0, 1) := by decide +kernel
theorem dX7_sure_44 : decode cX7_sure 44 = .ok (.getfield 126, 3) := by decide +kernel
theorem dX7_sure_47 : decode cX7_sure 47 = .ok (.ishl, 1) := by decide +kernel
theorem dX7_sure_48 : decode cX7_sure 48 = .ok (.iconst 1, 1) := by decide +kernel
theorem dX7_sure_49 : decode cX7_sure 49 = .ok (.isub, 1) := by decide +kernel
theorem dX7_sure_50 : decode cX7_sure 50 = .ok (.if_icmp .ne 30, 3) := by decide +kernel
theorem dX7_sure_53 : decode cX7_sure 53 = .ok (.iload_n 2, 1) := by decide +kernel
theorem dX7_sure_54 : decode cX7_sure 54 = .ok (.bipush (-3), 2) := by decide +kernel
theorem dX7_sure_56 : decode cX7_sure 56 = .ok (.if_icmp .eq 13, 3) := by decide +kernel
theorem dX7_sure_59 : decode cX7_sure 59 = .ok (.iload_n 2, 1) := by decide +kernel
theorem dX7_sure_60 : decode cX7_sure 60 = .ok (.aload_n 0, 1) := by decide +kernel
theorem dX7_sure_61 : decode cX7_sure 61 = .ok (.getfield 30, 3) := by decide +kernel
theorem dX7_sure_64 : decode cX7_sure 64 = .ok (.iload_n 1, 1) := by decide +kernel
theorem dX7_sure_65 : decode cX7_sure 65 = .ok (.iaload, 1) := by decide +kernel
theorem dX7_sure_66 : decode cX7_sure 66 = .ok (.if_icmp .ne 12, 3) := by decide +kernel
theorem dX7_sure_69 : decode cX7_sure 69 = .ok (.aload_n 0, 1) := by decide +kernel
theorem dX7_sure_70 : decode cX7_sure 70 = .ok (.getfield 30, 3) := by decide +kernel
theorem dX7_sure_73 : decode cX7_sure 73 = .ok (.iload_n 1, 1) := by decide +kernel
theorem dX7_sure_74 : decode cX7_sure 74 = .ok (.iaload, 1) := by decide +kernel
theorem dX7_sure_75 : decode cX7_sure 75 = .ok (.goto 4, 3) := by decide +kernel
theorem dX7_sure_78 : decode cX7_sure 78 = .ok (.iconst (-1), 1) := by decide +kernel
theorem dX7_sure_79 : decode cX7_sure 79 = .ok (.istore_n 2, 1) := by decide +kernel
theorem dX7_sure_80 : decode cX7_sure 80 = .ok (.iinc 3 1, 3) := by decide +kernel
theorem dX7_sure_83 : decode cX7_sure 83 = .ok (.goto (-68), 3) := by decide +kernel
theorem dX7_sure_86 : decode cX7_sure 86 = .ok (.iload_n 2, 1) := by decide +kernel
theorem dX7_sure_87 : decode cX7_sure 87 = .ok (.ireturn, 1) := by decide +kernel
theorem dX7_ones_0 : decode cX7_ones 0 = .ok (.iconst 0, 1) := by decide +kernel
theorem dX7_ones_1 : decode cX7_ones 1 = .ok (.istore_n 1, 1) := by decide +kernel
theorem dX7_ones_2 : decode cX7_ones 2 = .ok (.iconst 0, 1) := by decide +kernel
theorem dX7_ones_3 : decode cX7_ones 3 = .ok (.istore_n 2, 1) := by decide +kernel
theorem dX7_ones_4 : decode cX7_ones 4 = .ok (.iload_n 2, 1) := by decide +kernel
theorem dX7_ones_5 : decode cX7_ones 5 = .ok (.bipush 8, 2) := by decide +kernel
theorem dX7_ones_7 : decode cX7_ones 7 = .ok (.if_icmp .ge 17, 3) := by decide +kernel
theorem dX7_ones_10 : decode cX7_ones 10 = .ok (.iload_n 1, 1) := by decide +kernel
theorem dX7_ones_11 : decode cX7_ones 11 = .ok (.iload_n 0, 1) := by decide +kernel
theorem dX7_ones_12 : decode cX7_ones 12 = .ok (.iload_n 2, 1) := by decide +kernel
theorem dX7_ones_13 : decode cX7_ones 13 = .ok (.ishr, 1) := by decide +kernel
theorem dX7_ones_14 : decode cX7_ones 14 = .ok (.iconst 1, 1) := by decide +kernel
theorem dX7_ones_15 : decode cX7_ones 15 = .ok (.iand, 1) := by decide +kernel
theorem dX7_ones_16 : decode cX7_ones 16 = .ok (.iadd, 1) := by decide +kernel
theorem dX7_ones_17 : decode cX7_ones 17 = .ok (.istore_n 1, 1) := by decide +kernel
theorem dX7_ones_18 : decode cX7_ones 18 = .ok (.iinc 2 1, 3) := by decide +kernel
theorem dX7_ones_21 : decode cX7_ones 21 = .ok (.goto (-17), 3) := by decide +kernel
theorem dX7_ones_24 : decode cX7_ones 24 = .ok (.iload_n 1, 1) := by decide +kernel
theorem dX7_ones_25 : decode cX7_ones 25 = .ok (.ireturn, 1) := by decide +kernel
theorem dX7_quarrel_0 : decode cX7_quarrel 0 = .ok (.iconst 0, 1) := by decide +kernel
theorem dX7_quarrel_1 : decode cX7_quarrel 1 = .ok (.istore_n 1, 1) := by decide +kernel
theorem dX7_quarrel_2 : decode cX7_quarrel 2 = .ok (.iload_n 1, 1) := by decide +kernel
theorem dX7_quarrel_3 : decode cX7_quarrel 3 = .ok (.sipush 256, 3) := by decide +kernel
theorem dX7_quarrel_6 : decode cX7_quarrel 6 = .ok (.if_icmp .ge 16, 3) := by decide +kernel
theorem dX7_quarrel_9 : decode cX7_quarrel 9 = .ok (.aload_n 0, 1) := by decide +kernel
theorem dX7_quarrel_10 : decode cX7_quarrel 10 = .ok (.getfield 33, 3) := by decide +kernel
theorem dX7_quarrel_13 : decode cX7_quarrel 13 = .ok (.iload_n 1, 1) := by decide +kernel
theorem dX7_quarrel_14 : decode cX7_quarrel 14 = .ok (.iconst 0, 1) := by decide +kernel
theorem dX7_quarrel_15 : decode cX7_quarrel 15 = .ok (.bastore, 1) := by decide +kernel
theorem dX7_quarrel_16 : decode cX7_quarrel 16 = .ok (.iinc 1 1, 3) := by decide +kernel
theorem dX7_quarrel_19 : decode cX7_quarrel 19 = .ok (.goto (-17), 3) := by decide +kernel
theorem dX7_quarrel_22 : decode cX7_quarrel 22 = .ok (.iconst 0, 1) := by decide +kernel
theorem dX7_quarrel_23 : decode cX7_quarrel 23 = .ok (.istore_n 1, 1) := by decide +kernel
theorem dX7_quarrel_24 : decode cX7_quarrel 24 = .ok (.iload_n 1, 1) := by decide +kernel
theorem dX7_quarrel_25 : decode cX7_quarrel 25 = .ok (.aload_n 0, 1) := by decide +kernel
theorem dX7_quarrel_26 : decode cX7_quarrel 26 = .ok (.getfield 23, 3) := by decide +kernel
theorem dX7_quarrel_29 : decode cX7_quarrel 29 = .ok (.aload_n 0, 1) := by decide +kernel
theorem dX7_quarrel_30 : decode cX7_quarrel 30 = .ok (.getfield 23, 3) := by decide +kernel
theorem dX7_quarrel_33 : decode cX7_quarrel 33 = .ok (.imul, 1) := by decide +kernel
theorem dX7_quarrel_34 : decode cX7_quarrel 34 = .ok (.aload_n 0, 1) := by decide +kernel
theorem dX7_quarrel_35 : decode cX7_quarrel 35 = .ok (.getfield 23, 3) := by decide +kernel
theorem dX7_quarrel_38 : decode cX7_quarrel 38 = .ok (.imul, 1) := by decide +kernel
theorem dX7_quarrel_39 : decode cX7_quarrel 39 = .ok (.if_icmp .ge 24, 3) := by decide +kernel
theorem dX7_quarrel_42 : decode cX7_quarrel 42 = .ok (.aload_n 0, 1) := by decide +kernel
theorem dX7_quarrel_43 : decode cX7_quarrel 43 = .ok (.iload_n 1, 1) := by decide +kernel
theorem dX7_quarrel_44 : decode cX7_quarrel 44 = .ok (.invokevirtual 139, 3) := by decide +kernel
theorem dX7_quarrel_47 : decode cX7_quarrel 47 = .ok (.aload_n 0, 1) := by decide +kernel
theorem dX7_quarrel_48 : decode cX7_quarrel 48 = .ok (.getfield 33, 3) := by decide +kernel
theorem dX7_quarrel_51 : decode cX7_quarrel 51 = .ok (.aload_n 0, 1) := by decide +kernel
theorem dX7_quarrel_52 : decode cX7_quarrel 52 = .ok (.invokevirtual 143, 3) := by decide +kernel
theorem dX7_quarrel_55 : decode cX7_quarrel 55 = .ok (.iconst 1, 1) := by decide +kernel
theorem dX7_quarrel_56 : decode cX7_quarrel 56 = .ok (.bastore, 1) := by decide +kernel
theorem dX7_quarrel_57 : decode cX7_quarrel 57 = .ok (.iinc 1 1, 3) := by decide +kernel
theorem dX7_quarrel_60 : decode cX7_quarrel 60 = .ok (.goto (-36), 3) := by decide +kernel
theorem dX7_quarrel_63 : decode cX7_quarrel 63 = .ok (.iconst 0, 1) := by decide +kernel
theorem dX7_quarrel_64 : decode cX7_quarrel 64 = .ok (.istore_n 1, 1) := by decide +kernel
theorem dX7_quarrel_65 : decode cX7_quarrel 65 = .ok (.iconst 1, 1) := by decide +kernel
theorem dX7_quarrel_66 : decode cX7_quarrel 66 = .ok (.istore_n 2, 1) := by decide +kernel
theorem dX7_quarrel_67 : decode cX7_quarrel 67 = .ok (.iload_n 2, 1) := by decide +kernel
theorem dX7_quarrel_68 : decode cX7_quarrel 68 = .ok (.iconst 1, 1) := by decide +kernel
theorem dX7_quarrel_69 : decode cX7_quarrel 69 = .ok (.aload_n 0, 1) := by decide +kernel
theorem dX7_quarrel_70 : decode cX7_quarrel 70 = .ok (.getfield 126, 3) := by decide +kernel
theorem dX7_quarrel_73 : decode cX7_quarrel 73 = .ok (.ishl, 1) := by decide +kernel
theorem dX7_quarrel_74 : decode cX7_quarrel 74 = .ok (.if_icmp .ge 82, 3) := by decide +kernel
theorem dX7_quarrel_77 : decode cX7_quarrel 77 = .ok (.iconst 0, 1) := by decide +kernel
theorem dX7_quarrel_78 : decode cX7_quarrel 78 = .ok (.istore_n 3, 1) := by decide +kernel
theorem dX7_quarrel_79 : decode cX7_quarrel 79 = .ok (.iconst 0, 1) := by decide +kernel
theorem dX7_quarrel_80 : decode cX7_quarrel 80 = .ok (.istore 4, 2) := by decide +kernel
theorem dX7_quarrel_82 : decode cX7_quarrel 82 = .ok (.iload 4, 2) := by decide +kernel
theorem dX7_quarrel_84 : decode cX7_quarrel 84 = .ok (.iconst 1, 1) := by decide +kernel
theorem dX7_quarrel_85 : decode cX7_quarrel 85 = .ok (.aload_n 0, 1) := by decide +kernel
theorem dX7_quarrel_86 : decode cX7_quarrel 86 = .ok (.getfield 126, 3) := by decide +kernel
theorem dX7_quarrel_89 : decode cX7_quarrel 89 = .ok (.ishl, 1) := by decide +kernel
theorem dX7_quarrel_90 : decode cX7_quarrel 90 = .ok (.if_icmp .ge 35, 3) := by decide +kernel
theorem dX7_quarrel_93 : decode cX7_quarrel 93 = .ok (.iload_n 3, 1) := by decide +kernel
theorem dX7_quarrel_94 : decode cX7_quarrel 94 = .ok (.iload 4, 2) := by decide +kernel
theorem dX7_quarrel_96 : decode cX7_quarrel 96 = .ok (.iload_n 2, 1) := by decide +kernel
theorem dX7_quarrel_97 : decode cX7_quarrel 97 = .ok (.iand, 1) := by decide +kernel
theorem dX7_quarrel_98 : decode cX7_quarrel 98 = .ok (.iload_n 2, 1) := by decide +kernel
theorem dX7_quarrel_99 : decode cX7_quarrel 99 = .ok (.if_icmp .ne 17, 3) := by decide +kernel
theorem dX7_quarrel_102 : decode cX7_quarrel 102 = .ok (.aload_n 0, 1) := by decide +kernel
theorem dX7_quarrel_103 : decode cX7_quarrel 103 = .ok (.getfield 33, 3) := by decide +kernel
theorem dX7_quarrel_106 : decode cX7_quarrel 106 = .ok (.iload 4, 2) := by decide +kernel
theorem dX7_quarrel_108 : decode cX7_quarrel 108 = .ok (.baload, 1) := by decide +kernel
theorem dX7_quarrel_109 : decode cX7_quarrel 109 = .ok (.ifCond .eq 7, 3) := by decide +kernel
theorem dX7_quarrel_112 : decode cX7_quarrel 112 = .ok (.iconst 1, 1) := by decide +kernel
theorem dX7_quarrel_113 : decode cX7_quarrel 113 = .ok (.goto 4, 3) := by decide +kernel
theorem dX7_quarrel_116 : decode cX7_quarrel 116 = .ok (.iconst 0, 1) := by decide +kernel
theorem dX7_quarrel_117 : decode cX7_quarrel 117 = .ok (.ior, 1) := by decide +kernel
theorem dX7_quarrel_118 : decode cX7_quarrel 118 = .ok (.istore_n 3, 1) := by decide +kernel
theorem dX7_quarrel_119 : decode cX7_quarrel 119 = .ok (.iinc 4 1, 3) := by decide +kernel
theorem dX7_quarrel_122 : decode cX7_quarrel 122 = .ok (.goto (-40), 3) := by decide +kernel
theorem dX7_quarrel_125 : decode cX7_quarrel 125 = .ok (.iload_n 3, 1) := by decide +kernel
theorem dX7_quarrel_126 : decode cX7_quarrel 126 = .ok (.ifCond .ne 22, 3) := by decide +kernel
theorem dX7_quarrel_129 : decode cX7_quarrel 129 = .ok (.iload_n 1, 1) := by decide +kernel
theorem dX7_quarrel_130 : decode cX7_quarrel 130 = .ok (.ifCond .eq 14, 3) := by decide +kernel
theorem dX7_quarrel_133 : decode cX7_quarrel 133 = .ok (.iload_n 2, 1) := by decide +kernel
theorem dX7_quarrel_134 : decode cX7_quarrel 134 = .ok (.invokestatic 150, 3) := by decide +kernel
theorem dX7_quarrel_137 : decode cX7_quarrel 137 = .ok (.iload_n 1, 1) := by decide +kernel
theorem dX7_quarrel_138 : decode cX7_quarrel 138 = .ok (.invokestatic 150, 3) := by decide +kernel
theorem dX7_quarrel_141 : decode cX7_quarrel 141 = .ok (.if_icmp .ge 7, 3) := by decide +kernel
theorem dX7_quarrel_144 : decode cX7_quarrel 144 = .ok (.iload_n 2, 1) := by decide +kernel
theorem dX7_quarrel_145 : decode cX7_quarrel 145 = .ok (.goto 4, 3) := by decide +kernel
theorem dX7_quarrel_148 : decode cX7_quarrel 148 = .ok (.iload_n 1, 1) := by decide +kernel
theorem dX7_quarrel_149 : decode cX7_quarrel 149 = .ok (.istore_n 1, 1) := by decide +kernel
theorem dX7_quarrel_150 : decode cX7_quarrel 150 = .ok (.iinc 2 1, 3) := by decide +kernel
theorem dX7_quarrel_153 : decode cX7_quarrel 153 = .ok (.goto (-86), 3) := by decide +kernel
theorem dX7_quarrel_156 : decode cX7_quarrel 156 = .ok (.iload_n 1, 1) := by decide +kernel
theorem dX7_quarrel_157 : decode cX7_quarrel 157 = .ok (.ireturn, 1) := by decide +kernel
theorem dX7_heardAs_0 : decode cX7_heardAs 0 = .ok (.aload_n 0, 1) := by decide +kernel
theorem dX7_heardAs_1 : decode cX7_heardAs 1 = .ok (.iload_n 1, 1) := by decide +kernel
theorem dX7_heardAs_2 : decode cX7_heardAs 2 = .ok (.iload_n 3, 1) := by decide +kernel
theorem dX7_heardAs_3 : decode cX7_heardAs 3 = .ok (.invokevirtual 115, 3) := by decide +kernel
theorem dX7_heardAs_6 : decode cX7_heardAs 6 = .ok (.istore 4, 2) := by decide +kernel
theorem dX7_heardAs_8 : decode cX7_heardAs 8 = .ok (.iconst 1, 1) := by decide +kernel
theorem dX7_heardAs_9 : decode cX7_heardAs 9 = .ok (.istore 5, 2) := by decide +kernel
theorem dX7_heardAs_11 : decode cX7_heardAs 11 = .ok (.iload 5, 2) := by decide +kernel
theorem dX7_heardAs_13 : decode cX7_heardAs 13 = .ok (.sipush 400, 3) := by decide +kernel
theorem dX7_heardAs_16 : decode cX7_heardAs 16 = .ok (.if_icmp .gt 42, 3) := by decide +kernel
theorem dX7_heardAs_19 : decode cX7_heardAs 19 = .ok (.aload_n 0, 1) := by decide +kernel
theorem dX7_heardAs_20 : decode cX7_heardAs 20 = .ok (.iload_n 2, 1) := by decide +kernel
theorem dX7_heardAs_21 : decode cX7_heardAs 21 = .ok (.aload_n 0, 1) := by decide +kernel
theorem dX7_heardAs_22 : decode cX7_heardAs 22 = .ok (.iload_n 1, 1) := by decide +kernel
theorem dX7_heardAs_23 : decode cX7_heardAs 23 = .ok (.iload 4, 2) := by decide +kernel
theorem dX7_heardAs_25 : decode cX7_heardAs 25 = .ok (.invokevirtual 106, 3) := by decide +kernel
theorem dX7_heardAs_28 : decode cX7_heardAs 28 = .ok (.aload_n 0, 1) := by decide +kernel
theorem dX7_heardAs_29 : decode cX7_heardAs 29 = .ok (.iload_n 1, 1) := by decide +kernel
theorem dX7_heardAs_30 : decode cX7_heardAs 30 = .ok (.iload 4, 2) := by decide +kernel
theorem dX7_heardAs_32 : decode cX7_heardAs 32 = .ok (.invokevirtual 109, 3) := by decide +kernel
theorem dX7_heardAs_35 : decode cX7_heardAs 35 = .ok (.aload_n 0, 1) := by decide +kernel
theorem dX7_heardAs_36 : decode cX7_heardAs 36 = .ok (.iload_n 1, 1) := by decide +kernel
theorem dX7_heardAs_37 : decode cX7_heardAs 37 = .ok (.iload_n 3, 1) := by decide +kernel
theorem dX7_heardAs_38 : decode cX7_heardAs 38 = .ok (.invokevirtual 112, 3) := by decide +kernel
theorem dX7_heardAs_41 : decode cX7_heardAs 41 = .ok (.iload 5, 2) := by decide +kernel
theorem dX7_heardAs_43 : decode cX7_heardAs 43 = .ok (.invokevirtual 122, 3) := by decide +kernel
theorem dX7_heardAs_46 : decode cX7_heardAs 46 = .ok (.ifCond .eq 6, 3) := by decide +kernel
theorem dX7_heardAs_49 : decode cX7_heardAs 49 = .ok (.iload 5, 2) := by decide +kernel
theorem dX7_heardAs_51 : decode cX7_heardAs 51 = .ok (.ireturn, 1) := by decide +kernel
theorem dX7_heardAs_52 : decode cX7_heardAs 52 = .ok (.iinc 5 1, 3) := by decide +kernel
theorem dX7_heardAs_55 : decode cX7_heardAs 55 = .ok (.goto (-44), 3) := by decide +kernel
theorem dX7_heardAs_58 : decode cX7_heardAs 58 = .ok (.iconst (-1), 1) := by decide +kernel
theorem dX7_heardAs_59 : decode cX7_heardAs 59 = .ok (.ireturn, 1) := by decide +kernel
theorem dX7_heard_0 : decode cX7_heard 0 = .ok (.aload_n 0, 1) := by decide +kernel
theorem dX7_heard_1 : decode cX7_heard 1 = .ok (.iload_n 1, 1) := by decide +kernel
theorem dX7_heard_2 : decode cX7_heard 2 = .ok (.invokevirtual 93, 3) := by decide +kernel
theorem dX7_heard_5 : decode cX7_heard 5 = .ok (.ifCond .eq 32, 3) := by decide +kernel
theorem dX7_heard_8 : decode cX7_heard 8 = .ok (.aload_n 0, 1) := by decide +kernel
theorem dX7_heard_9 : decode cX7_heard 9 = .ok (.iload_n 2, 1) := by decide +kernel
theorem dX7_heard_10 : decode cX7_heard 10 = .ok (.invokevirtual 93, 3) := by decide +kernel
theorem dX7_heard_13 : decode cX7_heard 13 = .ok (.ifCond .eq 24, 3) := by decide +kernel
theorem dX7_heard_16 : decode cX7_heard 16 = .ok (.iload_n 3, 1) := by decide +kernel
theorem dX7_heard_17 : decode cX7_heard 17 = .ok (.iconst 1, 1) := by decide +kernel
theorem dX7_heard_18 : decode cX7_heard 18 = .ok (.sipush 400, 3) := by decide +kernel
theorem dX7_heard_21 : decode cX7_heard 21 = .ok (.invokestatic 75, 3) := by decide +kernel
theorem dX7_heard_24 : decode cX7_heard 24 = .ok (.ifCond .eq 13, 3) := by decide +kernel
theorem dX7_heard_27 : decode cX7_heard 27 = .ok (.aload_n 0, 1) := by decide +kernel
theorem dX7_heard_28 : decode cX7_heard 28 = .ok (.iload_n 1, 1) := by decide +kernel
theorem dX7_heard_29 : decode cX7_heard 29 = .ok (.iload_n 2, 1) := by decide +kernel
theorem dX7_heard_30 : decode cX7_heard 30 = .ok (.iload_n 3, 1) := by decide +kernel
theorem dX7_heard_31 : decode cX7_heard 31 = .ok (.invokevirtual 153, 3) := by decide +kernel
theorem dX7_heard_34 : decode cX7_heard 34 = .ok (.goto 5, 3) := by decide +kernel
theorem dX7_heard_37 : decode cX7_heard 37 = .ok (.bipush (-2), 2) := by decide +kernel
theorem dX7_heard_39 : decode cX7_heard 39 = .ok (.ireturn, 1) := by decide +kernel
theorem dX7_clear_0 : decode cX7_clear 0 = .ok (.aload_n 0, 1) := by decide +kernel
theorem dX7_clear_1 : decode cX7_clear 1 = .ok (.iload_n 1, 1) := by decide +kernel
theorem dX7_clear_2 : decode cX7_clear 2 = .ok (.invokevirtual 93, 3) := by decide +kernel
theorem dX7_clear_5 : decode cX7_clear 5 = .ok (.ifCond .eq 22, 3) := by decide +kernel
theorem dX7_clear_8 : decode cX7_clear 8 = .ok (.aload_n 0, 1) := by decide +kernel
theorem dX7_clear_9 : decode cX7_clear 9 = .ok (.iload_n 2, 1) := by decide +kernel
theorem dX7_clear_10 : decode cX7_clear 10 = .ok (.invokevirtual 93, 3) := by decide +kernel
theorem dX7_clear_13 : decode cX7_clear 13 = .ok (.ifCond .eq 14, 3) := by decide +kernel
theorem dX7_clear_16 : decode cX7_clear 16 = .ok (.iload_n 3, 1) := by decide +kernel
theorem dX7_clear_17 : decode cX7_clear 17 = .ok (.iconst 1, 1) := by decide +kernel
theorem dX7_clear_18 : decode cX7_clear 18 = .ok (.sipush 400, 3) := by decide +kernel
theorem dX7_clear_21 : decode cX7_clear 21 = .ok (.invokestatic 75, 3) := by decide +kernel
theorem dX7_clear_24 : decode cX7_clear 24 = .ok (.ifCond .ne 6, 3) := by decide +kernel
theorem dX7_clear_27 : decode cX7_clear 27 = .ok (.bipush (-2), 2) := by decide +kernel
theorem dX7_clear_29 : decode cX7_clear 29 = .ok (.ireturn, 1) := by decide +kernel
theorem dX7_clear_30 : decode cX7_clear 30 = .ok (.iconst 0, 1) := by decide +kernel
theorem dX7_clear_31 : decode cX7_clear 31 = .ok (.istore 4, 2) := by decide +kernel
theorem dX7_clear_33 : decode cX7_clear 33 = .ok (.iconst 1, 1) := by decide +kernel
theorem dX7_clear_34 : decode cX7_clear 34 = .ok (.istore 5, 2) := by decide +kernel
theorem dX7_clear_36 : decode cX7_clear 36 = .ok (.iload 5, 2) := by decide +kernel
theorem dX7_clear_38 : decode cX7_clear 38 = .ok (.iload_n 3, 1) := by decide +kernel
theorem dX7_clear_39 : decode cX7_clear 39 = .ok (.if_icmp .gt 32, 3) := by decide +kernel
theorem dX7_clear_42 : decode cX7_clear 42 = .ok (.iload 4, 2) := by decide +kernel
theorem dX7_clear_44 : decode cX7_clear 44 = .ok (.aload_n 0, 1) := by decide +kernel
theorem dX7_clear_45 : decode cX7_clear 45 = .ok (.iload_n 1, 1) := by decide +kernel
theorem dX7_clear_46 : decode cX7_clear 46 = .ok (.iload_n 2, 1) := by decide +kernel
theorem dX7_clear_47 : decode cX7_clear 47 = .ok (.iload 5, 2) := by decide +kernel
theorem dX7_clear_49 : decode cX7_clear 49 = .ok (.invokevirtual 153, 3) := by decide +kernel
theorem dX7_clear_52 : decode cX7_clear 52 = .ok (.iload 5, 2) := by decide +kernel
theorem dX7_clear_54 : decode cX7_clear 54 = .ok (.if_icmp .ne 7, 3) := by decide +kernel
theorem dX7_clear_57 : decode cX7_clear 57 = .ok (.iconst 1, 1) := by decide +kernel
theorem dX7_clear_58 : decode cX7_clear 58 = .ok (.goto 4, 3) := by decide +kernel
theorem dX7_clear_61 : decode cX7_clear 61 = .ok (.iconst 0, 1) := by decide +kernel
theorem dX7_clear_62 : decode cX7_clear 62 = .ok (.iadd, 1) := by decide +kernel
theorem dX7_clear_63 : decode cX7_clear 63 = .ok (.istore 4, 2) := by decide +kernel
theorem dX7_clear_65 : decode cX7_clear 65 = .ok (.iinc 5 1, 3) := by decide +kernel
theorem dX7_clear_68 : decode cX7_clear 68 = .ok (.goto (-32), 3) := by decide +kernel
theorem dX7_clear_71 : decode cX7_clear 71 = .ok (.iload 4, 2) := by decide +kernel
theorem dX7_clear_73 : decode cX7_clear 73 = .ok (.ireturn, 1) := by decide +kernel
theorem dX7_trap_0 : decode cX7_trap 0 = .ok (.aload_n 0, 1) := by decide +kernel
theorem dX7_trap_1 : decode cX7_trap 1 = .ok (.iload_n 1, 1) := by decide +kernel
theorem dX7_trap_2 : decode cX7_trap 2 = .ok (.invokevirtual 93, 3) := by decide +kernel
theorem dX7_trap_5 : decode cX7_trap 5 = .ok (.ifCond .eq 11, 3) := by decide +kernel
theorem dX7_trap_8 : decode cX7_trap 8 = .ok (.aload_n 0, 1) := by decide +kernel
theorem dX7_trap_9 : decode cX7_trap 9 = .ok (.iload_n 2, 1) := by decide +kernel
theorem dX7_trap_10 : decode cX7_trap 10 = .ok (.invokevirtual 93, 3) := by decide +kernel
theorem dX7_trap_13 : decode cX7_trap 13 = .ok (.ifCond .ne 6, 3) := by decide +kernel
theorem dX7_trap_16 : decode cX7_trap 16 = .ok (.bipush (-2), 2) := by decide +kernel
theorem dX7_trap_18 : decode cX7_trap 18 = .ok (.ireturn, 1) := by decide +kernel
theorem dX7_trap_19 : decode cX7_trap 19 = .ok (.iconst 1, 1) := by decide +kernel
theorem dX7_trap_20 : decode cX7_trap 20 = .ok (.istore_n 3, 1) := by decide +kernel
theorem dX7_trap_21 : decode cX7_trap 21 = .ok (.iload_n 3, 1) := by decide +kernel
theorem dX7_trap_22 : decode cX7_trap 22 = .ok (.sipush 400, 3) := by decide +kernel
theorem dX7_trap_25 : decode cX7_trap 25 = .ok (.if_icmp .gt 32, 3) := by decide +kernel
theorem dX7_trap_28 : decode cX7_trap 28 = .ok (.aload_n 0, 1) := by decide +kernel
theorem dX7_trap_29 : decode cX7_trap 29 = .ok (.iload_n 1, 1) := by decide +kernel
theorem dX7_trap_30 : decode cX7_trap 30 = .ok (.iload_n 2, 1) := by decide +kernel
theorem dX7_trap_31 : decode cX7_trap 31 = .ok (.iload_n 3, 1) := by decide +kernel
theorem dX7_trap_32 : decode cX7_trap 32 = .ok (.invokevirtual 153, 3) := by decide +kernel
theorem dX7_trap_35 : decode cX7_trap 35 = .ok (.istore 4, 2) := by decide +kernel
theorem dX7_trap_37 : decode cX7_trap 37 = .ok (.iload 4, 2) := by decide +kernel
theorem dX7_trap_39 : decode cX7_trap 39 = .ok (.iload_n 3, 1) := by decide +kernel
theorem dX7_trap_40 : decode cX7_trap 40 = .ok (.if_icmp .eq 11, 3) := by decide +kernel
theorem dX7_trap_43 : decode cX7_trap 43 = .ok (.iload 4, 2) := by decide +kernel
theorem dX7_trap_45 : decode cX7_trap 45 = .ok (.iconst (-1), 1) := by decide +kernel
theorem dX7_trap_46 : decode cX7_trap 46 = .ok (.if_icmp .eq 5, 3) := by decide +kernel
theorem dX7_trap_49 : decode cX7_trap 49 = .ok (.iload_n 3, 1) := by decide +kernel
theorem dX7_trap_50 : decode cX7_trap 50 = .ok (.ireturn, 1) := by decide +kernel
theorem dX7_trap_51 : decode cX7_trap 51 = .ok (.iinc 3 1, 3) := by decide +kernel
theorem dX7_trap_54 : decode cX7_trap 54 = .ok (.goto (-33), 3) := by decide +kernel
theorem dX7_trap_57 : decode cX7_trap 57 = .ok (.iconst (-1), 1) := by decide +kernel
theorem dX7_trap_58 : decode cX7_trap 58 = .ok (.ireturn, 1) := by decide +kernel
theorem dX7_isPerson_0 : decode cX7_isPerson 0 = .ok (.iload_n 1, 1) := by decide +kernel
theorem dX7_isPerson_1 : decode cX7_isPerson 1 = .ok (.iconst 0, 1) := by decide +kernel
theorem dX7_isPerson_2 : decode cX7_isPerson 2 = .ok (.aload_n 0, 1) := by decide +kernel
theorem dX7_isPerson_3 : decode cX7_isPerson 3 = .ok (.getfield 157, 3) := by decide +kernel
theorem dX7_isPerson_6 : decode cX7_isPerson 6 = .ok (.iconst 1, 1) := by decide +kernel
theorem dX7_isPerson_7 : decode cX7_isPerson 7 = .ok (.isub, 1) := by decide +kernel
theorem dX7_isPerson_8 : decode cX7_isPerson 8 = .ok (.invokestatic 75, 3) := by decide +kernel
theorem dX7_isPerson_11 : decode cX7_isPerson 11 = .ok (.ireturn, 1) := by decide +kernel
theorem dX7_person_0 : decode cX7_person 0 = .ok (.aload_n 0, 1) := by decide +kernel
theorem dX7_person_1 : decode cX7_person 1 = .ok (.iload_n 1, 1) := by decide +kernel
theorem dX7_person_2 : decode cX7_person 2 = .ok (.invokevirtual 93, 3) := by decide +kernel
theorem dX7_person_5 : decode cX7_person 5 = .ok (.ifCond .ne 6, 3) := by decide +kernel
theorem dX7_person_8 : decode cX7_person 8 = .ok (.bipush (-2), 2) := by decide +kernel
theorem dX7_person_10 : decode cX7_person 10 = .ok (.ireturn, 1) := by decide +kernel
theorem dX7_person_11 : decode cX7_person 11 = .ok (.aload_n 0, 1) := by decide +kernel
theorem dX7_person_12 : decode cX7_person 12 = .ok (.getfield 157, 3) := by decide +kernel
theorem dX7_person_15 : decode cX7_person 15 = .ok (.bipush 8, 2) := by decide +kernel
theorem dX7_person_17 : decode cX7_person 17 = .ok (.if_icmp .ne 6, 3) := by decide +kernel
theorem dX7_person_20 : decode cX7_person 20 = .ok (.bipush (-4), 2) := by decide +kernel
theorem dX7_person_22 : decode cX7_person 22 = .ok (.ireturn, 1) := by decide +kernel
theorem dX7_person_23 : decode cX7_person 23 = .ok (.aload_n 0, 1) := by decide +kernel
theorem dX7_person_24 : decode cX7_person 24 = .ok (.getfield 36, 3) := by decide +kernel
theorem dX7_person_27 : decode cX7_person 27 = .ok (.aload_n 0, 1) := by decide +kernel
theorem dX7_person_28 : decode cX7_person 28 = .ok (.getfield 157, 3) := by decide +kernel
theorem dX7_person_31 : decode cX7_person 31 = .ok (.iload_n 1, 1) := by decide +kernel
theorem dX7_person_32 : decode cX7_person 32 = .ok (.iastore, 1) := by decide +kernel
theorem dX7_person_33 : decode cX7_person 33 = .ok (.aload_n 0, 1) := by decide +kernel
theorem dX7_person_34 : decode cX7_person 34 = .ok (.dup, 1) := by decide +kernel
theorem dX7_person_35 : decode cX7_person 35 = .ok (.getfield 157, 3) := by decide +kernel
theorem dX7_person_38 : decode cX7_person 38 = .ok (.iconst 1, 1) := by decide +kernel
theorem dX7_person_39 : decode cX7_person 39 = .ok (.iadd, 1) := by decide +kernel
theorem dX7_person_40 : decode cX7_person 40 = .ok (.putfield 157, 3) := by decide +kernel
theorem dX7_person_43 : decode cX7_person 43 = .ok (.aload_n 0, 1) := by decide +kernel
theorem dX7_person_44 : decode cX7_person 44 = .ok (.getfield 157, 3) := by decide +kernel
theorem dX7_person_47 : decode cX7_person 47 = .ok (.iconst 1, 1) := by decide +kernel
theorem dX7_person_48 : decode cX7_person 48 = .ok (.isub, 1) := by decide +kernel
theorem dX7_person_49 : decode cX7_person 49 = .ok (.ireturn, 1) := by decide +kernel
theorem dX7_owedBy_0 : decode cX7_owedBy 0 = .ok (.aload_n 0, 1) := by decide +kernel
theorem dX7_owedBy_1 : decode cX7_owedBy 1 = .ok (.getfield 39, 3) := by decide +kernel
theorem dX7_owedBy_4 : decode cX7_owedBy 4 = .ok (.bipush 8, 2) := by decide +kernel
theorem dX7_owedBy_6 : decode cX7_owedBy 6 = .ok (.iload_n 1, 1) := by decide +kernel
theorem dX7_owedBy_7 : decode cX7_owedBy 7 = .ok (.imul, 1) := by decide +kernel
theorem dX7_owedBy_8 : decode cX7_owedBy 8 = .ok (.iload_n 2, 1) := by decide +kernel
theorem dX7_owedBy_9 : decode cX7_owedBy 9 = .ok (.iadd, 1) := by decide +kernel
theorem dX7_owedBy_10 : decode cX7_owedBy 10 = .ok (.iaload, 1) := by decide +kernel
theorem dX7_owedBy_11 : decode cX7_owedBy 11 = .ok (.ifCond .le 17, 3) := by decide +kernel
theorem dX7_owedBy_14 : decode cX7_owedBy 14 = .ok (.aload_n 0, 1) := by decide +kernel
theorem dX7_owedBy_15 : decode cX7_owedBy 15 = .ok (.getfield 39, 3) := by decide +kernel
theorem dX7_owedBy_18 : decode cX7_owedBy 18 = .ok (.bipush 8, 2) := by decide +kernel
theorem dX7_owedBy_20 : decode cX7_owedBy 20 = .ok (.iload_n 1, 1) := by decide +kernel
theorem dX7_owedBy_21 : decode cX7_owedBy 21 = .ok (.imul, 1) := by decide +kernel
theorem dX7_owedBy_22 : decode cX7_owedBy 22 = .ok (.iload_n 2, 1) := by decide +kernel
theorem dX7_owedBy_23 : decode cX7_owedBy 23 = .ok (.iadd, 1) := by decide +kernel
theorem dX7_owedBy_24 : decode cX7_owedBy 24 = .ok (.iaload, 1) := by decide +kernel
theorem dX7_owedBy_25 : decode cX7_owedBy 25 = .ok (.goto 4, 3) := by decide +kernel
theorem dX7_owedBy_28 : decode cX7_owedBy 28 = .ok (.iconst 0, 1) := by decide +kernel
theorem dX7_owedBy_29 : decode cX7_owedBy 29 = .ok (.ireturn, 1) := by decide +kernel
theorem dX7_owe_0 : decode cX7_owe 0 = .ok (.aload_n 0, 1) := by decide +kernel
theorem dX7_owe_1 : decode cX7_owe 1 = .ok (.getfield 39, 3) := by decide +kernel
theorem dX7_owe_4 : decode cX7_owe 4 = .ok (.bipush 8, 2) := by decide +kernel
theorem dX7_owe_6 : decode cX7_owe 6 = .ok (.iload_n 1, 1) := by decide +kernel
theorem dX7_owe_7 : decode cX7_owe 7 = .ok (.imul, 1) := by decide +kernel
theorem dX7_owe_8 : decode cX7_owe 8 = .ok (.iload_n 2, 1) := by decide +kernel
theorem dX7_owe_9 : decode cX7_owe 9 = .ok (.iadd, 1) := by decide +kernel
theorem dX7_owe_10 : decode cX7_owe 10 = .ok (.dup2, 1) := by decide +kernel
theorem dX7_owe_11 : decode cX7_owe 11 = .ok (.iaload, 1) := by decide +kernel
theorem dX7_owe_12 : decode cX7_owe 12 = .ok (.iload_n 3, 1) := by decide +kernel
theorem dX7_owe_13 : decode cX7_owe 13 = .ok (.iadd, 1) := by decide +kernel
theorem dX7_owe_14 : decode cX7_owe 14 = .ok (.iastore, 1) := by decide +kernel
theorem dX7_owe_15 : decode cX7_owe 15 = .ok (.aload_n 0, 1) := by decide +kernel
theorem dX7_owe_16 : decode cX7_owe 16 = .ok (.getfield 39, 3) := by decide +kernel
theorem dX7_owe_19 : decode cX7_owe 19 = .ok (.bipush 8, 2) := by decide +kernel
theorem dX7_owe_21 : decode cX7_owe 21 = .ok (.iload_n 2, 1) := by decide +kernel
theorem dX7_owe_22 : decode cX7_owe 22 = .ok (.imul, 1) := by decide +kernel
theorem dX7_owe_23 : decode cX7_owe 23 = .ok (.iload_n 1, 1) := by decide +kernel
theorem dX7_owe_24 : decode cX7_owe 24 = .ok (.iadd, 1) := by decide +kernel
theorem dX7_owe_25 : decode cX7_owe 25 = .ok (.dup2, 1) := by decide +kernel
theorem dX7_owe_26 : decode cX7_owe 26 = .ok (.iaload, 1) := by decide +kernel
theorem dX7_owe_27 : decode cX7_owe 27 = .ok (.iload_n 3, 1) := by decide +kernel
theorem dX7_owe_28 : decode cX7_owe 28 = .ok (.isub, 1) := by decide +kernel
theorem dX7_owe_29 : decode cX7_owe 29 = .ok (.iastore, 1) := by decide +kernel
theorem dX7_owe_30 : decode cX7_owe 30 = .ok (.return_, 1) := by decide +kernel
theorem dX7_gift_0 : decode cX7_gift 0 = .ok (.aload_n 0, 1) := by decide +kernel
theorem dX7_gift_1 : decode cX7_gift 1 = .ok (.iload_n 1, 1) := by decide +kernel
theorem dX7_gift_2 : decode cX7_gift 2 = .ok (.invokevirtual 160, 3) := by decide +kernel
theorem dX7_gift_5 : decode cX7_gift 5 = .ok (.ifCond .eq 27, 3) := by decide +kernel
theorem dX7_gift_8 : decode cX7_gift 8 = .ok (.aload_n 0, 1) := by decide +kernel
theorem dX7_gift_9 : decode cX7_gift 9 = .ok (.iload_n 2, 1) := by decide +kernel
theorem dX7_gift_10 : decode cX7_gift 10 = .ok (.invokevirtual 160, 3) := by decide +kernel
theorem dX7_gift_13 : decode cX7_gift 13 = .ok (.ifCond .eq 19, 3) := by decide +kernel
theorem dX7_gift_16 : decode cX7_gift 16 = .ok (.iload_n 1, 1) := by decide +kernel
theorem dX7_gift_17 : decode cX7_gift 17 = .ok (.iload_n 2, 1) := by decide +kernel
theorem dX7_gift_18 : decode cX7_gift 18 = .ok (.if_icmp .eq 14, 3) := by decide +kernel
theorem dX7_gift_21 : decode cX7_gift 21 = .ok (.iload_n 3, 1) := by decide +kernel
theorem dX7_gift_22 : decode cX7_gift 22 = .ok (.iconst 1, 1) := by decide +kernel
theorem dX7_gift_23 : decode cX7_gift 23 = .ok (.sipush 400, 3) := by decide +kernel
theorem dX7_gift_26 : decode cX7_gift 26 = .ok (.invokestatic 75, 3) := by decide +kernel
theorem dX7_gift_29 : decode cX7_gift 29 = .ok (.ifCond .ne 6, 3) := by decide +kernel
theorem dX7_gift_32 : decode cX7_gift 32 = .ok (.bipush (-2), 2) := by decide +kernel
theorem dX7_gift_34 : decode cX7_gift 34 = .ok (.ireturn, 1) := by decide +kernel
theorem dX7_gift_35 : decode cX7_gift 35 = .ok (.aload_n 0, 1) := by decide +kernel
theorem dX7_gift_36 : decode cX7_gift 36 = .ok (.getfield 39, 3) := by decide +kernel
theorem dX7_gift_39 : decode cX7_gift 39 = .ok (.bipush 8, 2) := by decide +kernel
theorem dX7_gift_41 : decode cX7_gift 41 = .ok (.iload_n 2, 1) := by decide +kernel
theorem dX7_gift_42 : decode cX7_gift 42 = .ok (.imul, 1) := by decide +kernel
theorem dX7_gift_43 : decode cX7_gift 43 = .ok (.iload_n 1, 1) := by decide +kernel
theorem dX7_gift_44 : decode cX7_gift 44 = .ok (.iadd, 1) := by decide +kernel
theorem dX7_gift_45 : decode cX7_gift 45 = .ok (.iaload, 1) := by decide +kernel
theorem dX7_gift_46 : decode cX7_gift 46 = .ok (.iload_n 3, 1) := by decide +kernel
theorem dX7_gift_47 : decode cX7_gift 47 = .ok (.iadd, 1) := by decide +kernel
theorem dX7_gift_48 : decode cX7_gift 48 = .ok (.sipush 400, 3) := by decide +kernel
theorem dX7_gift_51 : decode cX7_gift 51 = .ok (.if_icmp .le 6, 3) := by decide +kernel
theorem dX7_gift_54 : decode cX7_gift 54 = .ok (.bipush (-3), 2) := by decide +kernel
theorem dX7_gift_56 : decode cX7_gift 56 = .ok (.ireturn, 1) := by decide +kernel
theorem dX7_gift_57 : decode cX7_gift 57 = .ok (.aload_n 0, 1) := by decide +kernel
theorem dX7_gift_58 : decode cX7_gift 58 = .ok (.iload_n 2, 1) := by decide +kernel
theorem dX7_gift_59 : decode cX7_gift 59 = .ok (.iload_n 1, 1) := by decide +kernel
theorem dX7_gift_60 : decode cX7_gift 60 = .ok (.iload_n 3, 1) := by decide +kernel
theorem dX7_gift_61 : decode cX7_gift 61 = .ok (.invokevirtual 163, 3) := by decide +kernel
theorem dX7_gift_64 : decode cX7_gift 64 = .ok (.aload_n 0, 1) := by decide +kernel
theorem dX7_gift_65 : decode cX7_gift 65 = .ok (.iload_n 2, 1) := by decide +kernel
theorem dX7_gift_66 : decode cX7_gift 66 = .ok (.iload_n 1, 1) := by decide +kernel
theorem dX7_gift_67 : decode cX7_gift 67 = .ok (.invokevirtual 167, 3) := by decide +kernel
theorem dX7_gift_70 : decode cX7_gift 70 = .ok (.ireturn, 1) := by decide +kernel
theorem dX7_owed_0 : decode cX7_owed 0 = .ok (.aload_n 0, 1) := by decide +kernel
theorem dX7_owed_1 : decode cX7_owed 1 = .ok (.iload_n 1, 1) := by decide +kernel
theorem dX7_owed_2 : decode cX7_owed 2 = .ok (.invokevirtual 160, 3) := by decide +kernel
theorem dX7_owed_5 : decode cX7_owed 5 = .ok (.ifCond .eq 25, 3) := by decide +kernel
theorem dX7_owed_8 : decode cX7_owed 8 = .ok (.aload_n 0, 1) := by decide +kernel
theorem dX7_owed_9 : decode cX7_owed 9 = .ok (.iload_n 2, 1) := by decide +kernel
theorem dX7_owed_10 : decode cX7_owed 10 = .ok (.invokevirtual 160, 3) := by decide +kernel
theorem dX7_owed_13 : decode cX7_owed 13 = .ok (.ifCond .eq 17, 3) := by decide +kernel
theorem dX7_owed_16 : decode cX7_owed 16 = .ok (.iload_n 1, 1) := by decide +kernel
theorem dX7_owed_17 : decode cX7_owed 17 = .ok (.iload_n 2, 1) := by decide +kernel
theorem dX7_owed_18 : decode cX7_owed 18 = .ok (.if_icmp .eq 12, 3) := by decide +kernel
theorem dX7_owed_21 : decode cX7_owed 21 = .ok (.aload_n 0, 1) := by decide +kernel
theorem dX7_owed_22 : decode cX7_owed 22 = .ok (.iload_n 1, 1) := by decide +kernel
theorem dX7_owed_23 : decode cX7_owed 23 = .ok (.iload_n 2, 1) := by decide +kernel
theorem dX7_owed_24 : decode cX7_owed 24 = .ok (.invokevirtual 167, 3) := by decide +kernel
theorem dX7_owed_27 : decode cX7_owed 27 = .ok (.goto 5, 3) := by decide +kernel
theorem dX7_owed_30 : decode cX7_owed 30 = .ok (.bipush (-2), 2) := by decide +kernel
theorem dX7_owed_32 : decode cX7_owed 32 = .ok (.ireturn, 1) := by decide +kernel
theorem dX7_told_0 : decode cX7_told 0 = .ok (.aload_n 0, 1) := by decide +kernel
theorem dX7_told_1 : decode cX7_told 1 = .ok (.iload_n 1, 1) := by decide +kernel
theorem dX7_told_2 : decode cX7_told 2 = .ok (.invokevirtual 160, 3) := by decide +kernel
theorem dX7_told_5 : decode cX7_told 5 = .ok (.ifCond .eq 16, 3) := by decide +kernel
theorem dX7_told_8 : decode cX7_told 8 = .ok (.aload_n 0, 1) := by decide +kernel
theorem dX7_told_9 : decode cX7_told 9 = .ok (.iload_n 2, 1) := by decide +kernel
theorem dX7_told_10 : decode cX7_told 10 = .ok (.invokevirtual 160, 3) := by decide +kernel
theorem dX7_told_13 : decode cX7_told 13 = .ok (.ifCond .eq 8, 3) := by decide +kernel
theorem dX7_told_16 : decode cX7_told 16 = .ok (.iload_n 1, 1) := by decide +kernel
theorem dX7_told_17 : decode cX7_told 17 = .ok (.iload_n 2, 1) := by decide +kernel
theorem dX7_told_18 : decode cX7_told 18 = .ok (.if_icmp .ne 6, 3) := by decide +kernel
theorem dX7_told_21 : decode cX7_told 21 = .ok (.bipush (-2), 2) := by decide +kernel
theorem dX7_told_23 : decode cX7_told 23 = .ok (.ireturn, 1) := by decide +kernel
theorem dX7_told_24 : decode cX7_told 24 = .ok (.aload_n 0, 1) := by decide +kernel
theorem dX7_told_25 : decode cX7_told 25 = .ok (.iload_n 1, 1) := by decide +kernel
theorem dX7_told_26 : decode cX7_told 26 = .ok (.iload_n 2, 1) := by decide +kernel
theorem dX7_told_27 : decode cX7_told 27 = .ok (.invokevirtual 167, 3) := by decide +kernel
theorem dX7_told_30 : decode cX7_told 30 = .ok (.istore_n 3, 1) := by decide +kernel
theorem dX7_told_31 : decode cX7_told 31 = .ok (.iload_n 3, 1) := by decide +kernel
theorem dX7_told_32 : decode cX7_told 32 = .ok (.ifCond .ne 7, 3) := by decide +kernel
theorem dX7_told_35 : decode cX7_told 35 = .ok (.iconst 0, 1) := by decide +kernel
theorem dX7_told_36 : decode cX7_told 36 = .ok (.goto 29, 3) := by decide +kernel
theorem dX7_told_39 : decode cX7_told 39 = .ok (.bipush 100, 2) := by decide +kernel
theorem dX7_told_41 : decode cX7_told 41 = .ok (.aload_n 0, 1) := by decide +kernel
theorem dX7_told_42 : decode cX7_told 42 = .ok (.aload_n 0, 1) := by decide +kernel
theorem dX7_told_43 : decode cX7_told 43 = .ok (.getfield 36, 3) := by decide +kernel
theorem dX7_told_46 : decode cX7_told 46 = .ok (.iload_n 2, 1) := by decide +kernel
theorem dX7_told_47 : decode cX7_told 47 = .ok (.iaload, 1) := by decide +kernel
theorem dX7_told_48 : decode cX7_told 48 = .ok (.iload_n 3, 1) := by decide +kernel
theorem dX7_told_49 : decode cX7_told 49 = .ok (.invokevirtual 112, 3) := by decide +kernel
theorem dX7_told_52 : decode cX7_told 52 = .ok (.imul, 1) := by decide +kernel
theorem dX7_told_53 : decode cX7_told 53 = .ok (.aload_n 0, 1) := by decide +kernel
theorem dX7_told_54 : decode cX7_told 54 = .ok (.aload_n 0, 1) := by decide +kernel
theorem dX7_told_55 : decode cX7_told 55 = .ok (.getfield 36, 3) := by decide +kernel
theorem dX7_told_58 : decode cX7_told 58 = .ok (.iload_n 2, 1) := by decide +kernel
theorem dX7_told_59 : decode cX7_told 59 = .ok (.iaload, 1) := by decide +kernel
theorem dX7_told_60 : decode cX7_told 60 = .ok (.iload_n 3, 1) := by decide +kernel
theorem dX7_told_61 : decode cX7_told 61 = .ok (.invokevirtual 115, 3) := by decide +kernel
theorem dX7_told_64 : decode cX7_told 64 = .ok (.iadd, 1) := by decide +kernel
theorem dX7_told_65 : decode cX7_told 65 = .ok (.ireturn, 1) := by decide +kernel
theorem dX7_finds_0 : decode cX7_finds 0 = .ok (.iconst 3, 1) := by decide +kernel
theorem dX7_finds_1 : decode cX7_finds 1 = .ok (.istore_n 1, 1) := by decide +kernel
theorem dX7_finds_2 : decode cX7_finds 2 = .ok (.iload_n 1, 1) := by decide +kernel
theorem dX7_finds_3 : decode cX7_finds 3 = .ok (.aload_n 0, 1) := by decide +kernel
theorem dX7_finds_4 : decode cX7_finds 4 = .ok (.getfield 157, 3) := by decide +kernel
theorem dX7_finds_7 : decode cX7_finds 7 = .ok (.if_icmp .gt 19, 3) := by decide +kernel
theorem dX7_finds_10 : decode cX7_finds 10 = .ok (.aload_n 0, 1) := by decide +kernel
theorem dX7_finds_11 : decode cX7_finds 11 = .ok (.iload_n 1, 1) := by decide +kernel
theorem dX7_finds_12 : decode cX7_finds 12 = .ok (.invokevirtual 170, 3) := by decide +kernel
theorem dX7_finds_15 : decode cX7_finds 15 = .ok (.ifCond .eq 5, 3) := by decide +kernel
theorem dX7_finds_18 : decode cX7_finds 18 = .ok (.iload_n 1, 1) := by decide +kernel
theorem dX7_finds_19 : decode cX7_finds 19 = .ok (.ireturn, 1) := by decide +kernel
theorem dX7_finds_20 : decode cX7_finds 20 = .ok (.iinc 1 1, 3) := by decide +kernel
theorem dX7_finds_23 : decode cX7_finds 23 = .ok (.goto (-21), 3) := by decide +kernel
theorem dX7_finds_26 : decode cX7_finds 26 = .ok (.iconst 0, 1) := by decide +kernel
theorem dX7_finds_27 : decode cX7_finds 27 = .ok (.ireturn, 1) := by decide +kernel
theorem dX7_goesRound_0 : decode cX7_goesRound 0 = .ok (.iconst 0, 1) := by decide +kernel
theorem dX7_goesRound_1 : decode cX7_goesRound 1 = .ok (.istore_n 2, 1) := by decide +kernel
theorem dX7_goesRound_2 : decode cX7_goesRound 2 = .ok (.iload_n 2, 1) := by decide +kernel
theorem dX7_goesRound_3 : decode cX7_goesRound 3 = .ok (.iload_n 1, 1) := by decide +kernel
theorem dX7_goesRound_4 : decode cX7_goesRound 4 = .ok (.if_icmp .ge 16, 3) := by decide +kernel
theorem dX7_goesRound_7 : decode cX7_goesRound 7 = .ok (.aload_n 0, 1) := by decide +kernel
theorem dX7_goesRound_8 : decode cX7_goesRound 8 = .ok (.getfield 42, 3) := by decide +kernel
theorem dX7_goesRound_11 : decode cX7_goesRound 11 = .ok (.iload_n 2, 1) := by decide +kernel
theorem dX7_goesRound_12 : decode cX7_goesRound 12 = .ok (.iconst (-1), 1) := by decide +kernel
theorem dX7_goesRound_13 : decode cX7_goesRound 13 = .ok (.iastore, 1) := by decide +kernel
theorem dX7_goesRound_14 : decode cX7_goesRound 14 = .ok (.iinc 2 1, 3) := by decide +kernel
theorem dX7_goesRound_17 : decode cX7_goesRound 17 = .ok (.goto (-15), 3) := by decide +kernel
theorem dX7_goesRound_20 : decode cX7_goesRound 20 = .ok (.iconst 0, 1) := by decide +kernel
theorem dX7_goesRound_21 : decode cX7_goesRound 21 = .ok (.istore_n 2, 1) := by decide +kernel
theorem dX7_goesRound_22 : decode cX7_goesRound 22 = .ok (.iload_n 2, 1) := by decide +kernel
theorem dX7_goesRound_23 : decode cX7_goesRound 23 = .ok (.ifCond .lt 93, 3) := by decide +kernel
theorem dX7_goesRound_26 : decode cX7_goesRound 26 = .ok (.aload_n 0, 1) := by decide +kernel
theorem dX7_goesRound_27 : decode cX7_goesRound 27 = .ok (.getfield 42, 3) := by decide +kernel
theorem dX7_goesRound_30 : decode cX7_goesRound 30 = .ok (.iload_n 2, 1) := by decide +kernel
theorem dX7_goesRound_31 : decode cX7_goesRound 31 = .ok (.dup2, 1) := by decide +kernel
theorem dX7_goesRound_32 : decode cX7_goesRound 32 = .ok (.iaload, 1) := by decide +kernel
theorem dX7_goesRound_33 : decode cX7_goesRound 33 = .ok (.iconst 1, 1) := by decide +kernel
theorem dX7_goesRound_34 : decode cX7_goesRound 34 = .ok (.iadd, 1) := by decide +kernel
theorem dX7_goesRound_35 : decode cX7_goesRound 35 = .ok (.iastore, 1) := by decide +kernel
theorem dX7_goesRound_36 : decode cX7_goesRound 36 = .ok (.aload_n 0, 1) := by decide +kernel
theorem dX7_goesRound_37 : decode cX7_goesRound 37 = .ok (.getfield 42, 3) := by decide +kernel
theorem dX7_goesRound_40 : decode cX7_goesRound 40 = .ok (.iload_n 2, 1) := by decide +kernel
theorem dX7_goesRound_41 : decode cX7_goesRound 41 = .ok (.iaload, 1) := by decide +kernel
theorem dX7_goesRound_42 : decode cX7_goesRound 42 = .ok (.aload_n 0, 1) := by decide +kernel
theorem dX7_goesRound_43 : decode cX7_goesRound 43 = .ok (.getfield 157, 3) := by decide +kernel
theorem dX7_goesRound_46 : decode cX7_goesRound 46 = .ok (.if_icmp .ne 16, 3) := by decide +kernel
theorem dX7_goesRound_49 : decode cX7_goesRound 49 = .ok (.aload_n 0, 1) := by decide +kernel
theorem dX7_goesRound_50 : decode cX7_goesRound 50 = .ok (.getfield 42, 3) := by decide +kernel
theorem dX7_goesRound_53 : decode cX7_goesRound 53 = .ok (.iload_n 2, 1) := by decide +kernel
theorem dX7_goesRound_54 : decode cX7_goesRound 54 = .ok (.iconst (-1), 1) := by decide +kernel
theorem dX7_goesRound_55 : decode cX7_goesRound 55 = .ok (.iastore, 1) := by decide +kernel
theorem dX7_goesRound_56 : decode cX7_goesRound 56 = .ok (.iinc 2 (-1), 3) := by decide +kernel
theorem dX7_goesRound_59 : decode cX7_goesRound 59 = .ok (.goto (-37), 3) := by decide +kernel
theorem dX7_goesRound_62 : decode cX7_goesRound 62 = .ok (.aload_n 0, 1) := by decide +kernel
theorem dX7_goesRound_63 : decode cX7_goesRound 63 = .ok (.iload_n 2, 1) := by decide +kernel
theorem dX7_goesRound_64 : decode cX7_goesRound 64 = .ok (.invokevirtual 173, 3) := by decide +kernel
theorem dX7_goesRound_67 : decode cX7_goesRound 67 = .ok (.ifCond .eq (-45), 3) := by decide +kernel
theorem dX7_goesRound_70 : decode cX7_goesRound 70 = .ok (.iload_n 2, 1) := by decide +kernel
theorem dX7_goesRound_71 : decode cX7_goesRound 71 = .ok (.iload_n 1, 1) := by decide +kernel
theorem dX7_goesRound_72 : decode cX7_goesRound 72 = .ok (.iconst 1, 1) := by decide +kernel
theorem dX7_goesRound_73 : decode cX7_goesRound 73 = .ok (.isub, 1) := by decide +kernel
theorem dX7_goesRound_74 : decode cX7_goesRound 74 = .ok (.if_icmp .ne 24, 3) := by decide +kernel
theorem dX7_goesRound_77 : decode cX7_goesRound 77 = .ok (.aload_n 0, 1) := by decide +kernel
theorem dX7_goesRound_78 : decode cX7_goesRound 78 = .ok (.aload_n 0, 1) := by decide +kernel
theorem dX7_goesRound_79 : decode cX7_goesRound 79 = .ok (.getfield 42, 3) := by decide +kernel
theorem dX7_goesRound_82 : decode cX7_goesRound 82 = .ok (.iload_n 2, 1) := by decide +kernel
theorem dX7_goesRound_83 : decode cX7_goesRound 83 = .ok (.iaload, 1) := by decide +kernel
theorem dX7_goesRound_84 : decode cX7_goesRound 84 = .ok (.aload_n 0, 1) := by decide +kernel
theorem dX7_goesRound_85 : decode cX7_goesRound 85 = .ok (.getfield 42, 3) := by decide +kernel
theorem dX7_goesRound_88 : decode cX7_goesRound 88 = .ok (.iconst 0, 1) := by decide +kernel
theorem dX7_goesRound_89 : decode cX7_goesRound 89 = .ok (.iaload, 1) := by decide +kernel
theorem dX7_goesRound_90 : decode cX7_goesRound 90 = .ok (.invokevirtual 167, 3) := by decide +kernel
theorem dX7_goesRound_93 : decode cX7_goesRound 93 = .ok (.ifCond .le 5, 3) := by decide +kernel
theorem dX7_goesRound_96 : decode cX7_goesRound 96 = .ok (.iconst 1, 1) := by decide +kernel
theorem dX7_goesRound_97 : decode cX7_goesRound 97 = .ok (.ireturn, 1) := by decide +kernel
theorem dX7_goesRound_98 : decode cX7_goesRound 98 = .ok (.iload_n 2, 1) := by decide +kernel
theorem dX7_goesRound_99 : decode cX7_goesRound 99 = .ok (.iload_n 2, 1) := by decide +kernel
theorem dX7_goesRound_100 : decode cX7_goesRound 100 = .ok (.iload_n 1, 1) := by decide +kernel
theorem dX7_goesRound_101 : decode cX7_goesRound 101 = .ok (.iconst 1, 1) := by decide +kernel
theorem dX7_goesRound_102 : decode cX7_goesRound 102 = .ok (.isub, 1) := by decide +kernel
theorem dX7_goesRound_103 : decode cX7_goesRound 103 = .ok (.if_icmp .ge 7, 3) := by decide +kernel
theorem dX7_goesRound_106 : decode cX7_goesRound 106 = .ok (.iconst 1, 1) := by decide +kernel
theorem dX7_goesRound_107 : decode cX7_goesRound 107 = .ok (.goto 4, 3) := by decide +kernel
theorem dX7_goesRound_110 : decode cX7_goesRound 110 = .ok (.iconst 0, 1) := by decide +kernel
theorem dX7_goesRound_111 : decode cX7_goesRound 111 = .ok (.iadd, 1) := by decide +kernel
theorem dX7_goesRound_112 : decode cX7_goesRound 112 = .ok (.istore_n 2, 1) := by decide +kernel
theorem dX7_goesRound_113 : decode cX7_goesRound 113 = .ok (.goto (-91), 3) := by decide +kernel
theorem dX7_goesRound_116 : decode cX7_goesRound 116 = .ok (.iconst 0, 1) := by decide +kernel
theorem dX7_goesRound_117 : decode cX7_goesRound 117 = .ok (.ireturn, 1) := by decide +kernel
theorem dX7_mayStand_0 : decode cX7_mayStand 0 = .ok (.iconst 0, 1) := by decide +kernel
theorem dX7_mayStand_1 : decode cX7_mayStand 1 = .ok (.istore_n 2, 1) := by decide +kernel
theorem dX7_mayStand_2 : decode cX7_mayStand 2 = .ok (.iload_n 2, 1) := by decide +kernel
theorem dX7_mayStand_3 : decode cX7_mayStand 3 = .ok (.iload_n 1, 1) := by decide +kernel
theorem dX7_mayStand_4 : decode cX7_mayStand 4 = .ok (.if_icmp .ge 26, 3) := by decide +kernel
theorem dX7_mayStand_7 : decode cX7_mayStand 7 = .ok (.aload_n 0, 1) := by decide +kernel
theorem dX7_mayStand_8 : decode cX7_mayStand 8 = .ok (.getfield 42, 3) := by decide +kernel
theorem dX7_mayStand_11 : decode cX7_mayStand 11 = .ok (.iload_n 2, 1) := by decide +kernel
theorem dX7_mayStand_12 : decode cX7_mayStand 12 = .ok (.iaload, 1) := by decide +kernel
theorem dX7_mayStand_13 : decode cX7_mayStand 13 = .ok (.aload_n 0, 1) := by decide +kernel
theorem dX7_mayStand_14 : decode cX7_mayStand 14 = .ok (.getfield 42, 3) := by decide +kernel
theorem dX7_mayStand_17 : decode cX7_mayStand 17 = .ok (.iload_n 1, 1) := by decide +kernel
theorem dX7_mayStand_18 : decode cX7_mayStand 18 = .ok (.iaload, 1) := by decide +kernel
theorem dX7_mayStand_19 : decode cX7_mayStand 19 = .ok (.if_icmp .ne 5, 3) := by decide +kernel
theorem dX7_mayStand_22 : decode cX7_mayStand 22 = .ok (.iconst 0, 1) := by decide +kernel
theorem dX7_mayStand_23 : decode cX7_mayStand 23 = .ok (.ireturn, 1) := by decide +kernel
theorem dX7_mayStand_24 : decode cX7_mayStand 24 = .ok (.iinc 2 1, 3) := by decide +kernel
theorem dX7_mayStand_27 : decode cX7_mayStand 27 = .ok (.goto (-25), 3) := by decide +kernel
theorem dX7_mayStand_30 : decode cX7_mayStand 30 = .ok (.iload_n 1, 1) := by decide +kernel
theorem dX7_mayStand_31 : decode cX7_mayStand 31 = .ok (.ifCond .eq 39, 3) := by decide +kernel
theorem dX7_mayStand_34 : decode cX7_mayStand 34 = .ok (.aload_n 0, 1) := by decide +kernel
theorem dX7_mayStand_35 : decode cX7_mayStand 35 = .ok (.getfield 42, 3) := by decide +kernel
theorem dX7_mayStand_38 : decode cX7_mayStand 38 = .ok (.iload_n 1, 1) := by decide +kernel
theorem dX7_mayStand_39 : decode cX7_mayStand 39 = .ok (.iaload, 1) := by decide +kernel
theorem dX7_mayStand_40 : decode cX7_mayStand 40 = .ok (.aload_n 0, 1) := by decide +kernel
theorem dX7_mayStand_41 : decode cX7_mayStand 41 = .ok (.getfield 42, 3) := by decide +kernel
theorem dX7_mayStand_44 : decode cX7_mayStand 44 = .ok (.iconst 0, 1) := by decide +kernel
theorem dX7_mayStand_45 : decode cX7_mayStand 45 = .ok (.iaload, 1) := by decide +kernel
theorem dX7_mayStand_46 : decode cX7_mayStand 46 = .ok (.if_icmp .le 28, 3) := by decide +kernel
theorem dX7_mayStand_49 : decode cX7_mayStand 49 = .ok (.aload_n 0, 1) := by decide +kernel
theorem dX7_mayStand_50 : decode cX7_mayStand 50 = .ok (.aload_n 0, 1) := by decide +kernel
theorem dX7_mayStand_51 : decode cX7_mayStand 51 = .ok (.getfield 42, 3) := by decide +kernel
theorem dX7_mayStand_54 : decode cX7_mayStand 54 = .ok (.iload_n 1, 1) := by decide +kernel
theorem dX7_mayStand_55 : decode cX7_mayStand 55 = .ok (.iconst 1, 1) := by decide +kernel
theorem dX7_mayStand_56 : decode cX7_mayStand 56 = .ok (.isub, 1) := by decide +kernel
theorem dX7_mayStand_57 : decode cX7_mayStand 57 = .ok (.iaload, 1) := by decide +kernel
theorem dX7_mayStand_58 : decode cX7_mayStand 58 = .ok (.aload_n 0, 1) := by decide +kernel
theorem dX7_mayStand_59 : decode cX7_mayStand 59 = .ok (.getfield 42, 3) := by decide +kernel
theorem dX7_mayStand_62 : decode cX7_mayStand 62 = .ok (.iload_n 1, 1) := by decide +kernel
theorem dX7_mayStand_63 : decode cX7_mayStand 63 = .ok (.iaload, 1) := by decide +kernel
theorem dX7_mayStand_64 : decode cX7_mayStand 64 = .ok (.invokevirtual 167, 3) := by decide +kernel
theorem dX7_mayStand_67 : decode cX7_mayStand 67 = .ok (.ifCond .le 7, 3) := by decide +kernel
theorem dX7_mayStand_70 : decode cX7_mayStand 70 = .ok (.iconst 1, 1) := by decide +kernel
theorem dX7_mayStand_71 : decode cX7_mayStand 71 = .ok (.goto 4, 3) := by decide +kernel
theorem dX7_mayStand_74 : decode cX7_mayStand 74 = .ok (.iconst 0, 1) := by decide +kernel
theorem dX7_mayStand_75 : decode cX7_mayStand 75 = .ok (.ireturn, 1) := by decide +kernel
theorem dX7_close_0 : decode cX7_close 0 = .ok (.iconst 0, 1) := by decide +kernel
theorem dX7_close_1 : decode cX7_close 1 = .ok (.istore_n 1, 1) := by decide +kernel
theorem dX7_close_2 : decode cX7_close 2 = .ok (.aload_n 0, 1) := by decide +kernel
theorem dX7_close_3 : decode cX7_close 3 = .ok (.invokevirtual 176, 3) := by decide +kernel
theorem dX7_close_6 : decode cX7_close 6 = .ok (.istore_n 2, 1) := by decide +kernel
theorem dX7_close_7 : decode cX7_close 7 = .ok (.iload_n 2, 1) := by decide +kernel
theorem dX7_close_8 : decode cX7_close 8 = .ok (.ifCond .le 109, 3) := by decide +kernel
theorem dX7_close_11 : decode cX7_close 11 = .ok (.sipush 400, 3) := by decide +kernel
theorem dX7_close_14 : decode cX7_close 14 = .ok (.istore_n 3, 1) := by decide +kernel
theorem dX7_close_15 : decode cX7_close 15 = .ok (.iconst 0, 1) := by decide +kernel
theorem dX7_close_16 : decode cX7_close 16 = .ok (.istore 4, 2) := by decide +kernel
theorem dX7_close_18 : decode cX7_close 18 = .ok (.iload 4, 2) := by decide +kernel
theorem dX7_close_20 : decode cX7_close 20 = .ok (.iload_n 2, 1) := by decide +kernel
theorem dX7_close_21 : decode cX7_close 21 = .ok (.if_icmp .ge 46, 3) := by decide +kernel
theorem dX7_close_24 : decode cX7_close 24 = .ok (.aload_n 0, 1) := by decide +kernel
theorem dX7_close_25 : decode cX7_close 25 = .ok (.aload_n 0, 1) := by decide +kernel
theorem dX7_close_26 : decode cX7_close 26 = .ok (.getfield 42, 3) := by decide +kernel
theorem dX7_close_29 : decode cX7_close 29 = .ok (.iload 4, 2) := by decide +kernel
theorem dX7_close_31 : decode cX7_close 31 = .ok (.iaload, 1) := by decide +kernel
theorem dX7_close_32 : decode cX7_close 32 = .ok (.aload_n 0, 1) := by decide +kernel
theorem dX7_close_33 : decode cX7_close 33 = .ok (.getfield 42, 3) := by decide +kernel
theorem dX7_close_36 : decode cX7_close 36 = .ok (.iload 4, 2) := by decide +kernel
theorem dX7_close_38 : decode cX7_close 38 = .ok (.iconst 1, 1) := by decide +kernel
theorem dX7_close_39 : decode cX7_close 39 = .ok (.iadd, 1) := by decide +kernel
theorem dX7_close_40 : decode cX7_close 40 = .ok (.iload_n 2, 1) := by decide +kernel
theorem dX7_close_41 : decode cX7_close 41 = .ok (.irem, 1) := by decide +kernel
theorem dX7_close_42 : decode cX7_close 42 = .ok (.iaload, 1) := by decide +kernel
theorem dX7_close_43 : decode cX7_close 43 = .ok (.invokevirtual 167, 3) := by decide +kernel
theorem dX7_close_46 : decode cX7_close 46 = .ok (.istore 5, 2) := by decide +kernel
theorem dX7_close_48 : decode cX7_close 48 = .ok (.iload 5, 2) := by decide +kernel
theorem dX7_close_50 : decode cX7_close 50 = .ok (.iload_n 3, 1) := by decide +kernel
theorem dX7_close_51 : decode cX7_close 51 = .ok (.if_icmp .ge 8, 3) := by decide +kernel
theorem dX7_close_54 : decode cX7_close 54 = .ok (.iload 5, 2) := by decide +kernel
theorem dX7_close_56 : decode cX7_close 56 = .ok (.goto 4, 3) := by decide +kernel
theorem dX7_close_59 : decode cX7_close 59 = .ok (.iload_n 3, 1) := by decide +kernel
theorem dX7_close_60 : decode cX7_close 60 = .ok (.istore_n 3, 1) := by decide +kernel
theorem dX7_close_61 : decode cX7_close 61 = .ok (.iinc 4 1, 3) := by decide +kernel
theorem dX7_close_64 : decode cX7_close 64 = .ok (.goto (-46), 3) := by decide +kernel
theorem dX7_close_67 : decode cX7_close 67 = .ok (.iconst 0, 1) := by decide +kernel
theorem dX7_close_68 : decode cX7_close 68 = .ok (.istore 4, 2) := by decide +kernel
theorem dX7_close_70 : decode cX7_close 70 = .ok (.iload 4, 2) := by decide +kernel
theorem dX7_close_72 : decode cX7_close 72 = .ok (.iload_n 2, 1) := by decide +kernel
theorem dX7_close_73 : decode cX7_close 73 = .ok (.if_icmp .ge 33, 3) := by decide +kernel
theorem dX7_close_76 : decode cX7_close 76 = .ok (.aload_n 0, 1) := by decide +kernel
theorem dX7_close_77 : decode cX7_close 77 = .ok (.aload_n 0, 1) := by decide +kernel
theorem dX7_close_78 : decode cX7_close 78 = .ok (.getfield 42, 3) := by decide +kernel
theorem dX7_close_81 : decode cX7_close 81 = .ok (.iload 4, 2) := by decide +kernel
theorem dX7_close_83 : decode cX7_close 83 = .ok (.iaload, 1) := by decide +kernel
theorem dX7_close_84 : decode cX7_close 84 = .ok (.aload_n 0, 1) := by decide +kernel
theorem dX7_close_85 : decode cX7_close 85 = .ok (.getfield 42, 3) := by decide +kernel
theorem dX7_close_88 : decode cX7_close 88 = .ok (.iload 4, 2) := by decide +kernel
theorem dX7_close_90 : decode cX7_close 90 = .ok (.iconst 1, 1) := by decide +kernel
theorem dX7_close_91 : decode cX7_close 91 = .ok (.iadd, 1) := by decide +kernel
theorem dX7_close_92 : decode cX7_close 92 = .ok (.iload_n 2, 1) := by decide +kernel
theorem dX7_close_93 : decode cX7_close 93 = .ok (.irem, 1) := by decide +kernel
theorem dX7_close_94 : decode cX7_close 94 = .ok (.iaload, 1) := by decide +kernel
theorem dX7_close_95 : decode cX7_close 95 = .ok (.iload_n 3, 1) := by decide +kernel
theorem dX7_close_96 : decode cX7_close 96 = .ok (.ineg, 1) := by decide +kernel
theorem dX7_close_97 : decode cX7_close 97 = .ok (.invokevirtual 163, 3) := by decide +kernel
theorem dX7_close_100 : decode cX7_close 100 = .ok (.iinc 4 1, 3) := by decide +kernel
theorem dX7_close_103 : decode cX7_close 103 = .ok (.goto (-33), 3) := by decide +kernel
theorem dX7_close_106 : decode cX7_close 106 = .ok (.iinc 1 1, 3) := by decide +kernel
theorem dX7_close_109 : decode cX7_close 109 = .ok (.aload_n 0, 1) := by decide +kernel
theorem dX7_close_110 : decode cX7_close 110 = .ok (.invokevirtual 176, 3) := by decide +kernel
theorem dX7_close_113 : decode cX7_close 113 = .ok (.istore_n 2, 1) := by decide +kernel
theorem dX7_close_114 : decode cX7_close 114 = .ok (.goto (-107), 3) := by decide +kernel
theorem dX7_close_117 : decode cX7_close 117 = .ok (.iload_n 1, 1) := by decide +kernel
theorem dX7_close_118 : decode cX7_close 118 = .ok (.ireturn, 1) := by decide +kernel
theorem dX7_worth_0 : decode cX7_worth 0 = .ok (.aload_n 0, 1) := by decide +kernel
theorem dX7_worth_1 : decode cX7_worth 1 = .ok (.iload_n 1, 1) := by decide +kernel
theorem dX7_worth_2 : decode cX7_worth 2 = .ok (.invokevirtual 160, 3) := by decide +kernel
theorem dX7_worth_5 : decode cX7_worth 5 = .ok (.ifCond .ne 6, 3) := by decide +kernel
theorem dX7_worth_8 : decode cX7_worth 8 = .ok (.ldc 179, 2) := by decide +kernel
theorem dX7_worth_10 : decode cX7_worth 10 = .ok (.ireturn, 1) := by decide +kernel
theorem dX7_worth_11 : decode cX7_worth 11 = .ok (.iconst 0, 1) := by decide +kernel
theorem dX7_worth_12 : decode cX7_worth 12 = .ok (.istore_n 2, 1) := by decide +kernel
theorem dX7_worth_13 : decode cX7_worth 13 = .ok (.iconst 0, 1) := by decide +kernel
theorem dX7_worth_14 : decode cX7_worth 14 = .ok (.istore_n 3, 1) := by decide +kernel
theorem dX7_worth_15 : decode cX7_worth 15 = .ok (.iload_n 3, 1) := by decide +kernel
theorem dX7_worth_16 : decode cX7_worth 16 = .ok (.aload_n 0, 1) := by decide +kernel
theorem dX7_worth_17 : decode cX7_worth 17 = .ok (.getfield 157, 3) := by decide +kernel
theorem dX7_worth_20 : decode cX7_worth 20 = .ok (.if_icmp .ge 23, 3) := by decide +kernel
theorem dX7_worth_23 : decode cX7_worth 23 = .ok (.iload_n 2, 1) := by decide +kernel
theorem dX7_worth_24 : decode cX7_worth 24 = .ok (.aload_n 0, 1) := by decide +kernel
theorem dX7_worth_25 : decode cX7_worth 25 = .ok (.getfield 39, 3) := by decide +kernel
theorem dX7_worth_28 : decode cX7_worth 28 = .ok (.bipush 8, 2) := by decide +kernel
theorem dX7_worth_30 : decode cX7_worth 30 = .ok (.iload_n 1, 1) := by decide +kernel
theorem dX7_worth_31 : decode cX7_worth 31 = .ok (.imul, 1) := by decide +kernel
theorem dX7_worth_32 : decode cX7_worth 32 = .ok (.iload_n 3, 1) := by decide +kernel
theorem dX7_worth_33 : decode cX7_worth 33 = .ok (.iadd, 1) := by decide +kernel
theorem dX7_worth_34 : decode cX7_worth 34 = .ok (.iaload, 1) := by decide +kernel
theorem dX7_worth_35 : decode cX7_worth 35 = .ok (.isub, 1) := by decide +kernel
theorem dX7_worth_36 : decode cX7_worth 36 = .ok (.istore_n 2, 1) := by decide +kernel
theorem dX7_worth_37 : decode cX7_worth 37 = .ok (.iinc 3 1, 3) := by decide +kernel
theorem dX7_worth_40 : decode cX7_worth 40 = .ok (.goto (-25), 3) := by decide +kernel
theorem dX7_worth_43 : decode cX7_worth 43 = .ok (.iload_n 2, 1) := by decide +kernel
theorem dX7_worth_44 : decode cX7_worth 44 = .ok (.ireturn, 1) := by decide +kernel
theorem dX7_isList_0 : decode cX7_isList 0 = .ok (.iload_n 1, 1) := by decide +kernel
theorem dX7_isList_1 : decode cX7_isList 1 = .ok (.iconst 0, 1) := by decide +kernel
theorem dX7_isList_2 : decode cX7_isList 2 = .ok (.aload_n 0, 1) := by decide +kernel
theorem dX7_isList_3 : decode cX7_isList 3 = .ok (.getfield 180, 3) := by decide +kernel
theorem dX7_isList_6 : decode cX7_isList 6 = .ok (.iconst 1, 1) := by decide +kernel
theorem dX7_isList_7 : decode cX7_isList 7 = .ok (.isub, 1) := by decide +kernel
theorem dX7_isList_8 : decode cX7_isList 8 = .ok (.invokestatic 75, 3) := by decide +kernel
theorem dX7_isList_11 : decode cX7_isList 11 = .ok (.ireturn, 1) := by decide +kernel
theorem dX7_list_0 : decode cX7_list 0 = .ok (.iload_n 1, 1) := by decide +kernel
theorem dX7_list_1 : decode cX7_list 1 = .ok (.invokestatic 82, 3) := by decide +kernel
theorem dX7_list_4 : decode cX7_list 4 = .ok (.ifCond .eq 24, 3) := by decide +kernel
theorem dX7_list_7 : decode cX7_list 7 = .ok (.iload_n 2, 1) := by decide +kernel
theorem dX7_list_8 : decode cX7_list 8 = .ok (.iconst 0, 1) := by decide +kernel
theorem dX7_list_9 : decode cX7_list 9 = .ok (.bipush 30, 2) := by decide +kernel
theorem dX7_list_11 : decode cX7_list 11 = .ok (.invokestatic 75, 3) := by decide +kernel
theorem dX7_list_14 : decode cX7_list 14 = .ok (.ifCond .eq 14, 3) := by decide +kernel
theorem dX7_list_17 : decode cX7_list 17 = .ok (.iload_n 3, 1) := by decide +kernel
theorem dX7_list_18 : decode cX7_list 18 = .ok (.iconst 0, 1) := by decide +kernel
theorem dX7_list_19 : decode cX7_list 19 = .ok (.sipush 3000, 3) := by decide +kernel
theorem dX7_list_22 : decode cX7_list 22 = .ok (.invokestatic 75, 3) := by decide +kernel
theorem dX7_list_25 : decode cX7_list 25 = .ok (.ifCond .ne 6, 3) := by decide +kernel
theorem dX7_list_28 : decode cX7_list 28 = .ok (.bipush (-2), 2) := by decide +kernel
theorem dX7_list_30 : decode cX7_list 30 = .ok (.ireturn, 1) := by decide +kernel
theorem dX7_list_31 : decode cX7_list 31 = .ok (.aload_n 0, 1) := by decide +kernel
theorem dX7_list_32 : decode cX7_list 32 = .ok (.getfield 60, 3) := by decide +kernel
theorem dX7_list_35 : decode cX7_list 35 = .ok (.iload_n 1, 1) := by decide +kernel
theorem dX7_list_36 : decode cX7_list 36 = .ok (.baload, 1) := by decide +kernel
theorem dX7_list_37 : decode cX7_list 37 = .ok (.ifCond .ne 9, 3) := by decide +kernel
theorem dX7_list_40 : decode cX7_list 40 = .ok (.aload_n 0, 1) := by decide +kernel
theorem dX7_list_41 : decode cX7_list 41 = .ok (.iconst 1, 1) := by decide +kernel
theorem dX7_list_42 : decode cX7_list 42 = .ok (.invokevirtual 86, 3) := by decide +kernel
theorem dX7_list_45 : decode cX7_list 45 = .ok (.ireturn, 1) := by decide +kernel
theorem dX7_list_46 : decode cX7_list 46 = .ok (.aload_n 0, 1) := by decide +kernel
theorem dX7_list_47 : decode cX7_list 47 = .ok (.getfield 66, 3) := by decide +kernel
theorem dX7_list_50 : decode cX7_list 50 = .ok (.iload_n 1, 1) := by decide +kernel
theorem dX7_list_51 : decode cX7_list 51 = .ok (.iaload, 1) := by decide +kernel
theorem dX7_list_52 : decode cX7_list 52 = .ok (.iload_n 2, 1) := by decide +kernel
theorem dX7_list_53 : decode cX7_list 53 = .ok (.if_icmp .ge 9, 3) := by decide +kernel
theorem dX7_list_56 : decode cX7_list 56 = .ok (.aload_n 0, 1) := by decide +kernel
theorem dX7_list_57 : decode cX7_list 57 = .ok (.iconst 2, 1) := by decide +kernel
theorem dX7_list_58 : decode cX7_list 58 = .ok (.invokevirtual 86, 3) := by decide +kernel
theorem dX7_list_61 : decode cX7_list 61 = .ok (.ireturn, 1) := by decide +kernel
theorem dX7_list_62 : decode cX7_list 62 = .ok (.aload_n 0, 1) := by decide +kernel
theorem dX7_list_63 : decode cX7_list 63 = .ok (.getfield 180, 3) := by decide +kernel
theorem dX7_list_66 : decode cX7_list 66 = .ok (.bipush 8, 2) := by decide +kernel
theorem dX7_list_68 : decode cX7_list 68 = .ok (.if_icmp .ne 6, 3) := by decide +kernel
theorem dX7_list_71 : decode cX7_list 71 = .ok (.bipush (-4), 2) := by decide +kernel
theorem dX7_list_73 : decode cX7_list 73 = .ok (.ireturn, 1) := by decide +kernel
theorem dX7_list_74 : decode cX7_list 74 = .ok (.iconst 0, 1) := by decide +kernel
theorem dX7_list_75 : decode cX7_list 75 = .ok (.istore 4, 2) := by decide +kernel
theorem dX7_list_77 : decode cX7_list 77 = .ok (.iload 4, 2) := by decide +kernel
theorem dX7_list_79 : decode cX7_list 79 = .ok (.iload_n 2, 1) := by decide +kernel
theorem dX7_list_80 : decode cX7_list 80 = .ok (.if_icmp .ge 52, 3) := by decide +kernel
theorem dX7_list_83 : decode cX7_list 83 = .ok (.aload_n 0, 1) := by decide +kernel
theorem dX7_list_84 : decode cX7_list 84 = .ok (.getfield 69, 3) := by decide +kernel
theorem dX7_list_87 : decode cX7_list 87 = .ok (.bipush 60, 2) := by decide +kernel
theorem dX7_list_89 : decode cX7_list 89 = .ok (.iload_n 1, 1) := by decide +kernel
theorem dX7_list_90 : decode cX7_list 90 = .ok (.imul, 1) := by decide +kernel
theorem dX7_list_91 : decode cX7_list 91 = .ok (.iload 4, 2) := by decide +kernel
theorem dX7_list_93 : decode cX7_list 93 = .ok (.iadd, 1) := by decide +kernel
theorem dX7_list_94 : decode cX7_list 94 = .ok (.iaload, 1) := by decide +kernel
theorem dX7_list_95 : decode cX7_list 95 = .ok (.istore 5, 2) := by decide +kernel
theorem dX7_list_97 : decode cX7_list 97 = .ok (.aload_n 0, 1) := by decide +kernel
theorem dX7_list_98 : decode cX7_list 98 = .ok (.getfield 51, 3) := by decide +kernel
theorem dX7_list_101 : decode cX7_list 101 = .ok (.bipush 30, 2) := by decide +kernel
theorem dX7_list_103 : decode cX7_list 103 = .ok (.aload_n 0, 1) := by decide +kernel
theorem dX7_list_104 : decode cX7_list 104 = .ok (.getfield 180, 3) := by decide +kernel
theorem dX7_list_107 : decode cX7_list 107 = .ok (.imul, 1) := by decide +kernel
theorem dX7_list_108 : decode cX7_list 108 = .ok (.iload 4, 2) := by decide +kernel
theorem dX7_list_110 : decode cX7_list 110 = .ok (.iadd, 1) := by decide +kernel
theorem dX7_list_111 : decode cX7_list 111 = .ok (.iload 5, 2) := by decide +kernel
theorem dX7_list_113 : decode cX7_list 113 = .ok (.invokestatic 90, 3) := by decide +kernel
theorem dX7_list_116 : decode cX7_list 116 = .ok (.ifCond .eq 8, 3) := by decide +kernel
theorem dX7_list_119 : decode cX7_list 119 = .ok (.iload 5, 2) := by decide +kernel
theorem dX7_list_121 : decode cX7_list 121 = .ok (.goto 4, 3) := by decide +kernel
theorem dX7_list_124 : decode cX7_list 124 = .ok (.iconst (-1), 1) := by decide +kernel
theorem dX7_list_125 : decode cX7_list 125 = .ok (.iastore, 1) := by decide +kernel
theorem dX7_list_126 : decode cX7_list 126 = .ok (.iinc 4 1, 3) := by decide +kernel
theorem dX7_list_129 : decode cX7_list 129 = .ok (.goto (-52), 3) := by decide +kernel
theorem dX7_list_132 : decode cX7_list 132 = .ok (.aload_n 0, 1) := by decide +kernel
theorem dX7_list_133 : decode cX7_list 133 = .ok (.getfield 45, 3) := by decide +kernel
theorem dX7_list_136 : decode cX7_list 136 = .ok (.aload_n 0, 1) := by decide +kernel
theorem dX7_list_137 : decode cX7_list 137 = .ok (.getfield 180, 3) := by decide +kernel
theorem dX7_list_140 : decode cX7_list 140 = .ok (.iload_n 2, 1) := by decide +kernel
theorem dX7_list_141 : decode cX7_list 141 = .ok (.iastore, 1) := by decide +kernel
theorem dX7_list_142 : decode cX7_list 142 = .ok (.aload_n 0, 1) := by decide +kernel
theorem dX7_list_143 : decode cX7_list 143 = .ok (.getfield 48, 3) := by decide +kernel
theorem dX7_list_146 : decode cX7_list 146 = .ok (.aload_n 0, 1) := by decide +kernel
theorem dX7_list_147 : decode cX7_list 147 = .ok (.getfield 180, 3) := by decide +kernel
theorem dX7_list_150 : decode cX7_list 150 = .ok (.iload_n 3, 1) := by decide +kernel
theorem dX7_list_151 : decode cX7_list 151 = .ok (.iastore, 1) := by decide +kernel
theorem dX7_list_152 : decode cX7_list 152 = .ok (.aload_n 0, 1) := by decide +kernel
theorem dX7_list_153 : decode cX7_list 153 = .ok (.dup, 1) := by decide +kernel
theorem dX7_list_154 : decode cX7_list 154 = .ok (.getfield 180, 3) := by decide +kernel
theorem dX7_list_157 : decode cX7_list 157 = .ok (.iconst 1, 1) := by decide +kernel
theorem dX7_list_158 : decode cX7_list 158 = .ok (.iadd, 1) := by decide +kernel
theorem dX7_list_159 : decode cX7_list 159 = .ok (.putfield 180, 3) := by decide +kernel
theorem dX7_list_162 : decode cX7_list 162 = .ok (.aload_n 0, 1) := by decide +kernel
theorem dX7_list_163 : decode cX7_list 163 = .ok (.getfield 180, 3) := by decide +kernel
theorem dX7_list_166 : decode cX7_list 166 = .ok (.iconst 1, 1) := by decide +kernel
theorem dX7_list_167 : decode cX7_list 167 = .ok (.isub, 1) := by decide +kernel
theorem dX7_list_168 : decode cX7_list 168 = .ok (.ireturn, 1) := by decide +kernel
theorem dX7_word_0 : decode cX7_word 0 = .ok (.aload_n 0, 1) := by decide +kernel
theorem dX7_word_1 : decode cX7_word 1 = .ok (.iload_n 1, 1) := by decide +kernel
theorem dX7_word_2 : decode cX7_word 2 = .ok (.invokevirtual 183, 3) := by decide +kernel
theorem dX7_word_5 : decode cX7_word 5 = .ok (.ifCond .eq 33, 3) := by decide +kernel
theorem dX7_word_8 : decode cX7_word 8 = .ok (.iload_n 2, 1) := by decide +kernel
theorem dX7_word_9 : decode cX7_word 9 = .ok (.iconst 0, 1) := by decide +kernel
theorem dX7_word_10 : decode cX7_word 10 = .ok (.aload_n 0, 1) := by decide +kernel
theorem dX7_word_11 : decode cX7_word 11 = .ok (.getfield 45, 3) := by decide +kernel
theorem dX7_word_14 : decode cX7_word 14 = .ok (.iload_n 1, 1) := by decide +kernel
theorem dX7_word_15 : decode cX7_word 15 = .ok (.iaload, 1) := by decide +kernel
theorem dX7_word_16 : decode cX7_word 16 = .ok (.iconst 1, 1) := by decide +kernel
theorem dX7_word_17 : decode cX7_word 17 = .ok (.isub, 1) := by decide +kernel
theorem dX7_word_18 : decode cX7_word 18 = .ok (.invokestatic 75, 3) := by decide +kernel
theorem dX7_word_21 : decode cX7_word 21 = .ok (.ifCond .eq 17, 3) := by decide +kernel
theorem dX7_word_24 : decode cX7_word 24 = .ok (.aload_n 0, 1) := by decide +kernel
theorem dX7_word_25 : decode cX7_word 25 = .ok (.getfield 51, 3) := by decide +kernel
theorem dX7_word_28 : decode cX7_word 28 = .ok (.bipush 30, 2) := by decide +kernel
theorem dX7_word_30 : decode cX7_word 30 = .ok (.iload_n 1, 1) := by decide +kernel
theorem dX7_word_31 : decode cX7_word 31 = .ok (.imul, 1) := by decide +kernel
theorem dX7_word_32 : decode cX7_word 32 = .ok (.iload_n 2, 1) := by decide +kernel
theorem dX7_word_33 : decode cX7_word 33 = .ok (.iadd, 1) := by decide +kernel
theorem dX7_word_34 : decode cX7_word 34 = .ok (.iaload, 1) := by decide +kernel
theorem dX7_word_35 : decode cX7_word 35 = .ok (.goto 5, 3) := by decide +kernel
theorem dX7_word_38 : decode cX7_word 38 = .ok (.bipush (-2), 2) := by decide +kernel
theorem dX7_word_40 : decode cX7_word 40 = .ok (.ireturn, 1) := by decide +kernel
theorem dX7_tens_0 : decode cX7_tens 0 = .ok (.iconst 0, 1) := by decide +kernel
theorem dX7_tens_1 : decode cX7_tens 1 = .ok (.istore_n 3, 1) := by decide +kernel
theorem dX7_tens_2 : decode cX7_tens 2 = .ok (.bipush 10, 2) := by decide +kernel
theorem dX7_tens_4 : decode cX7_tens 4 = .ok (.istore 4, 2) := by decide +kernel
theorem dX7_tens_6 : decode cX7_tens 6 = .ok (.iload 4, 2) := by decide +kernel
theorem dX7_tens_8 : decode cX7_tens 8 = .ok (.aload_n 0, 1) := by decide +kernel
theorem dX7_tens_9 : decode cX7_tens 9 = .ok (.getfield 45, 3) := by decide +kernel
theorem dX7_tens_12 : decode cX7_tens 12 = .ok (.iload_n 1, 1) := by decide +kernel
theorem dX7_tens_13 : decode cX7_tens 13 = .ok (.iaload, 1) := by decide +kernel
theorem dX7_tens_14 : decode cX7_tens 14 = .ok (.if_icmp .ge 83, 3) := by decide +kernel
theorem dX7_tens_17 : decode cX7_tens 17 = .ok (.aload_n 0, 1) := by decide +kernel
theorem dX7_tens_18 : decode cX7_tens 18 = .ok (.getfield 51, 3) := by decide +kernel
theorem dX7_tens_21 : decode cX7_tens 21 = .ok (.bipush 30, 2) := by decide +kernel
theorem dX7_tens_23 : decode cX7_tens 23 = .ok (.iload_n 1, 1) := by decide +kernel
theorem dX7_tens_24 : decode cX7_tens 24 = .ok (.imul, 1) := by decide +kernel
theorem dX7_tens_25 : decode cX7_tens 25 = .ok (.iload 4, 2) := by decide +kernel
theorem dX7_tens_27 : decode cX7_tens 27 = .ok (.iadd, 1) := by decide +kernel
theorem dX7_tens_28 : decode cX7_tens 28 = .ok (.iaload, 1) := by decide +kernel
theorem dX7_tens_29 : decode cX7_tens 29 = .ok (.istore 5, 2) := by decide +kernel
theorem dX7_tens_31 : decode cX7_tens 31 = .ok (.aload_n 0, 1) := by decide +kernel
theorem dX7_tens_32 : decode cX7_tens 32 = .ok (.getfield 51, 3) := by decide +kernel
theorem dX7_tens_35 : decode cX7_tens 35 = .ok (.bipush 30, 2) := by decide +kernel
theorem dX7_tens_37 : decode cX7_tens 37 = .ok (.iload_n 1, 1) := by decide +kernel
theorem dX7_tens_38 : decode cX7_tens 38 = .ok (.imul, 1) := by decide +kernel
theorem dX7_tens_39 : decode cX7_tens 39 = .ok (.iload 4, 2) := by decide +kernel
theorem dX7_tens_41 : decode cX7_tens 41 = .ok (.bipush 10, 2) := by decide +kernel
theorem dX7_tens_43 : decode cX7_tens 43 = .ok (.irem, 1) := by decide +kernel
theorem dX7_tens_44 : decode cX7_tens 44 = .ok (.iadd, 1) := by decide +kernel
theorem dX7_tens_45 : decode cX7_tens 45 = .ok (.iaload, 1) := by decide +kernel
theorem dX7_tens_46 : decode cX7_tens 46 = .ok (.istore 6, 2) := by decide +kernel
theorem dX7_tens_48 : decode cX7_tens 48 = .ok (.iload 5, 2) := by decide +kernel
theorem dX7_tens_50 : decode cX7_tens 50 = .ok (.iconst (-1), 1) := by decide +kernel
theorem dX7_tens_51 : decode cX7_tens 51 = .ok (.if_icmp .eq 13, 3) := by decide +kernel
theorem dX7_tens_54 : decode cX7_tens 54 = .ok (.iload 6, 2) := by decide +kernel
theorem dX7_tens_56 : decode cX7_tens 56 = .ok (.iconst (-1), 1) := by decide +kernel
theorem dX7_tens_57 : decode cX7_tens 57 = .ok (.if_icmp .eq 7, 3) := by decide +kernel
theorem dX7_tens_60 : decode cX7_tens 60 = .ok (.iconst 1, 1) := by decide +kernel
theorem dX7_tens_61 : decode cX7_tens 61 = .ok (.goto 4, 3) := by decide +kernel
theorem dX7_tens_64 : decode cX7_tens 64 = .ok (.iconst 0, 1) := by decide +kernel
theorem dX7_tens_65 : decode cX7_tens 65 = .ok (.istore 7, 2) := by decide +kernel
theorem dX7_tens_67 : decode cX7_tens 67 = .ok (.iload_n 3, 1) := by decide +kernel
theorem dX7_tens_68 : decode cX7_tens 68 = .ok (.iload 7, 2) := by decide +kernel
theorem dX7_tens_70 : decode cX7_tens 70 = .ok (.ifCond .eq 18, 3) := by decide +kernel
theorem dX7_tens_73 : decode cX7_tens 73 = .ok (.iload_n 2, 1) := by decide +kernel
theorem dX7_tens_74 : decode cX7_tens 74 = .ok (.ifCond .eq 10, 3) := by decide +kernel
theorem dX7_tens_77 : decode cX7_tens 77 = .ok (.iload 5, 2) := by decide +kernel
theorem dX7_tens_79 : decode cX7_tens 79 = .ok (.iload 6, 2) := by decide +kernel
theorem dX7_tens_81 : decode cX7_tens 81 = .ok (.if_icmp .ne 7, 3) := by decide +kernel
theorem dX7_tens_84 : decode cX7_tens 84 = .ok (.iconst 1, 1) := by decide +kernel
theorem dX7_tens_85 : decode cX7_tens 85 = .ok (.goto 4, 3) := by decide +kernel
theorem dX7_tens_88 : decode cX7_tens 88 = .ok (.iconst 0, 1) := by decide +kernel
theorem dX7_tens_89 : decode cX7_tens 89 = .ok (.iadd, 1) := by decide +kernel
theorem dX7_tens_90 : decode cX7_tens 90 = .ok (.istore_n 3, 1) := by decide +kernel
theorem dX7_tens_91 : decode cX7_tens 91 = .ok (.iinc 4 1, 3) := by decide +kernel
theorem dX7_tens_94 : decode cX7_tens 94 = .ok (.goto (-88), 3) := by decide +kernel
theorem dX7_tens_97 : decode cX7_tens 97 = .ok (.iload_n 3, 1) := by decide +kernel
theorem dX7_tens_98 : decode cX7_tens 98 = .ok (.ireturn, 1) := by decide +kernel
theorem dX7_listOf_0 : decode cX7_listOf 0 = .ok (.iconst 0, 1) := by decide +kernel
theorem dX7_listOf_1 : decode cX7_listOf 1 = .ok (.istore_n 3, 1) := by decide +kernel
theorem dX7_listOf_2 : decode cX7_listOf 2 = .ok (.iload_n 2, 1) := by decide +kernel
theorem dX7_listOf_3 : decode cX7_listOf 3 = .ok (.tableswitch 132 0 4 #[33, 40, 47, 93, 100], 33) := by decide +kernel
theorem dX7_listOf_36 : decode cX7_listOf 36 = .ok (.aload_n 0, 1) := by decide +kernel
theorem dX7_listOf_37 : decode cX7_listOf 37 = .ok (.getfield 45, 3) := by decide +kernel
theorem dX7_listOf_40 : decode cX7_listOf 40 = .ok (.iload_n 1, 1) := by decide +kernel
theorem dX7_listOf_41 : decode cX7_listOf 41 = .ok (.iaload, 1) := by decide +kernel
theorem dX7_listOf_42 : decode cX7_listOf 42 = .ok (.ireturn, 1) := by decide +kernel
theorem dX7_listOf_43 : decode cX7_listOf 43 = .ok (.aload_n 0, 1) := by decide +kernel
theorem dX7_listOf_44 : decode cX7_listOf 44 = .ok (.getfield 48, 3) := by decide +kernel
theorem dX7_listOf_47 : decode cX7_listOf 47 = .ok (.iload_n 1, 1) := by decide +kernel
theorem dX7_listOf_48 : decode cX7_listOf 48 = .ok (.iaload, 1) := by decide +kernel
theorem dX7_listOf_49 : decode cX7_listOf 49 = .ok (.ireturn, 1) := by decide +kernel
theorem dX7_listOf_50 : decode cX7_listOf 50 = .ok (.iconst 0, 1) := by decide +kernel
theorem dX7_listOf_51 : decode cX7_listOf 51 = .ok (.istore 4, 2) := by decide +kernel
theorem dX7_listOf_53 : decode cX7_listOf 53 = .ok (.iload 4, 2) := by decide +kernel
theorem dX7_listOf_55 : decode cX7_listOf 55 = .ok (.aload_n 0, 1) := by decide +kernel
theorem dX7_listOf_56 : decode cX7_listOf 56 = .ok (.getfield 45, 3) := by decide +kernel
theorem dX7_listOf_59 : decode cX7_listOf 59 = .ok (.iload_n 1, 1) := by decide +kernel
theorem dX7_listOf_60 : decode cX7_listOf 60 = .ok (.iaload, 1) := by decide +kernel
theorem dX7_listOf_61 : decode cX7_listOf 61 = .ok (.if_icmp .ge 33, 3) := by decide +kernel
theorem dX7_listOf_64 : decode cX7_listOf 64 = .ok (.iload_n 3, 1) := by decide +kernel
theorem dX7_listOf_65 : decode cX7_listOf 65 = .ok (.aload_n 0, 1) := by decide +kernel
theorem dX7_listOf_66 : decode cX7_listOf 66 = .ok (.getfield 51, 3) := by decide +kernel
theorem dX7_listOf_69 : decode cX7_listOf 69 = .ok (.bipush 30, 2) := by decide +kernel
theorem dX7_listOf_71 : decode cX7_listOf 71 = .ok (.iload_n 1, 1) := by decide +kernel
theorem dX7_listOf_72 : decode cX7_listOf 72 = .ok (.imul, 1) := by decide +kernel
theorem dX7_listOf_73 : decode cX7_listOf 73 = .ok (.iload 4, 2) := by decide +kernel
theorem dX7_listOf_75 : decode cX7_listOf 75 = .ok (.iadd, 1) := by decide +kernel
theorem dX7_listOf_76 : decode cX7_listOf 76 = .ok (.iaload, 1) := by decide +kernel
theorem dX7_listOf_77 : decode cX7_listOf 77 = .ok (.iconst (-1), 1) := by decide +kernel
theorem dX7_listOf_78 : decode cX7_listOf 78 = .ok (.if_icmp .ne 7, 3) := by decide +kernel
theorem dX7_listOf_81 : decode cX7_listOf 81 = .ok (.iconst 1, 1) := by decide +kernel
theorem dX7_listOf_82 : decode cX7_listOf 82 = .ok (.goto 4, 3) := by decide +kernel
theorem dX7_listOf_85 : decode cX7_listOf 85 = .ok (.iconst 0, 1) := by decide +kernel
theorem dX7_listOf_86 : decode cX7_listOf 86 = .ok (.iadd, 1) := by decide +kernel
theorem dX7_listOf_87 : decode cX7_listOf 87 = .ok (.istore_n 3, 1) := by decide +kernel
theorem dX7_listOf_88 : decode cX7_listOf 88 = .ok (.iinc 4 1, 3) := by decide +kernel
theorem dX7_listOf_91 : decode cX7_listOf 91 = .ok (.goto (-38), 3) := by decide +kernel
theorem dX7_listOf_94 : decode cX7_listOf 94 = .ok (.iload_n 3, 1) := by decide +kernel
theorem dX7_listOf_95 : decode cX7_listOf 95 = .ok (.ireturn, 1) := by decide +kernel
theorem dX7_listOf_96 : decode cX7_listOf 96 = .ok (.aload_n 0, 1) := by decide +kernel
theorem dX7_listOf_97 : decode cX7_listOf 97 = .ok (.iload_n 1, 1) := by decide +kernel
theorem dX7_listOf_98 : decode cX7_listOf 98 = .ok (.iconst 1, 1) := by decide +kernel
theorem dX7_listOf_99 : decode cX7_listOf 99 = .ok (.invokevirtual 186, 3) := by decide +kernel
theorem dX7_listOf_102 : decode cX7_listOf 102 = .ok (.ireturn, 1) := by decide +kernel
theorem dX7_listOf_103 : decode cX7_listOf 103 = .ok (.aload_n 0, 1) := by decide +kernel
theorem dX7_listOf_104 : decode cX7_listOf 104 = .ok (.iload_n 1, 1) := by decide +kernel
theorem dX7_listOf_105 : decode cX7_listOf 105 = .ok (.iconst 1, 1) := by decide +kernel
theorem dX7_listOf_106 : decode cX7_listOf 106 = .ok (.invokevirtual 186, 3) := by decide +kernel
theorem dX7_listOf_109 : decode cX7_listOf 109 = .ok (.ifCond .le 24, 3) := by decide +kernel
theorem dX7_listOf_112 : decode cX7_listOf 112 = .ok (.iconst 2, 1) := by decide +kernel
theorem dX7_listOf_113 : decode cX7_listOf 113 = .ok (.aload_n 0, 1) := by decide +kernel
theorem dX7_listOf_114 : decode cX7_listOf 114 = .ok (.iload_n 1, 1) := by decide +kernel
theorem dX7_listOf_115 : decode cX7_listOf 115 = .ok (.iconst 1, 1) := by decide +kernel
theorem dX7_listOf_116 : decode cX7_listOf 116 = .ok (.invokevirtual 186, 3) := by decide +kernel
theorem dX7_listOf_119 : decode cX7_listOf 119 = .ok (.imul, 1) := by decide +kernel
theorem dX7_listOf_120 : decode cX7_listOf 120 = .ok (.aload_n 0, 1) := by decide +kernel
theorem dX7_listOf_121 : decode cX7_listOf 121 = .ok (.iload_n 1, 1) := by decide +kernel
theorem dX7_listOf_122 : decode cX7_listOf 122 = .ok (.iconst 0, 1) := by decide +kernel
theorem dX7_listOf_123 : decode cX7_listOf 123 = .ok (.invokevirtual 186, 3) := by decide +kernel
theorem dX7_listOf_126 : decode cX7_listOf 126 = .ok (.if_icmp .lt 7, 3) := by decide +kernel
theorem dX7_listOf_129 : decode cX7_listOf 129 = .ok (.iconst 1, 1) := by decide +kernel
theorem dX7_listOf_130 : decode cX7_listOf 130 = .ok (.goto 4, 3) := by decide +kernel
theorem dX7_listOf_133 : decode cX7_listOf 133 = .ok (.iconst 0, 1) := by decide +kernel
theorem dX7_listOf_134 : decode cX7_listOf 134 = .ok (.ireturn, 1) := by decide +kernel
theorem dX7_listOf_135 : decode cX7_listOf 135 = .ok (.bipush (-2), 2) := by decide +kernel
theorem dX7_listOf_137 : decode cX7_listOf 137 = .ok (.ireturn, 1) := by decide +kernel
theorem dX7_listIs_0 : decode cX7_listIs 0 = .ok (.aload_n 0, 1) := by decide +kernel
theorem dX7_listIs_1 : decode cX7_listIs 1 = .ok (.iload_n 1, 1) := by decide +kernel
theorem dX7_listIs_2 : decode cX7_listIs 2 = .ok (.invokevirtual 183, 3) := by decide +kernel
theorem dX7_listIs_5 : decode cX7_listIs 5 = .ok (.ifCond .eq 12, 3) := by decide +kernel
theorem dX7_listIs_8 : decode cX7_listIs 8 = .ok (.aload_n 0, 1) := by decide +kernel
theorem dX7_listIs_9 : decode cX7_listIs 9 = .ok (.iload_n 1, 1) := by decide +kernel
theorem dX7_listIs_10 : decode cX7_listIs 10 = .ok (.iload_n 2, 1) := by decide +kernel
theorem dX7_listIs_11 : decode cX7_listIs 11 = .ok (.invokevirtual 189, 3) := by decide +kernel
theorem dX7_listIs_14 : decode cX7_listIs 14 = .ok (.goto 5, 3) := by decide +kernel
theorem dX7_listIs_17 : decode cX7_listIs 17 = .ok (.bipush (-2), 2) := by decide +kernel
theorem dX7_listIs_19 : decode cX7_listIs 19 = .ok (.ireturn, 1) := by decide +kernel
theorem dX7_changesOf_0 : decode cX7_changesOf 0 = .ok (.iconst 0, 1) := by decide +kernel
theorem dX7_changesOf_1 : decode cX7_changesOf 1 = .ok (.istore_n 3, 1) := by decide +kernel
theorem dX7_changesOf_2 : decode cX7_changesOf 2 = .ok (.iload_n 3, 1) := by decide +kernel
theorem dX7_changesOf_3 : decode cX7_changesOf 3 = .ok (.aload_n 0, 1) := by decide +kernel
theorem dX7_changesOf_4 : decode cX7_changesOf 4 = .ok (.getfield 45, 3) := by decide +kernel
theorem dX7_changesOf_7 : decode cX7_changesOf 7 = .ok (.iload_n 1, 1) := by decide +kernel
theorem dX7_changesOf_8 : decode cX7_changesOf 8 = .ok (.iaload, 1) := by decide +kernel
theorem dX7_changesOf_9 : decode cX7_changesOf 9 = .ok (.if_icmp .gt 206, 3) := by decide +kernel
theorem dX7_changesOf_12 : decode cX7_changesOf 12 = .ok (.iconst 0, 1) := by decide +kernel
theorem dX7_changesOf_13 : decode cX7_changesOf 13 = .ok (.istore 4, 2) := by decide +kernel
theorem dX7_changesOf_15 : decode cX7_changesOf 15 = .ok (.iload 4, 2) := by decide +kernel
theorem dX7_changesOf_17 : decode cX7_changesOf 17 = .ok (.aload_n 0, 1) := by decide +kernel
theorem dX7_changesOf_18 : decode cX7_changesOf 18 = .ok (.getfield 45, 3) := by decide +kernel
theorem dX7_changesOf_21 : decode cX7_changesOf 21 = .ok (.iload_n 2, 1) := by decide +kernel
theorem dX7_changesOf_22 : decode cX7_changesOf 22 = .ok (.iaload, 1) := by decide +kernel
theorem dX7_changesOf_23 : decode cX7_changesOf 23 = .ok (.if_icmp .gt 186, 3) := by decide +kernel
theorem dX7_changesOf_26 : decode cX7_changesOf 26 = .ok (.iconst 2, 1) := by decide +kernel
theorem dX7_changesOf_27 : decode cX7_changesOf 27 = .ok (.iload_n 3, 1) := by decide +kernel
theorem dX7_changesOf_28 : decode cX7_changesOf 28 = .ok (.iload 4, 2) := by decide +kernel
theorem dX7_changesOf_30 : decode cX7_changesOf 30 = .ok (.iadd, 1) := by decide +kernel
theorem dX7_changesOf_31 : decode cX7_changesOf 31 = .ok (.imul, 1) := by decide +kernel
theorem dX7_changesOf_32 : decode cX7_changesOf 32 = .ok (.istore 5, 2) := by decide +kernel
theorem dX7_changesOf_34 : decode cX7_changesOf 34 = .ok (.iload_n 3, 1) := by decide +kernel
theorem dX7_changesOf_35 : decode cX7_changesOf 35 = .ok (.ifCond .le 154, 3) := by decide +kernel
theorem dX7_changesOf_38 : decode cX7_changesOf 38 = .ok (.iload 4, 2) := by decide +kernel
theorem dX7_changesOf_40 : decode cX7_changesOf 40 = .ok (.ifCond .le 149, 3) := by decide +kernel
theorem dX7_changesOf_43 : decode cX7_changesOf 43 = .ok (.aload_n 0, 1) := by decide +kernel
theorem dX7_changesOf_44 : decode cX7_changesOf 44 = .ok (.getfield 51, 3) := by decide +kernel
theorem dX7_changesOf_47 : decode cX7_changesOf 47 = .ok (.bipush 30, 2) := by decide +kernel
theorem dX7_changesOf_49 : decode cX7_changesOf 49 = .ok (.iload_n 1, 1) := by decide +kernel
theorem dX7_changesOf_50 : decode cX7_changesOf 50 = .ok (.imul, 1) := by decide +kernel
theorem dX7_changesOf_51 : decode cX7_changesOf 51 = .ok (.iload_n 3, 1) := by decide +kernel
theorem dX7_changesOf_52 : decode cX7_changesOf 52 = .ok (.iadd, 1) := by decide +kernel
theorem dX7_changesOf_53 : decode cX7_changesOf 53 = .ok (.iconst 1, 1) := by decide +kernel
theorem dX7_changesOf_54 : decode cX7_changesOf 54 = .ok (.isub, 1) := by decide +kernel
theorem dX7_changesOf_55 : decode cX7_changesOf 55 = .ok (.iaload, 1) := by decide +kernel
theorem dX7_changesOf_56 : decode cX7_changesOf 56 = .ok (.istore 6, 2) := by decide +kernel
theorem dX7_changesOf_58 : decode cX7_changesOf 58 = .ok (.aload_n 0, 1) := by decide +kernel
theorem dX7_changesOf_59 : decode cX7_changesOf 59 = .ok (.getfield 51, 3) := by decide +kernel
theorem dX7_changesOf_62 : decode cX7_changesOf 62 = .ok (.bipush 30, 2) := by decide +kernel
theorem dX7_changesOf_64 : decode cX7_changesOf 64 = .ok (.iload_n 2, 1) := by decide +kernel
theorem dX7_changesOf_65 : decode cX7_changesOf 65 = .ok (.imul, 1) := by decide +kernel
theorem dX7_changesOf_66 : decode cX7_changesOf 66 = .ok (.iload 4, 2) := by decide +kernel
theorem dX7_changesOf_68 : decode cX7_changesOf 68 = .ok (.iadd, 1) := by decide +kernel
theorem dX7_changesOf_69 : decode cX7_changesOf 69 = .ok (.iconst 1, 1) := by decide +kernel
theorem dX7_changesOf_70 : decode cX7_changesOf 70 = .ok (.isub, 1) := by decide +kernel
theorem dX7_changesOf_71 : decode cX7_changesOf 71 = .ok (.iaload, 1) := by decide +kernel
theorem dX7_changesOf_72 : decode cX7_changesOf 72 = .ok (.istore 7, 2) := by decide +kernel
theorem dX7_changesOf_74 : decode cX7_changesOf 74 = .ok (.aload_n 0, 1) := by decide +kernel
theorem dX7_changesOf_75 : decode cX7_changesOf 75 = .ok (.getfield 54, 3) := by decide +kernel
theorem dX7_changesOf_78 : decode cX7_changesOf 78 = .ok (.bipush 31, 2) := by decide +kernel
theorem dX7_changesOf_80 : decode cX7_changesOf 80 = .ok (.iload_n 3, 1) := by decide +kernel
theorem dX7_changesOf_81 : decode cX7_changesOf 81 = .ok (.iconst 1, 1) := by decide +kernel
theorem dX7_changesOf_82 : decode cX7_changesOf 82 = .ok (.isub, 1) := by decide +kernel
theorem dX7_changesOf_83 : decode cX7_changesOf 83 = .ok (.imul, 1) := by decide +kernel
theorem dX7_changesOf_84 : decode cX7_changesOf 84 = .ok (.iload 4, 2) := by decide +kernel
theorem dX7_changesOf_86 : decode cX7_changesOf 86 = .ok (.iadd, 1) := by decide +kernel
theorem dX7_changesOf_87 : decode cX7_changesOf 87 = .ok (.iconst 1, 1) := by decide +kernel
theorem dX7_changesOf_88 : decode cX7_changesOf 88 = .ok (.isub, 1) := by decide +kernel
theorem dX7_changesOf_89 : decode cX7_changesOf 89 = .ok (.iaload, 1) := by decide +kernel
theorem dX7_changesOf_90 : decode cX7_changesOf 90 = .ok (.iload 6, 2) := by decide +kernel
theorem dX7_changesOf_92 : decode cX7_changesOf 92 = .ok (.iload 7, 2) := by decide +kernel
theorem dX7_changesOf_94 : decode cX7_changesOf 94 = .ok (.if_icmp .eq 15, 3) := by decide +kernel
theorem dX7_changesOf_97 : decode cX7_changesOf 97 = .ok (.iload 6, 2) := by decide +kernel
theorem dX7_changesOf_99 : decode cX7_changesOf 99 = .ok (.iconst (-1), 1) := by decide +kernel
theorem dX7_changesOf_100 : decode cX7_changesOf 100 = .ok (.if_icmp .eq 9, 3) := by decide +kernel
theorem dX7_changesOf_103 : decode cX7_changesOf 103 = .ok (.iload 7, 2) := by decide +kernel
theorem dX7_changesOf_105 : decode cX7_changesOf 105 = .ok (.iconst (-1), 1) := by decide +kernel
theorem dX7_changesOf_106 : decode cX7_changesOf 106 = .ok (.if_icmp .ne 7, 3) := by decide +kernel
theorem dX7_changesOf_109 : decode cX7_changesOf 109 = .ok (.iconst 0, 1) := by decide +kernel
theorem dX7_changesOf_110 : decode cX7_changesOf 110 = .ok (.goto 4, 3) := by decide +kernel
theorem dX7_changesOf_113 : decode cX7_changesOf 113 = .ok (.iconst 3, 1) := by decide +kernel
theorem dX7_changesOf_114 : decode cX7_changesOf 114 = .ok (.iadd, 1) := by decide +kernel
theorem dX7_changesOf_115 : decode cX7_changesOf 115 = .ok (.istore 8, 2) := by decide +kernel
theorem dX7_changesOf_117 : decode cX7_changesOf 117 = .ok (.iload 8, 2) := by decide +kernel
theorem dX7_changesOf_119 : decode cX7_changesOf 119 = .ok (.istore 5, 2) := by decide +kernel
theorem dX7_changesOf_121 : decode cX7_changesOf 121 = .ok (.aload_n 0, 1) := by decide +kernel
theorem dX7_changesOf_122 : decode cX7_changesOf 122 = .ok (.getfield 54, 3) := by decide +kernel
theorem dX7_changesOf_125 : decode cX7_changesOf 125 = .ok (.bipush 31, 2) := by decide +kernel
theorem dX7_changesOf_127 : decode cX7_changesOf 127 = .ok (.iload_n 3, 1) := by decide +kernel
theorem dX7_changesOf_128 : decode cX7_changesOf 128 = .ok (.iconst 1, 1) := by decide +kernel
theorem dX7_changesOf_129 : decode cX7_changesOf 129 = .ok (.isub, 1) := by decide +kernel
theorem dX7_changesOf_130 : decode cX7_changesOf 130 = .ok (.imul, 1) := by decide +kernel
theorem dX7_changesOf_131 : decode cX7_changesOf 131 = .ok (.iload 4, 2) := by decide +kernel
theorem dX7_changesOf_133 : decode cX7_changesOf 133 = .ok (.iadd, 1) := by decide +kernel
theorem dX7_changesOf_134 : decode cX7_changesOf 134 = .ok (.iaload, 1) := by decide +kernel
theorem dX7_changesOf_135 : decode cX7_changesOf 135 = .ok (.iconst 2, 1) := by decide +kernel
theorem dX7_changesOf_136 : decode cX7_changesOf 136 = .ok (.iadd, 1) := by decide +kernel
theorem dX7_changesOf_137 : decode cX7_changesOf 137 = .ok (.istore 8, 2) := by decide +kernel
theorem dX7_changesOf_139 : decode cX7_changesOf 139 = .ok (.iload 8, 2) := by decide +kernel
theorem dX7_changesOf_141 : decode cX7_changesOf 141 = .ok (.iload 5, 2) := by decide +kernel
theorem dX7_changesOf_143 : decode cX7_changesOf 143 = .ok (.if_icmp .ge 8, 3) := by decide +kernel
theorem dX7_changesOf_146 : decode cX7_changesOf 146 = .ok (.iload 8, 2) := by decide +kernel
theorem dX7_changesOf_148 : decode cX7_changesOf 148 = .ok (.goto 5, 3) := by decide +kernel
theorem dX7_changesOf_151 : decode cX7_changesOf 151 = .ok (.iload 5, 2) := by decide +kernel
theorem dX7_changesOf_153 : decode cX7_changesOf 153 = .ok (.istore 5, 2) := by decide +kernel
theorem dX7_changesOf_155 : decode cX7_changesOf 155 = .ok (.aload_n 0, 1) := by decide +kernel
theorem dX7_changesOf_156 : decode cX7_changesOf 156 = .ok (.getfield 54, 3) := by decide +kernel
theorem dX7_changesOf_159 : decode cX7_changesOf 159 = .ok (.bipush 31, 2) := by decide +kernel
theorem dX7_changesOf_161 : decode cX7_changesOf 161 = .ok (.iload_n 3, 1) := by decide +kernel
theorem dX7_changesOf_162 : decode cX7_changesOf 162 = .ok (.imul, 1) := by decide +kernel
theorem dX7_changesOf_163 : decode cX7_changesOf 163 = .ok (.iload 4, 2) := by decide +kernel
theorem dX7_changesOf_165 : decode cX7_changesOf 165 = .ok (.iadd, 1) := by decide +kernel
theorem dX7_changesOf_166 : decode cX7_changesOf 166 = .ok (.iconst 1, 1) := by decide +kernel
theorem dX7_changesOf_167 : decode cX7_changesOf 167 = .ok (.isub, 1) := by decide +kernel
theorem dX7_changesOf_168 : decode cX7_changesOf 168 = .ok (.iaload, 1) := by decide +kernel
theorem dX7_changesOf_169 : decode cX7_changesOf 169 = .ok (.iconst 2, 1) := by decide +kernel
theorem dX7_changesOf_170 : decode cX7_changesOf 170 = .ok (.iadd, 1) := by decide +kernel
theorem dX7_changesOf_171 : decode cX7_changesOf 171 = .ok (.istore 8, 2) := by decide +kernel
theorem dX7_changesOf_173 : decode cX7_changesOf 173 = .ok (.iload 8, 2) := by decide +kernel
theorem dX7_changesOf_175 : decode cX7_changesOf 175 = .ok (.iload 5, 2) := by decide +kernel
theorem dX7_changesOf_177 : decode cX7_changesOf 177 = .ok (.if_icmp .ge 8, 3) := by decide +kernel
theorem dX7_changesOf_180 : decode cX7_changesOf 180 = .ok (.iload 8, 2) := by decide +kernel
theorem dX7_changesOf_182 : decode cX7_changesOf 182 = .ok (.goto 5, 3) := by decide +kernel
theorem dX7_changesOf_185 : decode cX7_changesOf 185 = .ok (.iload 5, 2) := by decide +kernel
theorem dX7_changesOf_187 : decode cX7_changesOf 187 = .ok (.istore 5, 2) := by decide +kernel
theorem dX7_changesOf_189 : decode cX7_changesOf 189 = .ok (.aload_n 0, 1) := by decide +kernel
theorem dX7_changesOf_190 : decode cX7_changesOf 190 = .ok (.getfield 54, 3) := by decide +kernel
theorem dX7_changesOf_193 : decode cX7_changesOf 193 = .ok (.bipush 31, 2) := by decide +kernel
theorem dX7_changesOf_195 : decode cX7_changesOf 195 = .ok (.iload_n 3, 1) := by decide +kernel
theorem dX7_changesOf_196 : decode cX7_changesOf 196 = .ok (.imul, 1) := by decide +kernel
theorem dX7_changesOf_197 : decode cX7_changesOf 197 = .ok (.iload 4, 2) := by decide +kernel
theorem dX7_changesOf_199 : decode cX7_changesOf 199 = .ok (.iadd, 1) := by decide +kernel
theorem dX7_changesOf_200 : decode cX7_changesOf 200 = .ok (.iload 5, 2) := by decide +kernel
theorem dX7_changesOf_202 : decode cX7_changesOf 202 = .ok (.iastore, 1) := by decide +kernel
theorem dX7_changesOf_203 : decode cX7_changesOf 203 = .ok (.iinc 4 1, 3) := by decide +kernel
theorem dX7_changesOf_206 : decode cX7_changesOf 206 = .ok (.goto (-191), 3) := by decide +kernel
theorem dX7_changesOf_209 : decode cX7_changesOf 209 = .ok (.iinc 3 1, 3) := by decide +kernel
theorem dX7_changesOf_212 : decode cX7_changesOf 212 = .ok (.goto (-210), 3) := by decide +kernel
theorem dX7_changesOf_215 : decode cX7_changesOf 215 = .ok (.aload_n 0, 1) := by decide +kernel
theorem dX7_changesOf_216 : decode cX7_changesOf 216 = .ok (.getfield 54, 3) := by decide +kernel
theorem dX7_changesOf_219 : decode cX7_changesOf 219 = .ok (.bipush 31, 2) := by decide +kernel
theorem dX7_changesOf_221 : decode cX7_changesOf 221 = .ok (.aload_n 0, 1) := by decide +kernel
theorem dX7_changesOf_222 : decode cX7_changesOf 222 = .ok (.getfield 45, 3) := by decide +kernel
theorem dX7_changesOf_225 : decode cX7_changesOf 225 = .ok (.iload_n 1, 1) := by decide +kernel
theorem dX7_changesOf_226 : decode cX7_changesOf 226 = .ok (.iaload, 1) := by decide +kernel
theorem dX7_changesOf_227 : decode cX7_changesOf 227 = .ok (.imul, 1) := by decide +kernel
theorem dX7_changesOf_228 : decode cX7_changesOf 228 = .ok (.aload_n 0, 1) := by decide +kernel
theorem dX7_changesOf_229 : decode cX7_changesOf 229 = .ok (.getfield 45, 3) := by decide +kernel
theorem dX7_changesOf_232 : decode cX7_changesOf 232 = .ok (.iload_n 2, 1) := by decide +kernel
theorem dX7_changesOf_233 : decode cX7_changesOf 233 = .ok (.iaload, 1) := by decide +kernel
theorem dX7_changesOf_234 : decode cX7_changesOf 234 = .ok (.iadd, 1) := by decide +kernel
theorem dX7_changesOf_235 : decode cX7_changesOf 235 = .ok (.iaload, 1) := by decide +kernel
theorem dX7_changesOf_236 : decode cX7_changesOf 236 = .ok (.ireturn, 1) := by decide +kernel
theorem dX7_changes_0 : decode cX7_changes 0 = .ok (.aload_n 0, 1) := by decide +kernel
theorem dX7_changes_1 : decode cX7_changes 1 = .ok (.iload_n 1, 1) := by decide +kernel
theorem dX7_changes_2 : decode cX7_changes 2 = .ok (.invokevirtual 183, 3) := by decide +kernel
theorem dX7_changes_5 : decode cX7_changes 5 = .ok (.ifCond .eq 20, 3) := by decide +kernel
theorem dX7_changes_8 : decode cX7_changes 8 = .ok (.aload_n 0, 1) := by decide +kernel
theorem dX7_changes_9 : decode cX7_changes 9 = .ok (.iload_n 2, 1) := by decide +kernel
theorem dX7_changes_10 : decode cX7_changes 10 = .ok (.invokevirtual 183, 3) := by decide +kernel
theorem dX7_changes_13 : decode cX7_changes 13 = .ok (.ifCond .eq 12, 3) := by decide +kernel
theorem dX7_changes_16 : decode cX7_changes 16 = .ok (.aload_n 0, 1) := by decide +kernel
theorem dX7_changes_17 : decode cX7_changes 17 = .ok (.iload_n 1, 1) := by decide +kernel
theorem dX7_changes_18 : decode cX7_changes 18 = .ok (.iload_n 2, 1) := by decide +kernel
theorem dX7_changes_19 : decode cX7_changes 19 = .ok (.invokevirtual 192, 3) := by decide +kernel
theorem dX7_changes_22 : decode cX7_changes 22 = .ok (.goto 5, 3) := by decide +kernel
theorem dX7_changes_25 : decode cX7_changes 25 = .ok (.bipush (-2), 2) := by decide +kernel
theorem dX7_changes_27 : decode cX7_changes 27 = .ok (.ireturn, 1) := by decide +kernel
theorem dX7_motherOf_0 : decode cX7_motherOf 0 = .ok (.iconst (-1), 1) := by decide +kernel
theorem dX7_motherOf_1 : decode cX7_motherOf 1 = .ok (.istore_n 2, 1) := by decide +kernel
theorem dX7_motherOf_2 : decode cX7_motherOf 2 = .ok (.iconst 0, 1) := by decide +kernel
theorem dX7_motherOf_3 : decode cX7_motherOf 3 = .ok (.istore_n 3, 1) := by decide +kernel
theorem dX7_motherOf_4 : decode cX7_motherOf 4 = .ok (.iconst 0, 1) := by decide +kernel
theorem dX7_motherOf_5 : decode cX7_motherOf 5 = .ok (.istore 4, 2) := by decide +kernel
theorem dX7_motherOf_7 : decode cX7_motherOf 7 = .ok (.iload 4, 2) := by decide +kernel
theorem dX7_motherOf_9 : decode cX7_motherOf 9 = .ok (.aload_n 0, 1) := by decide +kernel
theorem dX7_motherOf_10 : decode cX7_motherOf 10 = .ok (.getfield 180, 3) := by decide +kernel
theorem dX7_motherOf_13 : decode cX7_motherOf 13 = .ok (.if_icmp .ge 73, 3) := by decide +kernel
theorem dX7_motherOf_16 : decode cX7_motherOf 16 = .ok (.aload_n 0, 1) := by decide +kernel
theorem dX7_motherOf_17 : decode cX7_motherOf 17 = .ok (.getfield 48, 3) := by decide +kernel
theorem dX7_motherOf_20 : decode cX7_motherOf 20 = .ok (.iload 4, 2) := by decide +kernel
theorem dX7_motherOf_22 : decode cX7_motherOf 22 = .ok (.iaload, 1) := by decide +kernel
theorem dX7_motherOf_23 : decode cX7_motherOf 23 = .ok (.aload_n 0, 1) := by decide +kernel
theorem dX7_motherOf_24 : decode cX7_motherOf 24 = .ok (.getfield 48, 3) := by decide +kernel
theorem dX7_motherOf_27 : decode cX7_motherOf 27 = .ok (.iload_n 1, 1) := by decide +kernel
theorem dX7_motherOf_28 : decode cX7_motherOf 28 = .ok (.iaload, 1) := by decide +kernel
theorem dX7_motherOf_29 : decode cX7_motherOf 29 = .ok (.if_icmp .ge 51, 3) := by decide +kernel
theorem dX7_motherOf_32 : decode cX7_motherOf 32 = .ok (.aload_n 0, 1) := by decide +kernel
theorem dX7_motherOf_33 : decode cX7_motherOf 33 = .ok (.iload 4, 2) := by decide +kernel
theorem dX7_motherOf_35 : decode cX7_motherOf 35 = .ok (.iload_n 1, 1) := by decide +kernel
theorem dX7_motherOf_36 : decode cX7_motherOf 36 = .ok (.invokevirtual 192, 3) := by decide +kernel
theorem dX7_motherOf_39 : decode cX7_motherOf 39 = .ok (.istore 5, 2) := by decide +kernel
theorem dX7_motherOf_41 : decode cX7_motherOf 41 = .ok (.iload_n 2, 1) := by decide +kernel
theorem dX7_motherOf_42 : decode cX7_motherOf 42 = .ok (.iconst (-1), 1) := by decide +kernel
theorem dX7_motherOf_43 : decode cX7_motherOf 43 = .ok (.if_icmp .eq 31, 3) := by decide +kernel
theorem dX7_motherOf_46 : decode cX7_motherOf 46 = .ok (.iload 5, 2) := by decide +kernel
theorem dX7_motherOf_48 : decode cX7_motherOf 48 = .ok (.iload_n 3, 1) := by decide +kernel
theorem dX7_motherOf_49 : decode cX7_motherOf 49 = .ok (.if_icmp .lt 25, 3) := by decide +kernel
theorem dX7_motherOf_52 : decode cX7_motherOf 52 = .ok (.iload 5, 2) := by decide +kernel
theorem dX7_motherOf_54 : decode cX7_motherOf 54 = .ok (.iload_n 3, 1) := by decide +kernel
theorem dX7_motherOf_55 : decode cX7_motherOf 55 = .ok (.if_icmp .ne 25, 3) := by decide +kernel
theorem dX7_motherOf_58 : decode cX7_motherOf 58 = .ok (.aload_n 0, 1) := by decide +kernel
theorem dX7_motherOf_59 : decode cX7_motherOf 59 = .ok (.getfield 48, 3) := by decide +kernel
theorem dX7_motherOf_62 : decode cX7_motherOf 62 = .ok (.iload 4, 2) := by decide +kernel
theorem dX7_motherOf_64 : decode cX7_motherOf 64 = .ok (.iaload, 1) := by decide +kernel
theorem dX7_motherOf_65 : decode cX7_motherOf 65 = .ok (.aload_n 0, 1) := by decide +kernel
theorem dX7_motherOf_66 : decode cX7_motherOf 66 = .ok (.getfield 48, 3) := by decide +kernel
theorem dX7_motherOf_69 : decode cX7_motherOf 69 = .ok (.iload_n 2, 1) := by decide +kernel
theorem dX7_motherOf_70 : decode cX7_motherOf 70 = .ok (.iaload, 1) := by decide +kernel
theorem dX7_motherOf_71 : decode cX7_motherOf 71 = .ok (.if_icmp .le 9, 3) := by decide +kernel
theorem dX7_motherOf_74 : decode cX7_motherOf 74 = .ok (.iload 4, 2) := by decide +kernel
theorem dX7_motherOf_76 : decode cX7_motherOf 76 = .ok (.istore_n 2, 1) := by decide +kernel
theorem dX7_motherOf_77 : decode cX7_motherOf 77 = .ok (.iload 5, 2) := by decide +kernel
theorem dX7_motherOf_79 : decode cX7_motherOf 79 = .ok (.istore_n 3, 1) := by decide +kernel
theorem dX7_motherOf_80 : decode cX7_motherOf 80 = .ok (.iinc 4 1, 3) := by decide +kernel
theorem dX7_motherOf_83 : decode cX7_motherOf 83 = .ok (.goto (-76), 3) := by decide +kernel
theorem dX7_motherOf_86 : decode cX7_motherOf 86 = .ok (.iload_n 2, 1) := by decide +kernel
theorem dX7_motherOf_87 : decode cX7_motherOf 87 = .ok (.ireturn, 1) := by decide +kernel
theorem dX7_mother_0 : decode cX7_mother 0 = .ok (.aload_n 0, 1) := by decide +kernel
theorem dX7_mother_1 : decode cX7_mother 1 = .ok (.iload_n 1, 1) := by decide +kernel
theorem dX7_mother_2 : decode cX7_mother 2 = .ok (.invokevirtual 183, 3) := by decide +kernel
theorem dX7_mother_5 : decode cX7_mother 5 = .ok (.ifCond .eq 11, 3) := by decide +kernel
theorem dX7_mother_8 : decode cX7_mother 8 = .ok (.aload_n 0, 1) := by decide +kernel
theorem dX7_mother_9 : decode cX7_mother 9 = .ok (.iload_n 1, 1) := by decide +kernel
theorem dX7_mother_10 : decode cX7_mother 10 = .ok (.invokevirtual 195, 3) := by decide +kernel
theorem dX7_mother_13 : decode cX7_mother 13 = .ok (.goto 5, 3) := by decide +kernel
theorem dX7_mother_16 : decode cX7_mother 16 = .ok (.bipush (-2), 2) := by decide +kernel
theorem dX7_mother_18 : decode cX7_mother 18 = .ok (.ireturn, 1) := by decide +kernel
theorem dX7_strangeTo_0 : decode cX7_strangeTo 0 = .ok (.iconst 0, 1) := by decide +kernel
theorem dX7_strangeTo_1 : decode cX7_strangeTo 1 = .ok (.istore 4, 2) := by decide +kernel
theorem dX7_strangeTo_3 : decode cX7_strangeTo 3 = .ok (.iconst 0, 1) := by decide +kernel
theorem dX7_strangeTo_4 : decode cX7_strangeTo 4 = .ok (.istore 5, 2) := by decide +kernel
theorem dX7_strangeTo_6 : decode cX7_strangeTo 6 = .ok (.iload 5, 2) := by decide +kernel
theorem dX7_strangeTo_8 : decode cX7_strangeTo 8 = .ok (.aload_n 0, 1) := by decide +kernel
theorem dX7_strangeTo_9 : decode cX7_strangeTo 9 = .ok (.getfield 45, 3) := by decide +kernel
theorem dX7_strangeTo_12 : decode cX7_strangeTo 12 = .ok (.iload_n 1, 1) := by decide +kernel
theorem dX7_strangeTo_13 : decode cX7_strangeTo 13 = .ok (.iaload, 1) := by decide +kernel
theorem dX7_strangeTo_14 : decode cX7_strangeTo 14 = .ok (.if_icmp .ge 93, 3) := by decide +kernel
theorem dX7_strangeTo_17 : decode cX7_strangeTo 17 = .ok (.aload_n 0, 1) := by decide +kernel
theorem dX7_strangeTo_18 : decode cX7_strangeTo 18 = .ok (.getfield 51, 3) := by decide +kernel
theorem dX7_strangeTo_21 : decode cX7_strangeTo 21 = .ok (.bipush 30, 2) := by decide +kernel
theorem dX7_strangeTo_23 : decode cX7_strangeTo 23 = .ok (.iload_n 1, 1) := by decide +kernel
theorem dX7_strangeTo_24 : decode cX7_strangeTo 24 = .ok (.imul, 1) := by decide +kernel
theorem dX7_strangeTo_25 : decode cX7_strangeTo 25 = .ok (.iload 5, 2) := by decide +kernel
theorem dX7_strangeTo_27 : decode cX7_strangeTo 27 = .ok (.iadd, 1) := by decide +kernel
theorem dX7_strangeTo_28 : decode cX7_strangeTo 28 = .ok (.iaload, 1) := by decide +kernel
theorem dX7_strangeTo_29 : decode cX7_strangeTo 29 = .ok (.istore 6, 2) := by decide +kernel
theorem dX7_strangeTo_31 : decode cX7_strangeTo 31 = .ok (.aload_n 0, 1) := by decide +kernel
theorem dX7_strangeTo_32 : decode cX7_strangeTo 32 = .ok (.getfield 51, 3) := by decide +kernel
theorem dX7_strangeTo_35 : decode cX7_strangeTo 35 = .ok (.bipush 30, 2) := by decide +kernel
theorem dX7_strangeTo_37 : decode cX7_strangeTo 37 = .ok (.iload_n 2, 1) := by decide +kernel
theorem dX7_strangeTo_38 : decode cX7_strangeTo 38 = .ok (.imul, 1) := by decide +kernel
theorem dX7_strangeTo_39 : decode cX7_strangeTo 39 = .ok (.iload 5, 2) := by decide +kernel
theorem dX7_strangeTo_41 : decode cX7_strangeTo 41 = .ok (.iadd, 1) := by decide +kernel
theorem dX7_strangeTo_42 : decode cX7_strangeTo 42 = .ok (.iaload, 1) := by decide +kernel
theorem dX7_strangeTo_43 : decode cX7_strangeTo 43 = .ok (.istore 7, 2) := by decide +kernel
theorem dX7_strangeTo_45 : decode cX7_strangeTo 45 = .ok (.aload_n 0, 1) := by decide +kernel
theorem dX7_strangeTo_46 : decode cX7_strangeTo 46 = .ok (.getfield 51, 3) := by decide +kernel
theorem dX7_strangeTo_49 : decode cX7_strangeTo 49 = .ok (.bipush 30, 2) := by decide +kernel
theorem dX7_strangeTo_51 : decode cX7_strangeTo 51 = .ok (.iload_n 3, 1) := by decide +kernel
theorem dX7_strangeTo_52 : decode cX7_strangeTo 52 = .ok (.imul, 1) := by decide +kernel
theorem dX7_strangeTo_53 : decode cX7_strangeTo 53 = .ok (.iload 5, 2) := by decide +kernel
theorem dX7_strangeTo_55 : decode cX7_strangeTo 55 = .ok (.iadd, 1) := by decide +kernel
theorem dX7_strangeTo_56 : decode cX7_strangeTo 56 = .ok (.iaload, 1) := by decide +kernel
theorem dX7_strangeTo_57 : decode cX7_strangeTo 57 = .ok (.istore 8, 2) := by decide +kernel
theorem dX7_strangeTo_59 : decode cX7_strangeTo 59 = .ok (.iload 4, 2) := by decide +kernel
theorem dX7_strangeTo_61 : decode cX7_strangeTo 61 = .ok (.iload 6, 2) := by decide +kernel
theorem dX7_strangeTo_63 : decode cX7_strangeTo 63 = .ok (.iconst (-1), 1) := by decide +kernel
theorem dX7_strangeTo_64 : decode cX7_strangeTo 64 = .ok (.if_icmp .eq 33, 3) := by decide +kernel
theorem dX7_strangeTo_67 : decode cX7_strangeTo 67 = .ok (.iload 7, 2) := by decide +kernel
theorem dX7_strangeTo_69 : decode cX7_strangeTo 69 = .ok (.iconst (-1), 1) := by decide +kernel
theorem dX7_strangeTo_70 : decode cX7_strangeTo 70 = .ok (.if_icmp .eq 27, 3) := by decide +kernel
theorem dX7_strangeTo_73 : decode cX7_strangeTo 73 = .ok (.iload 8, 2) := by decide +kernel
theorem dX7_strangeTo_75 : decode cX7_strangeTo 75 = .ok (.iconst (-1), 1) := by decide +kernel
theorem dX7_strangeTo_76 : decode cX7_strangeTo 76 = .ok (.if_icmp .eq 21, 3) := by decide +kernel
theorem dX7_strangeTo_79 : decode cX7_strangeTo 79 = .ok (.iload 6, 2) := by decide +kernel
theorem dX7_strangeTo_81 : decode cX7_strangeTo 81 = .ok (.iload 7, 2) := by decide +kernel
theorem dX7_strangeTo_83 : decode cX7_strangeTo 83 = .ok (.if_icmp .eq 14, 3) := by decide +kernel
theorem dX7_strangeTo_86 : decode cX7_strangeTo 86 = .ok (.iload 6, 2) := by decide +kernel
theorem dX7_strangeTo_88 : decode cX7_strangeTo 88 = .ok (.iload 8, 2) := by decide +kernel
theorem dX7_strangeTo_90 : decode cX7_strangeTo 90 = .ok (.if_icmp .eq 7, 3) := by decide +kernel
theorem dX7_strangeTo_93 : decode cX7_strangeTo 93 = .ok (.iconst 1, 1) := by decide +kernel
theorem dX7_strangeTo_94 : decode cX7_strangeTo 94 = .ok (.goto 4, 3) := by decide +kernel
theorem dX7_strangeTo_97 : decode cX7_strangeTo 97 = .ok (.iconst 0, 1) := by decide +kernel
theorem dX7_strangeTo_98 : decode cX7_strangeTo 98 = .ok (.iadd, 1) := by decide +kernel
theorem dX7_strangeTo_99 : decode cX7_strangeTo 99 = .ok (.istore 4, 2) := by decide +kernel
theorem dX7_strangeTo_101 : decode cX7_strangeTo 101 = .ok (.iinc 5 1, 3) := by decide +kernel
theorem dX7_strangeTo_104 : decode cX7_strangeTo 104 = .ok (.goto (-98), 3) := by decide +kernel
theorem dX7_strangeTo_107 : decode cX7_strangeTo 107 = .ok (.iload 4, 2) := by decide +kernel
theorem dX7_strangeTo_109 : decode cX7_strangeTo 109 = .ok (.ireturn, 1) := by decide +kernel
theorem dX7_mayBear_0 : decode cX7_mayBear 0 = .ok (.aload_n 0, 1) := by decide +kernel
theorem dX7_mayBear_1 : decode cX7_mayBear 1 = .ok (.getfield 48, 3) := by decide +kernel
theorem dX7_mayBear_4 : decode cX7_mayBear 4 = .ok (.iload_n 1, 1) := by decide +kernel
theorem dX7_mayBear_5 : decode cX7_mayBear 5 = .ok (.iaload, 1) := by decide +kernel
theorem dX7_mayBear_6 : decode cX7_mayBear 6 = .ok (.aload_n 0, 1) := by decide +kernel
theorem dX7_mayBear_7 : decode cX7_mayBear 7 = .ok (.getfield 48, 3) := by decide +kernel
theorem dX7_mayBear_10 : decode cX7_mayBear 10 = .ok (.iload_n 2, 1) := by decide +kernel
theorem dX7_mayBear_11 : decode cX7_mayBear 11 = .ok (.iaload, 1) := by decide +kernel
theorem dX7_mayBear_12 : decode cX7_mayBear 12 = .ok (.if_icmp .ge 22, 3) := by decide +kernel
theorem dX7_mayBear_15 : decode cX7_mayBear 15 = .ok (.aload_n 0, 1) := by decide +kernel
theorem dX7_mayBear_16 : decode cX7_mayBear 16 = .ok (.getfield 45, 3) := by decide +kernel
theorem dX7_mayBear_19 : decode cX7_mayBear 19 = .ok (.iload_n 1, 1) := by decide +kernel
theorem dX7_mayBear_20 : decode cX7_mayBear 20 = .ok (.iaload, 1) := by decide +kernel
theorem dX7_mayBear_21 : decode cX7_mayBear 21 = .ok (.aload_n 0, 1) := by decide +kernel
theorem dX7_mayBear_22 : decode cX7_mayBear 22 = .ok (.getfield 45, 3) := by decide +kernel
theorem dX7_mayBear_25 : decode cX7_mayBear 25 = .ok (.iload_n 2, 1) := by decide +kernel
theorem dX7_mayBear_26 : decode cX7_mayBear 26 = .ok (.iaload, 1) := by decide +kernel
theorem dX7_mayBear_27 : decode cX7_mayBear 27 = .ok (.if_icmp .ne 7, 3) := by decide +kernel
theorem dX7_mayBear_30 : decode cX7_mayBear 30 = .ok (.iconst 1, 1) := by decide +kernel
theorem dX7_mayBear_31 : decode cX7_mayBear 31 = .ok (.goto 4, 3) := by decide +kernel
theorem dX7_mayBear_34 : decode cX7_mayBear 34 = .ok (.iconst 0, 1) := by decide +kernel
theorem dX7_mayBear_35 : decode cX7_mayBear 35 = .ok (.ireturn, 1) := by decide +kernel
theorem dX7_mothersOf_0 : decode cX7_mothersOf 0 = .ok (.iconst (-1), 1) := by decide +kernel
theorem dX7_mothersOf_1 : decode cX7_mothersOf 1 = .ok (.istore_n 2, 1) := by decide +kernel
theorem dX7_mothersOf_2 : decode cX7_mothersOf 2 = .ok (.aload_n 0, 1) := by decide +kernel
theorem dX7_mothersOf_3 : decode cX7_mothersOf 3 = .ok (.iconst (-1), 1) := by decide +kernel
theorem dX7_mothersOf_4 : decode cX7_mothersOf 4 = .ok (.putfield 198, 3) := by decide +kernel
theorem dX7_mothersOf_7 : decode cX7_mothersOf 7 = .ok (.iconst 0, 1) := by decide +kernel
theorem dX7_mothersOf_8 : decode cX7_mothersOf 8 = .ok (.istore_n 3, 1) := by decide +kernel
theorem dX7_mothersOf_9 : decode cX7_mothersOf 9 = .ok (.iload_n 3, 1) := by decide +kernel
theorem dX7_mothersOf_10 : decode cX7_mothersOf 10 = .ok (.aload_n 0, 1) := by decide +kernel
theorem dX7_mothersOf_11 : decode cX7_mothersOf 11 = .ok (.getfield 180, 3) := by decide +kernel
theorem dX7_mothersOf_14 : decode cX7_mothersOf 14 = .ok (.if_icmp .ge 86, 3) := by decide +kernel
theorem dX7_mothersOf_17 : decode cX7_mothersOf 17 = .ok (.iload_n 3, 1) := by decide +kernel
theorem dX7_mothersOf_18 : decode cX7_mothersOf 18 = .ok (.iconst 1, 1) := by decide +kernel
theorem dX7_mothersOf_19 : decode cX7_mothersOf 19 = .ok (.iadd, 1) := by decide +kernel
theorem dX7_mothersOf_20 : decode cX7_mothersOf 20 = .ok (.istore 4, 2) := by decide +kernel
theorem dX7_mothersOf_22 : decode cX7_mothersOf 22 = .ok (.iload 4, 2) := by decide +kernel
theorem dX7_mothersOf_24 : decode cX7_mothersOf 24 = .ok (.aload_n 0, 1) := by decide +kernel
theorem dX7_mothersOf_25 : decode cX7_mothersOf 25 = .ok (.getfield 180, 3) := by decide +kernel
theorem dX7_mothersOf_28 : decode cX7_mothersOf 28 = .ok (.if_icmp .ge 66, 3) := by decide +kernel
theorem dX7_mothersOf_31 : decode cX7_mothersOf 31 = .ok (.aload_n 0, 1) := by decide +kernel
theorem dX7_mothersOf_32 : decode cX7_mothersOf 32 = .ok (.iload_n 3, 1) := by decide +kernel
theorem dX7_mothersOf_33 : decode cX7_mothersOf 33 = .ok (.iload_n 1, 1) := by decide +kernel
theorem dX7_mothersOf_34 : decode cX7_mothersOf 34 = .ok (.invokevirtual 201, 3) := by decide +kernel
theorem dX7_mothersOf_37 : decode cX7_mothersOf 37 = .ok (.ifCond .eq 51, 3) := by decide +kernel
theorem dX7_mothersOf_40 : decode cX7_mothersOf 40 = .ok (.aload_n 0, 1) := by decide +kernel
theorem dX7_mothersOf_41 : decode cX7_mothersOf 41 = .ok (.iload 4, 2) := by decide +kernel
theorem dX7_mothersOf_43 : decode cX7_mothersOf 43 = .ok (.iload_n 1, 1) := by decide +kernel
theorem dX7_mothersOf_44 : decode cX7_mothersOf 44 = .ok (.invokevirtual 201, 3) := by decide +kernel
theorem dX7_mothersOf_47 : decode cX7_mothersOf 47 = .ok (.ifCond .eq 41, 3) := by decide +kernel
theorem dX7_mothersOf_50 : decode cX7_mothersOf 50 = .ok (.aload_n 0, 1) := by decide +kernel
theorem dX7_mothersOf_51 : decode cX7_mothersOf 51 = .ok (.iload_n 1, 1) := by decide +kernel
theorem dX7_mothersOf_52 : decode cX7_mothersOf 52 = .ok (.iload_n 3, 1) := by decide +kernel
theorem dX7_mothersOf_53 : decode cX7_mothersOf 53 = .ok (.iload 4, 2) := by decide +kernel
theorem dX7_mothersOf_55 : decode cX7_mothersOf 55 = .ok (.invokevirtual 205, 3) := by decide +kernel
theorem dX7_mothersOf_58 : decode cX7_mothersOf 58 = .ok (.istore 5, 2) := by decide +kernel
theorem dX7_mothersOf_60 : decode cX7_mothersOf 60 = .ok (.iload_n 2, 1) := by decide +kernel
theorem dX7_mothersOf_61 : decode cX7_mothersOf 61 = .ok (.iconst (-1), 1) := by decide +kernel
theorem dX7_mothersOf_62 : decode cX7_mothersOf 62 = .ok (.if_icmp .eq 12, 3) := by decide +kernel
theorem dX7_mothersOf_65 : decode cX7_mothersOf 65 = .ok (.iload 5, 2) := by decide +kernel
theorem dX7_mothersOf_67 : decode cX7_mothersOf 67 = .ok (.aload_n 0, 1) := by decide +kernel
theorem dX7_mothersOf_68 : decode cX7_mothersOf 68 = .ok (.getfield 198, 3) := by decide +kernel
theorem dX7_mothersOf_71 : decode cX7_mothersOf 71 = .ok (.if_icmp .ge 17, 3) := by decide +kernel
theorem dX7_mothersOf_74 : decode cX7_mothersOf 74 = .ok (.bipush 10, 2) := by decide +kernel
theorem dX7_mothersOf_76 : decode cX7_mothersOf 76 = .ok (.iload_n 3, 1) := by decide +kernel
theorem dX7_mothersOf_77 : decode cX7_mothersOf 77 = .ok (.imul, 1) := by decide +kernel
theorem dX7_mothersOf_78 : decode cX7_mothersOf 78 = .ok (.iload 4, 2) := by decide +kernel
theorem dX7_mothersOf_80 : decode cX7_mothersOf 80 = .ok (.iadd, 1) := by decide +kernel
theorem dX7_mothersOf_81 : decode cX7_mothersOf 81 = .ok (.istore_n 2, 1) := by decide +kernel
theorem dX7_mothersOf_82 : decode cX7_mothersOf 82 = .ok (.aload_n 0, 1) := by decide +kernel
theorem dX7_mothersOf_83 : decode cX7_mothersOf 83 = .ok (.iload 5, 2) := by decide +kernel
theorem dX7_mothersOf_85 : decode cX7_mothersOf 85 = .ok (.putfield 198, 3) := by decide +kernel
theorem dX7_mothersOf_88 : decode cX7_mothersOf 88 = .ok (.iinc 4 1, 3) := by decide +kernel
theorem dX7_mothersOf_91 : decode cX7_mothersOf 91 = .ok (.goto (-69), 3) := by decide +kernel
theorem dX7_mothersOf_94 : decode cX7_mothersOf 94 = .ok (.iinc 3 1, 3) := by decide +kernel
theorem dX7_mothersOf_97 : decode cX7_mothersOf 97 = .ok (.goto (-88), 3) := by decide +kernel
theorem dX7_mothersOf_100 : decode cX7_mothersOf 100 = .ok (.iload_n 2, 1) := by decide +kernel
theorem dX7_mothersOf_101 : decode cX7_mothersOf 101 = .ok (.ireturn, 1) := by decide +kernel
theorem dX7_mothers_0 : decode cX7_mothers 0 = .ok (.aload_n 0, 1) := by decide +kernel
theorem dX7_mothers_1 : decode cX7_mothers 1 = .ok (.iload_n 1, 1) := by decide +kernel
theorem dX7_mothers_2 : decode cX7_mothers 2 = .ok (.invokevirtual 183, 3) := by decide +kernel
theorem dX7_mothers_5 : decode cX7_mothers 5 = .ok (.ifCond .eq 11, 3) := by decide +kernel
theorem dX7_mothers_8 : decode cX7_mothers 8 = .ok (.aload_n 0, 1) := by decide +kernel
theorem dX7_mothers_9 : decode cX7_mothers 9 = .ok (.iload_n 1, 1) := by decide +kernel
theorem dX7_mothers_10 : decode cX7_mothers 10 = .ok (.invokevirtual 208, 3) := by decide +kernel
theorem dX7_mothers_13 : decode cX7_mothers 13 = .ok (.goto 5, 3) := by decide +kernel
theorem dX7_mothers_16 : decode cX7_mothers 16 = .ok (.bipush (-2), 2) := by decide +kernel
theorem dX7_mothers_18 : decode cX7_mothers 18 = .ok (.ireturn, 1) := by decide +kernel
theorem dX7_strange_0 : decode cX7_strange 0 = .ok (.aload_n 0, 1) := by decide +kernel
theorem dX7_strange_1 : decode cX7_strange 1 = .ok (.iload_n 1, 1) := by decide +kernel
theorem dX7_strange_2 : decode cX7_strange 2 = .ok (.invokevirtual 183, 3) := by decide +kernel
theorem dX7_strange_5 : decode cX7_strange 5 = .ok (.ifCond .ne 6, 3) := by decide +kernel
theorem dX7_strange_8 : decode cX7_strange 8 = .ok (.bipush (-2), 2) := by decide +kernel
theorem dX7_strange_10 : decode cX7_strange 10 = .ok (.ireturn, 1) := by decide +kernel
theorem dX7_strange_11 : decode cX7_strange 11 = .ok (.aload_n 0, 1) := by decide +kernel
theorem dX7_strange_12 : decode cX7_strange 12 = .ok (.iload_n 1, 1) := by decide +kernel
theorem dX7_strange_13 : decode cX7_strange 13 = .ok (.invokevirtual 208, 3) := by decide +kernel
theorem dX7_strange_16 : decode cX7_strange 16 = .ok (.istore_n 2, 1) := by decide +kernel
theorem dX7_strange_17 : decode cX7_strange 17 = .ok (.aload_n 0, 1) := by decide +kernel
theorem dX7_strange_18 : decode cX7_strange 18 = .ok (.getfield 198, 3) := by decide +kernel
theorem dX7_strange_21 : decode cX7_strange 21 = .ok (.ireturn, 1) := by decide +kernel
theorem dX7_age_0 : decode cX7_age 0 = .ok (.aload_n 0, 1) := by decide +kernel
theorem dX7_age_1 : decode cX7_age 1 = .ok (.iload_n 1, 1) := by decide +kernel
theorem dX7_age_2 : decode cX7_age 2 = .ok (.invokevirtual 183, 3) := by decide +kernel
theorem dX7_age_5 : decode cX7_age 5 = .ok (.ifCond .ne 6, 3) := by decide +kernel
theorem dX7_age_8 : decode cX7_age 8 = .ok (.bipush (-2), 2) := by decide +kernel
theorem dX7_age_10 : decode cX7_age 10 = .ok (.ireturn, 1) := by decide +kernel
theorem dX7_age_11 : decode cX7_age 11 = .ok (.iconst 0, 1) := by decide +kernel
theorem dX7_age_12 : decode cX7_age 12 = .ok (.istore_n 2, 1) := by decide +kernel
theorem dX7_age_13 : decode cX7_age 13 = .ok (.aload_n 0, 1) := by decide +kernel
theorem dX7_age_14 : decode cX7_age 14 = .ok (.iload_n 1, 1) := by decide +kernel
theorem dX7_age_15 : decode cX7_age 15 = .ok (.invokevirtual 195, 3) := by decide +kernel
theorem dX7_age_18 : decode cX7_age 18 = .ok (.istore_n 3, 1) := by decide +kernel
theorem dX7_age_19 : decode cX7_age 19 = .ok (.iload_n 3, 1) := by decide +kernel
theorem dX7_age_20 : decode cX7_age 20 = .ok (.iconst (-1), 1) := by decide +kernel
theorem dX7_age_21 : decode cX7_age 21 = .ok (.if_icmp .eq 15, 3) := by decide +kernel
theorem dX7_age_24 : decode cX7_age 24 = .ok (.iinc 2 1, 3) := by decide +kernel
theorem dX7_age_27 : decode cX7_age 27 = .ok (.aload_n 0, 1) := by decide +kernel
theorem dX7_age_28 : decode cX7_age 28 = .ok (.iload_n 3, 1) := by decide +kernel
theorem dX7_age_29 : decode cX7_age 29 = .ok (.invokevirtual 195, 3) := by decide +kernel
theorem dX7_age_32 : decode cX7_age 32 = .ok (.istore_n 3, 1) := by decide +kernel
theorem dX7_age_33 : decode cX7_age 33 = .ok (.goto (-14), 3) := by decide +kernel
theorem dX7_age_36 : decode cX7_age 36 = .ok (.iload_n 2, 1) := by decide +kernel
theorem dX7_age_37 : decode cX7_age 37 = .ok (.ireturn, 1) := by decide +kernel
theorem dX7_slips_0 : decode cX7_slips 0 = .ok (.aload_n 0, 1) := by decide +kernel
theorem dX7_slips_1 : decode cX7_slips 1 = .ok (.iload_n 1, 1) := by decide +kernel
theorem dX7_slips_2 : decode cX7_slips 2 = .ok (.invokevirtual 183, 3) := by decide +kernel
theorem dX7_slips_5 : decode cX7_slips 5 = .ok (.ifCond .eq 16, 3) := by decide +kernel
theorem dX7_slips_8 : decode cX7_slips 8 = .ok (.aload_n 0, 1) := by decide +kernel
theorem dX7_slips_9 : decode cX7_slips 9 = .ok (.iload_n 2, 1) := by decide +kernel
theorem dX7_slips_10 : decode cX7_slips 10 = .ok (.invokevirtual 183, 3) := by decide +kernel
theorem dX7_slips_13 : decode cX7_slips 13 = .ok (.ifCond .eq 8, 3) := by decide +kernel
theorem dX7_slips_16 : decode cX7_slips 16 = .ok (.iload_n 1, 1) := by decide +kernel
theorem dX7_slips_17 : decode cX7_slips 17 = .ok (.iload_n 2, 1) := by decide +kernel
theorem dX7_slips_18 : decode cX7_slips 18 = .ok (.if_icmp .ne 6, 3) := by decide +kernel
theorem dX7_slips_21 : decode cX7_slips 21 = .ok (.bipush (-2), 2) := by decide +kernel
theorem dX7_slips_23 : decode cX7_slips 23 = .ok (.ireturn, 1) := by decide +kernel
theorem dX7_slips_24 : decode cX7_slips 24 = .ok (.aload_n 0, 1) := by decide +kernel
theorem dX7_slips_25 : decode cX7_slips 25 = .ok (.getfield 48, 3) := by decide +kernel
theorem dX7_slips_28 : decode cX7_slips 28 = .ok (.iload_n 1, 1) := by decide +kernel
theorem dX7_slips_29 : decode cX7_slips 29 = .ok (.iaload, 1) := by decide +kernel
theorem dX7_slips_30 : decode cX7_slips 30 = .ok (.aload_n 0, 1) := by decide +kernel
theorem dX7_slips_31 : decode cX7_slips 31 = .ok (.getfield 48, 3) := by decide +kernel
theorem dX7_slips_34 : decode cX7_slips 34 = .ok (.iload_n 2, 1) := by decide +kernel
theorem dX7_slips_35 : decode cX7_slips 35 = .ok (.iaload, 1) := by decide +kernel
theorem dX7_slips_36 : decode cX7_slips 36 = .ok (.if_icmp .ge 12, 3) := by decide +kernel
theorem dX7_slips_39 : decode cX7_slips 39 = .ok (.aload_n 0, 1) := by decide +kernel
theorem dX7_slips_40 : decode cX7_slips 40 = .ok (.getfield 48, 3) := by decide +kernel
theorem dX7_slips_43 : decode cX7_slips 43 = .ok (.iload_n 1, 1) := by decide +kernel
theorem dX7_slips_44 : decode cX7_slips 44 = .ok (.iaload, 1) := by decide +kernel
theorem dX7_slips_45 : decode cX7_slips 45 = .ok (.goto 9, 3) := by decide +kernel
theorem dX7_slips_48 : decode cX7_slips 48 = .ok (.aload_n 0, 1) := by decide +kernel
theorem dX7_slips_49 : decode cX7_slips 49 = .ok (.getfield 48, 3) := by decide +kernel
theorem dX7_slips_52 : decode cX7_slips 52 = .ok (.iload_n 2, 1) := by decide +kernel
theorem dX7_slips_53 : decode cX7_slips 53 = .ok (.iaload, 1) := by decide +kernel
theorem dX7_slips_54 : decode cX7_slips 54 = .ok (.istore_n 3, 1) := by decide +kernel
theorem dX7_slips_55 : decode cX7_slips 55 = .ok (.iconst 0, 1) := by decide +kernel
theorem dX7_slips_56 : decode cX7_slips 56 = .ok (.istore 4, 2) := by decide +kernel
theorem dX7_slips_58 : decode cX7_slips 58 = .ok (.iconst 0, 1) := by decide +kernel
theorem dX7_slips_59 : decode cX7_slips 59 = .ok (.istore 5, 2) := by decide +kernel
theorem dX7_slips_61 : decode cX7_slips 61 = .ok (.iload 5, 2) := by decide +kernel
theorem dX7_slips_63 : decode cX7_slips 63 = .ok (.aload_n 0, 1) := by decide +kernel
theorem dX7_slips_64 : decode cX7_slips 64 = .ok (.getfield 45, 3) := by decide +kernel
theorem dX7_slips_67 : decode cX7_slips 67 = .ok (.iload_n 1, 1) := by decide +kernel
theorem dX7_slips_68 : decode cX7_slips 68 = .ok (.iaload, 1) := by decide +kernel
theorem dX7_slips_69 : decode cX7_slips 69 = .ok (.if_icmp .ge 148, 3) := by decide +kernel
theorem dX7_slips_72 : decode cX7_slips 72 = .ok (.iload 5, 2) := by decide +kernel
theorem dX7_slips_74 : decode cX7_slips 74 = .ok (.aload_n 0, 1) := by decide +kernel
theorem dX7_slips_75 : decode cX7_slips 75 = .ok (.getfield 45, 3) := by decide +kernel
theorem dX7_slips_78 : decode cX7_slips 78 = .ok (.iload_n 2, 1) := by decide +kernel
theorem dX7_slips_79 : decode cX7_slips 79 = .ok (.iaload, 1) := by decide +kernel
theorem dX7_slips_80 : decode cX7_slips 80 = .ok (.if_icmp .ge 137, 3) := by decide +kernel
theorem dX7_slips_83 : decode cX7_slips 83 = .ok (.aload_n 0, 1) := by decide +kernel
theorem dX7_slips_84 : decode cX7_slips 84 = .ok (.getfield 51, 3) := by decide +kernel
theorem dX7_slips_87 : decode cX7_slips 87 = .ok (.bipush 30, 2) := by decide +kernel
theorem dX7_slips_89 : decode cX7_slips 89 = .ok (.iload_n 1, 1) := by decide +kernel
theorem dX7_slips_90 : decode cX7_slips 90 = .ok (.imul, 1) := by decide +kernel
theorem dX7_slips_91 : decode cX7_slips 91 = .ok (.iload 5, 2) := by decide +kernel
theorem dX7_slips_93 : decode cX7_slips 93 = .ok (.iadd, 1) := by decide +kernel
theorem dX7_slips_94 : decode cX7_slips 94 = .ok (.iaload, 1) := by decide +kernel
theorem dX7_slips_95 : decode cX7_slips 95 = .ok (.istore 6, 2) := by decide +kernel
theorem dX7_slips_97 : decode cX7_slips 97 = .ok (.iload 6, 2) := by decide +kernel
theorem dX7_slips_99 : decode cX7_slips 99 = .ok (.iconst (-1), 1) := by decide +kernel
theorem dX7_slips_100 : decode cX7_slips 100 = .ok (.if_icmp .eq 24, 3) := by decide +kernel
theorem dX7_slips_103 : decode cX7_slips 103 = .ok (.iload 6, 2) := by decide +kernel
theorem dX7_slips_105 : decode cX7_slips 105 = .ok (.aload_n 0, 1) := by decide +kernel
theorem dX7_slips_106 : decode cX7_slips 106 = .ok (.getfield 51, 3) := by decide +kernel
theorem dX7_slips_109 : decode cX7_slips 109 = .ok (.bipush 30, 2) := by decide +kernel
theorem dX7_slips_111 : decode cX7_slips 111 = .ok (.iload_n 2, 1) := by decide +kernel
theorem dX7_slips_112 : decode cX7_slips 112 = .ok (.imul, 1) := by decide +kernel
theorem dX7_slips_113 : decode cX7_slips 113 = .ok (.iload 5, 2) := by decide +kernel
theorem dX7_slips_115 : decode cX7_slips 115 = .ok (.iadd, 1) := by decide +kernel
theorem dX7_slips_116 : decode cX7_slips 116 = .ok (.iaload, 1) := by decide +kernel
theorem dX7_slips_117 : decode cX7_slips 117 = .ok (.if_icmp .ne 7, 3) := by decide +kernel
theorem dX7_slips_120 : decode cX7_slips 120 = .ok (.iconst 1, 1) := by decide +kernel
theorem dX7_slips_121 : decode cX7_slips 121 = .ok (.goto 4, 3) := by decide +kernel
theorem dX7_slips_124 : decode cX7_slips 124 = .ok (.iconst 0, 1) := by decide +kernel
theorem dX7_slips_125 : decode cX7_slips 125 = .ok (.istore 7, 2) := by decide +kernel
theorem dX7_slips_127 : decode cX7_slips 127 = .ok (.iconst 0, 1) := by decide +kernel
theorem dX7_slips_128 : decode cX7_slips 128 = .ok (.istore 8, 2) := by decide +kernel
theorem dX7_slips_130 : decode cX7_slips 130 = .ok (.iload 8, 2) := by decide +kernel
theorem dX7_slips_132 : decode cX7_slips 132 = .ok (.aload_n 0, 1) := by decide +kernel
theorem dX7_slips_133 : decode cX7_slips 133 = .ok (.getfield 180, 3) := by decide +kernel
theorem dX7_slips_136 : decode cX7_slips 136 = .ok (.if_icmp .ge 60, 3) := by decide +kernel
theorem dX7_slips_139 : decode cX7_slips 139 = .ok (.iload 7, 2) := by decide +kernel
theorem dX7_slips_141 : decode cX7_slips 141 = .ok (.aload_n 0, 1) := by decide +kernel
theorem dX7_slips_142 : decode cX7_slips 142 = .ok (.getfield 48, 3) := by decide +kernel
theorem dX7_slips_145 : decode cX7_slips 145 = .ok (.iload 8, 2) := by decide +kernel
theorem dX7_slips_147 : decode cX7_slips 147 = .ok (.iaload, 1) := by decide +kernel
theorem dX7_slips_148 : decode cX7_slips 148 = .ok (.iload_n 3, 1) := by decide +kernel
theorem dX7_slips_149 : decode cX7_slips 149 = .ok (.if_icmp .ge 33, 3) := by decide +kernel
theorem dX7_slips_152 : decode cX7_slips 152 = .ok (.iload 5, 2) := by decide +kernel
theorem dX7_slips_154 : decode cX7_slips 154 = .ok (.aload_n 0, 1) := by decide +kernel
theorem dX7_slips_155 : decode cX7_slips 155 = .ok (.getfield 45, 3) := by decide +kernel
theorem dX7_slips_158 : decode cX7_slips 158 = .ok (.iload 8, 2) := by decide +kernel
theorem dX7_slips_160 : decode cX7_slips 160 = .ok (.iaload, 1) := by decide +kernel
theorem dX7_slips_161 : decode cX7_slips 161 = .ok (.if_icmp .ge 21, 3) := by decide +kernel
theorem dX7_slips_164 : decode cX7_slips 164 = .ok (.aload_n 0, 1) := by decide +kernel
theorem dX7_slips_165 : decode cX7_slips 165 = .ok (.getfield 51, 3) := by decide +kernel
theorem dX7_slips_168 : decode cX7_slips 168 = .ok (.bipush 30, 2) := by decide +kernel
theorem dX7_slips_170 : decode cX7_slips 170 = .ok (.iload 8, 2) := by decide +kernel
theorem dX7_slips_172 : decode cX7_slips 172 = .ok (.imul, 1) := by decide +kernel
theorem dX7_slips_173 : decode cX7_slips 173 = .ok (.iload 5, 2) := by decide +kernel
theorem dX7_slips_175 : decode cX7_slips 175 = .ok (.iadd, 1) := by decide +kernel
theorem dX7_slips_176 : decode cX7_slips 176 = .ok (.iaload, 1) := by decide +kernel
theorem dX7_slips_177 : decode cX7_slips 177 = .ok (.iload 6, 2) := by decide +kernel
theorem dX7_slips_179 : decode cX7_slips 179 = .ok (.if_icmp .eq 7, 3) := by decide +kernel
theorem dX7_slips_182 : decode cX7_slips 182 = .ok (.iconst 1, 1) := by decide +kernel
theorem dX7_slips_183 : decode cX7_slips 183 = .ok (.goto 4, 3) := by decide +kernel
theorem dX7_slips_186 : decode cX7_slips 186 = .ok (.iconst 0, 1) := by decide +kernel
theorem dX7_slips_187 : decode cX7_slips 187 = .ok (.iand, 1) := by decide +kernel
theorem dX7_slips_188 : decode cX7_slips 188 = .ok (.istore 7, 2) := by decide +kernel
theorem dX7_slips_190 : decode cX7_slips 190 = .ok (.iinc 8 1, 3) := by decide +kernel
theorem dX7_slips_193 : decode cX7_slips 193 = .ok (.goto (-63), 3) := by decide +kernel
theorem dX7_slips_196 : decode cX7_slips 196 = .ok (.iload 4, 2) := by decide +kernel
theorem dX7_slips_198 : decode cX7_slips 198 = .ok (.iload 7, 2) := by decide +kernel
theorem dX7_slips_200 : decode cX7_slips 200 = .ok (.ifCond .eq 7, 3) := by decide +kernel
theorem dX7_slips_203 : decode cX7_slips 203 = .ok (.iconst 1, 1) := by decide +kernel
theorem dX7_slips_204 : decode cX7_slips 204 = .ok (.goto 4, 3) := by decide +kernel
theorem dX7_slips_207 : decode cX7_slips 207 = .ok (.iconst 0, 1) := by decide +kernel
theorem dX7_slips_208 : decode cX7_slips 208 = .ok (.iadd, 1) := by decide +kernel
theorem dX7_slips_209 : decode cX7_slips 209 = .ok (.istore 4, 2) := by decide +kernel
theorem dX7_slips_211 : decode cX7_slips 211 = .ok (.iinc 5 1, 3) := by decide +kernel
theorem dX7_slips_214 : decode cX7_slips 214 = .ok (.goto (-153), 3) := by decide +kernel
theorem dX7_slips_217 : decode cX7_slips 217 = .ok (.iload 4, 2) := by decide +kernel
theorem dX7_slips_219 : decode cX7_slips 219 = .ok (.ireturn, 1) := by decide +kernel
theorem dX7_doesFit_0 : decode cX7_doesFit 0 = .ok (.iload 4, 2) := by decide +kernel
theorem dX7_doesFit_2 : decode cX7_doesFit 2 = .ok (.iload_n 2, 1) := by decide +kernel
theorem dX7_doesFit_3 : decode cX7_doesFit 3 = .ok (.iconst 1, 1) := by decide +kernel
theorem dX7_doesFit_4 : decode cX7_doesFit 4 = .ok (.isub, 1) := by decide +kernel
theorem dX7_doesFit_5 : decode cX7_doesFit 5 = .ok (.iload 5, 2) := by decide +kernel
theorem dX7_doesFit_7 : decode cX7_doesFit 7 = .ok (.imul, 1) := by decide +kernel
theorem dX7_doesFit_8 : decode cX7_doesFit 8 = .ok (.iadd, 1) := by decide +kernel
theorem dX7_doesFit_9 : decode cX7_doesFit 9 = .ok (.sipush 400, 3) := by decide +kernel
theorem dX7_doesFit_12 : decode cX7_doesFit 12 = .ok (.if_icmp .le 5, 3) := by decide +kernel
theorem dX7_doesFit_15 : decode cX7_doesFit 15 = .ok (.iconst 0, 1) := by decide +kernel
theorem dX7_doesFit_16 : decode cX7_doesFit 16 = .ok (.ireturn, 1) := by decide +kernel
theorem dX7_doesFit_17 : decode cX7_doesFit 17 = .ok (.iconst 0, 1) := by decide +kernel
theorem dX7_doesFit_18 : decode cX7_doesFit 18 = .ok (.istore 6, 2) := by decide +kernel
theorem dX7_doesFit_20 : decode cX7_doesFit 20 = .ok (.iload 6, 2) := by decide +kernel
theorem dX7_doesFit_22 : decode cX7_doesFit 22 = .ok (.iload_n 2, 1) := by decide +kernel
theorem dX7_doesFit_23 : decode cX7_doesFit 23 = .ok (.if_icmp .ge 56, 3) := by decide +kernel
theorem dX7_doesFit_26 : decode cX7_doesFit 26 = .ok (.aload_n 0, 1) := by decide +kernel
theorem dX7_doesFit_27 : decode cX7_doesFit 27 = .ok (.getfield 69, 3) := by decide +kernel
theorem dX7_doesFit_30 : decode cX7_doesFit 30 = .ok (.bipush 60, 2) := by decide +kernel
theorem dX7_doesFit_32 : decode cX7_doesFit 32 = .ok (.iload_n 1, 1) := by decide +kernel
theorem dX7_doesFit_33 : decode cX7_doesFit 33 = .ok (.imul, 1) := by decide +kernel
theorem dX7_doesFit_34 : decode cX7_doesFit 34 = .ok (.iload 6, 2) := by decide +kernel
theorem dX7_doesFit_36 : decode cX7_doesFit 36 = .ok (.iadd, 1) := by decide +kernel
theorem dX7_doesFit_37 : decode cX7_doesFit 37 = .ok (.iaload, 1) := by decide +kernel
theorem dX7_doesFit_38 : decode cX7_doesFit 38 = .ok (.istore 7, 2) := by decide +kernel
theorem dX7_doesFit_40 : decode cX7_doesFit 40 = .ok (.iload 7, 2) := by decide +kernel
theorem dX7_doesFit_42 : decode cX7_doesFit 42 = .ok (.invokestatic 90, 3) := by decide +kernel
theorem dX7_doesFit_45 : decode cX7_doesFit 45 = .ok (.ifCond .eq 28, 3) := by decide +kernel
theorem dX7_doesFit_48 : decode cX7_doesFit 48 = .ok (.aload_n 0, 1) := by decide +kernel
theorem dX7_doesFit_49 : decode cX7_doesFit 49 = .ok (.iload_n 3, 1) := by decide +kernel
theorem dX7_doesFit_50 : decode cX7_doesFit 50 = .ok (.aload_n 0, 1) := by decide +kernel
theorem dX7_doesFit_51 : decode cX7_doesFit 51 = .ok (.iload_n 3, 1) := by decide +kernel
theorem dX7_doesFit_52 : decode cX7_doesFit 52 = .ok (.iload 4, 2) := by decide +kernel
theorem dX7_doesFit_54 : decode cX7_doesFit 54 = .ok (.iload 6, 2) := by decide +kernel
theorem dX7_doesFit_56 : decode cX7_doesFit 56 = .ok (.iload 5, 2) := by decide +kernel
theorem dX7_doesFit_58 : decode cX7_doesFit 58 = .ok (.imul, 1) := by decide +kernel
theorem dX7_doesFit_59 : decode cX7_doesFit 59 = .ok (.iadd, 1) := by decide +kernel
theorem dX7_doesFit_60 : decode cX7_doesFit 60 = .ok (.invokevirtual 115, 3) := by decide +kernel
theorem dX7_doesFit_63 : decode cX7_doesFit 63 = .ok (.invokevirtual 106, 3) := by decide +kernel
theorem dX7_doesFit_66 : decode cX7_doesFit 66 = .ok (.iload 7, 2) := by decide +kernel
theorem dX7_doesFit_68 : decode cX7_doesFit 68 = .ok (.if_icmp .eq 5, 3) := by decide +kernel
theorem dX7_doesFit_71 : decode cX7_doesFit 71 = .ok (.iconst 0, 1) := by decide +kernel
theorem dX7_doesFit_72 : decode cX7_doesFit 72 = .ok (.ireturn, 1) := by decide +kernel
theorem dX7_doesFit_73 : decode cX7_doesFit 73 = .ok (.iinc 6 1, 3) := by decide +kernel
theorem dX7_doesFit_76 : decode cX7_doesFit 76 = .ok (.goto (-56), 3) := by decide +kernel
theorem dX7_doesFit_79 : decode cX7_doesFit 79 = .ok (.iconst 1, 1) := by decide +kernel
theorem dX7_doesFit_80 : decode cX7_doesFit 80 = .ok (.ireturn, 1) := by decide +kernel
theorem dX7_refuses_0 : decode cX7_refuses 0 = .ok (.iload_n 1, 1) := by decide +kernel
theorem dX7_refuses_1 : decode cX7_refuses 1 = .ok (.invokestatic 82, 3) := by decide +kernel
theorem dX7_refuses_4 : decode cX7_refuses 4 = .ok (.ifCond .eq 13, 3) := by decide +kernel
theorem dX7_refuses_7 : decode cX7_refuses 7 = .ok (.iload_n 2, 1) := by decide +kernel
theorem dX7_refuses_8 : decode cX7_refuses 8 = .ok (.iconst 1, 1) := by decide +kernel
theorem dX7_refuses_9 : decode cX7_refuses 9 = .ok (.bipush 30, 2) := by decide +kernel
theorem dX7_refuses_11 : decode cX7_refuses 11 = .ok (.invokestatic 75, 3) := by decide +kernel
theorem dX7_refuses_14 : decode cX7_refuses 14 = .ok (.ifCond .ne 6, 3) := by decide +kernel
theorem dX7_refuses_17 : decode cX7_refuses 17 = .ok (.bipush (-2), 2) := by decide +kernel
theorem dX7_refuses_19 : decode cX7_refuses 19 = .ok (.ireturn, 1) := by decide +kernel
theorem dX7_refuses_20 : decode cX7_refuses 20 = .ok (.aload_n 0, 1) := by decide +kernel
theorem dX7_refuses_21 : decode cX7_refuses 21 = .ok (.getfield 60, 3) := by decide +kernel
theorem dX7_refuses_24 : decode cX7_refuses 24 = .ok (.iload_n 1, 1) := by decide +kernel
theorem dX7_refuses_25 : decode cX7_refuses 25 = .ok (.baload, 1) := by decide +kernel
theorem dX7_refuses_26 : decode cX7_refuses 26 = .ok (.ifCond .ne 11, 3) := by decide +kernel
theorem dX7_refuses_29 : decode cX7_refuses 29 = .ok (.aload_n 0, 1) := by decide +kernel
theorem dX7_refuses_30 : decode cX7_refuses 30 = .ok (.iconst 1, 1) := by decide +kernel
theorem dX7_refuses_31 : decode cX7_refuses 31 = .ok (.invokevirtual 86, 3) := by decide +kernel
theorem dX7_refuses_34 : decode cX7_refuses 34 = .ok (.goto 22, 3) := by decide +kernel
theorem dX7_refuses_37 : decode cX7_refuses 37 = .ok (.aload_n 0, 1) := by decide +kernel
theorem dX7_refuses_38 : decode cX7_refuses 38 = .ok (.getfield 66, 3) := by decide +kernel
theorem dX7_refuses_41 : decode cX7_refuses 41 = .ok (.iload_n 1, 1) := by decide +kernel
theorem dX7_refuses_42 : decode cX7_refuses 42 = .ok (.iaload, 1) := by decide +kernel
theorem dX7_refuses_43 : decode cX7_refuses 43 = .ok (.iload_n 2, 1) := by decide +kernel
theorem dX7_refuses_44 : decode cX7_refuses 44 = .ok (.if_icmp .ge 11, 3) := by decide +kernel
theorem dX7_refuses_47 : decode cX7_refuses 47 = .ok (.aload_n 0, 1) := by decide +kernel
theorem dX7_refuses_48 : decode cX7_refuses 48 = .ok (.iconst 2, 1) := by decide +kernel
theorem dX7_refuses_49 : decode cX7_refuses 49 = .ok (.invokevirtual 86, 3) := by decide +kernel
theorem dX7_refuses_52 : decode cX7_refuses 52 = .ok (.goto 4, 3) := by decide +kernel
theorem dX7_refuses_55 : decode cX7_refuses 55 = .ok (.iconst 0, 1) := by decide +kernel
theorem dX7_refuses_56 : decode cX7_refuses 56 = .ok (.ireturn, 1) := by decide +kernel
theorem dX7_readingOf_0 : decode cX7_readingOf 0 = .ok (.aload_n 0, 1) := by decide +kernel
theorem dX7_readingOf_1 : decode cX7_readingOf 1 = .ok (.iconst 0, 1) := by decide +kernel
theorem dX7_readingOf_2 : decode cX7_readingOf 2 = .ok (.putfield 211, 3) := by decide +kernel
theorem dX7_readingOf_5 : decode cX7_readingOf 5 = .ok (.iconst 0, 1) := by decide +kernel
theorem dX7_readingOf_6 : decode cX7_readingOf 6 = .ok (.istore 4, 2) := by decide +kernel
theorem dX7_readingOf_8 : decode cX7_readingOf 8 = .ok (.iload 4, 2) := by decide +kernel
theorem dX7_readingOf_10 : decode cX7_readingOf 10 = .ok (.aload_n 0, 1) := by decide +kernel
theorem dX7_readingOf_11 : decode cX7_readingOf 11 = .ok (.getfield 79, 3) := by decide +kernel
theorem dX7_readingOf_14 : decode cX7_readingOf 14 = .ok (.if_icmp .ge 90, 3) := by decide +kernel
theorem dX7_readingOf_17 : decode cX7_readingOf 17 = .ok (.iconst 1, 1) := by decide +kernel
theorem dX7_readingOf_18 : decode cX7_readingOf 18 = .ok (.istore 5, 2) := by decide +kernel
theorem dX7_readingOf_20 : decode cX7_readingOf 20 = .ok (.iload 5, 2) := by decide +kernel
theorem dX7_readingOf_22 : decode cX7_readingOf 22 = .ok (.bipush 100, 2) := by decide +kernel
theorem dX7_readingOf_24 : decode cX7_readingOf 24 = .ok (.if_icmp .ge 74, 3) := by decide +kernel
theorem dX7_readingOf_27 : decode cX7_readingOf 27 = .ok (.iconst 1, 1) := by decide +kernel
theorem dX7_readingOf_28 : decode cX7_readingOf 28 = .ok (.istore 6, 2) := by decide +kernel
theorem dX7_readingOf_30 : decode cX7_readingOf 30 = .ok (.iload 6, 2) := by decide +kernel
theorem dX7_readingOf_32 : decode cX7_readingOf 32 = .ok (.bipush 21, 2) := by decide +kernel
theorem dX7_readingOf_34 : decode cX7_readingOf 34 = .ok (.if_icmp .ge 58, 3) := by decide +kernel
theorem dX7_readingOf_37 : decode cX7_readingOf 37 = .ok (.aload_n 0, 1) := by decide +kernel
theorem dX7_readingOf_38 : decode cX7_readingOf 38 = .ok (.iload_n 1, 1) := by decide +kernel
theorem dX7_readingOf_39 : decode cX7_readingOf 39 = .ok (.iload_n 2, 1) := by decide +kernel
theorem dX7_readingOf_40 : decode cX7_readingOf 40 = .ok (.iload 4, 2) := by decide +kernel
theorem dX7_readingOf_42 : decode cX7_readingOf 42 = .ok (.iload 5, 2) := by decide +kernel
theorem dX7_readingOf_44 : decode cX7_readingOf 44 = .ok (.iload 6, 2) := by decide +kernel
theorem dX7_readingOf_46 : decode cX7_readingOf 46 = .ok (.invokevirtual 214, 3) := by decide +kernel
theorem dX7_readingOf_49 : decode cX7_readingOf 49 = .ok (.ifCond .eq 37, 3) := by decide +kernel
theorem dX7_readingOf_52 : decode cX7_readingOf 52 = .ok (.aload_n 0, 1) := by decide +kernel
theorem dX7_readingOf_53 : decode cX7_readingOf 53 = .ok (.getfield 211, 3) := by decide +kernel
theorem dX7_readingOf_56 : decode cX7_readingOf 56 = .ok (.iload_n 3, 1) := by decide +kernel
theorem dX7_readingOf_57 : decode cX7_readingOf 57 = .ok (.if_icmp .ne 19, 3) := by decide +kernel
theorem dX7_readingOf_60 : decode cX7_readingOf 60 = .ok (.ldc 217, 2) := by decide +kernel
theorem dX7_readingOf_62 : decode cX7_readingOf 62 = .ok (.iload 4, 2) := by decide +kernel
theorem dX7_readingOf_64 : decode cX7_readingOf 64 = .ok (.imul, 1) := by decide +kernel
theorem dX7_readingOf_65 : decode cX7_readingOf 65 = .ok (.sipush 1000, 3) := by decide +kernel
theorem dX7_readingOf_68 : decode cX7_readingOf 68 = .ok (.iload 6, 2) := by decide +kernel
theorem dX7_readingOf_70 : decode cX7_readingOf 70 = .ok (.imul, 1) := by decide +kernel
theorem dX7_readingOf_71 : decode cX7_readingOf 71 = .ok (.iadd, 1) := by decide +kernel
theorem dX7_readingOf_72 : decode cX7_readingOf 72 = .ok (.iload 5, 2) := by decide +kernel
theorem dX7_readingOf_74 : decode cX7_readingOf 74 = .ok (.iadd, 1) := by decide +kernel
theorem dX7_readingOf_75 : decode cX7_readingOf 75 = .ok (.ireturn, 1) := by decide +kernel
theorem dX7_readingOf_76 : decode cX7_readingOf 76 = .ok (.aload_n 0, 1) := by decide +kernel
theorem dX7_readingOf_77 : decode cX7_readingOf 77 = .ok (.dup, 1) := by decide +kernel
theorem dX7_readingOf_78 : decode cX7_readingOf 78 = .ok (.getfield 211, 3) := by decide +kernel
theorem dX7_readingOf_81 : decode cX7_readingOf 81 = .ok (.iconst 1, 1) := by decide +kernel
theorem dX7_readingOf_82 : decode cX7_readingOf 82 = .ok (.iadd, 1) := by decide +kernel
theorem dX7_readingOf_83 : decode cX7_readingOf 83 = .ok (.putfield 211, 3) := by decide +kernel
theorem dX7_readingOf_86 : decode cX7_readingOf 86 = .ok (.iinc 6 1, 3) := by decide +kernel
theorem dX7_readingOf_89 : decode cX7_readingOf 89 = .ok (.goto (-59), 3) := by decide +kernel
theorem dX7_readingOf_92 : decode cX7_readingOf 92 = .ok (.iinc 5 1, 3) := by decide +kernel
theorem dX7_readingOf_95 : decode cX7_readingOf 95 = .ok (.goto (-75), 3) := by decide +kernel
theorem dX7_readingOf_98 : decode cX7_readingOf 98 = .ok (.iinc 4 1, 3) := by decide +kernel
theorem dX7_readingOf_101 : decode cX7_readingOf 101 = .ok (.goto (-93), 3) := by decide +kernel
theorem dX7_readingOf_104 : decode cX7_readingOf 104 = .ok (.iconst (-1), 1) := by decide +kernel
theorem dX7_readingOf_105 : decode cX7_readingOf 105 = .ok (.ireturn, 1) := by decide +kernel
theorem dX7_readings_0 : decode cX7_readings 0 = .ok (.aload_n 0, 1) := by decide +kernel
theorem dX7_readings_1 : decode cX7_readings 1 = .ok (.iload_n 1, 1) := by decide +kernel
theorem dX7_readings_2 : decode cX7_readings 2 = .ok (.iload_n 2, 1) := by decide +kernel
theorem dX7_readings_3 : decode cX7_readings 3 = .ok (.invokevirtual 218, 3) := by decide +kernel
theorem dX7_readings_6 : decode cX7_readings 6 = .ok (.istore_n 3, 1) := by decide +kernel
theorem dX7_readings_7 : decode cX7_readings 7 = .ok (.iload_n 3, 1) := by decide +kernel
theorem dX7_readings_8 : decode cX7_readings 8 = .ok (.ifCond .eq 5, 3) := by decide +kernel
theorem dX7_readings_11 : decode cX7_readings 11 = .ok (.iload_n 3, 1) := by decide +kernel
theorem dX7_readings_12 : decode cX7_readings 12 = .ok (.ireturn, 1) := by decide +kernel
theorem dX7_readings_13 : decode cX7_readings 13 = .ok (.aload_n 0, 1) := by decide +kernel
theorem dX7_readings_14 : decode cX7_readings 14 = .ok (.iload_n 1, 1) := by decide +kernel
theorem dX7_readings_15 : decode cX7_readings 15 = .ok (.iload_n 2, 1) := by decide +kernel
theorem dX7_readings_16 : decode cX7_readings 16 = .ok (.iconst (-1), 1) := by decide +kernel
theorem dX7_readings_17 : decode cX7_readings 17 = .ok (.invokevirtual 221, 3) := by decide +kernel
theorem dX7_readings_20 : decode cX7_readings 20 = .ok (.istore 4, 2) := by decide +kernel
theorem dX7_readings_22 : decode cX7_readings 22 = .ok (.aload_n 0, 1) := by decide +kernel
theorem dX7_readings_23 : decode cX7_readings 23 = .ok (.getfield 211, 3) := by decide +kernel
theorem dX7_readings_26 : decode cX7_readings 26 = .ok (.ireturn, 1) := by decide +kernel
theorem dX7_reading_0 : decode cX7_reading 0 = .ok (.iload_n 3, 1) := by decide +kernel
theorem dX7_reading_1 : decode cX7_reading 1 = .ok (.ifCond .ge 6, 3) := by decide +kernel
theorem dX7_reading_4 : decode cX7_reading 4 = .ok (.bipush (-2), 2) := by decide +kernel
theorem dX7_reading_6 : decode cX7_reading 6 = .ok (.ireturn, 1) := by decide +kernel
theorem dX7_reading_7 : decode cX7_reading 7 = .ok (.aload_n 0, 1) := by decide +kernel
theorem dX7_reading_8 : decode cX7_reading 8 = .ok (.iload_n 1, 1) := by decide +kernel
theorem dX7_reading_9 : decode cX7_reading 9 = .ok (.iload_n 2, 1) := by decide +kernel
theorem dX7_reading_10 : decode cX7_reading 10 = .ok (.invokevirtual 218, 3) := by decide +kernel
theorem dX7_reading_13 : decode cX7_reading 13 = .ok (.istore 4, 2) := by decide +kernel
theorem dX7_reading_15 : decode cX7_reading 15 = .ok (.iload 4, 2) := by decide +kernel
theorem dX7_reading_17 : decode cX7_reading 17 = .ok (.ifCond .eq 8, 3) := by decide +kernel
theorem dX7_reading_20 : decode cX7_reading 20 = .ok (.iload 4, 2) := by decide +kernel
theorem dX7_reading_22 : decode cX7_reading 22 = .ok (.goto 10, 3) := by decide +kernel
theorem dX7_reading_25 : decode cX7_reading 25 = .ok (.aload_n 0, 1) := by decide +kernel
theorem dX7_reading_26 : decode cX7_reading 26 = .ok (.iload_n 1, 1) := by decide +kernel
theorem dX7_reading_27 : decode cX7_reading 27 = .ok (.iload_n 2, 1) := by decide +kernel
theorem dX7_reading_28 : decode cX7_reading 28 = .ok (.iload_n 3, 1) := by decide +kernel
theorem dX7_reading_29 : decode cX7_reading 29 = .ok (.invokevirtual 221, 3) := by decide +kernel
theorem dX7_reading_32 : decode cX7_reading 32 = .ok (.ireturn, 1) := by decide +kernel
theorem dX7_fits_0 : decode cX7_fits 0 = .ok (.aload_n 0, 1) := by decide +kernel
theorem dX7_fits_1 : decode cX7_fits 1 = .ok (.iload_n 3, 1) := by decide +kernel
theorem dX7_fits_2 : decode cX7_fits 2 = .ok (.invokevirtual 93, 3) := by decide +kernel
theorem dX7_fits_5 : decode cX7_fits 5 = .ok (.ifCond .eq 25, 3) := by decide +kernel
theorem dX7_fits_8 : decode cX7_fits 8 = .ok (.iload 4, 2) := by decide +kernel
theorem dX7_fits_10 : decode cX7_fits 10 = .ok (.iconst 1, 1) := by decide +kernel
theorem dX7_fits_11 : decode cX7_fits 11 = .ok (.bipush 99, 2) := by decide +kernel
theorem dX7_fits_13 : decode cX7_fits 13 = .ok (.invokestatic 75, 3) := by decide +kernel
theorem dX7_fits_16 : decode cX7_fits 16 = .ok (.ifCond .eq 14, 3) := by decide +kernel
theorem dX7_fits_19 : decode cX7_fits 19 = .ok (.iload 5, 2) := by decide +kernel
theorem dX7_fits_21 : decode cX7_fits 21 = .ok (.iconst 1, 1) := by decide +kernel
theorem dX7_fits_22 : decode cX7_fits 22 = .ok (.bipush 20, 2) := by decide +kernel
theorem dX7_fits_24 : decode cX7_fits 24 = .ok (.invokestatic 75, 3) := by decide +kernel
theorem dX7_fits_27 : decode cX7_fits 27 = .ok (.ifCond .ne 6, 3) := by decide +kernel
theorem dX7_fits_30 : decode cX7_fits 30 = .ok (.bipush (-2), 2) := by decide +kernel
theorem dX7_fits_32 : decode cX7_fits 32 = .ok (.ireturn, 1) := by decide +kernel
theorem dX7_fits_33 : decode cX7_fits 33 = .ok (.aload_n 0, 1) := by decide +kernel
theorem dX7_fits_34 : decode cX7_fits 34 = .ok (.iload_n 1, 1) := by decide +kernel
theorem dX7_fits_35 : decode cX7_fits 35 = .ok (.iload_n 2, 1) := by decide +kernel
theorem dX7_fits_36 : decode cX7_fits 36 = .ok (.invokevirtual 218, 3) := by decide +kernel
theorem dX7_fits_39 : decode cX7_fits 39 = .ok (.istore 6, 2) := by decide +kernel
theorem dX7_fits_41 : decode cX7_fits 41 = .ok (.iload 6, 2) := by decide +kernel
theorem dX7_fits_43 : decode cX7_fits 43 = .ok (.ifCond .eq 8, 3) := by decide +kernel
theorem dX7_fits_46 : decode cX7_fits 46 = .ok (.iload 6, 2) := by decide +kernel
theorem dX7_fits_48 : decode cX7_fits 48 = .ok (.goto 22, 3) := by decide +kernel
theorem dX7_fits_51 : decode cX7_fits 51 = .ok (.aload_n 0, 1) := by decide +kernel
theorem dX7_fits_52 : decode cX7_fits 52 = .ok (.iload_n 1, 1) := by decide +kernel
theorem dX7_fits_53 : decode cX7_fits 53 = .ok (.iload_n 2, 1) := by decide +kernel
theorem dX7_fits_54 : decode cX7_fits 54 = .ok (.iload_n 3, 1) := by decide +kernel
theorem dX7_fits_55 : decode cX7_fits 55 = .ok (.iload 4, 2) := by decide +kernel
theorem dX7_fits_57 : decode cX7_fits 57 = .ok (.iload 5, 2) := by decide +kernel
theorem dX7_fits_59 : decode cX7_fits 59 = .ok (.invokevirtual 214, 3) := by decide +kernel
theorem dX7_fits_62 : decode cX7_fits 62 = .ok (.ifCond .eq 7, 3) := by decide +kernel
theorem dX7_fits_65 : decode cX7_fits 65 = .ok (.iconst 1, 1) := by decide +kernel
theorem dX7_fits_66 : decode cX7_fits 66 = .ok (.goto 4, 3) := by decide +kernel
theorem dX7_fits_69 : decode cX7_fits 69 = .ok (.iconst 0, 1) := by decide +kernel
theorem dX7_fits_70 : decode cX7_fits 70 = .ok (.ireturn, 1) := by decide +kernel
theorem dX7_type_0 : decode cX7_type 0 = .ok (.iload_n 1, 1) := by decide +kernel
theorem dX7_type_1 : decode cX7_type 1 = .ok (.iconst 0, 1) := by decide +kernel
theorem dX7_type_2 : decode cX7_type 2 = .ok (.sipush 255, 3) := by decide +kernel
theorem dX7_type_5 : decode cX7_type 5 = .ok (.invokestatic 75, 3) := by decide +kernel
theorem dX7_type_8 : decode cX7_type 8 = .ok (.ifCond .ne 6, 3) := by decide +kernel
theorem dX7_type_11 : decode cX7_type 11 = .ok (.bipush (-2), 2) := by decide +kernel
theorem dX7_type_13 : decode cX7_type 13 = .ok (.ireturn, 1) := by decide +kernel
theorem dX7_type_14 : decode cX7_type 14 = .ok (.aload_n 0, 1) := by decide +kernel
theorem dX7_type_15 : decode cX7_type 15 = .ok (.getfield 224, 3) := by decide +kernel
theorem dX7_type_18 : decode cX7_type 18 = .ok (.bipush 60, 2) := by decide +kernel
theorem dX7_type_20 : decode cX7_type 20 = .ok (.if_icmp .ne 6, 3) := by decide +kernel
theorem dX7_type_23 : decode cX7_type 23 = .ok (.bipush (-4), 2) := by decide +kernel
theorem dX7_type_25 : decode cX7_type 25 = .ok (.ireturn, 1) := by decide +kernel
theorem dX7_type_26 : decode cX7_type 26 = .ok (.aload_n 0, 1) := by decide +kernel
theorem dX7_type_27 : decode cX7_type 27 = .ok (.getfield 57, 3) := by decide +kernel
theorem dX7_type_30 : decode cX7_type 30 = .ok (.aload_n 0, 1) := by decide +kernel
theorem dX7_type_31 : decode cX7_type 31 = .ok (.getfield 224, 3) := by decide +kernel
theorem dX7_type_34 : decode cX7_type 34 = .ok (.iload_n 1, 1) := by decide +kernel
theorem dX7_type_35 : decode cX7_type 35 = .ok (.iastore, 1) := by decide +kernel
theorem dX7_type_36 : decode cX7_type 36 = .ok (.aload_n 0, 1) := by decide +kernel
theorem dX7_type_37 : decode cX7_type 37 = .ok (.dup, 1) := by decide +kernel
theorem dX7_type_38 : decode cX7_type 38 = .ok (.getfield 224, 3) := by decide +kernel
theorem dX7_type_41 : decode cX7_type 41 = .ok (.iconst 1, 1) := by decide +kernel
theorem dX7_type_42 : decode cX7_type 42 = .ok (.iadd, 1) := by decide +kernel
theorem dX7_type_43 : decode cX7_type 43 = .ok (.putfield 224, 3) := by decide +kernel
theorem dX7_type_46 : decode cX7_type 46 = .ok (.aload_n 0, 1) := by decide +kernel
theorem dX7_type_47 : decode cX7_type 47 = .ok (.getfield 224, 3) := by decide +kernel
theorem dX7_type_50 : decode cX7_type 50 = .ok (.ireturn, 1) := by decide +kernel
theorem dX7_hush_0 : decode cX7_hush 0 = .ok (.aload_n 0, 1) := by decide +kernel
theorem dX7_hush_1 : decode cX7_hush 1 = .ok (.getfield 224, 3) := by decide +kernel
theorem dX7_hush_4 : decode cX7_hush 4 = .ok (.istore_n 1, 1) := by decide +kernel
theorem dX7_hush_5 : decode cX7_hush 5 = .ok (.aload_n 0, 1) := by decide +kernel
theorem dX7_hush_6 : decode cX7_hush 6 = .ok (.iconst 0, 1) := by decide +kernel
theorem dX7_hush_7 : decode cX7_hush 7 = .ok (.putfield 224, 3) := by decide +kernel
theorem dX7_hush_10 : decode cX7_hush 10 = .ok (.iload_n 1, 1) := by decide +kernel
theorem dX7_hush_11 : decode cX7_hush 11 = .ok (.ireturn, 1) := by decide +kernel
theorem dX7_byteAt_0 : decode cX7_byteAt 0 = .ok (.iload_n 1, 1) := by decide +kernel
theorem dX7_byteAt_1 : decode cX7_byteAt 1 = .ok (.aload_n 0, 1) := by decide +kernel
theorem dX7_byteAt_2 : decode cX7_byteAt 2 = .ok (.getfield 224, 3) := by decide +kernel
theorem dX7_byteAt_5 : decode cX7_byteAt 5 = .ok (.if_icmp .ge 12, 3) := by decide +kernel
theorem dX7_byteAt_8 : decode cX7_byteAt 8 = .ok (.aload_n 0, 1) := by decide +kernel
theorem dX7_byteAt_9 : decode cX7_byteAt 9 = .ok (.getfield 57, 3) := by decide +kernel
theorem dX7_byteAt_12 : decode cX7_byteAt 12 = .ok (.iload_n 1, 1) := by decide +kernel
theorem dX7_byteAt_13 : decode cX7_byteAt 13 = .ok (.iaload, 1) := by decide +kernel
theorem dX7_byteAt_14 : decode cX7_byteAt 14 = .ok (.goto 4, 3) := by decide +kernel
theorem dX7_byteAt_17 : decode cX7_byteAt 17 = .ok (.iconst (-1), 1) := by decide +kernel
theorem dX7_byteAt_18 : decode cX7_byteAt 18 = .ok (.ireturn, 1) := by decide +kernel
theorem dX7_figures_0 : decode cX7_figures 0 = .ok (.aload_n 0, 1) := by decide +kernel
theorem dX7_figures_1 : decode cX7_figures 1 = .ok (.getfield 227, 3) := by decide +kernel
theorem dX7_figures_4 : decode cX7_figures 4 = .ok (.istore_n 1, 1) := by decide +kernel
theorem dX7_figures_5 : decode cX7_figures 5 = .ok (.iconst 0, 1) := by decide +kernel
theorem dX7_figures_6 : decode cX7_figures 6 = .ok (.istore_n 2, 1) := by decide +kernel
theorem dX7_figures_7 : decode cX7_figures 7 = .ok (.aload_n 0, 1) := by decide +kernel
theorem dX7_figures_8 : decode cX7_figures 8 = .ok (.getfield 227, 3) := by decide +kernel
theorem dX7_figures_11 : decode cX7_figures 11 = .ok (.iload_n 1, 1) := by decide +kernel
theorem dX7_figures_12 : decode cX7_figures 12 = .ok (.iconst 2, 1) := by decide +kernel
theorem dX7_figures_13 : decode cX7_figures 13 = .ok (.iadd, 1) := by decide +kernel
theorem dX7_figures_14 : decode cX7_figures 14 = .ok (.if_icmp .ge 59, 3) := by decide +kernel
theorem dX7_figures_17 : decode cX7_figures 17 = .ok (.aload_n 0, 1) := by decide +kernel
theorem dX7_figures_18 : decode cX7_figures 18 = .ok (.aload_n 0, 1) := by decide +kernel
theorem dX7_figures_19 : decode cX7_figures 19 = .ok (.getfield 227, 3) := by decide +kernel
theorem dX7_figures_22 : decode cX7_figures 22 = .ok (.invokevirtual 230, 3) := by decide +kernel
theorem dX7_figures_25 : decode cX7_figures 25 = .ok (.bipush 48, 2) := by decide +kernel
theorem dX7_figures_27 : decode cX7_figures 27 = .ok (.if_icmp .lt 46, 3) := by decide +kernel
theorem dX7_figures_30 : decode cX7_figures 30 = .ok (.aload_n 0, 1) := by decide +kernel
theorem dX7_figures_31 : decode cX7_figures 31 = .ok (.aload_n 0, 1) := by decide +kernel
theorem dX7_figures_32 : decode cX7_figures 32 = .ok (.getfield 227, 3) := by decide +kernel
theorem dX7_figures_35 : decode cX7_figures 35 = .ok (.invokevirtual 230, 3) := by decide +kernel
theorem dX7_figures_38 : decode cX7_figures 38 = .ok (.bipush 57, 2) := by decide +kernel
theorem dX7_figures_40 : decode cX7_figures 40 = .ok (.if_icmp .gt 33, 3) := by decide +kernel
theorem dX7_figures_43 : decode cX7_figures 43 = .ok (.bipush 10, 2) := by decide +kernel
theorem dX7_figures_45 : decode cX7_figures 45 = .ok (.iload_n 2, 1) := by decide +kernel
theorem dX7_figures_46 : decode cX7_figures 46 = .ok (.imul, 1) := by decide +kernel
theorem dX7_figures_47 : decode cX7_figures 47 = .ok (.aload_n 0, 1) := by decide +kernel
theorem dX7_figures_48 : decode cX7_figures 48 = .ok (.aload_n 0, 1) := by decide +kernel
theorem dX7_figures_49 : decode cX7_figures 49 = .ok (.getfield 227, 3) := by decide +kernel
theorem dX7_figures_52 : decode cX7_figures 52 = .ok (.invokevirtual 230, 3) := by decide +kernel
theorem dX7_figures_55 : decode cX7_figures 55 = .ok (.iadd, 1) := by decide +kernel
theorem dX7_figures_56 : decode cX7_figures 56 = .ok (.bipush 48, 2) := by decide +kernel
theorem dX7_figures_58 : decode cX7_figures 58 = .ok (.isub, 1) := by decide +kernel
theorem dX7_figures_59 : decode cX7_figures 59 = .ok (.istore_n 2, 1) := by decide +kernel
theorem dX7_figures_60 : decode cX7_figures 60 = .ok (.aload_n 0, 1) := by decide +kernel
theorem dX7_figures_61 : decode cX7_figures 61 = .ok (.dup, 1) := by decide +kernel
theorem dX7_figures_62 : decode cX7_figures 62 = .ok (.getfield 227, 3) := by decide +kernel
theorem dX7_figures_65 : decode cX7_figures 65 = .ok (.iconst 1, 1) := by decide +kernel
theorem dX7_figures_66 : decode cX7_figures 66 = .ok (.iadd, 1) := by decide +kernel
theorem dX7_figures_67 : decode cX7_figures 67 = .ok (.putfield 227, 3) := by decide +kernel
theorem dX7_figures_70 : decode cX7_figures 70 = .ok (.goto (-63), 3) := by decide +kernel
theorem dX7_figures_73 : decode cX7_figures 73 = .ok (.aload_n 0, 1) := by decide +kernel
theorem dX7_figures_74 : decode cX7_figures 74 = .ok (.getfield 227, 3) := by decide +kernel
theorem dX7_figures_77 : decode cX7_figures 77 = .ok (.iload_n 1, 1) := by decide +kernel
theorem dX7_figures_78 : decode cX7_figures 78 = .ok (.if_icmp .ne 7, 3) := by decide +kernel
theorem dX7_figures_81 : decode cX7_figures 81 = .ok (.iconst (-1), 1) := by decide +kernel
theorem dX7_figures_82 : decode cX7_figures 82 = .ok (.goto 4, 3) := by decide +kernel
theorem dX7_figures_85 : decode cX7_figures 85 = .ok (.iload_n 2, 1) := by decide +kernel
theorem dX7_figures_86 : decode cX7_figures 86 = .ok (.ireturn, 1) := by decide +kernel
theorem dX7_says_0 : decode cX7_says 0 = .ok (.aload_n 0, 1) := by decide +kernel
theorem dX7_says_1 : decode cX7_says 1 = .ok (.iconst 0, 1) := by decide +kernel
theorem dX7_says_2 : decode cX7_says 2 = .ok (.putfield 233, 3) := by decide +kernel
theorem dX7_says_5 : decode cX7_says 5 = .ok (.aload_n 0, 1) := by decide +kernel
theorem dX7_says_6 : decode cX7_says 6 = .ok (.aload_n 0, 1) := by decide +kernel
theorem dX7_says_7 : decode cX7_says 7 = .ok (.getfield 227, 3) := by decide +kernel
theorem dX7_says_10 : decode cX7_says 10 = .ok (.invokevirtual 230, 3) := by decide +kernel
theorem dX7_says_13 : decode cX7_says 13 = .ok (.bipush 109, 2) := by decide +kernel
theorem dX7_says_15 : decode cX7_says 15 = .ok (.if_icmp .ne 34, 3) := by decide +kernel
theorem dX7_says_18 : decode cX7_says 18 = .ok (.aload_n 0, 1) := by decide +kernel
theorem dX7_says_19 : decode cX7_says 19 = .ok (.dup, 1) := by decide +kernel
theorem dX7_says_20 : decode cX7_says 20 = .ok (.getfield 227, 3) := by decide +kernel
theorem dX7_says_23 : decode cX7_says 23 = .ok (.iconst 1, 1) := by decide +kernel
theorem dX7_says_24 : decode cX7_says 24 = .ok (.iadd, 1) := by decide +kernel
theorem dX7_says_25 : decode cX7_says 25 = .ok (.putfield 227, 3) := by decide +kernel
theorem dX7_says_28 : decode cX7_says 28 = .ok (.aload_n 0, 1) := by decide +kernel
theorem dX7_says_29 : decode cX7_says 29 = .ok (.aload_n 0, 1) := by decide +kernel
theorem dX7_says_30 : decode cX7_says 30 = .ok (.invokevirtual 236, 3) := by decide +kernel
theorem dX7_says_33 : decode cX7_says 33 = .ok (.putfield 233, 3) := by decide +kernel
theorem dX7_says_36 : decode cX7_says 36 = .ok (.aload_n 0, 1) := by decide +kernel
theorem dX7_says_37 : decode cX7_says 37 = .ok (.getfield 233, 3) := by decide +kernel
theorem dX7_says_40 : decode cX7_says 40 = .ok (.iconst (-1), 1) := by decide +kernel
theorem dX7_says_41 : decode cX7_says 41 = .ok (.if_icmp .ne 8, 3) := by decide +kernel
theorem dX7_says_44 : decode cX7_says 44 = .ok (.aload_n 0, 1) := by decide +kernel
theorem dX7_says_45 : decode cX7_says 45 = .ok (.getfield 227, 3) := by decide +kernel
theorem dX7_says_48 : decode cX7_says 48 = .ok (.ireturn, 1) := by decide +kernel
theorem dX7_says_49 : decode cX7_says 49 = .ok (.aload_n 0, 1) := by decide +kernel
theorem dX7_says_50 : decode cX7_says 50 = .ok (.aload_n 0, 1) := by decide +kernel
theorem dX7_says_51 : decode cX7_says 51 = .ok (.getfield 227, 3) := by decide +kernel
theorem dX7_says_54 : decode cX7_says 54 = .ok (.invokevirtual 230, 3) := by decide +kernel
theorem dX7_says_57 : decode cX7_says 57 = .ok (.bipush 112, 2) := by decide +kernel
theorem dX7_says_59 : decode cX7_says 59 = .ok (.if_icmp .eq 8, 3) := by decide +kernel
theorem dX7_says_62 : decode cX7_says 62 = .ok (.aload_n 0, 1) := by decide +kernel
theorem dX7_says_63 : decode cX7_says 63 = .ok (.getfield 227, 3) := by decide +kernel
theorem dX7_says_66 : decode cX7_says 66 = .ok (.ireturn, 1) := by decide +kernel
theorem dX7_says_67 : decode cX7_says 67 = .ok (.aload_n 0, 1) := by decide +kernel
theorem dX7_says_68 : decode cX7_says 68 = .ok (.dup, 1) := by decide +kernel
theorem dX7_says_69 : decode cX7_says 69 = .ok (.getfield 227, 3) := by decide +kernel
theorem dX7_says_72 : decode cX7_says 72 = .ok (.iconst 1, 1) := by decide +kernel
theorem dX7_says_73 : decode cX7_says 73 = .ok (.iadd, 1) := by decide +kernel
theorem dX7_says_74 : decode cX7_says 74 = .ok (.putfield 227, 3) := by decide +kernel
theorem dX7_says_77 : decode cX7_says 77 = .ok (.aload_n 0, 1) := by decide +kernel
theorem dX7_says_78 : decode cX7_says 78 = .ok (.getfield 227, 3) := by decide +kernel
theorem dX7_says_81 : decode cX7_says 81 = .ok (.istore_n 1, 1) := by decide +kernel
theorem dX7_says_82 : decode cX7_says 82 = .ok (.aload_n 0, 1) := by decide +kernel
theorem dX7_says_83 : decode cX7_says 83 = .ok (.aload_n 0, 1) := by decide +kernel
theorem dX7_says_84 : decode cX7_says 84 = .ok (.invokevirtual 236, 3) := by decide +kernel
theorem dX7_says_87 : decode cX7_says 87 = .ok (.putfield 239, 3) := by decide +kernel
theorem dX7_says_90 : decode cX7_says 90 = .ok (.aload_n 0, 1) := by decide +kernel
theorem dX7_says_91 : decode cX7_says 91 = .ok (.getfield 239, 3) := by decide +kernel
theorem dX7_says_94 : decode cX7_says 94 = .ok (.iconst (-1), 1) := by decide +kernel
theorem dX7_says_95 : decode cX7_says 95 = .ok (.if_icmp .eq 10, 3) := by decide +kernel
theorem dX7_says_98 : decode cX7_says 98 = .ok (.aload_n 0, 1) := by decide +kernel
theorem dX7_says_99 : decode cX7_says 99 = .ok (.getfield 239, 3) := by decide +kernel
theorem dX7_says_102 : decode cX7_says 102 = .ok (.ifCond .ne 7, 3) := by decide +kernel
theorem dX7_says_105 : decode cX7_says 105 = .ok (.iload_n 1, 1) := by decide +kernel
theorem dX7_says_106 : decode cX7_says 106 = .ok (.goto 4, 3) := by decide +kernel
theorem dX7_says_109 : decode cX7_says 109 = .ok (.iconst (-1), 1) := by decide +kernel
theorem dX7_says_110 : decode cX7_says 110 = .ok (.ireturn, 1) := by decide +kernel
theorem dX7_faultNow_0 : decode cX7_faultNow 0 = .ok (.aload_n 0, 1) := by decide +kernel
theorem dX7_faultNow_1 : decode cX7_faultNow 1 = .ok (.iconst 0, 1) := by decide +kernel
theorem dX7_faultNow_2 : decode cX7_faultNow 2 = .ok (.putfield 227, 3) := by decide +kernel
theorem dX7_faultNow_5 : decode cX7_faultNow 5 = .ok (.aload_n 0, 1) := by decide +kernel
theorem dX7_faultNow_6 : decode cX7_faultNow 6 = .ok (.invokevirtual 242, 3) := by decide +kernel
theorem dX7_faultNow_9 : decode cX7_faultNow 9 = .ok (.istore_n 1, 1) := by decide +kernel
theorem dX7_faultNow_10 : decode cX7_faultNow 10 = .ok (.iload_n 1, 1) := by decide +kernel
theorem dX7_faultNow_11 : decode cX7_faultNow 11 = .ok (.iconst (-1), 1) := by decide +kernel
theorem dX7_faultNow_12 : decode cX7_faultNow 12 = .ok (.if_icmp .ne 63, 3) := by decide +kernel
theorem dX7_faultNow_15 : decode cX7_faultNow 15 = .ok (.aload_n 0, 1) := by decide +kernel
theorem dX7_faultNow_16 : decode cX7_faultNow 16 = .ok (.getfield 227, 3) := by decide +kernel
theorem dX7_faultNow_19 : decode cX7_faultNow 19 = .ok (.aload_n 0, 1) := by decide +kernel
theorem dX7_faultNow_20 : decode cX7_faultNow 20 = .ok (.getfield 224, 3) := by decide +kernel
theorem dX7_faultNow_23 : decode cX7_faultNow 23 = .ok (.if_icmp .ge 52, 3) := by decide +kernel
theorem dX7_faultNow_26 : decode cX7_faultNow 26 = .ok (.aload_n 0, 1) := by decide +kernel
theorem dX7_faultNow_27 : decode cX7_faultNow 27 = .ok (.aload_n 0, 1) := by decide +kernel
theorem dX7_faultNow_28 : decode cX7_faultNow 28 = .ok (.getfield 227, 3) := by decide +kernel
theorem dX7_faultNow_31 : decode cX7_faultNow 31 = .ok (.invokevirtual 230, 3) := by decide +kernel
theorem dX7_faultNow_34 : decode cX7_faultNow 34 = .ok (.bipush 43, 2) := by decide +kernel
theorem dX7_faultNow_36 : decode cX7_faultNow 36 = .ok (.if_icmp .eq 21, 3) := by decide +kernel
theorem dX7_faultNow_39 : decode cX7_faultNow 39 = .ok (.aload_n 0, 1) := by decide +kernel
theorem dX7_faultNow_40 : decode cX7_faultNow 40 = .ok (.aload_n 0, 1) := by decide +kernel
theorem dX7_faultNow_41 : decode cX7_faultNow 41 = .ok (.getfield 227, 3) := by decide +kernel
theorem dX7_faultNow_44 : decode cX7_faultNow 44 = .ok (.invokevirtual 230, 3) := by decide +kernel
theorem dX7_faultNow_47 : decode cX7_faultNow 47 = .ok (.bipush 45, 2) := by decide +kernel
theorem dX7_faultNow_49 : decode cX7_faultNow 49 = .ok (.if_icmp .eq 8, 3) := by decide +kernel
theorem dX7_faultNow_52 : decode cX7_faultNow 52 = .ok (.aload_n 0, 1) := by decide +kernel
theorem dX7_faultNow_53 : decode cX7_faultNow 53 = .ok (.getfield 227, 3) := by decide +kernel
theorem dX7_faultNow_56 : decode cX7_faultNow 56 = .ok (.ireturn, 1) := by decide +kernel
theorem dX7_faultNow_57 : decode cX7_faultNow 57 = .ok (.aload_n 0, 1) := by decide +kernel
theorem dX7_faultNow_58 : decode cX7_faultNow 58 = .ok (.dup, 1) := by decide +kernel
theorem dX7_faultNow_59 : decode cX7_faultNow 59 = .ok (.getfield 227, 3) := by decide +kernel
theorem dX7_faultNow_62 : decode cX7_faultNow 62 = .ok (.iconst 1, 1) := by decide +kernel
theorem dX7_faultNow_63 : decode cX7_faultNow 63 = .ok (.iadd, 1) := by decide +kernel
theorem dX7_faultNow_64 : decode cX7_faultNow 64 = .ok (.putfield 227, 3) := by decide +kernel
theorem dX7_faultNow_67 : decode cX7_faultNow 67 = .ok (.aload_n 0, 1) := by decide +kernel
theorem dX7_faultNow_68 : decode cX7_faultNow 68 = .ok (.invokevirtual 242, 3) := by decide +kernel
theorem dX7_faultNow_71 : decode cX7_faultNow 71 = .ok (.istore_n 1, 1) := by decide +kernel
theorem dX7_faultNow_72 : decode cX7_faultNow 72 = .ok (.goto (-62), 3) := by decide +kernel
theorem dX7_faultNow_75 : decode cX7_faultNow 75 = .ok (.iload_n 1, 1) := by decide +kernel
theorem dX7_faultNow_76 : decode cX7_faultNow 76 = .ok (.ireturn, 1) := by decide +kernel
theorem dX7_fault_0 : decode cX7_fault 0 = .ok (.aload_n 0, 1) := by decide +kernel
theorem dX7_fault_1 : decode cX7_fault 1 = .ok (.invokevirtual 245, 3) := by decide +kernel
theorem dX7_fault_4 : decode cX7_fault 4 = .ok (.ireturn, 1) := by decide +kernel
theorem dX7_speech_0 : decode cX7_speech 0 = .ok (.aload_n 0, 1) := by decide +kernel
theorem dX7_speech_1 : decode cX7_speech 1 = .ok (.iload_n 1, 1) := by decide +kernel
theorem dX7_speech_2 : decode cX7_speech 2 = .ok (.invokevirtual 93, 3) := by decide +kernel
theorem dX7_speech_5 : decode cX7_speech 5 = .ok (.ifCond .ne 6, 3) := by decide +kernel
theorem dX7_speech_8 : decode cX7_speech 8 = .ok (.ldc 179, 2) := by decide +kernel
theorem dX7_speech_10 : decode cX7_speech 10 = .ok (.ireturn, 1) := by decide +kernel
theorem dX7_speech_11 : decode cX7_speech 11 = .ok (.aload_n 0, 1) := by decide +kernel
theorem dX7_speech_12 : decode cX7_speech 12 = .ok (.invokevirtual 245, 3) := by decide +kernel
theorem dX7_speech_15 : decode cX7_speech 15 = .ok (.iconst (-1), 1) := by decide +kernel
theorem dX7_speech_16 : decode cX7_speech 16 = .ok (.if_icmp .eq 6, 3) := by decide +kernel
theorem dX7_speech_19 : decode cX7_speech 19 = .ok (.ldc 248, 2) := by decide +kernel
theorem dX7_speech_21 : decode cX7_speech 21 = .ok (.ireturn, 1) := by decide +kernel
theorem dX7_speech_22 : decode cX7_speech 22 = .ok (.iconst 0, 1) := by decide +kernel
theorem dX7_speech_23 : decode cX7_speech 23 = .ok (.istore_n 2, 1) := by decide +kernel
theorem dX7_speech_24 : decode cX7_speech 24 = .ok (.iconst 1, 1) := by decide +kernel
theorem dX7_speech_25 : decode cX7_speech 25 = .ok (.istore_n 3, 1) := by decide +kernel
theorem dX7_speech_26 : decode cX7_speech 26 = .ok (.aload_n 0, 1) := by decide +kernel
theorem dX7_speech_27 : decode cX7_speech 27 = .ok (.iconst 0, 1) := by decide +kernel
theorem dX7_speech_28 : decode cX7_speech 28 = .ok (.putfield 227, 3) := by decide +kernel
theorem dX7_speech_31 : decode cX7_speech 31 = .ok (.aload_n 0, 1) := by decide +kernel
theorem dX7_speech_32 : decode cX7_speech 32 = .ok (.getfield 227, 3) := by decide +kernel
theorem dX7_speech_35 : decode cX7_speech 35 = .ok (.aload_n 0, 1) := by decide +kernel
theorem dX7_speech_36 : decode cX7_speech 36 = .ok (.getfield 224, 3) := by decide +kernel
theorem dX7_speech_39 : decode cX7_speech 39 = .ok (.if_icmp .ge 76, 3) := by decide +kernel
theorem dX7_speech_42 : decode cX7_speech 42 = .ok (.aload_n 0, 1) := by decide +kernel
theorem dX7_speech_43 : decode cX7_speech 43 = .ok (.invokevirtual 242, 3) := by decide +kernel
theorem dX7_speech_46 : decode cX7_speech 46 = .ok (.istore 4, 2) := by decide +kernel
theorem dX7_speech_48 : decode cX7_speech 48 = .ok (.aload_n 0, 1) := by decide +kernel
theorem dX7_speech_49 : decode cX7_speech 49 = .ok (.getfield 239, 3) := by decide +kernel
theorem dX7_speech_52 : decode cX7_speech 52 = .ok (.aload_n 0, 1) := by decide +kernel
theorem dX7_speech_53 : decode cX7_speech 53 = .ok (.iload_n 1, 1) := by decide +kernel
theorem dX7_speech_54 : decode cX7_speech 54 = .ok (.invokevirtual 96, 3) := by decide +kernel
theorem dX7_speech_57 : decode cX7_speech 57 = .ok (.if_icmp .le 6, 3) := by decide +kernel
theorem dX7_speech_60 : decode cX7_speech 60 = .ok (.ldc 248, 2) := by decide +kernel
theorem dX7_speech_62 : decode cX7_speech 62 = .ok (.ireturn, 1) := by decide +kernel
theorem dX7_speech_63 : decode cX7_speech 63 = .ok (.iload_n 2, 1) := by decide +kernel
theorem dX7_speech_64 : decode cX7_speech 64 = .ok (.iload_n 3, 1) := by decide +kernel
theorem dX7_speech_65 : decode cX7_speech 65 = .ok (.aload_n 0, 1) := by decide +kernel
theorem dX7_speech_66 : decode cX7_speech 66 = .ok (.getfield 233, 3) := by decide +kernel
theorem dX7_speech_69 : decode cX7_speech 69 = .ok (.aload_n 0, 1) := by decide +kernel
theorem dX7_speech_70 : decode cX7_speech 70 = .ok (.iload_n 1, 1) := by decide +kernel
theorem dX7_speech_71 : decode cX7_speech 71 = .ok (.invokevirtual 96, 3) := by decide +kernel
theorem dX7_speech_74 : decode cX7_speech 74 = .ok (.imul, 1) := by decide +kernel
theorem dX7_speech_75 : decode cX7_speech 75 = .ok (.aload_n 0, 1) := by decide +kernel
theorem dX7_speech_76 : decode cX7_speech 76 = .ok (.getfield 239, 3) := by decide +kernel
theorem dX7_speech_79 : decode cX7_speech 79 = .ok (.iadd, 1) := by decide +kernel
theorem dX7_speech_80 : decode cX7_speech 80 = .ok (.imul, 1) := by decide +kernel
theorem dX7_speech_81 : decode cX7_speech 81 = .ok (.iadd, 1) := by decide +kernel
theorem dX7_speech_82 : decode cX7_speech 82 = .ok (.istore_n 2, 1) := by decide +kernel
theorem dX7_speech_83 : decode cX7_speech 83 = .ok (.aload_n 0, 1) := by decide +kernel
theorem dX7_speech_84 : decode cX7_speech 84 = .ok (.aload_n 0, 1) := by decide +kernel
theorem dX7_speech_85 : decode cX7_speech 85 = .ok (.getfield 227, 3) := by decide +kernel
theorem dX7_speech_88 : decode cX7_speech 88 = .ok (.invokevirtual 230, 3) := by decide +kernel
theorem dX7_speech_91 : decode cX7_speech 91 = .ok (.bipush 45, 2) := by decide +kernel
theorem dX7_speech_93 : decode cX7_speech 93 = .ok (.if_icmp .ne 7, 3) := by decide +kernel
theorem dX7_speech_96 : decode cX7_speech 96 = .ok (.iconst (-1), 1) := by decide +kernel
theorem dX7_speech_97 : decode cX7_speech 97 = .ok (.goto 4, 3) := by decide +kernel
theorem dX7_speech_100 : decode cX7_speech 100 = .ok (.iconst 1, 1) := by decide +kernel
theorem dX7_speech_101 : decode cX7_speech 101 = .ok (.istore_n 3, 1) := by decide +kernel
theorem dX7_speech_102 : decode cX7_speech 102 = .ok (.aload_n 0, 1) := by decide +kernel
theorem dX7_speech_103 : decode cX7_speech 103 = .ok (.dup, 1) := by decide +kernel
theorem dX7_speech_104 : decode cX7_speech 104 = .ok (.getfield 227, 3) := by decide +kernel
theorem dX7_speech_107 : decode cX7_speech 107 = .ok (.iconst 1, 1) := by decide +kernel
theorem dX7_speech_108 : decode cX7_speech 108 = .ok (.iadd, 1) := by decide +kernel
theorem dX7_speech_109 : decode cX7_speech 109 = .ok (.putfield 227, 3) := by decide +kernel
theorem dX7_speech_112 : decode cX7_speech 112 = .ok (.goto (-81), 3) := by decide +kernel
theorem dX7_speech_115 : decode cX7_speech 115 = .ok (.iload_n 2, 1) := by decide +kernel
theorem dX7_speech_116 : decode cX7_speech 116 = .ok (.ireturn, 1) := by decide +kernel
theorem dX7_meets_0 : decode cX7_meets 0 = .ok (.aload_n 0, 1) := by decide +kernel
theorem dX7_meets_1 : decode cX7_meets 1 = .ok (.iload_n 1, 1) := by decide +kernel
theorem dX7_meets_2 : decode cX7_meets 2 = .ok (.putfield 249, 3) := by decide +kernel
theorem dX7_meets_5 : decode cX7_meets 5 = .ok (.bipush (-10), 2) := by decide +kernel
theorem dX7_meets_7 : decode cX7_meets 7 = .ok (.iload_n 1, 1) := by decide +kernel
theorem dX7_meets_8 : decode cX7_meets 8 = .ok (.isub, 1) := by decide +kernel
theorem dX7_meets_9 : decode cX7_meets 9 = .ok (.ireturn, 1) := by decide +kernel
theorem dX7_isSheet_0 : decode cX7_isSheet 0 = .ok (.iload_n 0, 1) := by decide +kernel
theorem dX7_isSheet_1 : decode cX7_isSheet 1 = .ok (.iconst 0, 1) := by decide +kernel
theorem dX7_isSheet_2 : decode cX7_isSheet 2 = .ok (.iconst 3, 1) := by decide +kernel
theorem dX7_isSheet_3 : decode cX7_isSheet 3 = .ok (.invokestatic 75, 3) := by decide +kernel
theorem dX7_isSheet_6 : decode cX7_isSheet 6 = .ok (.ireturn, 1) := by decide +kernel
theorem dX7_sheet_0 : decode cX7_sheet 0 = .ok (.iload_n 1, 1) := by decide +kernel
theorem dX7_sheet_1 : decode cX7_sheet 1 = .ok (.invokestatic 82, 3) := by decide +kernel
theorem dX7_sheet_4 : decode cX7_sheet 4 = .ok (.ifCond .eq 18, 3) := by decide +kernel
theorem dX7_sheet_7 : decode cX7_sheet 7 = .ok (.iload_n 2, 1) := by decide +kernel
theorem dX7_sheet_8 : decode cX7_sheet 8 = .ok (.iconst 0, 1) := by decide +kernel
theorem dX7_sheet_9 : decode cX7_sheet 9 = .ok (.iconst 2, 1) := by decide +kernel
theorem dX7_sheet_10 : decode cX7_sheet 10 = .ok (.invokestatic 75, 3) := by decide +kernel
theorem dX7_sheet_13 : decode cX7_sheet 13 = .ok (.ifCond .eq 9, 3) := by decide +kernel
theorem dX7_sheet_16 : decode cX7_sheet 16 = .ok (.iload_n 3, 1) := by decide +kernel
theorem dX7_sheet_17 : decode cX7_sheet 17 = .ok (.bipush 60, 2) := by decide +kernel
theorem dX7_sheet_19 : decode cX7_sheet 19 = .ok (.if_icmp .le 6, 3) := by decide +kernel
theorem dX7_sheet_22 : decode cX7_sheet 22 = .ok (.bipush (-2), 2) := by decide +kernel
theorem dX7_sheet_24 : decode cX7_sheet 24 = .ok (.ireturn, 1) := by decide +kernel
theorem dX7_sheet_25 : decode cX7_sheet 25 = .ok (.iload_n 3, 1) := by decide +kernel
theorem dX7_sheet_26 : decode cX7_sheet 26 = .ok (.ifCond .ge 9, 3) := by decide +kernel
theorem dX7_sheet_29 : decode cX7_sheet 29 = .ok (.aload_n 0, 1) := by decide +kernel
theorem dX7_sheet_30 : decode cX7_sheet 30 = .ok (.iconst 5, 1) := by decide +kernel
theorem dX7_sheet_31 : decode cX7_sheet 31 = .ok (.invokevirtual 86, 3) := by decide +kernel
theorem dX7_sheet_34 : decode cX7_sheet 34 = .ok (.ireturn, 1) := by decide +kernel
theorem dX7_sheet_35 : decode cX7_sheet 35 = .ok (.aload_n 0, 1) := by decide +kernel
theorem dX7_sheet_36 : decode cX7_sheet 36 = .ok (.getfield 60, 3) := by decide +kernel
theorem dX7_sheet_39 : decode cX7_sheet 39 = .ok (.iload_n 1, 1) := by decide +kernel
theorem dX7_sheet_40 : decode cX7_sheet 40 = .ok (.iconst 1, 1) := by decide +kernel
theorem dX7_sheet_41 : decode cX7_sheet 41 = .ok (.bastore, 1) := by decide +kernel
theorem dX7_sheet_42 : decode cX7_sheet 42 = .ok (.aload_n 0, 1) := by decide +kernel
theorem dX7_sheet_43 : decode cX7_sheet 43 = .ok (.getfield 63, 3) := by decide +kernel
theorem dX7_sheet_46 : decode cX7_sheet 46 = .ok (.iload_n 1, 1) := by decide +kernel
theorem dX7_sheet_47 : decode cX7_sheet 47 = .ok (.iload_n 2, 1) := by decide +kernel
theorem dX7_sheet_48 : decode cX7_sheet 48 = .ok (.iastore, 1) := by decide +kernel
theorem dX7_sheet_49 : decode cX7_sheet 49 = .ok (.aload_n 0, 1) := by decide +kernel
theorem dX7_sheet_50 : decode cX7_sheet 50 = .ok (.getfield 66, 3) := by decide +kernel
theorem dX7_sheet_53 : decode cX7_sheet 53 = .ok (.iload_n 1, 1) := by decide +kernel
theorem dX7_sheet_54 : decode cX7_sheet 54 = .ok (.iload_n 3, 1) := by decide +kernel
theorem dX7_sheet_55 : decode cX7_sheet 55 = .ok (.iastore, 1) := by decide +kernel
theorem dX7_sheet_56 : decode cX7_sheet 56 = .ok (.iconst 0, 1) := by decide +kernel
theorem dX7_sheet_57 : decode cX7_sheet 57 = .ok (.istore 4, 2) := by decide +kernel
theorem dX7_sheet_59 : decode cX7_sheet 59 = .ok (.iload 4, 2) := by decide +kernel
theorem dX7_sheet_61 : decode cX7_sheet 61 = .ok (.bipush 60, 2) := by decide +kernel
theorem dX7_sheet_63 : decode cX7_sheet 63 = .ok (.if_icmp .ge 22, 3) := by decide +kernel
theorem dX7_sheet_66 : decode cX7_sheet 66 = .ok (.aload_n 0, 1) := by decide +kernel
theorem dX7_sheet_67 : decode cX7_sheet 67 = .ok (.getfield 69, 3) := by decide +kernel
theorem dX7_sheet_70 : decode cX7_sheet 70 = .ok (.bipush 60, 2) := by decide +kernel
theorem dX7_sheet_72 : decode cX7_sheet 72 = .ok (.iload_n 1, 1) := by decide +kernel
theorem dX7_sheet_73 : decode cX7_sheet 73 = .ok (.imul, 1) := by decide +kernel
theorem dX7_sheet_74 : decode cX7_sheet 74 = .ok (.iload 4, 2) := by decide +kernel
theorem dX7_sheet_76 : decode cX7_sheet 76 = .ok (.iadd, 1) := by decide +kernel
theorem dX7_sheet_77 : decode cX7_sheet 77 = .ok (.iconst 0, 1) := by decide +kernel
theorem dX7_sheet_78 : decode cX7_sheet 78 = .ok (.iastore, 1) := by decide +kernel
theorem dX7_sheet_79 : decode cX7_sheet 79 = .ok (.iinc 4 1, 3) := by decide +kernel
theorem dX7_sheet_82 : decode cX7_sheet 82 = .ok (.goto (-23), 3) := by decide +kernel
theorem dX7_sheet_85 : decode cX7_sheet 85 = .ok (.iload_n 3, 1) := by decide +kernel
theorem dX7_sheet_86 : decode cX7_sheet 86 = .ok (.ireturn, 1) := by decide +kernel
theorem dX7_lose_0 : decode cX7_lose 0 = .ok (.iload_n 1, 1) := by decide +kernel
theorem dX7_lose_1 : decode cX7_lose 1 = .ok (.invokestatic 82, 3) := by decide +kernel
theorem dX7_lose_4 : decode cX7_lose 4 = .ok (.ifCond .ne 6, 3) := by decide +kernel
theorem dX7_lose_7 : decode cX7_lose 7 = .ok (.bipush (-2), 2) := by decide +kernel
theorem dX7_lose_9 : decode cX7_lose 9 = .ok (.ireturn, 1) := by decide +kernel
theorem dX7_lose_10 : decode cX7_lose 10 = .ok (.aload_n 0, 1) := by decide +kernel
theorem dX7_lose_11 : decode cX7_lose 11 = .ok (.getfield 60, 3) := by decide +kernel
theorem dX7_lose_14 : decode cX7_lose 14 = .ok (.iload_n 1, 1) := by decide +kernel
theorem dX7_lose_15 : decode cX7_lose 15 = .ok (.baload, 1) := by decide +kernel
theorem dX7_lose_16 : decode cX7_lose 16 = .ok (.ifCond .ne 9, 3) := by decide +kernel
theorem dX7_lose_19 : decode cX7_lose 19 = .ok (.aload_n 0, 1) := by decide +kernel
theorem dX7_lose_20 : decode cX7_lose 20 = .ok (.iconst 1, 1) := by decide +kernel
theorem dX7_lose_21 : decode cX7_lose 21 = .ok (.invokevirtual 86, 3) := by decide +kernel
theorem dX7_lose_24 : decode cX7_lose 24 = .ok (.ireturn, 1) := by decide +kernel
theorem dX7_lose_25 : decode cX7_lose 25 = .ok (.aload_n 0, 1) := by decide +kernel
theorem dX7_lose_26 : decode cX7_lose 26 = .ok (.getfield 60, 3) := by decide +kernel
theorem dX7_lose_29 : decode cX7_lose 29 = .ok (.iload_n 1, 1) := by decide +kernel
theorem dX7_lose_30 : decode cX7_lose 30 = .ok (.iconst 0, 1) := by decide +kernel
theorem dX7_lose_31 : decode cX7_lose 31 = .ok (.bastore, 1) := by decide +kernel
theorem dX7_lose_32 : decode cX7_lose 32 = .ok (.aload_n 0, 1) := by decide +kernel
theorem dX7_lose_33 : decode cX7_lose 33 = .ok (.getfield 66, 3) := by decide +kernel
theorem dX7_lose_36 : decode cX7_lose 36 = .ok (.iload_n 1, 1) := by decide +kernel
theorem dX7_lose_37 : decode cX7_lose 37 = .ok (.iaload, 1) := by decide +kernel
theorem dX7_lose_38 : decode cX7_lose 38 = .ok (.ireturn, 1) := by decide +kernel
theorem dX7_lacks_0 : decode cX7_lacks 0 = .ok (.aload_n 0, 1) := by decide +kernel
theorem dX7_lacks_1 : decode cX7_lacks 1 = .ok (.getfield 60, 3) := by decide +kernel
theorem dX7_lacks_4 : decode cX7_lacks 4 = .ok (.iload_n 1, 1) := by decide +kernel
theorem dX7_lacks_5 : decode cX7_lacks 5 = .ok (.baload, 1) := by decide +kernel
theorem dX7_lacks_6 : decode cX7_lacks 6 = .ok (.ifCond .ne 7, 3) := by decide +kernel
theorem dX7_lacks_9 : decode cX7_lacks 9 = .ok (.iconst 1, 1) := by decide +kernel
theorem dX7_lacks_10 : decode cX7_lacks 10 = .ok (.goto 38, 3) := by decide +kernel
theorem dX7_lacks_13 : decode cX7_lacks 13 = .ok (.aload_n 0, 1) := by decide +kernel
theorem dX7_lacks_14 : decode cX7_lacks 14 = .ok (.getfield 63, 3) := by decide +kernel
theorem dX7_lacks_17 : decode cX7_lacks 17 = .ok (.iload_n 1, 1) := by decide +kernel
theorem dX7_lacks_18 : decode cX7_lacks 18 = .ok (.iaload, 1) := by decide +kernel
theorem dX7_lacks_19 : decode cX7_lacks 19 = .ok (.iload_n 2, 1) := by decide +kernel
theorem dX7_lacks_20 : decode cX7_lacks 20 = .ok (.if_icmp .eq 7, 3) := by decide +kernel
theorem dX7_lacks_23 : decode cX7_lacks 23 = .ok (.iconst 3, 1) := by decide +kernel
theorem dX7_lacks_24 : decode cX7_lacks 24 = .ok (.goto 24, 3) := by decide +kernel
theorem dX7_lacks_27 : decode cX7_lacks 27 = .ok (.iload_n 3, 1) := by decide +kernel
theorem dX7_lacks_28 : decode cX7_lacks 28 = .ok (.iconst 0, 1) := by decide +kernel
theorem dX7_lacks_29 : decode cX7_lacks 29 = .ok (.aload_n 0, 1) := by decide +kernel
theorem dX7_lacks_30 : decode cX7_lacks 30 = .ok (.getfield 66, 3) := by decide +kernel
theorem dX7_lacks_33 : decode cX7_lacks 33 = .ok (.iload_n 1, 1) := by decide +kernel
theorem dX7_lacks_34 : decode cX7_lacks 34 = .ok (.iaload, 1) := by decide +kernel
theorem dX7_lacks_35 : decode cX7_lacks 35 = .ok (.iconst 1, 1) := by decide +kernel
theorem dX7_lacks_36 : decode cX7_lacks 36 = .ok (.isub, 1) := by decide +kernel
theorem dX7_lacks_37 : decode cX7_lacks 37 = .ok (.invokestatic 75, 3) := by decide +kernel
theorem dX7_lacks_40 : decode cX7_lacks 40 = .ok (.ifCond .eq 7, 3) := by decide +kernel
theorem dX7_lacks_43 : decode cX7_lacks 43 = .ok (.iconst 0, 1) := by decide +kernel
theorem dX7_lacks_44 : decode cX7_lacks 44 = .ok (.goto 4, 3) := by decide +kernel
theorem dX7_lacks_47 : decode cX7_lacks 47 = .ok (.iconst 2, 1) := by decide +kernel
theorem dX7_lacks_48 : decode cX7_lacks 48 = .ok (.ireturn, 1) := by decide +kernel
theorem dX7_lay_0 : decode cX7_lay 0 = .ok (.aload_n 0, 1) := by decide +kernel
theorem dX7_lay_1 : decode cX7_lay 1 = .ok (.getfield 69, 3) := by decide +kernel
theorem dX7_lay_4 : decode cX7_lay 4 = .ok (.bipush 60, 2) := by decide +kernel
theorem dX7_lay_6 : decode cX7_lay 6 = .ok (.iload_n 1, 1) := by decide +kernel
theorem dX7_lay_7 : decode cX7_lay 7 = .ok (.imul, 1) := by decide +kernel
theorem dX7_lay_8 : decode cX7_lay 8 = .ok (.iload_n 2, 1) := by decide +kernel
theorem dX7_lay_9 : decode cX7_lay 9 = .ok (.iadd, 1) := by decide +kernel
theorem dX7_lay_10 : decode cX7_lay 10 = .ok (.aload_n 0, 1) := by decide +kernel
theorem dX7_lay_11 : decode cX7_lay 11 = .ok (.getfield 63, 3) := by decide +kernel
theorem dX7_lay_14 : decode cX7_lay 14 = .ok (.iload_n 1, 1) := by decide +kernel
theorem dX7_lay_15 : decode cX7_lay 15 = .ok (.iaload, 1) := by decide +kernel
theorem dX7_lay_16 : decode cX7_lay 16 = .ok (.ifCond .ne 8, 3) := by decide +kernel
theorem dX7_lay_19 : decode cX7_lay 19 = .ok (.iload_n 3, 1) := by decide +kernel
theorem dX7_lay_20 : decode cX7_lay 20 = .ok (.i2b, 1) := by decide +kernel
theorem dX7_lay_21 : decode cX7_lay 21 = .ok (.goto 19, 3) := by decide +kernel
theorem dX7_lay_24 : decode cX7_lay 24 = .ok (.aload_n 0, 1) := by decide +kernel
theorem dX7_lay_25 : decode cX7_lay 25 = .ok (.getfield 63, 3) := by decide +kernel
theorem dX7_lay_28 : decode cX7_lay 28 = .ok (.iload_n 1, 1) := by decide +kernel
theorem dX7_lay_29 : decode cX7_lay 29 = .ok (.iaload, 1) := by decide +kernel
theorem dX7_lay_30 : decode cX7_lay 30 = .ok (.iconst 1, 1) := by decide +kernel
theorem dX7_lay_31 : decode cX7_lay 31 = .ok (.if_icmp .ne 8, 3) := by decide +kernel
theorem dX7_lay_34 : decode cX7_lay 34 = .ok (.iload_n 3, 1) := by decide +kernel
theorem dX7_lay_35 : decode cX7_lay 35 = .ok (.i2s, 1) := by decide +kernel
theorem dX7_lay_36 : decode cX7_lay 36 = .ok (.goto 4, 3) := by decide +kernel
theorem dX7_lay_39 : decode cX7_lay 39 = .ok (.iload_n 3, 1) := by decide +kernel
theorem dX7_lay_40 : decode cX7_lay 40 = .ok (.iastore, 1) := by decide +kernel
theorem dX7_lay_41 : decode cX7_lay 41 = .ok (.return_, 1) := by decide +kernel
theorem dX7_put_0 : decode cX7_put 0 = .ok (.iload_n 1, 1) := by decide +kernel
theorem dX7_put_1 : decode cX7_put 1 = .ok (.invokestatic 82, 3) := by decide +kernel
theorem dX7_put_4 : decode cX7_put 4 = .ok (.ifCond .eq 12, 3) := by decide +kernel
theorem dX7_put_7 : decode cX7_put 7 = .ok (.iload_n 2, 1) := by decide +kernel
theorem dX7_put_8 : decode cX7_put 8 = .ok (.iconst 0, 1) := by decide +kernel
theorem dX7_put_9 : decode cX7_put 9 = .ok (.iconst 2, 1) := by decide +kernel
theorem dX7_put_10 : decode cX7_put 10 = .ok (.invokestatic 75, 3) := by decide +kernel
theorem dX7_put_13 : decode cX7_put 13 = .ok (.ifCond .ne 6, 3) := by decide +kernel
theorem dX7_put_16 : decode cX7_put 16 = .ok (.bipush (-2), 2) := by decide +kernel
theorem dX7_put_18 : decode cX7_put 18 = .ok (.ireturn, 1) := by decide +kernel
theorem dX7_put_19 : decode cX7_put 19 = .ok (.aload_n 0, 1) := by decide +kernel
theorem dX7_put_20 : decode cX7_put 20 = .ok (.iload_n 1, 1) := by decide +kernel
theorem dX7_put_21 : decode cX7_put 21 = .ok (.iload_n 2, 1) := by decide +kernel
theorem dX7_put_22 : decode cX7_put 22 = .ok (.iload_n 3, 1) := by decide +kernel
theorem dX7_put_23 : decode cX7_put 23 = .ok (.invokevirtual 252, 3) := by decide +kernel
theorem dX7_put_26 : decode cX7_put 26 = .ok (.istore 5, 2) := by decide +kernel
theorem dX7_put_28 : decode cX7_put 28 = .ok (.iload 5, 2) := by decide +kernel
theorem dX7_put_30 : decode cX7_put 30 = .ok (.ifCond .le 10, 3) := by decide +kernel
theorem dX7_put_33 : decode cX7_put 33 = .ok (.aload_n 0, 1) := by decide +kernel
theorem dX7_put_34 : decode cX7_put 34 = .ok (.iload 5, 2) := by decide +kernel
theorem dX7_put_36 : decode cX7_put 36 = .ok (.invokevirtual 86, 3) := by decide +kernel
theorem dX7_put_39 : decode cX7_put 39 = .ok (.ireturn, 1) := by decide +kernel
theorem dX7_put_40 : decode cX7_put 40 = .ok (.aload_n 0, 1) := by decide +kernel
theorem dX7_put_41 : decode cX7_put 41 = .ok (.iload_n 1, 1) := by decide +kernel
theorem dX7_put_42 : decode cX7_put 42 = .ok (.iload_n 3, 1) := by decide +kernel
theorem dX7_put_43 : decode cX7_put 43 = .ok (.iload 4, 2) := by decide +kernel
theorem dX7_put_45 : decode cX7_put 45 = .ok (.invokevirtual 255, 3) := by decide +kernel
theorem dX7_put_48 : decode cX7_put 48 = .ok (.iconst 1, 1) := by decide +kernel
theorem dX7_put_49 : decode cX7_put 49 = .ok (.ireturn, 1) := by decide +kernel
theorem dX7_get_0 : decode cX7_get 0 = .ok (.iload_n 1, 1) := by decide +kernel
theorem dX7_get_1 : decode cX7_get 1 = .ok (.invokestatic 82, 3) := by decide +kernel
theorem dX7_get_4 : decode cX7_get 4 = .ok (.ifCond .eq 12, 3) := by decide +kernel
theorem dX7_get_7 : decode cX7_get 7 = .ok (.iload_n 2, 1) := by decide +kernel
theorem dX7_get_8 : decode cX7_get 8 = .ok (.iconst 0, 1) := by decide +kernel
theorem dX7_get_9 : decode cX7_get 9 = .ok (.iconst 2, 1) := by decide +kernel
theorem dX7_get_10 : decode cX7_get 10 = .ok (.invokestatic 75, 3) := by decide +kernel
theorem dX7_get_13 : decode cX7_get 13 = .ok (.ifCond .ne 7, 3) := by decide +kernel
theorem dX7_get_16 : decode cX7_get 16 = .ok (.ldc_w 258, 3) := by decide +kernel
theorem dX7_get_19 : decode cX7_get 19 = .ok (.ireturn, 1) := by decide +kernel
theorem dX7_get_20 : decode cX7_get 20 = .ok (.aload_n 0, 1) := by decide +kernel
theorem dX7_get_21 : decode cX7_get 21 = .ok (.iload_n 1, 1) := by decide +kernel
theorem dX7_get_22 : decode cX7_get 22 = .ok (.iload_n 2, 1) := by decide +kernel
theorem dX7_get_23 : decode cX7_get 23 = .ok (.iload_n 3, 1) := by decide +kernel
theorem dX7_get_24 : decode cX7_get 24 = .ok (.invokevirtual 252, 3) := by decide +kernel
theorem dX7_get_27 : decode cX7_get 27 = .ok (.istore 4, 2) := by decide +kernel
theorem dX7_get_29 : decode cX7_get 29 = .ok (.iload 4, 2) := by decide +kernel
theorem dX7_get_31 : decode cX7_get 31 = .ok (.ifCond .le 13, 3) := by decide +kernel
theorem dX7_get_34 : decode cX7_get 34 = .ok (.aload_n 0, 1) := by decide +kernel
theorem dX7_get_35 : decode cX7_get 35 = .ok (.iload 4, 2) := by decide +kernel
theorem dX7_get_37 : decode cX7_get 37 = .ok (.putfield 249, 3) := by decide +kernel
theorem dX7_get_40 : decode cX7_get 40 = .ok (.ldc_w 258, 3) := by decide +kernel
theorem dX7_get_43 : decode cX7_get 43 = .ok (.ireturn, 1) := by decide +kernel
theorem dX7_get_44 : decode cX7_get 44 = .ok (.aload_n 0, 1) := by decide +kernel
theorem dX7_get_45 : decode cX7_get 45 = .ok (.getfield 69, 3) := by decide +kernel
theorem dX7_get_48 : decode cX7_get 48 = .ok (.bipush 60, 2) := by decide +kernel
theorem dX7_get_50 : decode cX7_get 50 = .ok (.iload_n 1, 1) := by decide +kernel
theorem dX7_get_51 : decode cX7_get 51 = .ok (.imul, 1) := by decide +kernel
theorem dX7_get_52 : decode cX7_get 52 = .ok (.iload_n 3, 1) := by decide +kernel
theorem dX7_get_53 : decode cX7_get 53 = .ok (.iadd, 1) := by decide +kernel
theorem dX7_get_54 : decode cX7_get 54 = .ok (.iaload, 1) := by decide +kernel
theorem dX7_get_55 : decode cX7_get 55 = .ok (.ireturn, 1) := by decide +kernel
theorem dX7_copy_0 : decode cX7_copy 0 = .ok (.iload_n 1, 1) := by decide +kernel
theorem dX7_copy_1 : decode cX7_copy 1 = .ok (.invokestatic 82, 3) := by decide +kernel
theorem dX7_copy_4 : decode cX7_copy 4 = .ok (.ifCond .eq 10, 3) := by decide +kernel
theorem dX7_copy_7 : decode cX7_copy 7 = .ok (.iload_n 3, 1) := by decide +kernel
theorem dX7_copy_8 : decode cX7_copy 8 = .ok (.invokestatic 82, 3) := by decide +kernel
theorem dX7_copy_11 : decode cX7_copy 11 = .ok (.ifCond .ne 6, 3) := by decide +kernel
theorem dX7_copy_14 : decode cX7_copy 14 = .ok (.bipush (-2), 2) := by decide +kernel
theorem dX7_copy_16 : decode cX7_copy 16 = .ok (.ireturn, 1) := by decide +kernel
theorem dX7_copy_17 : decode cX7_copy 17 = .ok (.aload_n 0, 1) := by decide +kernel
theorem dX7_copy_18 : decode cX7_copy 18 = .ok (.getfield 60, 3) := by decide +kernel
theorem dX7_copy_21 : decode cX7_copy 21 = .ok (.iload_n 1, 1) := by decide +kernel
theorem dX7_copy_22 : decode cX7_copy 22 = .ok (.baload, 1) := by decide +kernel
theorem dX7_copy_23 : decode cX7_copy 23 = .ok (.ifCond .eq 12, 3) := by decide +kernel
theorem dX7_copy_26 : decode cX7_copy 26 = .ok (.aload_n 0, 1) := by decide +kernel
theorem dX7_copy_27 : decode cX7_copy 27 = .ok (.getfield 60, 3) := by decide +kernel
theorem dX7_copy_30 : decode cX7_copy 30 = .ok (.iload_n 3, 1) := by decide +kernel
theorem dX7_copy_31 : decode cX7_copy 31 = .ok (.baload, 1) := by decide +kernel
theorem dX7_copy_32 : decode cX7_copy 32 = .ok (.ifCond .ne 9, 3) := by decide +kernel
theorem dX7_copy_35 : decode cX7_copy 35 = .ok (.aload_n 0, 1) := by decide +kernel
theorem dX7_copy_36 : decode cX7_copy 36 = .ok (.iconst 1, 1) := by decide +kernel
theorem dX7_copy_37 : decode cX7_copy 37 = .ok (.invokevirtual 86, 3) := by decide +kernel
theorem dX7_copy_40 : decode cX7_copy 40 = .ok (.ireturn, 1) := by decide +kernel
theorem dX7_copy_41 : decode cX7_copy 41 = .ok (.aload_n 0, 1) := by decide +kernel
theorem dX7_copy_42 : decode cX7_copy 42 = .ok (.getfield 63, 3) := by decide +kernel
theorem dX7_copy_45 : decode cX7_copy 45 = .ok (.iload_n 1, 1) := by decide +kernel
theorem dX7_copy_46 : decode cX7_copy 46 = .ok (.iaload, 1) := by decide +kernel
theorem dX7_copy_47 : decode cX7_copy 47 = .ok (.aload_n 0, 1) := by decide +kernel
theorem dX7_copy_48 : decode cX7_copy 48 = .ok (.getfield 63, 3) := by decide +kernel
theorem dX7_copy_51 : decode cX7_copy 51 = .ok (.iload_n 3, 1) := by decide +kernel
theorem dX7_copy_52 : decode cX7_copy 52 = .ok (.iaload, 1) := by decide +kernel
theorem dX7_copy_53 : decode cX7_copy 53 = .ok (.if_icmp .eq 9, 3) := by decide +kernel
theorem dX7_copy_56 : decode cX7_copy 56 = .ok (.aload_n 0, 1) := by decide +kernel
theorem dX7_copy_57 : decode cX7_copy 57 = .ok (.iconst 4, 1) := by decide +kernel
theorem dX7_copy_58 : decode cX7_copy 58 = .ok (.invokevirtual 86, 3) := by decide +kernel
theorem dX7_copy_61 : decode cX7_copy 61 = .ok (.ireturn, 1) := by decide +kernel
theorem dX7_copy_62 : decode cX7_copy 62 = .ok (.iload_n 2, 1) := by decide +kernel
theorem dX7_copy_63 : decode cX7_copy 63 = .ok (.ifCond .lt 48, 3) := by decide +kernel
theorem dX7_copy_66 : decode cX7_copy 66 = .ok (.iload 4, 2) := by decide +kernel
theorem dX7_copy_68 : decode cX7_copy 68 = .ok (.ifCond .lt 43, 3) := by decide +kernel
theorem dX7_copy_71 : decode cX7_copy 71 = .ok (.iload 5, 2) := by decide +kernel
theorem dX7_copy_73 : decode cX7_copy 73 = .ok (.ifCond .lt 38, 3) := by decide +kernel
theorem dX7_copy_76 : decode cX7_copy 76 = .ok (.iload_n 2, 1) := by decide +kernel
theorem dX7_copy_77 : decode cX7_copy 77 = .ok (.i2l, 1) := by decide +kernel
theorem dX7_copy_78 : decode cX7_copy 78 = .ok (.iload 5, 2) := by decide +kernel
theorem dX7_copy_80 : decode cX7_copy 80 = .ok (.i2l, 1) := by decide +kernel
theorem dX7_copy_81 : decode cX7_copy 81 = .ok (.ladd, 1) := by decide +kernel
theorem dX7_copy_82 : decode cX7_copy 82 = .ok (.aload_n 0, 1) := by decide +kernel
theorem dX7_copy_83 : decode cX7_copy 83 = .ok (.getfield 66, 3) := by decide +kernel
theorem dX7_copy_86 : decode cX7_copy 86 = .ok (.iload_n 1, 1) := by decide +kernel
theorem dX7_copy_87 : decode cX7_copy 87 = .ok (.iaload, 1) := by decide +kernel
theorem dX7_copy_88 : decode cX7_copy 88 = .ok (.i2l, 1) := by decide +kernel
theorem dX7_copy_89 : decode cX7_copy 89 = .ok (.lcmp, 1) := by decide +kernel
theorem dX7_copy_90 : decode cX7_copy 90 = .ok (.ifCond .gt 21, 3) := by decide +kernel
theorem dX7_copy_93 : decode cX7_copy 93 = .ok (.iload 4, 2) := by decide +kernel
theorem dX7_copy_95 : decode cX7_copy 95 = .ok (.i2l, 1) := by decide +kernel
theorem dX7_copy_96 : decode cX7_copy 96 = .ok (.iload 5, 2) := by decide +kernel
theorem dX7_copy_98 : decode cX7_copy 98 = .ok (.i2l, 1) := by decide +kernel
theorem dX7_copy_99 : decode cX7_copy 99 = .ok (.ladd, 1) := by decide +kernel
theorem dX7_copy_100 : decode cX7_copy 100 = .ok (.aload_n 0, 1) := by decide +kernel
theorem dX7_copy_101 : decode cX7_copy 101 = .ok (.getfield 66, 3) := by decide +kernel
theorem dX7_copy_104 : decode cX7_copy 104 = .ok (.iload_n 3, 1) := by decide +kernel
theorem dX7_copy_105 : decode cX7_copy 105 = .ok (.iaload, 1) := by decide +kernel
theorem dX7_copy_106 : decode cX7_copy 106 = .ok (.i2l, 1) := by decide +kernel
theorem dX7_copy_107 : decode cX7_copy 107 = .ok (.lcmp, 1) := by decide +kernel
theorem dX7_copy_108 : decode cX7_copy 108 = .ok (.ifCond .le 9, 3) := by decide +kernel
theorem dX7_copy_111 : decode cX7_copy 111 = .ok (.aload_n 0, 1) := by decide +kernel
theorem dX7_copy_112 : decode cX7_copy 112 = .ok (.iconst 2, 1) := by decide +kernel
theorem dX7_copy_113 : decode cX7_copy 113 = .ok (.invokevirtual 86, 3) := by decide +kernel
theorem dX7_copy_116 : decode cX7_copy 116 = .ok (.ireturn, 1) := by decide +kernel
theorem dX7_copy_117 : decode cX7_copy 117 = .ok (.iconst 0, 1) := by decide +kernel
theorem dX7_copy_118 : decode cX7_copy 118 = .ok (.istore 6, 2) := by decide +kernel
theorem dX7_copy_120 : decode cX7_copy 120 = .ok (.iload 6, 2) := by decide +kernel
theorem dX7_copy_122 : decode cX7_copy 122 = .ok (.iload 5, 2) := by decide +kernel
theorem dX7_copy_124 : decode cX7_copy 124 = .ok (.if_icmp .ge 30, 3) := by decide +kernel
theorem dX7_copy_127 : decode cX7_copy 127 = .ok (.aload_n 0, 1) := by decide +kernel
theorem dX7_copy_128 : decode cX7_copy 128 = .ok (.getfield 72, 3) := by decide +kernel
theorem dX7_copy_131 : decode cX7_copy 131 = .ok (.iload 6, 2) := by decide +kernel
theorem dX7_copy_133 : decode cX7_copy 133 = .ok (.aload_n 0, 1) := by decide +kernel
theorem dX7_copy_134 : decode cX7_copy 134 = .ok (.getfield 69, 3) := by decide +kernel
theorem dX7_copy_137 : decode cX7_copy 137 = .ok (.bipush 60, 2) := by decide +kernel
theorem dX7_copy_139 : decode cX7_copy 139 = .ok (.iload_n 1, 1) := by decide +kernel
theorem dX7_copy_140 : decode cX7_copy 140 = .ok (.imul, 1) := by decide +kernel
theorem dX7_copy_141 : decode cX7_copy 141 = .ok (.iload_n 2, 1) := by decide +kernel
theorem dX7_copy_142 : decode cX7_copy 142 = .ok (.iadd, 1) := by decide +kernel
theorem dX7_copy_143 : decode cX7_copy 143 = .ok (.iload 6, 2) := by decide +kernel
theorem dX7_copy_145 : decode cX7_copy 145 = .ok (.iadd, 1) := by decide +kernel
theorem dX7_copy_146 : decode cX7_copy 146 = .ok (.iaload, 1) := by decide +kernel
theorem dX7_copy_147 : decode cX7_copy 147 = .ok (.iastore, 1) := by decide +kernel
theorem dX7_copy_148 : decode cX7_copy 148 = .ok (.iinc 6 1, 3) := by decide +kernel
theorem dX7_copy_151 : decode cX7_copy 151 = .ok (.goto (-31), 3) := by decide +kernel
theorem dX7_copy_154 : decode cX7_copy 154 = .ok (.iconst 0, 1) := by decide +kernel
theorem dX7_copy_155 : decode cX7_copy 155 = .ok (.istore 6, 2) := by decide +kernel
theorem dX7_copy_157 : decode cX7_copy 157 = .ok (.iload 6, 2) := by decide +kernel
theorem dX7_copy_159 : decode cX7_copy 159 = .ok (.iload 5, 2) := by decide +kernel
theorem dX7_copy_161 : decode cX7_copy 161 = .ok (.if_icmp .ge 31, 3) := by decide +kernel
theorem dX7_copy_164 : decode cX7_copy 164 = .ok (.aload_n 0, 1) := by decide +kernel
theorem dX7_copy_165 : decode cX7_copy 165 = .ok (.getfield 69, 3) := by decide +kernel
theorem dX7_copy_168 : decode cX7_copy 168 = .ok (.bipush 60, 2) := by decide +kernel
theorem dX7_copy_170 : decode cX7_copy 170 = .ok (.iload_n 3, 1) := by decide +kernel
theorem dX7_copy_171 : decode cX7_copy 171 = .ok (.imul, 1) := by decide +kernel
theorem dX7_copy_172 : decode cX7_copy 172 = .ok (.iload 4, 2) := by decide +kernel
theorem dX7_copy_174 : decode cX7_copy 174 = .ok (.iadd, 1) := by decide +kernel
theorem dX7_copy_175 : decode cX7_copy 175 = .ok (.iload 6, 2) := by decide +kernel
theorem dX7_copy_177 : decode cX7_copy 177 = .ok (.iadd, 1) := by decide +kernel
theorem dX7_copy_178 : decode cX7_copy 178 = .ok (.aload_n 0, 1) := by decide +kernel
theorem dX7_copy_179 : decode cX7_copy 179 = .ok (.getfield 72, 3) := by decide +kernel
theorem dX7_copy_182 : decode cX7_copy 182 = .ok (.iload 6, 2) := by decide +kernel
theorem dX7_copy_184 : decode cX7_copy 184 = .ok (.iaload, 1) := by decide +kernel
theorem dX7_copy_185 : decode cX7_copy 185 = .ok (.iastore, 1) := by decide +kernel
theorem dX7_copy_186 : decode cX7_copy 186 = .ok (.iinc 6 1, 3) := by decide +kernel
theorem dX7_copy_189 : decode cX7_copy 189 = .ok (.goto (-32), 3) := by decide +kernel
theorem dX7_copy_192 : decode cX7_copy 192 = .ok (.iconst 1, 1) := by decide +kernel
theorem dX7_copy_193 : decode cX7_copy 193 = .ok (.ireturn, 1) := by decide +kernel
theorem dX7_write_0 : decode cX7_write 0 = .ok (.iload_n 1, 1) := by decide +kernel
theorem dX7_write_1 : decode cX7_write 1 = .ok (.invokestatic 82, 3) := by decide +kernel
theorem dX7_write_4 : decode cX7_write 4 = .ok (.ifCond .eq 32, 3) := by decide +kernel
theorem dX7_write_7 : decode cX7_write 7 = .ok (.aload_n 0, 1) := by decide +kernel
theorem dX7_write_8 : decode cX7_write 8 = .ok (.iload_n 2, 1) := by decide +kernel
theorem dX7_write_9 : decode cX7_write 9 = .ok (.invokevirtual 93, 3) := by decide +kernel
theorem dX7_write_12 : decode cX7_write 12 = .ok (.ifCond .eq 24, 3) := by decide +kernel
theorem dX7_write_15 : decode cX7_write 15 = .ok (.iload_n 3, 1) := by decide +kernel
theorem dX7_write_16 : decode cX7_write 16 = .ok (.iconst 1, 1) := by decide +kernel
theorem dX7_write_17 : decode cX7_write 17 = .ok (.bipush 99, 2) := by decide +kernel
theorem dX7_write_19 : decode cX7_write 19 = .ok (.invokestatic 75, 3) := by decide +kernel
theorem dX7_write_22 : decode cX7_write 22 = .ok (.ifCond .eq 14, 3) := by decide +kernel
theorem dX7_write_25 : decode cX7_write 25 = .ok (.iload 4, 2) := by decide +kernel
theorem dX7_write_27 : decode cX7_write 27 = .ok (.iconst 1, 1) := by decide +kernel
theorem dX7_write_28 : decode cX7_write 28 = .ok (.bipush 20, 2) := by decide +kernel
theorem dX7_write_30 : decode cX7_write 30 = .ok (.invokestatic 75, 3) := by decide +kernel
theorem dX7_write_33 : decode cX7_write 33 = .ok (.ifCond .ne 6, 3) := by decide +kernel
theorem dX7_write_36 : decode cX7_write 36 = .ok (.bipush (-2), 2) := by decide +kernel
theorem dX7_write_38 : decode cX7_write 38 = .ok (.ireturn, 1) := by decide +kernel
theorem dX7_write_39 : decode cX7_write 39 = .ok (.aload_n 0, 1) := by decide +kernel
theorem dX7_write_40 : decode cX7_write 40 = .ok (.getfield 60, 3) := by decide +kernel
theorem dX7_write_43 : decode cX7_write 43 = .ok (.iload_n 1, 1) := by decide +kernel
theorem dX7_write_44 : decode cX7_write 44 = .ok (.baload, 1) := by decide +kernel
theorem dX7_write_45 : decode cX7_write 45 = .ok (.ifCond .ne 9, 3) := by decide +kernel
theorem dX7_write_48 : decode cX7_write 48 = .ok (.aload_n 0, 1) := by decide +kernel
theorem dX7_write_49 : decode cX7_write 49 = .ok (.iconst 1, 1) := by decide +kernel
theorem dX7_write_50 : decode cX7_write 50 = .ok (.invokevirtual 86, 3) := by decide +kernel
theorem dX7_write_53 : decode cX7_write 53 = .ok (.ireturn, 1) := by decide +kernel
theorem dX7_write_54 : decode cX7_write 54 = .ok (.iconst 0, 1) := by decide +kernel
theorem dX7_write_55 : decode cX7_write 55 = .ok (.istore 5, 2) := by decide +kernel
theorem dX7_write_57 : decode cX7_write 57 = .ok (.iload 5, 2) := by decide +kernel
theorem dX7_write_59 : decode cX7_write 59 = .ok (.aload_n 0, 1) := by decide +kernel
theorem dX7_write_60 : decode cX7_write 60 = .ok (.getfield 66, 3) := by decide +kernel
theorem dX7_write_63 : decode cX7_write 63 = .ok (.iload_n 1, 1) := by decide +kernel
theorem dX7_write_64 : decode cX7_write 64 = .ok (.iaload, 1) := by decide +kernel
theorem dX7_write_65 : decode cX7_write 65 = .ok (.if_icmp .ge 46, 3) := by decide +kernel
theorem dX7_write_68 : decode cX7_write 68 = .ok (.iload_n 3, 1) := by decide +kernel
theorem dX7_write_69 : decode cX7_write 69 = .ok (.iload 5, 2) := by decide +kernel
theorem dX7_write_71 : decode cX7_write 71 = .ok (.iload 4, 2) := by decide +kernel
theorem dX7_write_73 : decode cX7_write 73 = .ok (.imul, 1) := by decide +kernel
theorem dX7_write_74 : decode cX7_write 74 = .ok (.iadd, 1) := by decide +kernel
theorem dX7_write_75 : decode cX7_write 75 = .ok (.sipush 400, 3) := by decide +kernel
theorem dX7_write_78 : decode cX7_write 78 = .ok (.if_icmp .gt 33, 3) := by decide +kernel
theorem dX7_write_81 : decode cX7_write 81 = .ok (.aload_n 0, 1) := by decide +kernel
theorem dX7_write_82 : decode cX7_write 82 = .ok (.iload_n 1, 1) := by decide +kernel
theorem dX7_write_83 : decode cX7_write 83 = .ok (.iload 5, 2) := by decide +kernel
theorem dX7_write_85 : decode cX7_write 85 = .ok (.aload_n 0, 1) := by decide +kernel
theorem dX7_write_86 : decode cX7_write 86 = .ok (.iload_n 2, 1) := by decide +kernel
theorem dX7_write_87 : decode cX7_write 87 = .ok (.aload_n 0, 1) := by decide +kernel
theorem dX7_write_88 : decode cX7_write 88 = .ok (.iload_n 2, 1) := by decide +kernel
theorem dX7_write_89 : decode cX7_write 89 = .ok (.iload_n 3, 1) := by decide +kernel
theorem dX7_write_90 : decode cX7_write 90 = .ok (.iload 5, 2) := by decide +kernel
theorem dX7_write_92 : decode cX7_write 92 = .ok (.iload 4, 2) := by decide +kernel
theorem dX7_write_94 : decode cX7_write 94 = .ok (.imul, 1) := by decide +kernel
theorem dX7_write_95 : decode cX7_write 95 = .ok (.iadd, 1) := by decide +kernel
theorem dX7_write_96 : decode cX7_write 96 = .ok (.invokevirtual 115, 3) := by decide +kernel
theorem dX7_write_99 : decode cX7_write 99 = .ok (.invokevirtual 106, 3) := by decide +kernel
theorem dX7_write_102 : decode cX7_write 102 = .ok (.invokevirtual 255, 3) := by decide +kernel
theorem dX7_write_105 : decode cX7_write 105 = .ok (.iinc 5 1, 3) := by decide +kernel
theorem dX7_write_108 : decode cX7_write 108 = .ok (.goto (-51), 3) := by decide +kernel
theorem dX7_write_111 : decode cX7_write 111 = .ok (.iload 5, 2) := by decide +kernel
theorem dX7_write_113 : decode cX7_write 113 = .ok (.ireturn, 1) := by decide +kernel
theorem dX7_count_0 : decode cX7_count 0 = .ok (.iconst 0, 1) := by decide +kernel
theorem dX7_count_1 : decode cX7_count 1 = .ok (.istore_n 2, 1) := by decide +kernel
theorem dX7_count_2 : decode cX7_count 2 = .ok (.iload_n 1, 1) := by decide +kernel
theorem dX7_count_3 : decode cX7_count 3 = .ok (.tableswitch 162 0 8 #[49, 54, 59, 64, 69, 74, 79, 125, 157], 49) := by decide +kernel
theorem dX7_count_52 : decode cX7_count 52 = .ok (.aload_n 0, 1) := by decide +kernel
theorem dX7_count_53 : decode cX7_count 53 = .ok (.getfield 79, 3) := by decide +kernel
theorem dX7_count_56 : decode cX7_count 56 = .ok (.ireturn, 1) := by decide +kernel
theorem dX7_count_57 : decode cX7_count 57 = .ok (.aload_n 0, 1) := by decide +kernel
theorem dX7_count_58 : decode cX7_count 58 = .ok (.getfield 126, 3) := by decide +kernel
theorem dX7_count_61 : decode cX7_count 61 = .ok (.ireturn, 1) := by decide +kernel
theorem dX7_count_62 : decode cX7_count 62 = .ok (.aload_n 0, 1) := by decide +kernel
theorem dX7_count_63 : decode cX7_count 63 = .ok (.getfield 23, 3) := by decide +kernel
theorem dX7_count_66 : decode cX7_count 66 = .ok (.ireturn, 1) := by decide +kernel
theorem dX7_count_67 : decode cX7_count 67 = .ok (.aload_n 0, 1) := by decide +kernel
theorem dX7_count_68 : decode cX7_count 68 = .ok (.getfield 157, 3) := by decide +kernel
theorem dX7_count_71 : decode cX7_count 71 = .ok (.ireturn, 1) := by decide +kernel
theorem dX7_count_72 : decode cX7_count 72 = .ok (.aload_n 0, 1) := by decide +kernel
theorem dX7_count_73 : decode cX7_count 73 = .ok (.getfield 180, 3) := by decide +kernel
theorem dX7_count_76 : decode cX7_count 76 = .ok (.ireturn, 1) := by decide +kernel
theorem dX7_count_77 : decode cX7_count 77 = .ok (.aload_n 0, 1) := by decide +kernel
theorem dX7_count_78 : decode cX7_count 78 = .ok (.getfield 224, 3) := by decide +kernel
theorem dX7_count_81 : decode cX7_count 81 = .ok (.ireturn, 1) := by decide +kernel
theorem dX7_count_82 : decode cX7_count 82 = .ok (.iconst 0, 1) := by decide +kernel
theorem dX7_count_83 : decode cX7_count 83 = .ok (.istore_n 3, 1) := by decide +kernel
theorem dX7_count_84 : decode cX7_count 84 = .ok (.iload_n 3, 1) := by decide +kernel
theorem dX7_count_85 : decode cX7_count 85 = .ok (.aload_n 0, 1) := by decide +kernel
theorem dX7_count_86 : decode cX7_count 86 = .ok (.getfield 157, 3) := by decide +kernel
theorem dX7_count_89 : decode cX7_count 89 = .ok (.if_icmp .ge 37, 3) := by decide +kernel
theorem dX7_count_92 : decode cX7_count 92 = .ok (.iconst 0, 1) := by decide +kernel
theorem dX7_count_93 : decode cX7_count 93 = .ok (.istore 4, 2) := by decide +kernel
theorem dX7_count_95 : decode cX7_count 95 = .ok (.iload 4, 2) := by decide +kernel
theorem dX7_count_97 : decode cX7_count 97 = .ok (.aload_n 0, 1) := by decide +kernel
theorem dX7_count_98 : decode cX7_count 98 = .ok (.getfield 157, 3) := by decide +kernel
theorem dX7_count_101 : decode cX7_count 101 = .ok (.if_icmp .ge 19, 3) := by decide +kernel
theorem dX7_count_104 : decode cX7_count 104 = .ok (.iload_n 2, 1) := by decide +kernel
theorem dX7_count_105 : decode cX7_count 105 = .ok (.aload_n 0, 1) := by decide +kernel
theorem dX7_count_106 : decode cX7_count 106 = .ok (.iload_n 3, 1) := by decide +kernel
theorem dX7_count_107 : decode cX7_count 107 = .ok (.iload 4, 2) := by decide +kernel
theorem dX7_count_109 : decode cX7_count 109 = .ok (.invokevirtual 167, 3) := by decide +kernel
theorem dX7_count_112 : decode cX7_count 112 = .ok (.iadd, 1) := by decide +kernel
theorem dX7_count_113 : decode cX7_count 113 = .ok (.istore_n 2, 1) := by decide +kernel
theorem dX7_count_114 : decode cX7_count 114 = .ok (.iinc 4 1, 3) := by decide +kernel
theorem dX7_count_117 : decode cX7_count 117 = .ok (.goto (-22), 3) := by decide +kernel
theorem dX7_count_120 : decode cX7_count 120 = .ok (.iinc 3 1, 3) := by decide +kernel
theorem dX7_count_123 : decode cX7_count 123 = .ok (.goto (-39), 3) := by decide +kernel
theorem dX7_count_126 : decode cX7_count 126 = .ok (.iload_n 2, 1) := by decide +kernel
theorem dX7_count_127 : decode cX7_count 127 = .ok (.ireturn, 1) := by decide +kernel
theorem dX7_count_128 : decode cX7_count 128 = .ok (.iconst 0, 1) := by decide +kernel
theorem dX7_count_129 : decode cX7_count 129 = .ok (.istore_n 3, 1) := by decide +kernel
theorem dX7_count_130 : decode cX7_count 130 = .ok (.iload_n 3, 1) := by decide +kernel
theorem dX7_count_131 : decode cX7_count 131 = .ok (.iconst 4, 1) := by decide +kernel
theorem dX7_count_132 : decode cX7_count 132 = .ok (.if_icmp .ge 26, 3) := by decide +kernel
theorem dX7_count_135 : decode cX7_count 135 = .ok (.iload_n 2, 1) := by decide +kernel
theorem dX7_count_136 : decode cX7_count 136 = .ok (.aload_n 0, 1) := by decide +kernel
theorem dX7_count_137 : decode cX7_count 137 = .ok (.getfield 60, 3) := by decide +kernel
theorem dX7_count_140 : decode cX7_count 140 = .ok (.iload_n 3, 1) := by decide +kernel
theorem dX7_count_141 : decode cX7_count 141 = .ok (.baload, 1) := by decide +kernel
theorem dX7_count_142 : decode cX7_count 142 = .ok (.ifCond .eq 7, 3) := by decide +kernel
theorem dX7_count_145 : decode cX7_count 145 = .ok (.iconst 1, 1) := by decide +kernel
theorem dX7_count_146 : decode cX7_count 146 = .ok (.goto 4, 3) := by decide +kernel
theorem dX7_count_149 : decode cX7_count 149 = .ok (.iconst 0, 1) := by decide +kernel
theorem dX7_count_150 : decode cX7_count 150 = .ok (.iadd, 1) := by decide +kernel
theorem dX7_count_151 : decode cX7_count 151 = .ok (.istore_n 2, 1) := by decide +kernel
theorem dX7_count_152 : decode cX7_count 152 = .ok (.iinc 3 1, 3) := by decide +kernel
theorem dX7_count_155 : decode cX7_count 155 = .ok (.goto (-25), 3) := by decide +kernel
theorem dX7_count_158 : decode cX7_count 158 = .ok (.iload_n 2, 1) := by decide +kernel
theorem dX7_count_159 : decode cX7_count 159 = .ok (.ireturn, 1) := by decide +kernel
theorem dX7_count_160 : decode cX7_count 160 = .ok (.aload_n 0, 1) := by decide +kernel
theorem dX7_count_161 : decode cX7_count 161 = .ok (.getfield 249, 3) := by decide +kernel
theorem dX7_count_164 : decode cX7_count 164 = .ok (.ireturn, 1) := by decide +kernel
theorem dX7_count_165 : decode cX7_count 165 = .ok (.bipush (-2), 2) := by decide +kernel
theorem dX7_count_167 : decode cX7_count 167 = .ok (.ireturn, 1) := by decide +kernel
theorem dX7_digest_0 : decode cX7_digest 0 = .ok (.ldc2_w 259, 3) := by decide +kernel
theorem dX7_digest_3 : decode cX7_digest 3 = .ok (.lstore_n 1, 1) := by decide +kernel
theorem dX7_digest_4 : decode cX7_digest 4 = .ok (.iconst 0, 1) := by decide +kernel
theorem dX7_digest_5 : decode cX7_digest 5 = .ok (.istore_n 3, 1) := by decide +kernel
theorem dX7_digest_6 : decode cX7_digest 6 = .ok (.iload_n 3, 1) := by decide +kernel
theorem dX7_digest_7 : decode cX7_digest 7 = .ok (.bipush 8, 2) := by decide +kernel
theorem dX7_digest_9 : decode cX7_digest 9 = .ok (.if_icmp .ge 22, 3) := by decide +kernel
theorem dX7_digest_12 : decode cX7_digest 12 = .ok (.ldc2_w 261, 3) := by decide +kernel
theorem dX7_digest_15 : decode cX7_digest 15 = .ok (.lload_n 1, 1) := by decide +kernel
theorem dX7_digest_16 : decode cX7_digest 16 = .ok (.lmul, 1) := by decide +kernel
theorem dX7_digest_17 : decode cX7_digest 17 = .ok (.aload_n 0, 1) := by decide +kernel
theorem dX7_digest_18 : decode cX7_digest 18 = .ok (.iload_n 3, 1) := by decide +kernel
theorem dX7_digest_19 : decode cX7_digest 19 = .ok (.invokevirtual 263, 3) := by decide +kernel
theorem dX7_digest_22 : decode cX7_digest 22 = .ok (.i2l, 1) := by decide +kernel
theorem dX7_digest_23 : decode cX7_digest 23 = .ok (.ladd, 1) := by decide +kernel
theorem dX7_digest_24 : decode cX7_digest 24 = .ok (.lstore_n 1, 1) := by decide +kernel
theorem dX7_digest_25 : decode cX7_digest 25 = .ok (.iinc 3 1, 3) := by decide +kernel
theorem dX7_digest_28 : decode cX7_digest 28 = .ok (.goto (-22), 3) := by decide +kernel
theorem dX7_digest_31 : decode cX7_digest 31 = .ok (.iconst 0, 1) := by decide +kernel
theorem dX7_digest_32 : decode cX7_digest 32 = .ok (.istore_n 3, 1) := by decide +kernel
theorem dX7_digest_33 : decode cX7_digest 33 = .ok (.iload_n 3, 1) := by decide +kernel
theorem dX7_digest_34 : decode cX7_digest 34 = .ok (.aload_n 0, 1) := by decide +kernel
theorem dX7_digest_35 : decode cX7_digest 35 = .ok (.getfield 79, 3) := by decide +kernel
theorem dX7_digest_38 : decode cX7_digest 38 = .ok (.if_icmp .ge 73, 3) := by decide +kernel
theorem dX7_digest_41 : decode cX7_digest 41 = .ok (.iconst 0, 1) := by decide +kernel
theorem dX7_digest_42 : decode cX7_digest 42 = .ok (.istore 4, 2) := by decide +kernel
theorem dX7_digest_44 : decode cX7_digest 44 = .ok (.iload 4, 2) := by decide +kernel
theorem dX7_digest_46 : decode cX7_digest 46 = .ok (.iconst 4, 1) := by decide +kernel
theorem dX7_digest_47 : decode cX7_digest 47 = .ok (.if_icmp .ge 24, 3) := by decide +kernel
theorem dX7_digest_50 : decode cX7_digest 50 = .ok (.ldc2_w 261, 3) := by decide +kernel
theorem dX7_digest_53 : decode cX7_digest 53 = .ok (.lload_n 1, 1) := by decide +kernel
theorem dX7_digest_54 : decode cX7_digest 54 = .ok (.lmul, 1) := by decide +kernel
theorem dX7_digest_55 : decode cX7_digest 55 = .ok (.aload_n 0, 1) := by decide +kernel
theorem dX7_digest_56 : decode cX7_digest 56 = .ok (.iload_n 3, 1) := by decide +kernel
theorem dX7_digest_57 : decode cX7_digest 57 = .ok (.iload 4, 2) := by decide +kernel
theorem dX7_digest_59 : decode cX7_digest 59 = .ok (.invokevirtual 99, 3) := by decide +kernel
theorem dX7_digest_62 : decode cX7_digest 62 = .ok (.i2l, 1) := by decide +kernel
theorem dX7_digest_63 : decode cX7_digest 63 = .ok (.ladd, 1) := by decide +kernel
theorem dX7_digest_64 : decode cX7_digest 64 = .ok (.lstore_n 1, 1) := by decide +kernel
theorem dX7_digest_65 : decode cX7_digest 65 = .ok (.iinc 4 1, 3) := by decide +kernel
theorem dX7_digest_68 : decode cX7_digest 68 = .ok (.goto (-24), 3) := by decide +kernel
theorem dX7_digest_71 : decode cX7_digest 71 = .ok (.iconst 1, 1) := by decide +kernel
theorem dX7_digest_72 : decode cX7_digest 72 = .ok (.istore 4, 2) := by decide +kernel
theorem dX7_digest_74 : decode cX7_digest 74 = .ok (.iload 4, 2) := by decide +kernel
theorem dX7_digest_76 : decode cX7_digest 76 = .ok (.aload_n 0, 1) := by decide +kernel
theorem dX7_digest_77 : decode cX7_digest 77 = .ok (.iload_n 3, 1) := by decide +kernel
theorem dX7_digest_78 : decode cX7_digest 78 = .ok (.invokevirtual 96, 3) := by decide +kernel
theorem dX7_digest_81 : decode cX7_digest 81 = .ok (.if_icmp .gt 24, 3) := by decide +kernel
theorem dX7_digest_84 : decode cX7_digest 84 = .ok (.ldc2_w 261, 3) := by decide +kernel
theorem dX7_digest_87 : decode cX7_digest 87 = .ok (.lload_n 1, 1) := by decide +kernel
theorem dX7_digest_88 : decode cX7_digest 88 = .ok (.lmul, 1) := by decide +kernel
theorem dX7_digest_89 : decode cX7_digest 89 = .ok (.aload_n 0, 1) := by decide +kernel
theorem dX7_digest_90 : decode cX7_digest 90 = .ok (.iload_n 3, 1) := by decide +kernel
theorem dX7_digest_91 : decode cX7_digest 91 = .ok (.iload 4, 2) := by decide +kernel
theorem dX7_digest_93 : decode cX7_digest 93 = .ok (.invokevirtual 106, 3) := by decide +kernel
theorem dX7_digest_96 : decode cX7_digest 96 = .ok (.i2l, 1) := by decide +kernel
theorem dX7_digest_97 : decode cX7_digest 97 = .ok (.ladd, 1) := by decide +kernel
theorem dX7_digest_98 : decode cX7_digest 98 = .ok (.lstore_n 1, 1) := by decide +kernel
theorem dX7_digest_99 : decode cX7_digest 99 = .ok (.iinc 4 1, 3) := by decide +kernel
theorem dX7_digest_102 : decode cX7_digest 102 = .ok (.goto (-28), 3) := by decide +kernel
theorem dX7_digest_105 : decode cX7_digest 105 = .ok (.iinc 3 1, 3) := by decide +kernel
theorem dX7_digest_108 : decode cX7_digest 108 = .ok (.goto (-75), 3) := by decide +kernel
theorem dX7_digest_111 : decode cX7_digest 111 = .ok (.ldc2_w 261, 3) := by decide +kernel
theorem dX7_digest_114 : decode cX7_digest 114 = .ok (.lload_n 1, 1) := by decide +kernel
theorem dX7_digest_115 : decode cX7_digest 115 = .ok (.lmul, 1) := by decide +kernel
theorem dX7_digest_116 : decode cX7_digest 116 = .ok (.aload_n 0, 1) := by decide +kernel
theorem dX7_digest_117 : decode cX7_digest 117 = .ok (.invokevirtual 147, 3) := by decide +kernel
theorem dX7_digest_120 : decode cX7_digest 120 = .ok (.i2l, 1) := by decide +kernel
theorem dX7_digest_121 : decode cX7_digest 121 = .ok (.ladd, 1) := by decide +kernel
theorem dX7_digest_122 : decode cX7_digest 122 = .ok (.lstore_n 1, 1) := by decide +kernel
theorem dX7_digest_123 : decode cX7_digest 123 = .ok (.iconst 0, 1) := by decide +kernel
theorem dX7_digest_124 : decode cX7_digest 124 = .ok (.istore_n 3, 1) := by decide +kernel
theorem dX7_digest_125 : decode cX7_digest 125 = .ok (.iload_n 3, 1) := by decide +kernel
theorem dX7_digest_126 : decode cX7_digest 126 = .ok (.aload_n 0, 1) := by decide +kernel
theorem dX7_digest_127 : decode cX7_digest 127 = .ok (.getfield 157, 3) := by decide +kernel
theorem dX7_digest_130 : decode cX7_digest 130 = .ok (.if_icmp .ge 42, 3) := by decide +kernel
theorem dX7_digest_133 : decode cX7_digest 133 = .ok (.iconst 0, 1) := by decide +kernel
theorem dX7_digest_134 : decode cX7_digest 134 = .ok (.istore 4, 2) := by decide +kernel
theorem dX7_digest_136 : decode cX7_digest 136 = .ok (.iload 4, 2) := by decide +kernel
theorem dX7_digest_138 : decode cX7_digest 138 = .ok (.aload_n 0, 1) := by decide +kernel
theorem dX7_digest_139 : decode cX7_digest 139 = .ok (.getfield 157, 3) := by decide +kernel
theorem dX7_digest_142 : decode cX7_digest 142 = .ok (.if_icmp .ge 24, 3) := by decide +kernel
theorem dX7_digest_145 : decode cX7_digest 145 = .ok (.ldc2_w 261, 3) := by decide +kernel
theorem dX7_digest_148 : decode cX7_digest 148 = .ok (.lload_n 1, 1) := by decide +kernel
theorem dX7_digest_149 : decode cX7_digest 149 = .ok (.lmul, 1) := by decide +kernel
theorem dX7_digest_150 : decode cX7_digest 150 = .ok (.aload_n 0, 1) := by decide +kernel
theorem dX7_digest_151 : decode cX7_digest 151 = .ok (.iload_n 3, 1) := by decide +kernel
theorem dX7_digest_152 : decode cX7_digest 152 = .ok (.iload 4, 2) := by decide +kernel
theorem dX7_digest_154 : decode cX7_digest 154 = .ok (.invokevirtual 167, 3) := by decide +kernel
theorem dX7_digest_157 : decode cX7_digest 157 = .ok (.i2l, 1) := by decide +kernel
theorem dX7_digest_158 : decode cX7_digest 158 = .ok (.ladd, 1) := by decide +kernel
theorem dX7_digest_159 : decode cX7_digest 159 = .ok (.lstore_n 1, 1) := by decide +kernel
theorem dX7_digest_160 : decode cX7_digest 160 = .ok (.iinc 4 1, 3) := by decide +kernel
theorem dX7_digest_163 : decode cX7_digest 163 = .ok (.goto (-27), 3) := by decide +kernel
theorem dX7_digest_166 : decode cX7_digest 166 = .ok (.iinc 3 1, 3) := by decide +kernel
theorem dX7_digest_169 : decode cX7_digest 169 = .ok (.goto (-44), 3) := by decide +kernel
theorem dX7_digest_172 : decode cX7_digest 172 = .ok (.iconst 0, 1) := by decide +kernel
theorem dX7_digest_173 : decode cX7_digest 173 = .ok (.istore_n 3, 1) := by decide +kernel
theorem dX7_digest_174 : decode cX7_digest 174 = .ok (.iload_n 3, 1) := by decide +kernel
theorem dX7_digest_175 : decode cX7_digest 175 = .ok (.aload_n 0, 1) := by decide +kernel
theorem dX7_digest_176 : decode cX7_digest 176 = .ok (.getfield 180, 3) := by decide +kernel
theorem dX7_digest_179 : decode cX7_digest 179 = .ok (.if_icmp .ge 52, 3) := by decide +kernel
theorem dX7_digest_182 : decode cX7_digest 182 = .ok (.iconst 0, 1) := by decide +kernel
theorem dX7_digest_183 : decode cX7_digest 183 = .ok (.istore 4, 2) := by decide +kernel
theorem dX7_digest_185 : decode cX7_digest 185 = .ok (.iload 4, 2) := by decide +kernel
theorem dX7_digest_187 : decode cX7_digest 187 = .ok (.iconst 5, 1) := by decide +kernel
theorem dX7_digest_188 : decode cX7_digest 188 = .ok (.if_icmp .ge 24, 3) := by decide +kernel
theorem dX7_digest_191 : decode cX7_digest 191 = .ok (.ldc2_w 261, 3) := by decide +kernel
theorem dX7_digest_194 : decode cX7_digest 194 = .ok (.lload_n 1, 1) := by decide +kernel
theorem dX7_digest_195 : decode cX7_digest 195 = .ok (.lmul, 1) := by decide +kernel
theorem dX7_digest_196 : decode cX7_digest 196 = .ok (.aload_n 0, 1) := by decide +kernel
theorem dX7_digest_197 : decode cX7_digest 197 = .ok (.iload_n 3, 1) := by decide +kernel
theorem dX7_digest_198 : decode cX7_digest 198 = .ok (.iload 4, 2) := by decide +kernel
theorem dX7_digest_200 : decode cX7_digest 200 = .ok (.invokevirtual 189, 3) := by decide +kernel
theorem dX7_digest_203 : decode cX7_digest 203 = .ok (.i2l, 1) := by decide +kernel
theorem dX7_digest_204 : decode cX7_digest 204 = .ok (.ladd, 1) := by decide +kernel
theorem dX7_digest_205 : decode cX7_digest 205 = .ok (.lstore_n 1, 1) := by decide +kernel
theorem dX7_digest_206 : decode cX7_digest 206 = .ok (.iinc 4 1, 3) := by decide +kernel
theorem dX7_digest_209 : decode cX7_digest 209 = .ok (.goto (-24), 3) := by decide +kernel
theorem dX7_digest_212 : decode cX7_digest 212 = .ok (.ldc2_w 261, 3) := by decide +kernel
theorem dX7_digest_215 : decode cX7_digest 215 = .ok (.lload_n 1, 1) := by decide +kernel
theorem dX7_digest_216 : decode cX7_digest 216 = .ok (.lmul, 1) := by decide +kernel
theorem dX7_digest_217 : decode cX7_digest 217 = .ok (.aload_n 0, 1) := by decide +kernel
theorem dX7_digest_218 : decode cX7_digest 218 = .ok (.iload_n 3, 1) := by decide +kernel
theorem dX7_digest_219 : decode cX7_digest 219 = .ok (.invokevirtual 195, 3) := by decide +kernel
theorem dX7_digest_222 : decode cX7_digest 222 = .ok (.i2l, 1) := by decide +kernel
theorem dX7_digest_223 : decode cX7_digest 223 = .ok (.ladd, 1) := by decide +kernel
theorem dX7_digest_224 : decode cX7_digest 224 = .ok (.lstore_n 1, 1) := by decide +kernel
theorem dX7_digest_225 : decode cX7_digest 225 = .ok (.iinc 3 1, 3) := by decide +kernel
theorem dX7_digest_228 : decode cX7_digest 228 = .ok (.goto (-54), 3) := by decide +kernel
theorem dX7_digest_231 : decode cX7_digest 231 = .ok (.lload_n 1, 1) := by decide +kernel
theorem dX7_digest_232 : decode cX7_digest 232 = .ok (.lreturn, 1) := by decide +kernel
end
section
theorem dL_law_0 : decode cL_law 0 = .ok (.new 7, 3) := by decide +kernel
theorem dL_law_3 : decode cL_law 3 = .ok (.dup, 1) := by decide +kernel
theorem dL_law_4 : decode cL_law 4 = .ok (.invokespecial 9, 3) := by decide +kernel
theorem dL_law_7 : decode cL_law 7 = .ok (.astore_n 1, 1) := by decide +kernel
theorem dL_law_8 : decode cL_law 8 = .ok (.new 10, 3) := by decide +kernel
theorem dL_law_11 : decode cL_law 11 = .ok (.dup, 1) := by decide +kernel
theorem dL_law_12 : decode cL_law 12 = .ok (.invokespecial 12, 3) := by decide +kernel
theorem dL_law_15 : decode cL_law 15 = .ok (.astore_n 2, 1) := by decide +kernel
theorem dL_law_16 : decode cL_law 16 = .ok (.iconst 0, 1) := by decide +kernel
theorem dL_law_17 : decode cL_law 17 = .ok (.istore_n 3, 1) := by decide +kernel
theorem dL_law_18 : decode cL_law 18 = .ok (.iload_n 3, 1) := by decide +kernel
theorem dL_law_19 : decode cL_law 19 = .ok (.aload_n 0, 1) := by decide +kernel
theorem dL_law_20 : decode cL_law 20 = .ok (.arraylength, 1) := by decide +kernel
theorem dL_law_21 : decode cL_law 21 = .ok (.bipush 6, 2) := by decide +kernel
theorem dL_law_23 : decode cL_law 23 = .ok (.isub, 1) := by decide +kernel
theorem dL_law_24 : decode cL_law 24 = .ok (.if_icmp .gt 1994, 3) := by decide +kernel
theorem dL_law_27 : decode cL_law 27 = .ok (.aload_n 0, 1) := by decide +kernel
theorem dL_law_28 : decode cL_law 28 = .ok (.iload_n 3, 1) := by decide +kernel
theorem dL_law_29 : decode cL_law 29 = .ok (.iaload, 1) := by decide +kernel
theorem dL_law_30 : decode cL_law 30 = .ok (.bipush 63, 2) := by decide +kernel
theorem dL_law_32 : decode cL_law 32 = .ok (.iand, 1) := by decide +kernel
theorem dL_law_33 : decode cL_law 33 = .ok (.tableswitch 1979 0 50 #[219, 278, 311, 344, 387, 430, 473, 536, 599, 622, 685, 728, 761, 804, 817, 830, 863, 886, 899, 942, 985, 1018, 1041, 1084, 1117, 1150, 1163, 1186, 1229, 1262, 1295, 1328, 1351, 1374, 1397, 1420, 1453, 1486, 1529, 1592, 1615, 1628, 1641, 1664, 1707, 1730, 1783, 1826, 1889, 1942, 1965], 219) := by decide +kernel
theorem dL_law_252 : decode cL_law 252 = .ok (.aload_n 1, 1) := by decide +kernel
theorem dL_law_253 : decode cL_law 253 = .ok (.aload_n 0, 1) := by decide +kernel
theorem dL_law_254 : decode cL_law 254 = .ok (.iload_n 3, 1) := by decide +kernel
theorem dL_law_255 : decode cL_law 255 = .ok (.iconst 1, 1) := by decide +kernel
theorem dL_law_256 : decode cL_law 256 = .ok (.iadd, 1) := by decide +kernel
theorem dL_law_257 : decode cL_law 257 = .ok (.iaload, 1) := by decide +kernel
theorem dL_law_258 : decode cL_law 258 = .ok (.aload_n 0, 1) := by decide +kernel
theorem dL_law_259 : decode cL_law 259 = .ok (.iload_n 3, 1) := by decide +kernel
theorem dL_law_260 : decode cL_law 260 = .ok (.iconst 2, 1) := by decide +kernel
theorem dL_law_261 : decode cL_law 261 = .ok (.iadd, 1) := by decide +kernel
theorem dL_law_262 : decode cL_law 262 = .ok (.iaload, 1) := by decide +kernel
theorem dL_law_263 : decode cL_law 263 = .ok (.aload_n 0, 1) := by decide +kernel
theorem dL_law_264 : decode cL_law 264 = .ok (.iload_n 3, 1) := by decide +kernel
theorem dL_law_265 : decode cL_law 265 = .ok (.iconst 3, 1) := by decide +kernel
theorem dL_law_266 : decode cL_law 266 = .ok (.iadd, 1) := by decide +kernel
theorem dL_law_267 : decode cL_law 267 = .ok (.iaload, 1) := by decide +kernel
theorem dL_law_268 : decode cL_law 268 = .ok (.ifCond .eq 7, 3) := by decide +kernel
theorem dL_law_271 : decode cL_law 271 = .ok (.iconst 1, 1) := by decide +kernel
theorem dL_law_272 : decode cL_law 272 = .ok (.goto 4, 3) := by decide +kernel
theorem dL_law_275 : decode cL_law 275 = .ok (.iconst 0, 1) := by decide +kernel
theorem dL_law_276 : decode cL_law 276 = .ok (.invokevirtual 13, 3) := by decide +kernel
theorem dL_law_279 : decode cL_law 279 = .ok (.aload_n 2, 1) := by decide +kernel
theorem dL_law_280 : decode cL_law 280 = .ok (.aload_n 0, 1) := by decide +kernel
theorem dL_law_281 : decode cL_law 281 = .ok (.iload_n 3, 1) := by decide +kernel
theorem dL_law_282 : decode cL_law 282 = .ok (.iconst 1, 1) := by decide +kernel
theorem dL_law_283 : decode cL_law 283 = .ok (.iadd, 1) := by decide +kernel
theorem dL_law_284 : decode cL_law 284 = .ok (.iaload, 1) := by decide +kernel
theorem dL_law_285 : decode cL_law 285 = .ok (.aload_n 0, 1) := by decide +kernel
theorem dL_law_286 : decode cL_law 286 = .ok (.iload_n 3, 1) := by decide +kernel
theorem dL_law_287 : decode cL_law 287 = .ok (.iconst 2, 1) := by decide +kernel
theorem dL_law_288 : decode cL_law 288 = .ok (.iadd, 1) := by decide +kernel
theorem dL_law_289 : decode cL_law 289 = .ok (.iaload, 1) := by decide +kernel
theorem dL_law_290 : decode cL_law 290 = .ok (.aload_n 0, 1) := by decide +kernel
theorem dL_law_291 : decode cL_law 291 = .ok (.iload_n 3, 1) := by decide +kernel
theorem dL_law_292 : decode cL_law 292 = .ok (.iconst 3, 1) := by decide +kernel
theorem dL_law_293 : decode cL_law 293 = .ok (.iadd, 1) := by decide +kernel
theorem dL_law_294 : decode cL_law 294 = .ok (.iaload, 1) := by decide +kernel
theorem dL_law_295 : decode cL_law 295 = .ok (.ifCond .eq 7, 3) := by decide +kernel
theorem dL_law_298 : decode cL_law 298 = .ok (.iconst 1, 1) := by decide +kernel
theorem dL_law_299 : decode cL_law 299 = .ok (.goto 4, 3) := by decide +kernel
theorem dL_law_302 : decode cL_law 302 = .ok (.iconst 0, 1) := by decide +kernel
theorem dL_law_303 : decode cL_law 303 = .ok (.invokevirtual 17, 3) := by decide +kernel
theorem dL_law_306 : decode cL_law 306 = .ok (.if_icmp .eq 1706, 3) := by decide +kernel
theorem dL_law_309 : decode cL_law 309 = .ok (.iconst 0, 1) := by decide +kernel
theorem dL_law_310 : decode cL_law 310 = .ok (.ireturn, 1) := by decide +kernel
theorem dL_law_311 : decode cL_law 311 = .ok (.aload_n 1, 1) := by decide +kernel
theorem dL_law_312 : decode cL_law 312 = .ok (.aload_n 0, 1) := by decide +kernel
theorem dL_law_313 : decode cL_law 313 = .ok (.iload_n 3, 1) := by decide +kernel
theorem dL_law_314 : decode cL_law 314 = .ok (.iconst 1, 1) := by decide +kernel
theorem dL_law_315 : decode cL_law 315 = .ok (.iadd, 1) := by decide +kernel
theorem dL_law_316 : decode cL_law 316 = .ok (.iaload, 1) := by decide +kernel
theorem dL_law_317 : decode cL_law 317 = .ok (.aload_n 0, 1) := by decide +kernel
theorem dL_law_318 : decode cL_law 318 = .ok (.iload_n 3, 1) := by decide +kernel
theorem dL_law_319 : decode cL_law 319 = .ok (.iconst 2, 1) := by decide +kernel
theorem dL_law_320 : decode cL_law 320 = .ok (.iadd, 1) := by decide +kernel
theorem dL_law_321 : decode cL_law 321 = .ok (.iaload, 1) := by decide +kernel
theorem dL_law_322 : decode cL_law 322 = .ok (.invokevirtual 18, 3) := by decide +kernel
theorem dL_law_325 : decode cL_law 325 = .ok (.aload_n 2, 1) := by decide +kernel
theorem dL_law_326 : decode cL_law 326 = .ok (.aload_n 0, 1) := by decide +kernel
theorem dL_law_327 : decode cL_law 327 = .ok (.iload_n 3, 1) := by decide +kernel
theorem dL_law_328 : decode cL_law 328 = .ok (.iconst 1, 1) := by decide +kernel
theorem dL_law_329 : decode cL_law 329 = .ok (.iadd, 1) := by decide +kernel
theorem dL_law_330 : decode cL_law 330 = .ok (.iaload, 1) := by decide +kernel
theorem dL_law_331 : decode cL_law 331 = .ok (.aload_n 0, 1) := by decide +kernel
theorem dL_law_332 : decode cL_law 332 = .ok (.iload_n 3, 1) := by decide +kernel
theorem dL_law_333 : decode cL_law 333 = .ok (.iconst 2, 1) := by decide +kernel
theorem dL_law_334 : decode cL_law 334 = .ok (.iadd, 1) := by decide +kernel
theorem dL_law_335 : decode cL_law 335 = .ok (.iaload, 1) := by decide +kernel
theorem dL_law_336 : decode cL_law 336 = .ok (.invokevirtual 22, 3) := by decide +kernel
theorem dL_law_339 : decode cL_law 339 = .ok (.if_icmp .eq 1673, 3) := by decide +kernel
theorem dL_law_342 : decode cL_law 342 = .ok (.iconst 0, 1) := by decide +kernel
theorem dL_law_343 : decode cL_law 343 = .ok (.ireturn, 1) := by decide +kernel
theorem dL_law_344 : decode cL_law 344 = .ok (.aload_n 1, 1) := by decide +kernel
theorem dL_law_345 : decode cL_law 345 = .ok (.aload_n 0, 1) := by decide +kernel
theorem dL_law_346 : decode cL_law 346 = .ok (.iload_n 3, 1) := by decide +kernel
theorem dL_law_347 : decode cL_law 347 = .ok (.iconst 1, 1) := by decide +kernel
theorem dL_law_348 : decode cL_law 348 = .ok (.iadd, 1) := by decide +kernel
theorem dL_law_349 : decode cL_law 349 = .ok (.iaload, 1) := by decide +kernel
theorem dL_law_350 : decode cL_law 350 = .ok (.aload_n 0, 1) := by decide +kernel
theorem dL_law_351 : decode cL_law 351 = .ok (.iload_n 3, 1) := by decide +kernel
theorem dL_law_352 : decode cL_law 352 = .ok (.iconst 2, 1) := by decide +kernel
theorem dL_law_353 : decode cL_law 353 = .ok (.iadd, 1) := by decide +kernel
theorem dL_law_354 : decode cL_law 354 = .ok (.iaload, 1) := by decide +kernel
theorem dL_law_355 : decode cL_law 355 = .ok (.invokevirtual 23, 3) := by decide +kernel
theorem dL_law_358 : decode cL_law 358 = .ok (.aload_n 2, 1) := by decide +kernel
theorem dL_law_359 : decode cL_law 359 = .ok (.aload_n 0, 1) := by decide +kernel
theorem dL_law_360 : decode cL_law 360 = .ok (.iload_n 3, 1) := by decide +kernel
theorem dL_law_361 : decode cL_law 361 = .ok (.iconst 1, 1) := by decide +kernel
theorem dL_law_362 : decode cL_law 362 = .ok (.iadd, 1) := by decide +kernel
theorem dL_law_363 : decode cL_law 363 = .ok (.iaload, 1) := by decide +kernel
theorem dL_law_364 : decode cL_law 364 = .ok (.aload_n 0, 1) := by decide +kernel
theorem dL_law_365 : decode cL_law 365 = .ok (.iload_n 3, 1) := by decide +kernel
theorem dL_law_366 : decode cL_law 366 = .ok (.iconst 2, 1) := by decide +kernel
theorem dL_law_367 : decode cL_law 367 = .ok (.iadd, 1) := by decide +kernel
theorem dL_law_368 : decode cL_law 368 = .ok (.iaload, 1) := by decide +kernel
theorem dL_law_369 : decode cL_law 369 = .ok (.invokevirtual 26, 3) := by decide +kernel
theorem dL_law_372 : decode cL_law 372 = .ok (.if_icmp .eq 1640, 3) := by decide +kernel
theorem dL_law_375 : decode cL_law 375 = .ok (.iconst 0, 1) := by decide +kernel
theorem dL_law_376 : decode cL_law 376 = .ok (.ireturn, 1) := by decide +kernel
theorem dL_law_377 : decode cL_law 377 = .ok (.aload_n 1, 1) := by decide +kernel
theorem dL_law_378 : decode cL_law 378 = .ok (.aload_n 0, 1) := by decide +kernel
theorem dL_law_379 : decode cL_law 379 = .ok (.iload_n 3, 1) := by decide +kernel
theorem dL_law_380 : decode cL_law 380 = .ok (.iconst 1, 1) := by decide +kernel
theorem dL_law_381 : decode cL_law 381 = .ok (.iadd, 1) := by decide +kernel
theorem dL_law_382 : decode cL_law 382 = .ok (.iaload, 1) := by decide +kernel
theorem dL_law_383 : decode cL_law 383 = .ok (.aload_n 0, 1) := by decide +kernel
theorem dL_law_384 : decode cL_law 384 = .ok (.iload_n 3, 1) := by decide +kernel
theorem dL_law_385 : decode cL_law 385 = .ok (.iconst 2, 1) := by decide +kernel
theorem dL_law_386 : decode cL_law 386 = .ok (.iadd, 1) := by decide +kernel
theorem dL_law_387 : decode cL_law 387 = .ok (.iaload, 1) := by decide +kernel
theorem dL_law_388 : decode cL_law 388 = .ok (.aload_n 0, 1) := by decide +kernel
theorem dL_law_389 : decode cL_law 389 = .ok (.iload_n 3, 1) := by decide +kernel
theorem dL_law_390 : decode cL_law 390 = .ok (.iconst 3, 1) := by decide +kernel
theorem dL_law_391 : decode cL_law 391 = .ok (.iadd, 1) := by decide +kernel
theorem dL_law_392 : decode cL_law 392 = .ok (.iaload, 1) := by decide +kernel
theorem dL_law_393 : decode cL_law 393 = .ok (.invokevirtual 27, 3) := by decide +kernel
theorem dL_law_396 : decode cL_law 396 = .ok (.aload_n 2, 1) := by decide +kernel
theorem dL_law_397 : decode cL_law 397 = .ok (.aload_n 0, 1) := by decide +kernel
theorem dL_law_398 : decode cL_law 398 = .ok (.iload_n 3, 1) := by decide +kernel
theorem dL_law_399 : decode cL_law 399 = .ok (.iconst 1, 1) := by decide +kernel
theorem dL_law_400 : decode cL_law 400 = .ok (.iadd, 1) := by decide +kernel
theorem dL_law_401 : decode cL_law 401 = .ok (.iaload, 1) := by decide +kernel
theorem dL_law_402 : decode cL_law 402 = .ok (.aload_n 0, 1) := by decide +kernel
theorem dL_law_403 : decode cL_law 403 = .ok (.iload_n 3, 1) := by decide +kernel
theorem dL_law_404 : decode cL_law 404 = .ok (.iconst 2, 1) := by decide +kernel
theorem dL_law_405 : decode cL_law 405 = .ok (.iadd, 1) := by decide +kernel
theorem dL_law_406 : decode cL_law 406 = .ok (.iaload, 1) := by decide +kernel
theorem dL_law_407 : decode cL_law 407 = .ok (.aload_n 0, 1) := by decide +kernel
theorem dL_law_408 : decode cL_law 408 = .ok (.iload_n 3, 1) := by decide +kernel
theorem dL_law_409 : decode cL_law 409 = .ok (.iconst 3, 1) := by decide +kernel
theorem dL_law_410 : decode cL_law 410 = .ok (.iadd, 1) := by decide +kernel
theorem dL_law_411 : decode cL_law 411 = .ok (.iaload, 1) := by decide +kernel
theorem dL_law_412 : decode cL_law 412 = .ok (.invokevirtual 31, 3) := by decide +kernel
theorem dL_law_415 : decode cL_law 415 = .ok (.if_icmp .eq 1597, 3) := by decide +kernel
theorem dL_law_418 : decode cL_law 418 = .ok (.iconst 0, 1) := by decide +kernel
theorem dL_law_419 : decode cL_law 419 = .ok (.ireturn, 1) := by decide +kernel
theorem dL_law_420 : decode cL_law 420 = .ok (.aload_n 1, 1) := by decide +kernel
theorem dL_law_421 : decode cL_law 421 = .ok (.aload_n 0, 1) := by decide +kernel
theorem dL_law_422 : decode cL_law 422 = .ok (.iload_n 3, 1) := by decide +kernel
theorem dL_law_423 : decode cL_law 423 = .ok (.iconst 1, 1) := by decide +kernel
theorem dL_law_424 : decode cL_law 424 = .ok (.iadd, 1) := by decide +kernel
theorem dL_law_425 : decode cL_law 425 = .ok (.iaload, 1) := by decide +kernel
theorem dL_law_426 : decode cL_law 426 = .ok (.aload_n 0, 1) := by decide +kernel
theorem dL_law_427 : decode cL_law 427 = .ok (.iload_n 3, 1) := by decide +kernel
theorem dL_law_428 : decode cL_law 428 = .ok (.iconst 2, 1) := by decide +kernel
theorem dL_law_429 : decode cL_law 429 = .ok (.iadd, 1) := by decide +kernel
theorem dL_law_430 : decode cL_law 430 = .ok (.iaload, 1) := by decide +kernel
theorem dL_law_431 : decode cL_law 431 = .ok (.aload_n 0, 1) := by decide +kernel
theorem dL_law_432 : decode cL_law 432 = .ok (.iload_n 3, 1) := by decide +kernel
theorem dL_law_433 : decode cL_law 433 = .ok (.iconst 3, 1) := by decide +kernel
theorem dL_law_434 : decode cL_law 434 = .ok (.iadd, 1) := by decide +kernel
theorem dL_law_435 : decode cL_law 435 = .ok (.iaload, 1) := by decide +kernel
theorem dL_law_436 : decode cL_law 436 = .ok (.invokevirtual 32, 3) := by decide +kernel
theorem dL_law_439 : decode cL_law 439 = .ok (.aload_n 2, 1) := by decide +kernel
theorem dL_law_440 : decode cL_law 440 = .ok (.aload_n 0, 1) := by decide +kernel
theorem dL_law_441 : decode cL_law 441 = .ok (.iload_n 3, 1) := by decide +kernel
theorem dL_law_442 : decode cL_law 442 = .ok (.iconst 1, 1) := by decide +kernel
theorem dL_law_443 : decode cL_law 443 = .ok (.iadd, 1) := by decide +kernel
theorem dL_law_444 : decode cL_law 444 = .ok (.iaload, 1) := by decide +kernel
theorem dL_law_445 : decode cL_law 445 = .ok (.aload_n 0, 1) := by decide +kernel
theorem dL_law_446 : decode cL_law 446 = .ok (.iload_n 3, 1) := by decide +kernel
theorem dL_law_447 : decode cL_law 447 = .ok (.iconst 2, 1) := by decide +kernel
theorem dL_law_448 : decode cL_law 448 = .ok (.iadd, 1) := by decide +kernel
theorem dL_law_449 : decode cL_law 449 = .ok (.iaload, 1) := by decide +kernel
theorem dL_law_450 : decode cL_law 450 = .ok (.aload_n 0, 1) := by decide +kernel
theorem dL_law_451 : decode cL_law 451 = .ok (.iload_n 3, 1) := by decide +kernel
theorem dL_law_452 : decode cL_law 452 = .ok (.iconst 3, 1) := by decide +kernel
theorem dL_law_453 : decode cL_law 453 = .ok (.iadd, 1) := by decide +kernel
theorem dL_law_454 : decode cL_law 454 = .ok (.iaload, 1) := by decide +kernel
theorem dL_law_455 : decode cL_law 455 = .ok (.invokevirtual 35, 3) := by decide +kernel
theorem dL_law_458 : decode cL_law 458 = .ok (.if_icmp .eq 1554, 3) := by decide +kernel
theorem dL_law_461 : decode cL_law 461 = .ok (.iconst 0, 1) := by decide +kernel
theorem dL_law_462 : decode cL_law 462 = .ok (.ireturn, 1) := by decide +kernel
theorem dL_law_463 : decode cL_law 463 = .ok (.aload_n 1, 1) := by decide +kernel
theorem dL_law_464 : decode cL_law 464 = .ok (.aload_n 0, 1) := by decide +kernel
theorem dL_law_465 : decode cL_law 465 = .ok (.iload_n 3, 1) := by decide +kernel
theorem dL_law_466 : decode cL_law 466 = .ok (.iconst 1, 1) := by decide +kernel
theorem dL_law_467 : decode cL_law 467 = .ok (.iadd, 1) := by decide +kernel
theorem dL_law_468 : decode cL_law 468 = .ok (.iaload, 1) := by decide +kernel
theorem dL_law_469 : decode cL_law 469 = .ok (.aload_n 0, 1) := by decide +kernel
theorem dL_law_470 : decode cL_law 470 = .ok (.iload_n 3, 1) := by decide +kernel
theorem dL_law_471 : decode cL_law 471 = .ok (.iconst 2, 1) := by decide +kernel
theorem dL_law_472 : decode cL_law 472 = .ok (.iadd, 1) := by decide +kernel
theorem dL_law_473 : decode cL_law 473 = .ok (.iaload, 1) := by decide +kernel
theorem dL_law_474 : decode cL_law 474 = .ok (.aload_n 0, 1) := by decide +kernel
theorem dL_law_475 : decode cL_law 475 = .ok (.iload_n 3, 1) := by decide +kernel
theorem dL_law_476 : decode cL_law 476 = .ok (.iconst 3, 1) := by decide +kernel
theorem dL_law_477 : decode cL_law 477 = .ok (.iadd, 1) := by decide +kernel
theorem dL_law_478 : decode cL_law 478 = .ok (.iaload, 1) := by decide +kernel
theorem dL_law_479 : decode cL_law 479 = .ok (.invokevirtual 36, 3) := by decide +kernel
theorem dL_law_482 : decode cL_law 482 = .ok (.aload_n 2, 1) := by decide +kernel
theorem dL_law_483 : decode cL_law 483 = .ok (.aload_n 0, 1) := by decide +kernel
theorem dL_law_484 : decode cL_law 484 = .ok (.iload_n 3, 1) := by decide +kernel
theorem dL_law_485 : decode cL_law 485 = .ok (.iconst 1, 1) := by decide +kernel
theorem dL_law_486 : decode cL_law 486 = .ok (.iadd, 1) := by decide +kernel
theorem dL_law_487 : decode cL_law 487 = .ok (.iaload, 1) := by decide +kernel
theorem dL_law_488 : decode cL_law 488 = .ok (.aload_n 0, 1) := by decide +kernel
theorem dL_law_489 : decode cL_law 489 = .ok (.iload_n 3, 1) := by decide +kernel
theorem dL_law_490 : decode cL_law 490 = .ok (.iconst 2, 1) := by decide +kernel
theorem dL_law_491 : decode cL_law 491 = .ok (.iadd, 1) := by decide +kernel
theorem dL_law_492 : decode cL_law 492 = .ok (.iaload, 1) := by decide +kernel
theorem dL_law_493 : decode cL_law 493 = .ok (.aload_n 0, 1) := by decide +kernel
theorem dL_law_494 : decode cL_law 494 = .ok (.iload_n 3, 1) := by decide +kernel
theorem dL_law_495 : decode cL_law 495 = .ok (.iconst 3, 1) := by decide +kernel
theorem dL_law_496 : decode cL_law 496 = .ok (.iadd, 1) := by decide +kernel
theorem dL_law_497 : decode cL_law 497 = .ok (.iaload, 1) := by decide +kernel
theorem dL_law_498 : decode cL_law 498 = .ok (.invokevirtual 39, 3) := by decide +kernel
theorem dL_law_501 : decode cL_law 501 = .ok (.if_icmp .eq 1511, 3) := by decide +kernel
theorem dL_law_504 : decode cL_law 504 = .ok (.iconst 0, 1) := by decide +kernel
theorem dL_law_505 : decode cL_law 505 = .ok (.ireturn, 1) := by decide +kernel
theorem dL_law_506 : decode cL_law 506 = .ok (.aload_n 1, 1) := by decide +kernel
theorem dL_law_507 : decode cL_law 507 = .ok (.aload_n 0, 1) := by decide +kernel
theorem dL_law_508 : decode cL_law 508 = .ok (.iload_n 3, 1) := by decide +kernel
theorem dL_law_509 : decode cL_law 509 = .ok (.iconst 1, 1) := by decide +kernel
theorem dL_law_510 : decode cL_law 510 = .ok (.iadd, 1) := by decide +kernel
theorem dL_law_511 : decode cL_law 511 = .ok (.iaload, 1) := by decide +kernel
theorem dL_law_512 : decode cL_law 512 = .ok (.aload_n 0, 1) := by decide +kernel
theorem dL_law_513 : decode cL_law 513 = .ok (.iload_n 3, 1) := by decide +kernel
theorem dL_law_514 : decode cL_law 514 = .ok (.iconst 2, 1) := by decide +kernel
theorem dL_law_515 : decode cL_law 515 = .ok (.iadd, 1) := by decide +kernel
theorem dL_law_516 : decode cL_law 516 = .ok (.iaload, 1) := by decide +kernel
theorem dL_law_517 : decode cL_law 517 = .ok (.aload_n 0, 1) := by decide +kernel
theorem dL_law_518 : decode cL_law 518 = .ok (.iload_n 3, 1) := by decide +kernel
theorem dL_law_519 : decode cL_law 519 = .ok (.iconst 3, 1) := by decide +kernel
theorem dL_law_520 : decode cL_law 520 = .ok (.iadd, 1) := by decide +kernel
theorem dL_law_521 : decode cL_law 521 = .ok (.iaload, 1) := by decide +kernel
theorem dL_law_522 : decode cL_law 522 = .ok (.aload_n 0, 1) := by decide +kernel
theorem dL_law_523 : decode cL_law 523 = .ok (.iload_n 3, 1) := by decide +kernel
end
section
theorem dL_law_524 : decode cL_law 524 = .ok (.iconst 4, 1) := by decide +kernel
theorem dL_law_525 : decode cL_law 525 = .ok (.iadd, 1) := by decide +kernel
theorem dL_law_526 : decode cL_law 526 = .ok (.iaload, 1) := by decide +kernel
theorem dL_law_527 : decode cL_law 527 = .ok (.aload_n 0, 1) := by decide +kernel
theorem dL_law_528 : decode cL_law 528 = .ok (.iload_n 3, 1) := by decide +kernel
theorem dL_law_529 : decode cL_law 529 = .ok (.iconst 5, 1) := by decide +kernel
theorem dL_law_530 : decode cL_law 530 = .ok (.iadd, 1) := by decide +kernel
theorem dL_law_531 : decode cL_law 531 = .ok (.iaload, 1) := by decide +kernel
theorem dL_law_532 : decode cL_law 532 = .ok (.invokevirtual 40, 3) := by decide +kernel
theorem dL_law_535 : decode cL_law 535 = .ok (.aload_n 2, 1) := by decide +kernel
theorem dL_law_536 : decode cL_law 536 = .ok (.aload_n 0, 1) := by decide +kernel
theorem dL_law_537 : decode cL_law 537 = .ok (.iload_n 3, 1) := by decide +kernel
theorem dL_law_538 : decode cL_law 538 = .ok (.iconst 1, 1) := by decide +kernel
theorem dL_law_539 : decode cL_law 539 = .ok (.iadd, 1) := by decide +kernel
theorem dL_law_540 : decode cL_law 540 = .ok (.iaload, 1) := by decide +kernel
theorem dL_law_541 : decode cL_law 541 = .ok (.aload_n 0, 1) := by decide +kernel
theorem dL_law_542 : decode cL_law 542 = .ok (.iload_n 3, 1) := by decide +kernel
theorem dL_law_543 : decode cL_law 543 = .ok (.iconst 2, 1) := by decide +kernel
theorem dL_law_544 : decode cL_law 544 = .ok (.iadd, 1) := by decide +kernel
theorem dL_law_545 : decode cL_law 545 = .ok (.iaload, 1) := by decide +kernel
theorem dL_law_546 : decode cL_law 546 = .ok (.aload_n 0, 1) := by decide +kernel
theorem dL_law_547 : decode cL_law 547 = .ok (.iload_n 3, 1) := by decide +kernel
theorem dL_law_548 : decode cL_law 548 = .ok (.iconst 3, 1) := by decide +kernel
theorem dL_law_549 : decode cL_law 549 = .ok (.iadd, 1) := by decide +kernel
theorem dL_law_550 : decode cL_law 550 = .ok (.iaload, 1) := by decide +kernel
theorem dL_law_551 : decode cL_law 551 = .ok (.aload_n 0, 1) := by decide +kernel
theorem dL_law_552 : decode cL_law 552 = .ok (.iload_n 3, 1) := by decide +kernel
theorem dL_law_553 : decode cL_law 553 = .ok (.iconst 4, 1) := by decide +kernel
theorem dL_law_554 : decode cL_law 554 = .ok (.iadd, 1) := by decide +kernel
theorem dL_law_555 : decode cL_law 555 = .ok (.iaload, 1) := by decide +kernel
theorem dL_law_556 : decode cL_law 556 = .ok (.aload_n 0, 1) := by decide +kernel
theorem dL_law_557 : decode cL_law 557 = .ok (.iload_n 3, 1) := by decide +kernel
theorem dL_law_558 : decode cL_law 558 = .ok (.iconst 5, 1) := by decide +kernel
theorem dL_law_559 : decode cL_law 559 = .ok (.iadd, 1) := by decide +kernel
theorem dL_law_560 : decode cL_law 560 = .ok (.iaload, 1) := by decide +kernel
theorem dL_law_561 : decode cL_law 561 = .ok (.invokevirtual 44, 3) := by decide +kernel
theorem dL_law_564 : decode cL_law 564 = .ok (.if_icmp .eq 1448, 3) := by decide +kernel
theorem dL_law_567 : decode cL_law 567 = .ok (.iconst 0, 1) := by decide +kernel
theorem dL_law_568 : decode cL_law 568 = .ok (.ireturn, 1) := by decide +kernel
theorem dL_law_569 : decode cL_law 569 = .ok (.aload_n 1, 1) := by decide +kernel
theorem dL_law_570 : decode cL_law 570 = .ok (.aload_n 0, 1) := by decide +kernel
theorem dL_law_571 : decode cL_law 571 = .ok (.iload_n 3, 1) := by decide +kernel
theorem dL_law_572 : decode cL_law 572 = .ok (.iconst 1, 1) := by decide +kernel
theorem dL_law_573 : decode cL_law 573 = .ok (.iadd, 1) := by decide +kernel
theorem dL_law_574 : decode cL_law 574 = .ok (.iaload, 1) := by decide +kernel
theorem dL_law_575 : decode cL_law 575 = .ok (.aload_n 0, 1) := by decide +kernel
theorem dL_law_576 : decode cL_law 576 = .ok (.iload_n 3, 1) := by decide +kernel
theorem dL_law_577 : decode cL_law 577 = .ok (.iconst 2, 1) := by decide +kernel
theorem dL_law_578 : decode cL_law 578 = .ok (.iadd, 1) := by decide +kernel
theorem dL_law_579 : decode cL_law 579 = .ok (.iaload, 1) := by decide +kernel
theorem dL_law_580 : decode cL_law 580 = .ok (.aload_n 0, 1) := by decide +kernel
theorem dL_law_581 : decode cL_law 581 = .ok (.iload_n 3, 1) := by decide +kernel
theorem dL_law_582 : decode cL_law 582 = .ok (.iconst 3, 1) := by decide +kernel
theorem dL_law_583 : decode cL_law 583 = .ok (.iadd, 1) := by decide +kernel
theorem dL_law_584 : decode cL_law 584 = .ok (.iaload, 1) := by decide +kernel
theorem dL_law_585 : decode cL_law 585 = .ok (.aload_n 0, 1) := by decide +kernel
theorem dL_law_586 : decode cL_law 586 = .ok (.iload_n 3, 1) := by decide +kernel
theorem dL_law_587 : decode cL_law 587 = .ok (.iconst 4, 1) := by decide +kernel
theorem dL_law_588 : decode cL_law 588 = .ok (.iadd, 1) := by decide +kernel
theorem dL_law_589 : decode cL_law 589 = .ok (.iaload, 1) := by decide +kernel
theorem dL_law_590 : decode cL_law 590 = .ok (.aload_n 0, 1) := by decide +kernel
theorem dL_law_591 : decode cL_law 591 = .ok (.iload_n 3, 1) := by decide +kernel
theorem dL_law_592 : decode cL_law 592 = .ok (.iconst 5, 1) := by decide +kernel
theorem dL_law_593 : decode cL_law 593 = .ok (.iadd, 1) := by decide +kernel
theorem dL_law_594 : decode cL_law 594 = .ok (.iaload, 1) := by decide +kernel
theorem dL_law_595 : decode cL_law 595 = .ok (.invokevirtual 45, 3) := by decide +kernel
theorem dL_law_598 : decode cL_law 598 = .ok (.aload_n 2, 1) := by decide +kernel
theorem dL_law_599 : decode cL_law 599 = .ok (.aload_n 0, 1) := by decide +kernel
theorem dL_law_600 : decode cL_law 600 = .ok (.iload_n 3, 1) := by decide +kernel
theorem dL_law_601 : decode cL_law 601 = .ok (.iconst 1, 1) := by decide +kernel
theorem dL_law_602 : decode cL_law 602 = .ok (.iadd, 1) := by decide +kernel
theorem dL_law_603 : decode cL_law 603 = .ok (.iaload, 1) := by decide +kernel
theorem dL_law_604 : decode cL_law 604 = .ok (.aload_n 0, 1) := by decide +kernel
theorem dL_law_605 : decode cL_law 605 = .ok (.iload_n 3, 1) := by decide +kernel
theorem dL_law_606 : decode cL_law 606 = .ok (.iconst 2, 1) := by decide +kernel
theorem dL_law_607 : decode cL_law 607 = .ok (.iadd, 1) := by decide +kernel
theorem dL_law_608 : decode cL_law 608 = .ok (.iaload, 1) := by decide +kernel
theorem dL_law_609 : decode cL_law 609 = .ok (.aload_n 0, 1) := by decide +kernel
theorem dL_law_610 : decode cL_law 610 = .ok (.iload_n 3, 1) := by decide +kernel
theorem dL_law_611 : decode cL_law 611 = .ok (.iconst 3, 1) := by decide +kernel
theorem dL_law_612 : decode cL_law 612 = .ok (.iadd, 1) := by decide +kernel
theorem dL_law_613 : decode cL_law 613 = .ok (.iaload, 1) := by decide +kernel
theorem dL_law_614 : decode cL_law 614 = .ok (.aload_n 0, 1) := by decide +kernel
theorem dL_law_615 : decode cL_law 615 = .ok (.iload_n 3, 1) := by decide +kernel
theorem dL_law_616 : decode cL_law 616 = .ok (.iconst 4, 1) := by decide +kernel
theorem dL_law_617 : decode cL_law 617 = .ok (.iadd, 1) := by decide +kernel
theorem dL_law_618 : decode cL_law 618 = .ok (.iaload, 1) := by decide +kernel
theorem dL_law_619 : decode cL_law 619 = .ok (.aload_n 0, 1) := by decide +kernel
theorem dL_law_620 : decode cL_law 620 = .ok (.iload_n 3, 1) := by decide +kernel
theorem dL_law_621 : decode cL_law 621 = .ok (.iconst 5, 1) := by decide +kernel
theorem dL_law_622 : decode cL_law 622 = .ok (.iadd, 1) := by decide +kernel
theorem dL_law_623 : decode cL_law 623 = .ok (.iaload, 1) := by decide +kernel
theorem dL_law_624 : decode cL_law 624 = .ok (.invokevirtual 48, 3) := by decide +kernel
theorem dL_law_627 : decode cL_law 627 = .ok (.if_icmp .eq 1385, 3) := by decide +kernel
theorem dL_law_630 : decode cL_law 630 = .ok (.iconst 0, 1) := by decide +kernel
theorem dL_law_631 : decode cL_law 631 = .ok (.ireturn, 1) := by decide +kernel
theorem dL_law_632 : decode cL_law 632 = .ok (.aload_n 1, 1) := by decide +kernel
theorem dL_law_633 : decode cL_law 633 = .ok (.aload_n 0, 1) := by decide +kernel
theorem dL_law_634 : decode cL_law 634 = .ok (.iload_n 3, 1) := by decide +kernel
theorem dL_law_635 : decode cL_law 635 = .ok (.iconst 1, 1) := by decide +kernel
theorem dL_law_636 : decode cL_law 636 = .ok (.iadd, 1) := by decide +kernel
theorem dL_law_637 : decode cL_law 637 = .ok (.iaload, 1) := by decide +kernel
theorem dL_law_638 : decode cL_law 638 = .ok (.invokevirtual 49, 3) := by decide +kernel
theorem dL_law_641 : decode cL_law 641 = .ok (.aload_n 2, 1) := by decide +kernel
theorem dL_law_642 : decode cL_law 642 = .ok (.aload_n 0, 1) := by decide +kernel
theorem dL_law_643 : decode cL_law 643 = .ok (.iload_n 3, 1) := by decide +kernel
theorem dL_law_644 : decode cL_law 644 = .ok (.iconst 1, 1) := by decide +kernel
theorem dL_law_645 : decode cL_law 645 = .ok (.iadd, 1) := by decide +kernel
theorem dL_law_646 : decode cL_law 646 = .ok (.iaload, 1) := by decide +kernel
theorem dL_law_647 : decode cL_law 647 = .ok (.invokevirtual 53, 3) := by decide +kernel
theorem dL_law_650 : decode cL_law 650 = .ok (.if_icmp .eq 1362, 3) := by decide +kernel
theorem dL_law_653 : decode cL_law 653 = .ok (.iconst 0, 1) := by decide +kernel
theorem dL_law_654 : decode cL_law 654 = .ok (.ireturn, 1) := by decide +kernel
theorem dL_law_655 : decode cL_law 655 = .ok (.aload_n 1, 1) := by decide +kernel
theorem dL_law_656 : decode cL_law 656 = .ok (.aload_n 0, 1) := by decide +kernel
theorem dL_law_657 : decode cL_law 657 = .ok (.iload_n 3, 1) := by decide +kernel
theorem dL_law_658 : decode cL_law 658 = .ok (.iconst 1, 1) := by decide +kernel
theorem dL_law_659 : decode cL_law 659 = .ok (.iadd, 1) := by decide +kernel
theorem dL_law_660 : decode cL_law 660 = .ok (.iaload, 1) := by decide +kernel
theorem dL_law_661 : decode cL_law 661 = .ok (.aload_n 0, 1) := by decide +kernel
theorem dL_law_662 : decode cL_law 662 = .ok (.iload_n 3, 1) := by decide +kernel
theorem dL_law_663 : decode cL_law 663 = .ok (.iconst 2, 1) := by decide +kernel
theorem dL_law_664 : decode cL_law 664 = .ok (.iadd, 1) := by decide +kernel
theorem dL_law_665 : decode cL_law 665 = .ok (.iaload, 1) := by decide +kernel
theorem dL_law_666 : decode cL_law 666 = .ok (.aload_n 0, 1) := by decide +kernel
theorem dL_law_667 : decode cL_law 667 = .ok (.iload_n 3, 1) := by decide +kernel
theorem dL_law_668 : decode cL_law 668 = .ok (.iconst 3, 1) := by decide +kernel
theorem dL_law_669 : decode cL_law 669 = .ok (.iadd, 1) := by decide +kernel
theorem dL_law_670 : decode cL_law 670 = .ok (.iaload, 1) := by decide +kernel
theorem dL_law_671 : decode cL_law 671 = .ok (.aload_n 0, 1) := by decide +kernel
theorem dL_law_672 : decode cL_law 672 = .ok (.iload_n 3, 1) := by decide +kernel
theorem dL_law_673 : decode cL_law 673 = .ok (.iconst 4, 1) := by decide +kernel
theorem dL_law_674 : decode cL_law 674 = .ok (.iadd, 1) := by decide +kernel
theorem dL_law_675 : decode cL_law 675 = .ok (.iaload, 1) := by decide +kernel
theorem dL_law_676 : decode cL_law 676 = .ok (.aload_n 0, 1) := by decide +kernel
theorem dL_law_677 : decode cL_law 677 = .ok (.iload_n 3, 1) := by decide +kernel
theorem dL_law_678 : decode cL_law 678 = .ok (.iconst 5, 1) := by decide +kernel
theorem dL_law_679 : decode cL_law 679 = .ok (.iadd, 1) := by decide +kernel
theorem dL_law_680 : decode cL_law 680 = .ok (.iaload, 1) := by decide +kernel
theorem dL_law_681 : decode cL_law 681 = .ok (.invokevirtual 54, 3) := by decide +kernel
theorem dL_law_684 : decode cL_law 684 = .ok (.aload_n 2, 1) := by decide +kernel
theorem dL_law_685 : decode cL_law 685 = .ok (.aload_n 0, 1) := by decide +kernel
theorem dL_law_686 : decode cL_law 686 = .ok (.iload_n 3, 1) := by decide +kernel
theorem dL_law_687 : decode cL_law 687 = .ok (.iconst 1, 1) := by decide +kernel
theorem dL_law_688 : decode cL_law 688 = .ok (.iadd, 1) := by decide +kernel
theorem dL_law_689 : decode cL_law 689 = .ok (.iaload, 1) := by decide +kernel
theorem dL_law_690 : decode cL_law 690 = .ok (.aload_n 0, 1) := by decide +kernel
theorem dL_law_691 : decode cL_law 691 = .ok (.iload_n 3, 1) := by decide +kernel
theorem dL_law_692 : decode cL_law 692 = .ok (.iconst 2, 1) := by decide +kernel
theorem dL_law_693 : decode cL_law 693 = .ok (.iadd, 1) := by decide +kernel
theorem dL_law_694 : decode cL_law 694 = .ok (.iaload, 1) := by decide +kernel
theorem dL_law_695 : decode cL_law 695 = .ok (.aload_n 0, 1) := by decide +kernel
theorem dL_law_696 : decode cL_law 696 = .ok (.iload_n 3, 1) := by decide +kernel
theorem dL_law_697 : decode cL_law 697 = .ok (.iconst 3, 1) := by decide +kernel
theorem dL_law_698 : decode cL_law 698 = .ok (.iadd, 1) := by decide +kernel
theorem dL_law_699 : decode cL_law 699 = .ok (.iaload, 1) := by decide +kernel
theorem dL_law_700 : decode cL_law 700 = .ok (.aload_n 0, 1) := by decide +kernel
theorem dL_law_701 : decode cL_law 701 = .ok (.iload_n 3, 1) := by decide +kernel
theorem dL_law_702 : decode cL_law 702 = .ok (.iconst 4, 1) := by decide +kernel
theorem dL_law_703 : decode cL_law 703 = .ok (.iadd, 1) := by decide +kernel
theorem dL_law_704 : decode cL_law 704 = .ok (.iaload, 1) := by decide +kernel
theorem dL_law_705 : decode cL_law 705 = .ok (.aload_n 0, 1) := by decide +kernel
theorem dL_law_706 : decode cL_law 706 = .ok (.iload_n 3, 1) := by decide +kernel
theorem dL_law_707 : decode cL_law 707 = .ok (.iconst 5, 1) := by decide +kernel
theorem dL_law_708 : decode cL_law 708 = .ok (.iadd, 1) := by decide +kernel
theorem dL_law_709 : decode cL_law 709 = .ok (.iaload, 1) := by decide +kernel
theorem dL_law_710 : decode cL_law 710 = .ok (.invokevirtual 57, 3) := by decide +kernel
theorem dL_law_713 : decode cL_law 713 = .ok (.if_icmp .eq 1299, 3) := by decide +kernel
theorem dL_law_716 : decode cL_law 716 = .ok (.iconst 0, 1) := by decide +kernel
theorem dL_law_717 : decode cL_law 717 = .ok (.ireturn, 1) := by decide +kernel
theorem dL_law_718 : decode cL_law 718 = .ok (.aload_n 1, 1) := by decide +kernel
theorem dL_law_719 : decode cL_law 719 = .ok (.aload_n 0, 1) := by decide +kernel
theorem dL_law_720 : decode cL_law 720 = .ok (.iload_n 3, 1) := by decide +kernel
theorem dL_law_721 : decode cL_law 721 = .ok (.iconst 1, 1) := by decide +kernel
theorem dL_law_722 : decode cL_law 722 = .ok (.iadd, 1) := by decide +kernel
theorem dL_law_723 : decode cL_law 723 = .ok (.iaload, 1) := by decide +kernel
theorem dL_law_724 : decode cL_law 724 = .ok (.aload_n 0, 1) := by decide +kernel
theorem dL_law_725 : decode cL_law 725 = .ok (.iload_n 3, 1) := by decide +kernel
theorem dL_law_726 : decode cL_law 726 = .ok (.iconst 2, 1) := by decide +kernel
theorem dL_law_727 : decode cL_law 727 = .ok (.iadd, 1) := by decide +kernel
theorem dL_law_728 : decode cL_law 728 = .ok (.iaload, 1) := by decide +kernel
theorem dL_law_729 : decode cL_law 729 = .ok (.aload_n 0, 1) := by decide +kernel
theorem dL_law_730 : decode cL_law 730 = .ok (.iload_n 3, 1) := by decide +kernel
theorem dL_law_731 : decode cL_law 731 = .ok (.iconst 3, 1) := by decide +kernel
theorem dL_law_732 : decode cL_law 732 = .ok (.iadd, 1) := by decide +kernel
theorem dL_law_733 : decode cL_law 733 = .ok (.iaload, 1) := by decide +kernel
theorem dL_law_734 : decode cL_law 734 = .ok (.invokevirtual 58, 3) := by decide +kernel
theorem dL_law_737 : decode cL_law 737 = .ok (.aload_n 2, 1) := by decide +kernel
theorem dL_law_738 : decode cL_law 738 = .ok (.aload_n 0, 1) := by decide +kernel
theorem dL_law_739 : decode cL_law 739 = .ok (.iload_n 3, 1) := by decide +kernel
theorem dL_law_740 : decode cL_law 740 = .ok (.iconst 1, 1) := by decide +kernel
theorem dL_law_741 : decode cL_law 741 = .ok (.iadd, 1) := by decide +kernel
theorem dL_law_742 : decode cL_law 742 = .ok (.iaload, 1) := by decide +kernel
theorem dL_law_743 : decode cL_law 743 = .ok (.aload_n 0, 1) := by decide +kernel
theorem dL_law_744 : decode cL_law 744 = .ok (.iload_n 3, 1) := by decide +kernel
theorem dL_law_745 : decode cL_law 745 = .ok (.iconst 2, 1) := by decide +kernel
theorem dL_law_746 : decode cL_law 746 = .ok (.iadd, 1) := by decide +kernel
theorem dL_law_747 : decode cL_law 747 = .ok (.iaload, 1) := by decide +kernel
theorem dL_law_748 : decode cL_law 748 = .ok (.aload_n 0, 1) := by decide +kernel
theorem dL_law_749 : decode cL_law 749 = .ok (.iload_n 3, 1) := by decide +kernel
theorem dL_law_750 : decode cL_law 750 = .ok (.iconst 3, 1) := by decide +kernel
theorem dL_law_751 : decode cL_law 751 = .ok (.iadd, 1) := by decide +kernel
theorem dL_law_752 : decode cL_law 752 = .ok (.iaload, 1) := by decide +kernel
theorem dL_law_753 : decode cL_law 753 = .ok (.invokevirtual 61, 3) := by decide +kernel
theorem dL_law_756 : decode cL_law 756 = .ok (.if_icmp .eq 1256, 3) := by decide +kernel
theorem dL_law_759 : decode cL_law 759 = .ok (.iconst 0, 1) := by decide +kernel
theorem dL_law_760 : decode cL_law 760 = .ok (.ireturn, 1) := by decide +kernel
theorem dL_law_761 : decode cL_law 761 = .ok (.aload_n 1, 1) := by decide +kernel
theorem dL_law_762 : decode cL_law 762 = .ok (.aload_n 0, 1) := by decide +kernel
theorem dL_law_763 : decode cL_law 763 = .ok (.iload_n 3, 1) := by decide +kernel
theorem dL_law_764 : decode cL_law 764 = .ok (.iconst 1, 1) := by decide +kernel
theorem dL_law_765 : decode cL_law 765 = .ok (.iadd, 1) := by decide +kernel
theorem dL_law_766 : decode cL_law 766 = .ok (.iaload, 1) := by decide +kernel
theorem dL_law_767 : decode cL_law 767 = .ok (.aload_n 0, 1) := by decide +kernel
theorem dL_law_768 : decode cL_law 768 = .ok (.iload_n 3, 1) := by decide +kernel
theorem dL_law_769 : decode cL_law 769 = .ok (.iconst 2, 1) := by decide +kernel
theorem dL_law_770 : decode cL_law 770 = .ok (.iadd, 1) := by decide +kernel
theorem dL_law_771 : decode cL_law 771 = .ok (.iaload, 1) := by decide +kernel
theorem dL_law_772 : decode cL_law 772 = .ok (.invokevirtual 62, 3) := by decide +kernel
theorem dL_law_775 : decode cL_law 775 = .ok (.aload_n 2, 1) := by decide +kernel
theorem dL_law_776 : decode cL_law 776 = .ok (.aload_n 0, 1) := by decide +kernel
theorem dL_law_777 : decode cL_law 777 = .ok (.iload_n 3, 1) := by decide +kernel
theorem dL_law_778 : decode cL_law 778 = .ok (.iconst 1, 1) := by decide +kernel
theorem dL_law_779 : decode cL_law 779 = .ok (.iadd, 1) := by decide +kernel
theorem dL_law_780 : decode cL_law 780 = .ok (.iaload, 1) := by decide +kernel
theorem dL_law_781 : decode cL_law 781 = .ok (.aload_n 0, 1) := by decide +kernel
theorem dL_law_782 : decode cL_law 782 = .ok (.iload_n 3, 1) := by decide +kernel
theorem dL_law_783 : decode cL_law 783 = .ok (.iconst 2, 1) := by decide +kernel
theorem dL_law_784 : decode cL_law 784 = .ok (.iadd, 1) := by decide +kernel
theorem dL_law_785 : decode cL_law 785 = .ok (.iaload, 1) := by decide +kernel
theorem dL_law_786 : decode cL_law 786 = .ok (.invokevirtual 65, 3) := by decide +kernel
theorem dL_law_789 : decode cL_law 789 = .ok (.if_icmp .eq 1223, 3) := by decide +kernel
theorem dL_law_792 : decode cL_law 792 = .ok (.iconst 0, 1) := by decide +kernel
theorem dL_law_793 : decode cL_law 793 = .ok (.ireturn, 1) := by decide +kernel
theorem dL_law_794 : decode cL_law 794 = .ok (.aload_n 1, 1) := by decide +kernel
theorem dL_law_795 : decode cL_law 795 = .ok (.aload_n 0, 1) := by decide +kernel
theorem dL_law_796 : decode cL_law 796 = .ok (.iload_n 3, 1) := by decide +kernel
theorem dL_law_797 : decode cL_law 797 = .ok (.iconst 1, 1) := by decide +kernel
theorem dL_law_798 : decode cL_law 798 = .ok (.iadd, 1) := by decide +kernel
theorem dL_law_799 : decode cL_law 799 = .ok (.iaload, 1) := by decide +kernel
theorem dL_law_800 : decode cL_law 800 = .ok (.aload_n 0, 1) := by decide +kernel
theorem dL_law_801 : decode cL_law 801 = .ok (.iload_n 3, 1) := by decide +kernel
theorem dL_law_802 : decode cL_law 802 = .ok (.iconst 2, 1) := by decide +kernel
theorem dL_law_803 : decode cL_law 803 = .ok (.iadd, 1) := by decide +kernel
theorem dL_law_804 : decode cL_law 804 = .ok (.iaload, 1) := by decide +kernel
theorem dL_law_805 : decode cL_law 805 = .ok (.aload_n 0, 1) := by decide +kernel
theorem dL_law_806 : decode cL_law 806 = .ok (.iload_n 3, 1) := by decide +kernel
theorem dL_law_807 : decode cL_law 807 = .ok (.iconst 3, 1) := by decide +kernel
theorem dL_law_808 : decode cL_law 808 = .ok (.iadd, 1) := by decide +kernel
theorem dL_law_809 : decode cL_law 809 = .ok (.iaload, 1) := by decide +kernel
end
section
theorem dL_law_810 : decode cL_law 810 = .ok (.invokevirtual 66, 3) := by decide +kernel
theorem dL_law_813 : decode cL_law 813 = .ok (.aload_n 2, 1) := by decide +kernel
theorem dL_law_814 : decode cL_law 814 = .ok (.aload_n 0, 1) := by decide +kernel
theorem dL_law_815 : decode cL_law 815 = .ok (.iload_n 3, 1) := by decide +kernel
theorem dL_law_816 : decode cL_law 816 = .ok (.iconst 1, 1) := by decide +kernel
theorem dL_law_817 : decode cL_law 817 = .ok (.iadd, 1) := by decide +kernel
theorem dL_law_818 : decode cL_law 818 = .ok (.iaload, 1) := by decide +kernel
theorem dL_law_819 : decode cL_law 819 = .ok (.aload_n 0, 1) := by decide +kernel
theorem dL_law_820 : decode cL_law 820 = .ok (.iload_n 3, 1) := by decide +kernel
theorem dL_law_821 : decode cL_law 821 = .ok (.iconst 2, 1) := by decide +kernel
theorem dL_law_822 : decode cL_law 822 = .ok (.iadd, 1) := by decide +kernel
theorem dL_law_823 : decode cL_law 823 = .ok (.iaload, 1) := by decide +kernel
theorem dL_law_824 : decode cL_law 824 = .ok (.aload_n 0, 1) := by decide +kernel
theorem dL_law_825 : decode cL_law 825 = .ok (.iload_n 3, 1) := by decide +kernel
theorem dL_law_826 : decode cL_law 826 = .ok (.iconst 3, 1) := by decide +kernel
theorem dL_law_827 : decode cL_law 827 = .ok (.iadd, 1) := by decide +kernel
theorem dL_law_828 : decode cL_law 828 = .ok (.iaload, 1) := by decide +kernel
theorem dL_law_829 : decode cL_law 829 = .ok (.invokevirtual 69, 3) := by decide +kernel
theorem dL_law_832 : decode cL_law 832 = .ok (.if_icmp .eq 1180, 3) := by decide +kernel
theorem dL_law_835 : decode cL_law 835 = .ok (.iconst 0, 1) := by decide +kernel
theorem dL_law_836 : decode cL_law 836 = .ok (.ireturn, 1) := by decide +kernel
theorem dL_law_837 : decode cL_law 837 = .ok (.aload_n 1, 1) := by decide +kernel
theorem dL_law_838 : decode cL_law 838 = .ok (.invokevirtual 70, 3) := by decide +kernel
theorem dL_law_841 : decode cL_law 841 = .ok (.aload_n 2, 1) := by decide +kernel
theorem dL_law_842 : decode cL_law 842 = .ok (.invokevirtual 74, 3) := by decide +kernel
theorem dL_law_845 : decode cL_law 845 = .ok (.if_icmp .eq 1167, 3) := by decide +kernel
theorem dL_law_848 : decode cL_law 848 = .ok (.iconst 0, 1) := by decide +kernel
theorem dL_law_849 : decode cL_law 849 = .ok (.ireturn, 1) := by decide +kernel
theorem dL_law_850 : decode cL_law 850 = .ok (.aload_n 1, 1) := by decide +kernel
theorem dL_law_851 : decode cL_law 851 = .ok (.invokevirtual 75, 3) := by decide +kernel
theorem dL_law_854 : decode cL_law 854 = .ok (.aload_n 2, 1) := by decide +kernel
theorem dL_law_855 : decode cL_law 855 = .ok (.invokevirtual 78, 3) := by decide +kernel
theorem dL_law_858 : decode cL_law 858 = .ok (.if_icmp .eq 1154, 3) := by decide +kernel
theorem dL_law_861 : decode cL_law 861 = .ok (.iconst 0, 1) := by decide +kernel
theorem dL_law_862 : decode cL_law 862 = .ok (.ireturn, 1) := by decide +kernel
theorem dL_law_863 : decode cL_law 863 = .ok (.aload_n 1, 1) := by decide +kernel
theorem dL_law_864 : decode cL_law 864 = .ok (.aload_n 0, 1) := by decide +kernel
theorem dL_law_865 : decode cL_law 865 = .ok (.iload_n 3, 1) := by decide +kernel
theorem dL_law_866 : decode cL_law 866 = .ok (.iconst 1, 1) := by decide +kernel
theorem dL_law_867 : decode cL_law 867 = .ok (.iadd, 1) := by decide +kernel
theorem dL_law_868 : decode cL_law 868 = .ok (.iaload, 1) := by decide +kernel
theorem dL_law_869 : decode cL_law 869 = .ok (.aload_n 0, 1) := by decide +kernel
theorem dL_law_870 : decode cL_law 870 = .ok (.iload_n 3, 1) := by decide +kernel
theorem dL_law_871 : decode cL_law 871 = .ok (.iconst 2, 1) := by decide +kernel
theorem dL_law_872 : decode cL_law 872 = .ok (.iadd, 1) := by decide +kernel
theorem dL_law_873 : decode cL_law 873 = .ok (.iaload, 1) := by decide +kernel
theorem dL_law_874 : decode cL_law 874 = .ok (.invokevirtual 79, 3) := by decide +kernel
theorem dL_law_877 : decode cL_law 877 = .ok (.aload_n 2, 1) := by decide +kernel
theorem dL_law_878 : decode cL_law 878 = .ok (.aload_n 0, 1) := by decide +kernel
theorem dL_law_879 : decode cL_law 879 = .ok (.iload_n 3, 1) := by decide +kernel
theorem dL_law_880 : decode cL_law 880 = .ok (.iconst 1, 1) := by decide +kernel
theorem dL_law_881 : decode cL_law 881 = .ok (.iadd, 1) := by decide +kernel
theorem dL_law_882 : decode cL_law 882 = .ok (.iaload, 1) := by decide +kernel
theorem dL_law_883 : decode cL_law 883 = .ok (.aload_n 0, 1) := by decide +kernel
theorem dL_law_884 : decode cL_law 884 = .ok (.iload_n 3, 1) := by decide +kernel
theorem dL_law_885 : decode cL_law 885 = .ok (.iconst 2, 1) := by decide +kernel
theorem dL_law_886 : decode cL_law 886 = .ok (.iadd, 1) := by decide +kernel
theorem dL_law_887 : decode cL_law 887 = .ok (.iaload, 1) := by decide +kernel
theorem dL_law_888 : decode cL_law 888 = .ok (.invokevirtual 82, 3) := by decide +kernel
theorem dL_law_891 : decode cL_law 891 = .ok (.if_icmp .eq 1121, 3) := by decide +kernel
theorem dL_law_894 : decode cL_law 894 = .ok (.iconst 0, 1) := by decide +kernel
theorem dL_law_895 : decode cL_law 895 = .ok (.ireturn, 1) := by decide +kernel
theorem dL_law_896 : decode cL_law 896 = .ok (.aload_n 1, 1) := by decide +kernel
theorem dL_law_897 : decode cL_law 897 = .ok (.aload_n 0, 1) := by decide +kernel
theorem dL_law_898 : decode cL_law 898 = .ok (.iload_n 3, 1) := by decide +kernel
theorem dL_law_899 : decode cL_law 899 = .ok (.iconst 1, 1) := by decide +kernel
theorem dL_law_900 : decode cL_law 900 = .ok (.iadd, 1) := by decide +kernel
theorem dL_law_901 : decode cL_law 901 = .ok (.iaload, 1) := by decide +kernel
theorem dL_law_902 : decode cL_law 902 = .ok (.invokevirtual 83, 3) := by decide +kernel
theorem dL_law_905 : decode cL_law 905 = .ok (.aload_n 2, 1) := by decide +kernel
theorem dL_law_906 : decode cL_law 906 = .ok (.aload_n 0, 1) := by decide +kernel
theorem dL_law_907 : decode cL_law 907 = .ok (.iload_n 3, 1) := by decide +kernel
theorem dL_law_908 : decode cL_law 908 = .ok (.iconst 1, 1) := by decide +kernel
theorem dL_law_909 : decode cL_law 909 = .ok (.iadd, 1) := by decide +kernel
theorem dL_law_910 : decode cL_law 910 = .ok (.iaload, 1) := by decide +kernel
theorem dL_law_911 : decode cL_law 911 = .ok (.invokevirtual 86, 3) := by decide +kernel
theorem dL_law_914 : decode cL_law 914 = .ok (.if_icmp .eq 1098, 3) := by decide +kernel
theorem dL_law_917 : decode cL_law 917 = .ok (.iconst 0, 1) := by decide +kernel
theorem dL_law_918 : decode cL_law 918 = .ok (.ireturn, 1) := by decide +kernel
theorem dL_law_919 : decode cL_law 919 = .ok (.aload_n 1, 1) := by decide +kernel
theorem dL_law_920 : decode cL_law 920 = .ok (.invokevirtual 87, 3) := by decide +kernel
theorem dL_law_923 : decode cL_law 923 = .ok (.aload_n 2, 1) := by decide +kernel
theorem dL_law_924 : decode cL_law 924 = .ok (.invokevirtual 90, 3) := by decide +kernel
theorem dL_law_927 : decode cL_law 927 = .ok (.if_icmp .eq 1085, 3) := by decide +kernel
theorem dL_law_930 : decode cL_law 930 = .ok (.iconst 0, 1) := by decide +kernel
theorem dL_law_931 : decode cL_law 931 = .ok (.ireturn, 1) := by decide +kernel
theorem dL_law_932 : decode cL_law 932 = .ok (.aload_n 1, 1) := by decide +kernel
theorem dL_law_933 : decode cL_law 933 = .ok (.aload_n 0, 1) := by decide +kernel
theorem dL_law_934 : decode cL_law 934 = .ok (.iload_n 3, 1) := by decide +kernel
theorem dL_law_935 : decode cL_law 935 = .ok (.iconst 1, 1) := by decide +kernel
theorem dL_law_936 : decode cL_law 936 = .ok (.iadd, 1) := by decide +kernel
theorem dL_law_937 : decode cL_law 937 = .ok (.iaload, 1) := by decide +kernel
theorem dL_law_938 : decode cL_law 938 = .ok (.aload_n 0, 1) := by decide +kernel
theorem dL_law_939 : decode cL_law 939 = .ok (.iload_n 3, 1) := by decide +kernel
theorem dL_law_940 : decode cL_law 940 = .ok (.iconst 2, 1) := by decide +kernel
theorem dL_law_941 : decode cL_law 941 = .ok (.iadd, 1) := by decide +kernel
theorem dL_law_942 : decode cL_law 942 = .ok (.iaload, 1) := by decide +kernel
theorem dL_law_943 : decode cL_law 943 = .ok (.aload_n 0, 1) := by decide +kernel
theorem dL_law_944 : decode cL_law 944 = .ok (.iload_n 3, 1) := by decide +kernel
theorem dL_law_945 : decode cL_law 945 = .ok (.iconst 3, 1) := by decide +kernel
theorem dL_law_946 : decode cL_law 946 = .ok (.iadd, 1) := by decide +kernel
theorem dL_law_947 : decode cL_law 947 = .ok (.iaload, 1) := by decide +kernel
theorem dL_law_948 : decode cL_law 948 = .ok (.invokevirtual 91, 3) := by decide +kernel
theorem dL_law_951 : decode cL_law 951 = .ok (.aload_n 2, 1) := by decide +kernel
theorem dL_law_952 : decode cL_law 952 = .ok (.aload_n 0, 1) := by decide +kernel
theorem dL_law_953 : decode cL_law 953 = .ok (.iload_n 3, 1) := by decide +kernel
theorem dL_law_954 : decode cL_law 954 = .ok (.iconst 1, 1) := by decide +kernel
theorem dL_law_955 : decode cL_law 955 = .ok (.iadd, 1) := by decide +kernel
theorem dL_law_956 : decode cL_law 956 = .ok (.iaload, 1) := by decide +kernel
theorem dL_law_957 : decode cL_law 957 = .ok (.aload_n 0, 1) := by decide +kernel
theorem dL_law_958 : decode cL_law 958 = .ok (.iload_n 3, 1) := by decide +kernel
theorem dL_law_959 : decode cL_law 959 = .ok (.iconst 2, 1) := by decide +kernel
theorem dL_law_960 : decode cL_law 960 = .ok (.iadd, 1) := by decide +kernel
theorem dL_law_961 : decode cL_law 961 = .ok (.iaload, 1) := by decide +kernel
theorem dL_law_962 : decode cL_law 962 = .ok (.aload_n 0, 1) := by decide +kernel
theorem dL_law_963 : decode cL_law 963 = .ok (.iload_n 3, 1) := by decide +kernel
theorem dL_law_964 : decode cL_law 964 = .ok (.iconst 3, 1) := by decide +kernel
theorem dL_law_965 : decode cL_law 965 = .ok (.iadd, 1) := by decide +kernel
theorem dL_law_966 : decode cL_law 966 = .ok (.iaload, 1) := by decide +kernel
theorem dL_law_967 : decode cL_law 967 = .ok (.invokevirtual 94, 3) := by decide +kernel
theorem dL_law_970 : decode cL_law 970 = .ok (.if_icmp .eq 1042, 3) := by decide +kernel
theorem dL_law_973 : decode cL_law 973 = .ok (.iconst 0, 1) := by decide +kernel
theorem dL_law_974 : decode cL_law 974 = .ok (.ireturn, 1) := by decide +kernel
theorem dL_law_975 : decode cL_law 975 = .ok (.aload_n 1, 1) := by decide +kernel
theorem dL_law_976 : decode cL_law 976 = .ok (.aload_n 0, 1) := by decide +kernel
theorem dL_law_977 : decode cL_law 977 = .ok (.iload_n 3, 1) := by decide +kernel
theorem dL_law_978 : decode cL_law 978 = .ok (.iconst 1, 1) := by decide +kernel
theorem dL_law_979 : decode cL_law 979 = .ok (.iadd, 1) := by decide +kernel
theorem dL_law_980 : decode cL_law 980 = .ok (.iaload, 1) := by decide +kernel
theorem dL_law_981 : decode cL_law 981 = .ok (.aload_n 0, 1) := by decide +kernel
theorem dL_law_982 : decode cL_law 982 = .ok (.iload_n 3, 1) := by decide +kernel
theorem dL_law_983 : decode cL_law 983 = .ok (.iconst 2, 1) := by decide +kernel
theorem dL_law_984 : decode cL_law 984 = .ok (.iadd, 1) := by decide +kernel
theorem dL_law_985 : decode cL_law 985 = .ok (.iaload, 1) := by decide +kernel
theorem dL_law_986 : decode cL_law 986 = .ok (.aload_n 0, 1) := by decide +kernel
theorem dL_law_987 : decode cL_law 987 = .ok (.iload_n 3, 1) := by decide +kernel
theorem dL_law_988 : decode cL_law 988 = .ok (.iconst 3, 1) := by decide +kernel
theorem dL_law_989 : decode cL_law 989 = .ok (.iadd, 1) := by decide +kernel
theorem dL_law_990 : decode cL_law 990 = .ok (.iaload, 1) := by decide +kernel
theorem dL_law_991 : decode cL_law 991 = .ok (.invokevirtual 95, 3) := by decide +kernel
theorem dL_law_994 : decode cL_law 994 = .ok (.aload_n 2, 1) := by decide +kernel
theorem dL_law_995 : decode cL_law 995 = .ok (.aload_n 0, 1) := by decide +kernel
theorem dL_law_996 : decode cL_law 996 = .ok (.iload_n 3, 1) := by decide +kernel
theorem dL_law_997 : decode cL_law 997 = .ok (.iconst 1, 1) := by decide +kernel
theorem dL_law_998 : decode cL_law 998 = .ok (.iadd, 1) := by decide +kernel
theorem dL_law_999 : decode cL_law 999 = .ok (.iaload, 1) := by decide +kernel
theorem dL_law_1000 : decode cL_law 1000 = .ok (.aload_n 0, 1) := by decide +kernel
theorem dL_law_1001 : decode cL_law 1001 = .ok (.iload_n 3, 1) := by decide +kernel
theorem dL_law_1002 : decode cL_law 1002 = .ok (.iconst 2, 1) := by decide +kernel
theorem dL_law_1003 : decode cL_law 1003 = .ok (.iadd, 1) := by decide +kernel
theorem dL_law_1004 : decode cL_law 1004 = .ok (.iaload, 1) := by decide +kernel
theorem dL_law_1005 : decode cL_law 1005 = .ok (.aload_n 0, 1) := by decide +kernel
theorem dL_law_1006 : decode cL_law 1006 = .ok (.iload_n 3, 1) := by decide +kernel
theorem dL_law_1007 : decode cL_law 1007 = .ok (.iconst 3, 1) := by decide +kernel
theorem dL_law_1008 : decode cL_law 1008 = .ok (.iadd, 1) := by decide +kernel
theorem dL_law_1009 : decode cL_law 1009 = .ok (.iaload, 1) := by decide +kernel
theorem dL_law_1010 : decode cL_law 1010 = .ok (.invokevirtual 98, 3) := by decide +kernel
theorem dL_law_1013 : decode cL_law 1013 = .ok (.if_icmp .eq 999, 3) := by decide +kernel
theorem dL_law_1016 : decode cL_law 1016 = .ok (.iconst 0, 1) := by decide +kernel
theorem dL_law_1017 : decode cL_law 1017 = .ok (.ireturn, 1) := by decide +kernel
theorem dL_law_1018 : decode cL_law 1018 = .ok (.aload_n 1, 1) := by decide +kernel
theorem dL_law_1019 : decode cL_law 1019 = .ok (.aload_n 0, 1) := by decide +kernel
theorem dL_law_1020 : decode cL_law 1020 = .ok (.iload_n 3, 1) := by decide +kernel
theorem dL_law_1021 : decode cL_law 1021 = .ok (.iconst 1, 1) := by decide +kernel
theorem dL_law_1022 : decode cL_law 1022 = .ok (.iadd, 1) := by decide +kernel
theorem dL_law_1023 : decode cL_law 1023 = .ok (.iaload, 1) := by decide +kernel
theorem dL_law_1024 : decode cL_law 1024 = .ok (.aload_n 0, 1) := by decide +kernel
theorem dL_law_1025 : decode cL_law 1025 = .ok (.iload_n 3, 1) := by decide +kernel
theorem dL_law_1026 : decode cL_law 1026 = .ok (.iconst 2, 1) := by decide +kernel
theorem dL_law_1027 : decode cL_law 1027 = .ok (.iadd, 1) := by decide +kernel
theorem dL_law_1028 : decode cL_law 1028 = .ok (.iaload, 1) := by decide +kernel
theorem dL_law_1029 : decode cL_law 1029 = .ok (.invokevirtual 99, 3) := by decide +kernel
theorem dL_law_1032 : decode cL_law 1032 = .ok (.aload_n 2, 1) := by decide +kernel
theorem dL_law_1033 : decode cL_law 1033 = .ok (.aload_n 0, 1) := by decide +kernel
theorem dL_law_1034 : decode cL_law 1034 = .ok (.iload_n 3, 1) := by decide +kernel
theorem dL_law_1035 : decode cL_law 1035 = .ok (.iconst 1, 1) := by decide +kernel
theorem dL_law_1036 : decode cL_law 1036 = .ok (.iadd, 1) := by decide +kernel
theorem dL_law_1037 : decode cL_law 1037 = .ok (.iaload, 1) := by decide +kernel
theorem dL_law_1038 : decode cL_law 1038 = .ok (.aload_n 0, 1) := by decide +kernel
theorem dL_law_1039 : decode cL_law 1039 = .ok (.iload_n 3, 1) := by decide +kernel
theorem dL_law_1040 : decode cL_law 1040 = .ok (.iconst 2, 1) := by decide +kernel
theorem dL_law_1041 : decode cL_law 1041 = .ok (.iadd, 1) := by decide +kernel
theorem dL_law_1042 : decode cL_law 1042 = .ok (.iaload, 1) := by decide +kernel
theorem dL_law_1043 : decode cL_law 1043 = .ok (.invokevirtual 102, 3) := by decide +kernel
theorem dL_law_1046 : decode cL_law 1046 = .ok (.if_icmp .eq 966, 3) := by decide +kernel
theorem dL_law_1049 : decode cL_law 1049 = .ok (.iconst 0, 1) := by decide +kernel
theorem dL_law_1050 : decode cL_law 1050 = .ok (.ireturn, 1) := by decide +kernel
theorem dL_law_1051 : decode cL_law 1051 = .ok (.aload_n 1, 1) := by decide +kernel
theorem dL_law_1052 : decode cL_law 1052 = .ok (.aload_n 0, 1) := by decide +kernel
theorem dL_law_1053 : decode cL_law 1053 = .ok (.iload_n 3, 1) := by decide +kernel
theorem dL_law_1054 : decode cL_law 1054 = .ok (.iconst 1, 1) := by decide +kernel
theorem dL_law_1055 : decode cL_law 1055 = .ok (.iadd, 1) := by decide +kernel
theorem dL_law_1056 : decode cL_law 1056 = .ok (.iaload, 1) := by decide +kernel
theorem dL_law_1057 : decode cL_law 1057 = .ok (.invokevirtual 103, 3) := by decide +kernel
theorem dL_law_1060 : decode cL_law 1060 = .ok (.aload_n 2, 1) := by decide +kernel
theorem dL_law_1061 : decode cL_law 1061 = .ok (.aload_n 0, 1) := by decide +kernel
theorem dL_law_1062 : decode cL_law 1062 = .ok (.iload_n 3, 1) := by decide +kernel
theorem dL_law_1063 : decode cL_law 1063 = .ok (.iconst 1, 1) := by decide +kernel
theorem dL_law_1064 : decode cL_law 1064 = .ok (.iadd, 1) := by decide +kernel
theorem dL_law_1065 : decode cL_law 1065 = .ok (.iaload, 1) := by decide +kernel
theorem dL_law_1066 : decode cL_law 1066 = .ok (.invokevirtual 106, 3) := by decide +kernel
theorem dL_law_1069 : decode cL_law 1069 = .ok (.if_icmp .eq 943, 3) := by decide +kernel
theorem dL_law_1072 : decode cL_law 1072 = .ok (.iconst 0, 1) := by decide +kernel
theorem dL_law_1073 : decode cL_law 1073 = .ok (.ireturn, 1) := by decide +kernel
theorem dL_law_1074 : decode cL_law 1074 = .ok (.aload_n 1, 1) := by decide +kernel
theorem dL_law_1075 : decode cL_law 1075 = .ok (.aload_n 0, 1) := by decide +kernel
theorem dL_law_1076 : decode cL_law 1076 = .ok (.iload_n 3, 1) := by decide +kernel
theorem dL_law_1077 : decode cL_law 1077 = .ok (.iconst 1, 1) := by decide +kernel
theorem dL_law_1078 : decode cL_law 1078 = .ok (.iadd, 1) := by decide +kernel
theorem dL_law_1079 : decode cL_law 1079 = .ok (.iaload, 1) := by decide +kernel
theorem dL_law_1080 : decode cL_law 1080 = .ok (.aload_n 0, 1) := by decide +kernel
theorem dL_law_1081 : decode cL_law 1081 = .ok (.iload_n 3, 1) := by decide +kernel
theorem dL_law_1082 : decode cL_law 1082 = .ok (.iconst 2, 1) := by decide +kernel
theorem dL_law_1083 : decode cL_law 1083 = .ok (.iadd, 1) := by decide +kernel
theorem dL_law_1084 : decode cL_law 1084 = .ok (.iaload, 1) := by decide +kernel
theorem dL_law_1085 : decode cL_law 1085 = .ok (.aload_n 0, 1) := by decide +kernel
theorem dL_law_1086 : decode cL_law 1086 = .ok (.iload_n 3, 1) := by decide +kernel
theorem dL_law_1087 : decode cL_law 1087 = .ok (.iconst 3, 1) := by decide +kernel
theorem dL_law_1088 : decode cL_law 1088 = .ok (.iadd, 1) := by decide +kernel
theorem dL_law_1089 : decode cL_law 1089 = .ok (.iaload, 1) := by decide +kernel
theorem dL_law_1090 : decode cL_law 1090 = .ok (.invokevirtual 107, 3) := by decide +kernel
theorem dL_law_1093 : decode cL_law 1093 = .ok (.aload_n 2, 1) := by decide +kernel
theorem dL_law_1094 : decode cL_law 1094 = .ok (.aload_n 0, 1) := by decide +kernel
theorem dL_law_1095 : decode cL_law 1095 = .ok (.iload_n 3, 1) := by decide +kernel
theorem dL_law_1096 : decode cL_law 1096 = .ok (.iconst 1, 1) := by decide +kernel
theorem dL_law_1097 : decode cL_law 1097 = .ok (.iadd, 1) := by decide +kernel
theorem dL_law_1098 : decode cL_law 1098 = .ok (.iaload, 1) := by decide +kernel
theorem dL_law_1099 : decode cL_law 1099 = .ok (.aload_n 0, 1) := by decide +kernel
theorem dL_law_1100 : decode cL_law 1100 = .ok (.iload_n 3, 1) := by decide +kernel
theorem dL_law_1101 : decode cL_law 1101 = .ok (.iconst 2, 1) := by decide +kernel
theorem dL_law_1102 : decode cL_law 1102 = .ok (.iadd, 1) := by decide +kernel
theorem dL_law_1103 : decode cL_law 1103 = .ok (.iaload, 1) := by decide +kernel
theorem dL_law_1104 : decode cL_law 1104 = .ok (.aload_n 0, 1) := by decide +kernel
theorem dL_law_1105 : decode cL_law 1105 = .ok (.iload_n 3, 1) := by decide +kernel
theorem dL_law_1106 : decode cL_law 1106 = .ok (.iconst 3, 1) := by decide +kernel
theorem dL_law_1107 : decode cL_law 1107 = .ok (.iadd, 1) := by decide +kernel
theorem dL_law_1108 : decode cL_law 1108 = .ok (.iaload, 1) := by decide +kernel
theorem dL_law_1109 : decode cL_law 1109 = .ok (.invokevirtual 110, 3) := by decide +kernel
theorem dL_law_1112 : decode cL_law 1112 = .ok (.if_icmp .eq 900, 3) := by decide +kernel
theorem dL_law_1115 : decode cL_law 1115 = .ok (.iconst 0, 1) := by decide +kernel
theorem dL_law_1116 : decode cL_law 1116 = .ok (.ireturn, 1) := by decide +kernel
theorem dL_law_1117 : decode cL_law 1117 = .ok (.aload_n 1, 1) := by decide +kernel
theorem dL_law_1118 : decode cL_law 1118 = .ok (.aload_n 0, 1) := by decide +kernel
theorem dL_law_1119 : decode cL_law 1119 = .ok (.iload_n 3, 1) := by decide +kernel
theorem dL_law_1120 : decode cL_law 1120 = .ok (.iconst 1, 1) := by decide +kernel
theorem dL_law_1121 : decode cL_law 1121 = .ok (.iadd, 1) := by decide +kernel
theorem dL_law_1122 : decode cL_law 1122 = .ok (.iaload, 1) := by decide +kernel
theorem dL_law_1123 : decode cL_law 1123 = .ok (.aload_n 0, 1) := by decide +kernel
theorem dL_law_1124 : decode cL_law 1124 = .ok (.iload_n 3, 1) := by decide +kernel
theorem dL_law_1125 : decode cL_law 1125 = .ok (.iconst 2, 1) := by decide +kernel
end
section
theorem dL_law_1126 : decode cL_law 1126 = .ok (.iadd, 1) := by decide +kernel
theorem dL_law_1127 : decode cL_law 1127 = .ok (.iaload, 1) := by decide +kernel
theorem dL_law_1128 : decode cL_law 1128 = .ok (.invokevirtual 111, 3) := by decide +kernel
theorem dL_law_1131 : decode cL_law 1131 = .ok (.aload_n 2, 1) := by decide +kernel
theorem dL_law_1132 : decode cL_law 1132 = .ok (.aload_n 0, 1) := by decide +kernel
theorem dL_law_1133 : decode cL_law 1133 = .ok (.iload_n 3, 1) := by decide +kernel
theorem dL_law_1134 : decode cL_law 1134 = .ok (.iconst 1, 1) := by decide +kernel
theorem dL_law_1135 : decode cL_law 1135 = .ok (.iadd, 1) := by decide +kernel
theorem dL_law_1136 : decode cL_law 1136 = .ok (.iaload, 1) := by decide +kernel
theorem dL_law_1137 : decode cL_law 1137 = .ok (.aload_n 0, 1) := by decide +kernel
theorem dL_law_1138 : decode cL_law 1138 = .ok (.iload_n 3, 1) := by decide +kernel
theorem dL_law_1139 : decode cL_law 1139 = .ok (.iconst 2, 1) := by decide +kernel
theorem dL_law_1140 : decode cL_law 1140 = .ok (.iadd, 1) := by decide +kernel
theorem dL_law_1141 : decode cL_law 1141 = .ok (.iaload, 1) := by decide +kernel
theorem dL_law_1142 : decode cL_law 1142 = .ok (.invokevirtual 114, 3) := by decide +kernel
theorem dL_law_1145 : decode cL_law 1145 = .ok (.if_icmp .eq 867, 3) := by decide +kernel
theorem dL_law_1148 : decode cL_law 1148 = .ok (.iconst 0, 1) := by decide +kernel
theorem dL_law_1149 : decode cL_law 1149 = .ok (.ireturn, 1) := by decide +kernel
theorem dL_law_1150 : decode cL_law 1150 = .ok (.aload_n 1, 1) := by decide +kernel
theorem dL_law_1151 : decode cL_law 1151 = .ok (.aload_n 0, 1) := by decide +kernel
theorem dL_law_1152 : decode cL_law 1152 = .ok (.iload_n 3, 1) := by decide +kernel
theorem dL_law_1153 : decode cL_law 1153 = .ok (.iconst 1, 1) := by decide +kernel
theorem dL_law_1154 : decode cL_law 1154 = .ok (.iadd, 1) := by decide +kernel
theorem dL_law_1155 : decode cL_law 1155 = .ok (.iaload, 1) := by decide +kernel
theorem dL_law_1156 : decode cL_law 1156 = .ok (.aload_n 0, 1) := by decide +kernel
theorem dL_law_1157 : decode cL_law 1157 = .ok (.iload_n 3, 1) := by decide +kernel
theorem dL_law_1158 : decode cL_law 1158 = .ok (.iconst 2, 1) := by decide +kernel
theorem dL_law_1159 : decode cL_law 1159 = .ok (.iadd, 1) := by decide +kernel
theorem dL_law_1160 : decode cL_law 1160 = .ok (.iaload, 1) := by decide +kernel
theorem dL_law_1161 : decode cL_law 1161 = .ok (.invokevirtual 115, 3) := by decide +kernel
theorem dL_law_1164 : decode cL_law 1164 = .ok (.aload_n 2, 1) := by decide +kernel
theorem dL_law_1165 : decode cL_law 1165 = .ok (.aload_n 0, 1) := by decide +kernel
theorem dL_law_1166 : decode cL_law 1166 = .ok (.iload_n 3, 1) := by decide +kernel
theorem dL_law_1167 : decode cL_law 1167 = .ok (.iconst 1, 1) := by decide +kernel
theorem dL_law_1168 : decode cL_law 1168 = .ok (.iadd, 1) := by decide +kernel
theorem dL_law_1169 : decode cL_law 1169 = .ok (.iaload, 1) := by decide +kernel
theorem dL_law_1170 : decode cL_law 1170 = .ok (.aload_n 0, 1) := by decide +kernel
theorem dL_law_1171 : decode cL_law 1171 = .ok (.iload_n 3, 1) := by decide +kernel
theorem dL_law_1172 : decode cL_law 1172 = .ok (.iconst 2, 1) := by decide +kernel
theorem dL_law_1173 : decode cL_law 1173 = .ok (.iadd, 1) := by decide +kernel
theorem dL_law_1174 : decode cL_law 1174 = .ok (.iaload, 1) := by decide +kernel
theorem dL_law_1175 : decode cL_law 1175 = .ok (.invokevirtual 118, 3) := by decide +kernel
theorem dL_law_1178 : decode cL_law 1178 = .ok (.if_icmp .eq 834, 3) := by decide +kernel
theorem dL_law_1181 : decode cL_law 1181 = .ok (.iconst 0, 1) := by decide +kernel
theorem dL_law_1182 : decode cL_law 1182 = .ok (.ireturn, 1) := by decide +kernel
theorem dL_law_1183 : decode cL_law 1183 = .ok (.aload_n 1, 1) := by decide +kernel
theorem dL_law_1184 : decode cL_law 1184 = .ok (.invokevirtual 119, 3) := by decide +kernel
theorem dL_law_1187 : decode cL_law 1187 = .ok (.aload_n 2, 1) := by decide +kernel
theorem dL_law_1188 : decode cL_law 1188 = .ok (.invokevirtual 122, 3) := by decide +kernel
theorem dL_law_1191 : decode cL_law 1191 = .ok (.if_icmp .eq 821, 3) := by decide +kernel
theorem dL_law_1194 : decode cL_law 1194 = .ok (.iconst 0, 1) := by decide +kernel
theorem dL_law_1195 : decode cL_law 1195 = .ok (.ireturn, 1) := by decide +kernel
theorem dL_law_1196 : decode cL_law 1196 = .ok (.aload_n 1, 1) := by decide +kernel
theorem dL_law_1197 : decode cL_law 1197 = .ok (.aload_n 0, 1) := by decide +kernel
theorem dL_law_1198 : decode cL_law 1198 = .ok (.iload_n 3, 1) := by decide +kernel
theorem dL_law_1199 : decode cL_law 1199 = .ok (.iconst 1, 1) := by decide +kernel
theorem dL_law_1200 : decode cL_law 1200 = .ok (.iadd, 1) := by decide +kernel
theorem dL_law_1201 : decode cL_law 1201 = .ok (.iaload, 1) := by decide +kernel
theorem dL_law_1202 : decode cL_law 1202 = .ok (.invokevirtual 123, 3) := by decide +kernel
theorem dL_law_1205 : decode cL_law 1205 = .ok (.aload_n 2, 1) := by decide +kernel
theorem dL_law_1206 : decode cL_law 1206 = .ok (.aload_n 0, 1) := by decide +kernel
theorem dL_law_1207 : decode cL_law 1207 = .ok (.iload_n 3, 1) := by decide +kernel
theorem dL_law_1208 : decode cL_law 1208 = .ok (.iconst 1, 1) := by decide +kernel
theorem dL_law_1209 : decode cL_law 1209 = .ok (.iadd, 1) := by decide +kernel
theorem dL_law_1210 : decode cL_law 1210 = .ok (.iaload, 1) := by decide +kernel
theorem dL_law_1211 : decode cL_law 1211 = .ok (.invokevirtual 126, 3) := by decide +kernel
theorem dL_law_1214 : decode cL_law 1214 = .ok (.if_icmp .eq 798, 3) := by decide +kernel
theorem dL_law_1217 : decode cL_law 1217 = .ok (.iconst 0, 1) := by decide +kernel
theorem dL_law_1218 : decode cL_law 1218 = .ok (.ireturn, 1) := by decide +kernel
theorem dL_law_1219 : decode cL_law 1219 = .ok (.aload_n 1, 1) := by decide +kernel
theorem dL_law_1220 : decode cL_law 1220 = .ok (.aload_n 0, 1) := by decide +kernel
theorem dL_law_1221 : decode cL_law 1221 = .ok (.iload_n 3, 1) := by decide +kernel
theorem dL_law_1222 : decode cL_law 1222 = .ok (.iconst 1, 1) := by decide +kernel
theorem dL_law_1223 : decode cL_law 1223 = .ok (.iadd, 1) := by decide +kernel
theorem dL_law_1224 : decode cL_law 1224 = .ok (.iaload, 1) := by decide +kernel
theorem dL_law_1225 : decode cL_law 1225 = .ok (.aload_n 0, 1) := by decide +kernel
theorem dL_law_1226 : decode cL_law 1226 = .ok (.iload_n 3, 1) := by decide +kernel
theorem dL_law_1227 : decode cL_law 1227 = .ok (.iconst 2, 1) := by decide +kernel
theorem dL_law_1228 : decode cL_law 1228 = .ok (.iadd, 1) := by decide +kernel
theorem dL_law_1229 : decode cL_law 1229 = .ok (.iaload, 1) := by decide +kernel
theorem dL_law_1230 : decode cL_law 1230 = .ok (.aload_n 0, 1) := by decide +kernel
theorem dL_law_1231 : decode cL_law 1231 = .ok (.iload_n 3, 1) := by decide +kernel
theorem dL_law_1232 : decode cL_law 1232 = .ok (.iconst 3, 1) := by decide +kernel
theorem dL_law_1233 : decode cL_law 1233 = .ok (.iadd, 1) := by decide +kernel
theorem dL_law_1234 : decode cL_law 1234 = .ok (.iaload, 1) := by decide +kernel
theorem dL_law_1235 : decode cL_law 1235 = .ok (.invokevirtual 127, 3) := by decide +kernel
theorem dL_law_1238 : decode cL_law 1238 = .ok (.aload_n 2, 1) := by decide +kernel
theorem dL_law_1239 : decode cL_law 1239 = .ok (.aload_n 0, 1) := by decide +kernel
theorem dL_law_1240 : decode cL_law 1240 = .ok (.iload_n 3, 1) := by decide +kernel
theorem dL_law_1241 : decode cL_law 1241 = .ok (.iconst 1, 1) := by decide +kernel
theorem dL_law_1242 : decode cL_law 1242 = .ok (.iadd, 1) := by decide +kernel
theorem dL_law_1243 : decode cL_law 1243 = .ok (.iaload, 1) := by decide +kernel
theorem dL_law_1244 : decode cL_law 1244 = .ok (.aload_n 0, 1) := by decide +kernel
theorem dL_law_1245 : decode cL_law 1245 = .ok (.iload_n 3, 1) := by decide +kernel
theorem dL_law_1246 : decode cL_law 1246 = .ok (.iconst 2, 1) := by decide +kernel
theorem dL_law_1247 : decode cL_law 1247 = .ok (.iadd, 1) := by decide +kernel
theorem dL_law_1248 : decode cL_law 1248 = .ok (.iaload, 1) := by decide +kernel
theorem dL_law_1249 : decode cL_law 1249 = .ok (.aload_n 0, 1) := by decide +kernel
theorem dL_law_1250 : decode cL_law 1250 = .ok (.iload_n 3, 1) := by decide +kernel
theorem dL_law_1251 : decode cL_law 1251 = .ok (.iconst 3, 1) := by decide +kernel
theorem dL_law_1252 : decode cL_law 1252 = .ok (.iadd, 1) := by decide +kernel
theorem dL_law_1253 : decode cL_law 1253 = .ok (.iaload, 1) := by decide +kernel
theorem dL_law_1254 : decode cL_law 1254 = .ok (.invokevirtual 130, 3) := by decide +kernel
theorem dL_law_1257 : decode cL_law 1257 = .ok (.if_icmp .eq 755, 3) := by decide +kernel
theorem dL_law_1260 : decode cL_law 1260 = .ok (.iconst 0, 1) := by decide +kernel
theorem dL_law_1261 : decode cL_law 1261 = .ok (.ireturn, 1) := by decide +kernel
theorem dL_law_1262 : decode cL_law 1262 = .ok (.aload_n 1, 1) := by decide +kernel
theorem dL_law_1263 : decode cL_law 1263 = .ok (.aload_n 0, 1) := by decide +kernel
theorem dL_law_1264 : decode cL_law 1264 = .ok (.iload_n 3, 1) := by decide +kernel
theorem dL_law_1265 : decode cL_law 1265 = .ok (.iconst 1, 1) := by decide +kernel
theorem dL_law_1266 : decode cL_law 1266 = .ok (.iadd, 1) := by decide +kernel
theorem dL_law_1267 : decode cL_law 1267 = .ok (.iaload, 1) := by decide +kernel
theorem dL_law_1268 : decode cL_law 1268 = .ok (.aload_n 0, 1) := by decide +kernel
theorem dL_law_1269 : decode cL_law 1269 = .ok (.iload_n 3, 1) := by decide +kernel
theorem dL_law_1270 : decode cL_law 1270 = .ok (.iconst 2, 1) := by decide +kernel
theorem dL_law_1271 : decode cL_law 1271 = .ok (.iadd, 1) := by decide +kernel
theorem dL_law_1272 : decode cL_law 1272 = .ok (.iaload, 1) := by decide +kernel
theorem dL_law_1273 : decode cL_law 1273 = .ok (.invokevirtual 131, 3) := by decide +kernel
theorem dL_law_1276 : decode cL_law 1276 = .ok (.aload_n 2, 1) := by decide +kernel
theorem dL_law_1277 : decode cL_law 1277 = .ok (.aload_n 0, 1) := by decide +kernel
theorem dL_law_1278 : decode cL_law 1278 = .ok (.iload_n 3, 1) := by decide +kernel
theorem dL_law_1279 : decode cL_law 1279 = .ok (.iconst 1, 1) := by decide +kernel
theorem dL_law_1280 : decode cL_law 1280 = .ok (.iadd, 1) := by decide +kernel
theorem dL_law_1281 : decode cL_law 1281 = .ok (.iaload, 1) := by decide +kernel
theorem dL_law_1282 : decode cL_law 1282 = .ok (.aload_n 0, 1) := by decide +kernel
theorem dL_law_1283 : decode cL_law 1283 = .ok (.iload_n 3, 1) := by decide +kernel
theorem dL_law_1284 : decode cL_law 1284 = .ok (.iconst 2, 1) := by decide +kernel
theorem dL_law_1285 : decode cL_law 1285 = .ok (.iadd, 1) := by decide +kernel
theorem dL_law_1286 : decode cL_law 1286 = .ok (.iaload, 1) := by decide +kernel
theorem dL_law_1287 : decode cL_law 1287 = .ok (.invokevirtual 134, 3) := by decide +kernel
theorem dL_law_1290 : decode cL_law 1290 = .ok (.if_icmp .eq 722, 3) := by decide +kernel
theorem dL_law_1293 : decode cL_law 1293 = .ok (.iconst 0, 1) := by decide +kernel
theorem dL_law_1294 : decode cL_law 1294 = .ok (.ireturn, 1) := by decide +kernel
theorem dL_law_1295 : decode cL_law 1295 = .ok (.aload_n 1, 1) := by decide +kernel
theorem dL_law_1296 : decode cL_law 1296 = .ok (.aload_n 0, 1) := by decide +kernel
theorem dL_law_1297 : decode cL_law 1297 = .ok (.iload_n 3, 1) := by decide +kernel
theorem dL_law_1298 : decode cL_law 1298 = .ok (.iconst 1, 1) := by decide +kernel
theorem dL_law_1299 : decode cL_law 1299 = .ok (.iadd, 1) := by decide +kernel
theorem dL_law_1300 : decode cL_law 1300 = .ok (.iaload, 1) := by decide +kernel
theorem dL_law_1301 : decode cL_law 1301 = .ok (.aload_n 0, 1) := by decide +kernel
theorem dL_law_1302 : decode cL_law 1302 = .ok (.iload_n 3, 1) := by decide +kernel
theorem dL_law_1303 : decode cL_law 1303 = .ok (.iconst 2, 1) := by decide +kernel
theorem dL_law_1304 : decode cL_law 1304 = .ok (.iadd, 1) := by decide +kernel
theorem dL_law_1305 : decode cL_law 1305 = .ok (.iaload, 1) := by decide +kernel
theorem dL_law_1306 : decode cL_law 1306 = .ok (.invokevirtual 135, 3) := by decide +kernel
theorem dL_law_1309 : decode cL_law 1309 = .ok (.aload_n 2, 1) := by decide +kernel
theorem dL_law_1310 : decode cL_law 1310 = .ok (.aload_n 0, 1) := by decide +kernel
theorem dL_law_1311 : decode cL_law 1311 = .ok (.iload_n 3, 1) := by decide +kernel
theorem dL_law_1312 : decode cL_law 1312 = .ok (.iconst 1, 1) := by decide +kernel
theorem dL_law_1313 : decode cL_law 1313 = .ok (.iadd, 1) := by decide +kernel
theorem dL_law_1314 : decode cL_law 1314 = .ok (.iaload, 1) := by decide +kernel
theorem dL_law_1315 : decode cL_law 1315 = .ok (.aload_n 0, 1) := by decide +kernel
theorem dL_law_1316 : decode cL_law 1316 = .ok (.iload_n 3, 1) := by decide +kernel
theorem dL_law_1317 : decode cL_law 1317 = .ok (.iconst 2, 1) := by decide +kernel
theorem dL_law_1318 : decode cL_law 1318 = .ok (.iadd, 1) := by decide +kernel
theorem dL_law_1319 : decode cL_law 1319 = .ok (.iaload, 1) := by decide +kernel
theorem dL_law_1320 : decode cL_law 1320 = .ok (.invokevirtual 138, 3) := by decide +kernel
theorem dL_law_1323 : decode cL_law 1323 = .ok (.if_icmp .eq 689, 3) := by decide +kernel
theorem dL_law_1326 : decode cL_law 1326 = .ok (.iconst 0, 1) := by decide +kernel
theorem dL_law_1327 : decode cL_law 1327 = .ok (.ireturn, 1) := by decide +kernel
theorem dL_law_1328 : decode cL_law 1328 = .ok (.aload_n 1, 1) := by decide +kernel
theorem dL_law_1329 : decode cL_law 1329 = .ok (.aload_n 0, 1) := by decide +kernel
theorem dL_law_1330 : decode cL_law 1330 = .ok (.iload_n 3, 1) := by decide +kernel
theorem dL_law_1331 : decode cL_law 1331 = .ok (.iconst 1, 1) := by decide +kernel
theorem dL_law_1332 : decode cL_law 1332 = .ok (.iadd, 1) := by decide +kernel
theorem dL_law_1333 : decode cL_law 1333 = .ok (.iaload, 1) := by decide +kernel
theorem dL_law_1334 : decode cL_law 1334 = .ok (.aload_n 0, 1) := by decide +kernel
theorem dL_law_1335 : decode cL_law 1335 = .ok (.iload_n 3, 1) := by decide +kernel
theorem dL_law_1336 : decode cL_law 1336 = .ok (.iconst 2, 1) := by decide +kernel
theorem dL_law_1337 : decode cL_law 1337 = .ok (.iadd, 1) := by decide +kernel
theorem dL_law_1338 : decode cL_law 1338 = .ok (.iaload, 1) := by decide +kernel
theorem dL_law_1339 : decode cL_law 1339 = .ok (.invokevirtual 139, 3) := by decide +kernel
theorem dL_law_1342 : decode cL_law 1342 = .ok (.aload_n 2, 1) := by decide +kernel
theorem dL_law_1343 : decode cL_law 1343 = .ok (.aload_n 0, 1) := by decide +kernel
theorem dL_law_1344 : decode cL_law 1344 = .ok (.iload_n 3, 1) := by decide +kernel
theorem dL_law_1345 : decode cL_law 1345 = .ok (.iconst 1, 1) := by decide +kernel
theorem dL_law_1346 : decode cL_law 1346 = .ok (.iadd, 1) := by decide +kernel
theorem dL_law_1347 : decode cL_law 1347 = .ok (.iaload, 1) := by decide +kernel
theorem dL_law_1348 : decode cL_law 1348 = .ok (.aload_n 0, 1) := by decide +kernel
theorem dL_law_1349 : decode cL_law 1349 = .ok (.iload_n 3, 1) := by decide +kernel
theorem dL_law_1350 : decode cL_law 1350 = .ok (.iconst 2, 1) := by decide +kernel
theorem dL_law_1351 : decode cL_law 1351 = .ok (.iadd, 1) := by decide +kernel
theorem dL_law_1352 : decode cL_law 1352 = .ok (.iaload, 1) := by decide +kernel
theorem dL_law_1353 : decode cL_law 1353 = .ok (.invokevirtual 142, 3) := by decide +kernel
theorem dL_law_1356 : decode cL_law 1356 = .ok (.if_icmp .eq 656, 3) := by decide +kernel
theorem dL_law_1359 : decode cL_law 1359 = .ok (.iconst 0, 1) := by decide +kernel
theorem dL_law_1360 : decode cL_law 1360 = .ok (.ireturn, 1) := by decide +kernel
theorem dL_law_1361 : decode cL_law 1361 = .ok (.aload_n 1, 1) := by decide +kernel
theorem dL_law_1362 : decode cL_law 1362 = .ok (.aload_n 0, 1) := by decide +kernel
theorem dL_law_1363 : decode cL_law 1363 = .ok (.iload_n 3, 1) := by decide +kernel
theorem dL_law_1364 : decode cL_law 1364 = .ok (.iconst 1, 1) := by decide +kernel
theorem dL_law_1365 : decode cL_law 1365 = .ok (.iadd, 1) := by decide +kernel
theorem dL_law_1366 : decode cL_law 1366 = .ok (.iaload, 1) := by decide +kernel
theorem dL_law_1367 : decode cL_law 1367 = .ok (.invokevirtual 143, 3) := by decide +kernel
theorem dL_law_1370 : decode cL_law 1370 = .ok (.aload_n 2, 1) := by decide +kernel
theorem dL_law_1371 : decode cL_law 1371 = .ok (.aload_n 0, 1) := by decide +kernel
theorem dL_law_1372 : decode cL_law 1372 = .ok (.iload_n 3, 1) := by decide +kernel
theorem dL_law_1373 : decode cL_law 1373 = .ok (.iconst 1, 1) := by decide +kernel
theorem dL_law_1374 : decode cL_law 1374 = .ok (.iadd, 1) := by decide +kernel
theorem dL_law_1375 : decode cL_law 1375 = .ok (.iaload, 1) := by decide +kernel
theorem dL_law_1376 : decode cL_law 1376 = .ok (.invokevirtual 146, 3) := by decide +kernel
theorem dL_law_1379 : decode cL_law 1379 = .ok (.if_icmp .eq 633, 3) := by decide +kernel
theorem dL_law_1382 : decode cL_law 1382 = .ok (.iconst 0, 1) := by decide +kernel
theorem dL_law_1383 : decode cL_law 1383 = .ok (.ireturn, 1) := by decide +kernel
theorem dL_law_1384 : decode cL_law 1384 = .ok (.aload_n 1, 1) := by decide +kernel
theorem dL_law_1385 : decode cL_law 1385 = .ok (.aload_n 0, 1) := by decide +kernel
theorem dL_law_1386 : decode cL_law 1386 = .ok (.iload_n 3, 1) := by decide +kernel
theorem dL_law_1387 : decode cL_law 1387 = .ok (.iconst 1, 1) := by decide +kernel
theorem dL_law_1388 : decode cL_law 1388 = .ok (.iadd, 1) := by decide +kernel
theorem dL_law_1389 : decode cL_law 1389 = .ok (.iaload, 1) := by decide +kernel
theorem dL_law_1390 : decode cL_law 1390 = .ok (.invokevirtual 147, 3) := by decide +kernel
theorem dL_law_1393 : decode cL_law 1393 = .ok (.aload_n 2, 1) := by decide +kernel
theorem dL_law_1394 : decode cL_law 1394 = .ok (.aload_n 0, 1) := by decide +kernel
theorem dL_law_1395 : decode cL_law 1395 = .ok (.iload_n 3, 1) := by decide +kernel
theorem dL_law_1396 : decode cL_law 1396 = .ok (.iconst 1, 1) := by decide +kernel
theorem dL_law_1397 : decode cL_law 1397 = .ok (.iadd, 1) := by decide +kernel
theorem dL_law_1398 : decode cL_law 1398 = .ok (.iaload, 1) := by decide +kernel
theorem dL_law_1399 : decode cL_law 1399 = .ok (.invokevirtual 150, 3) := by decide +kernel
theorem dL_law_1402 : decode cL_law 1402 = .ok (.if_icmp .eq 610, 3) := by decide +kernel
theorem dL_law_1405 : decode cL_law 1405 = .ok (.iconst 0, 1) := by decide +kernel
theorem dL_law_1406 : decode cL_law 1406 = .ok (.ireturn, 1) := by decide +kernel
theorem dL_law_1407 : decode cL_law 1407 = .ok (.aload_n 1, 1) := by decide +kernel
theorem dL_law_1408 : decode cL_law 1408 = .ok (.aload_n 0, 1) := by decide +kernel
theorem dL_law_1409 : decode cL_law 1409 = .ok (.iload_n 3, 1) := by decide +kernel
theorem dL_law_1410 : decode cL_law 1410 = .ok (.iconst 1, 1) := by decide +kernel
theorem dL_law_1411 : decode cL_law 1411 = .ok (.iadd, 1) := by decide +kernel
theorem dL_law_1412 : decode cL_law 1412 = .ok (.iaload, 1) := by decide +kernel
theorem dL_law_1413 : decode cL_law 1413 = .ok (.invokevirtual 151, 3) := by decide +kernel
theorem dL_law_1416 : decode cL_law 1416 = .ok (.aload_n 2, 1) := by decide +kernel
theorem dL_law_1417 : decode cL_law 1417 = .ok (.aload_n 0, 1) := by decide +kernel
theorem dL_law_1418 : decode cL_law 1418 = .ok (.iload_n 3, 1) := by decide +kernel
theorem dL_law_1419 : decode cL_law 1419 = .ok (.iconst 1, 1) := by decide +kernel
theorem dL_law_1420 : decode cL_law 1420 = .ok (.iadd, 1) := by decide +kernel
theorem dL_law_1421 : decode cL_law 1421 = .ok (.iaload, 1) := by decide +kernel
theorem dL_law_1422 : decode cL_law 1422 = .ok (.invokevirtual 154, 3) := by decide +kernel
theorem dL_law_1425 : decode cL_law 1425 = .ok (.if_icmp .eq 587, 3) := by decide +kernel
theorem dL_law_1428 : decode cL_law 1428 = .ok (.iconst 0, 1) := by decide +kernel
theorem dL_law_1429 : decode cL_law 1429 = .ok (.ireturn, 1) := by decide +kernel
theorem dL_law_1430 : decode cL_law 1430 = .ok (.aload_n 1, 1) := by decide +kernel
theorem dL_law_1431 : decode cL_law 1431 = .ok (.aload_n 0, 1) := by decide +kernel
theorem dL_law_1432 : decode cL_law 1432 = .ok (.iload_n 3, 1) := by decide +kernel
theorem dL_law_1433 : decode cL_law 1433 = .ok (.iconst 1, 1) := by decide +kernel
theorem dL_law_1434 : decode cL_law 1434 = .ok (.iadd, 1) := by decide +kernel
theorem dL_law_1435 : decode cL_law 1435 = .ok (.iaload, 1) := by decide +kernel
theorem dL_law_1436 : decode cL_law 1436 = .ok (.invokevirtual 155, 3) := by decide +kernel
theorem dL_law_1439 : decode cL_law 1439 = .ok (.aload_n 2, 1) := by decide +kernel
theorem dL_law_1440 : decode cL_law 1440 = .ok (.aload_n 0, 1) := by decide +kernel
theorem dL_law_1441 : decode cL_law 1441 = .ok (.iload_n 3, 1) := by decide +kernel
theorem dL_law_1442 : decode cL_law 1442 = .ok (.iconst 1, 1) := by decide +kernel
theorem dL_law_1443 : decode cL_law 1443 = .ok (.iadd, 1) := by decide +kernel
end
section
theorem dL_law_1444 : decode cL_law 1444 = .ok (.iaload, 1) := by decide +kernel
theorem dL_law_1445 : decode cL_law 1445 = .ok (.invokevirtual 158, 3) := by decide +kernel
theorem dL_law_1448 : decode cL_law 1448 = .ok (.if_icmp .eq 564, 3) := by decide +kernel
theorem dL_law_1451 : decode cL_law 1451 = .ok (.iconst 0, 1) := by decide +kernel
theorem dL_law_1452 : decode cL_law 1452 = .ok (.ireturn, 1) := by decide +kernel
theorem dL_law_1453 : decode cL_law 1453 = .ok (.aload_n 1, 1) := by decide +kernel
theorem dL_law_1454 : decode cL_law 1454 = .ok (.aload_n 0, 1) := by decide +kernel
theorem dL_law_1455 : decode cL_law 1455 = .ok (.iload_n 3, 1) := by decide +kernel
theorem dL_law_1456 : decode cL_law 1456 = .ok (.iconst 1, 1) := by decide +kernel
theorem dL_law_1457 : decode cL_law 1457 = .ok (.iadd, 1) := by decide +kernel
theorem dL_law_1458 : decode cL_law 1458 = .ok (.iaload, 1) := by decide +kernel
theorem dL_law_1459 : decode cL_law 1459 = .ok (.aload_n 0, 1) := by decide +kernel
theorem dL_law_1460 : decode cL_law 1460 = .ok (.iload_n 3, 1) := by decide +kernel
theorem dL_law_1461 : decode cL_law 1461 = .ok (.iconst 2, 1) := by decide +kernel
theorem dL_law_1462 : decode cL_law 1462 = .ok (.iadd, 1) := by decide +kernel
theorem dL_law_1463 : decode cL_law 1463 = .ok (.iaload, 1) := by decide +kernel
theorem dL_law_1464 : decode cL_law 1464 = .ok (.invokevirtual 159, 3) := by decide +kernel
theorem dL_law_1467 : decode cL_law 1467 = .ok (.aload_n 2, 1) := by decide +kernel
theorem dL_law_1468 : decode cL_law 1468 = .ok (.aload_n 0, 1) := by decide +kernel
theorem dL_law_1469 : decode cL_law 1469 = .ok (.iload_n 3, 1) := by decide +kernel
theorem dL_law_1470 : decode cL_law 1470 = .ok (.iconst 1, 1) := by decide +kernel
theorem dL_law_1471 : decode cL_law 1471 = .ok (.iadd, 1) := by decide +kernel
theorem dL_law_1472 : decode cL_law 1472 = .ok (.iaload, 1) := by decide +kernel
theorem dL_law_1473 : decode cL_law 1473 = .ok (.aload_n 0, 1) := by decide +kernel
theorem dL_law_1474 : decode cL_law 1474 = .ok (.iload_n 3, 1) := by decide +kernel
theorem dL_law_1475 : decode cL_law 1475 = .ok (.iconst 2, 1) := by decide +kernel
theorem dL_law_1476 : decode cL_law 1476 = .ok (.iadd, 1) := by decide +kernel
theorem dL_law_1477 : decode cL_law 1477 = .ok (.iaload, 1) := by decide +kernel
theorem dL_law_1478 : decode cL_law 1478 = .ok (.invokevirtual 162, 3) := by decide +kernel
theorem dL_law_1481 : decode cL_law 1481 = .ok (.if_icmp .eq 531, 3) := by decide +kernel
theorem dL_law_1484 : decode cL_law 1484 = .ok (.iconst 0, 1) := by decide +kernel
theorem dL_law_1485 : decode cL_law 1485 = .ok (.ireturn, 1) := by decide +kernel
theorem dL_law_1486 : decode cL_law 1486 = .ok (.aload_n 1, 1) := by decide +kernel
theorem dL_law_1487 : decode cL_law 1487 = .ok (.aload_n 0, 1) := by decide +kernel
theorem dL_law_1488 : decode cL_law 1488 = .ok (.iload_n 3, 1) := by decide +kernel
theorem dL_law_1489 : decode cL_law 1489 = .ok (.iconst 1, 1) := by decide +kernel
theorem dL_law_1490 : decode cL_law 1490 = .ok (.iadd, 1) := by decide +kernel
theorem dL_law_1491 : decode cL_law 1491 = .ok (.iaload, 1) := by decide +kernel
theorem dL_law_1492 : decode cL_law 1492 = .ok (.aload_n 0, 1) := by decide +kernel
theorem dL_law_1493 : decode cL_law 1493 = .ok (.iload_n 3, 1) := by decide +kernel
theorem dL_law_1494 : decode cL_law 1494 = .ok (.iconst 2, 1) := by decide +kernel
theorem dL_law_1495 : decode cL_law 1495 = .ok (.iadd, 1) := by decide +kernel
theorem dL_law_1496 : decode cL_law 1496 = .ok (.iaload, 1) := by decide +kernel
theorem dL_law_1497 : decode cL_law 1497 = .ok (.invokevirtual 163, 3) := by decide +kernel
theorem dL_law_1500 : decode cL_law 1500 = .ok (.aload_n 2, 1) := by decide +kernel
theorem dL_law_1501 : decode cL_law 1501 = .ok (.aload_n 0, 1) := by decide +kernel
theorem dL_law_1502 : decode cL_law 1502 = .ok (.iload_n 3, 1) := by decide +kernel
theorem dL_law_1503 : decode cL_law 1503 = .ok (.iconst 1, 1) := by decide +kernel
theorem dL_law_1504 : decode cL_law 1504 = .ok (.iadd, 1) := by decide +kernel
theorem dL_law_1505 : decode cL_law 1505 = .ok (.iaload, 1) := by decide +kernel
theorem dL_law_1506 : decode cL_law 1506 = .ok (.aload_n 0, 1) := by decide +kernel
theorem dL_law_1507 : decode cL_law 1507 = .ok (.iload_n 3, 1) := by decide +kernel
theorem dL_law_1508 : decode cL_law 1508 = .ok (.iconst 2, 1) := by decide +kernel
theorem dL_law_1509 : decode cL_law 1509 = .ok (.iadd, 1) := by decide +kernel
theorem dL_law_1510 : decode cL_law 1510 = .ok (.iaload, 1) := by decide +kernel
theorem dL_law_1511 : decode cL_law 1511 = .ok (.invokevirtual 166, 3) := by decide +kernel
theorem dL_law_1514 : decode cL_law 1514 = .ok (.if_icmp .eq 498, 3) := by decide +kernel
theorem dL_law_1517 : decode cL_law 1517 = .ok (.iconst 0, 1) := by decide +kernel
theorem dL_law_1518 : decode cL_law 1518 = .ok (.ireturn, 1) := by decide +kernel
theorem dL_law_1519 : decode cL_law 1519 = .ok (.aload_n 1, 1) := by decide +kernel
theorem dL_law_1520 : decode cL_law 1520 = .ok (.aload_n 0, 1) := by decide +kernel
theorem dL_law_1521 : decode cL_law 1521 = .ok (.iload_n 3, 1) := by decide +kernel
theorem dL_law_1522 : decode cL_law 1522 = .ok (.iconst 1, 1) := by decide +kernel
theorem dL_law_1523 : decode cL_law 1523 = .ok (.iadd, 1) := by decide +kernel
theorem dL_law_1524 : decode cL_law 1524 = .ok (.iaload, 1) := by decide +kernel
theorem dL_law_1525 : decode cL_law 1525 = .ok (.aload_n 0, 1) := by decide +kernel
theorem dL_law_1526 : decode cL_law 1526 = .ok (.iload_n 3, 1) := by decide +kernel
theorem dL_law_1527 : decode cL_law 1527 = .ok (.iconst 2, 1) := by decide +kernel
theorem dL_law_1528 : decode cL_law 1528 = .ok (.iadd, 1) := by decide +kernel
theorem dL_law_1529 : decode cL_law 1529 = .ok (.iaload, 1) := by decide +kernel
theorem dL_law_1530 : decode cL_law 1530 = .ok (.aload_n 0, 1) := by decide +kernel
theorem dL_law_1531 : decode cL_law 1531 = .ok (.iload_n 3, 1) := by decide +kernel
theorem dL_law_1532 : decode cL_law 1532 = .ok (.iconst 3, 1) := by decide +kernel
theorem dL_law_1533 : decode cL_law 1533 = .ok (.iadd, 1) := by decide +kernel
theorem dL_law_1534 : decode cL_law 1534 = .ok (.iaload, 1) := by decide +kernel
theorem dL_law_1535 : decode cL_law 1535 = .ok (.invokevirtual 167, 3) := by decide +kernel
theorem dL_law_1538 : decode cL_law 1538 = .ok (.aload_n 2, 1) := by decide +kernel
theorem dL_law_1539 : decode cL_law 1539 = .ok (.aload_n 0, 1) := by decide +kernel
theorem dL_law_1540 : decode cL_law 1540 = .ok (.iload_n 3, 1) := by decide +kernel
theorem dL_law_1541 : decode cL_law 1541 = .ok (.iconst 1, 1) := by decide +kernel
theorem dL_law_1542 : decode cL_law 1542 = .ok (.iadd, 1) := by decide +kernel
theorem dL_law_1543 : decode cL_law 1543 = .ok (.iaload, 1) := by decide +kernel
theorem dL_law_1544 : decode cL_law 1544 = .ok (.aload_n 0, 1) := by decide +kernel
theorem dL_law_1545 : decode cL_law 1545 = .ok (.iload_n 3, 1) := by decide +kernel
theorem dL_law_1546 : decode cL_law 1546 = .ok (.iconst 2, 1) := by decide +kernel
theorem dL_law_1547 : decode cL_law 1547 = .ok (.iadd, 1) := by decide +kernel
theorem dL_law_1548 : decode cL_law 1548 = .ok (.iaload, 1) := by decide +kernel
theorem dL_law_1549 : decode cL_law 1549 = .ok (.aload_n 0, 1) := by decide +kernel
theorem dL_law_1550 : decode cL_law 1550 = .ok (.iload_n 3, 1) := by decide +kernel
theorem dL_law_1551 : decode cL_law 1551 = .ok (.iconst 3, 1) := by decide +kernel
theorem dL_law_1552 : decode cL_law 1552 = .ok (.iadd, 1) := by decide +kernel
theorem dL_law_1553 : decode cL_law 1553 = .ok (.iaload, 1) := by decide +kernel
theorem dL_law_1554 : decode cL_law 1554 = .ok (.invokevirtual 170, 3) := by decide +kernel
theorem dL_law_1557 : decode cL_law 1557 = .ok (.if_icmp .eq 455, 3) := by decide +kernel
theorem dL_law_1560 : decode cL_law 1560 = .ok (.iconst 0, 1) := by decide +kernel
theorem dL_law_1561 : decode cL_law 1561 = .ok (.ireturn, 1) := by decide +kernel
theorem dL_law_1562 : decode cL_law 1562 = .ok (.aload_n 1, 1) := by decide +kernel
theorem dL_law_1563 : decode cL_law 1563 = .ok (.aload_n 0, 1) := by decide +kernel
theorem dL_law_1564 : decode cL_law 1564 = .ok (.iload_n 3, 1) := by decide +kernel
theorem dL_law_1565 : decode cL_law 1565 = .ok (.iconst 1, 1) := by decide +kernel
theorem dL_law_1566 : decode cL_law 1566 = .ok (.iadd, 1) := by decide +kernel
theorem dL_law_1567 : decode cL_law 1567 = .ok (.iaload, 1) := by decide +kernel
theorem dL_law_1568 : decode cL_law 1568 = .ok (.aload_n 0, 1) := by decide +kernel
theorem dL_law_1569 : decode cL_law 1569 = .ok (.iload_n 3, 1) := by decide +kernel
theorem dL_law_1570 : decode cL_law 1570 = .ok (.iconst 2, 1) := by decide +kernel
theorem dL_law_1571 : decode cL_law 1571 = .ok (.iadd, 1) := by decide +kernel
theorem dL_law_1572 : decode cL_law 1572 = .ok (.iaload, 1) := by decide +kernel
theorem dL_law_1573 : decode cL_law 1573 = .ok (.aload_n 0, 1) := by decide +kernel
theorem dL_law_1574 : decode cL_law 1574 = .ok (.iload_n 3, 1) := by decide +kernel
theorem dL_law_1575 : decode cL_law 1575 = .ok (.iconst 3, 1) := by decide +kernel
theorem dL_law_1576 : decode cL_law 1576 = .ok (.iadd, 1) := by decide +kernel
theorem dL_law_1577 : decode cL_law 1577 = .ok (.iaload, 1) := by decide +kernel
theorem dL_law_1578 : decode cL_law 1578 = .ok (.aload_n 0, 1) := by decide +kernel
theorem dL_law_1579 : decode cL_law 1579 = .ok (.iload_n 3, 1) := by decide +kernel
theorem dL_law_1580 : decode cL_law 1580 = .ok (.iconst 4, 1) := by decide +kernel
theorem dL_law_1581 : decode cL_law 1581 = .ok (.iadd, 1) := by decide +kernel
theorem dL_law_1582 : decode cL_law 1582 = .ok (.iaload, 1) := by decide +kernel
theorem dL_law_1583 : decode cL_law 1583 = .ok (.aload_n 0, 1) := by decide +kernel
theorem dL_law_1584 : decode cL_law 1584 = .ok (.iload_n 3, 1) := by decide +kernel
theorem dL_law_1585 : decode cL_law 1585 = .ok (.iconst 5, 1) := by decide +kernel
theorem dL_law_1586 : decode cL_law 1586 = .ok (.iadd, 1) := by decide +kernel
theorem dL_law_1587 : decode cL_law 1587 = .ok (.iaload, 1) := by decide +kernel
theorem dL_law_1588 : decode cL_law 1588 = .ok (.invokevirtual 171, 3) := by decide +kernel
theorem dL_law_1591 : decode cL_law 1591 = .ok (.aload_n 2, 1) := by decide +kernel
theorem dL_law_1592 : decode cL_law 1592 = .ok (.aload_n 0, 1) := by decide +kernel
theorem dL_law_1593 : decode cL_law 1593 = .ok (.iload_n 3, 1) := by decide +kernel
theorem dL_law_1594 : decode cL_law 1594 = .ok (.iconst 1, 1) := by decide +kernel
theorem dL_law_1595 : decode cL_law 1595 = .ok (.iadd, 1) := by decide +kernel
theorem dL_law_1596 : decode cL_law 1596 = .ok (.iaload, 1) := by decide +kernel
theorem dL_law_1597 : decode cL_law 1597 = .ok (.aload_n 0, 1) := by decide +kernel
theorem dL_law_1598 : decode cL_law 1598 = .ok (.iload_n 3, 1) := by decide +kernel
theorem dL_law_1599 : decode cL_law 1599 = .ok (.iconst 2, 1) := by decide +kernel
theorem dL_law_1600 : decode cL_law 1600 = .ok (.iadd, 1) := by decide +kernel
theorem dL_law_1601 : decode cL_law 1601 = .ok (.iaload, 1) := by decide +kernel
theorem dL_law_1602 : decode cL_law 1602 = .ok (.aload_n 0, 1) := by decide +kernel
theorem dL_law_1603 : decode cL_law 1603 = .ok (.iload_n 3, 1) := by decide +kernel
theorem dL_law_1604 : decode cL_law 1604 = .ok (.iconst 3, 1) := by decide +kernel
theorem dL_law_1605 : decode cL_law 1605 = .ok (.iadd, 1) := by decide +kernel
theorem dL_law_1606 : decode cL_law 1606 = .ok (.iaload, 1) := by decide +kernel
theorem dL_law_1607 : decode cL_law 1607 = .ok (.aload_n 0, 1) := by decide +kernel
theorem dL_law_1608 : decode cL_law 1608 = .ok (.iload_n 3, 1) := by decide +kernel
theorem dL_law_1609 : decode cL_law 1609 = .ok (.iconst 4, 1) := by decide +kernel
theorem dL_law_1610 : decode cL_law 1610 = .ok (.iadd, 1) := by decide +kernel
theorem dL_law_1611 : decode cL_law 1611 = .ok (.iaload, 1) := by decide +kernel
theorem dL_law_1612 : decode cL_law 1612 = .ok (.aload_n 0, 1) := by decide +kernel
theorem dL_law_1613 : decode cL_law 1613 = .ok (.iload_n 3, 1) := by decide +kernel
theorem dL_law_1614 : decode cL_law 1614 = .ok (.iconst 5, 1) := by decide +kernel
theorem dL_law_1615 : decode cL_law 1615 = .ok (.iadd, 1) := by decide +kernel
theorem dL_law_1616 : decode cL_law 1616 = .ok (.iaload, 1) := by decide +kernel
theorem dL_law_1617 : decode cL_law 1617 = .ok (.invokevirtual 174, 3) := by decide +kernel
theorem dL_law_1620 : decode cL_law 1620 = .ok (.if_icmp .eq 392, 3) := by decide +kernel
theorem dL_law_1623 : decode cL_law 1623 = .ok (.iconst 0, 1) := by decide +kernel
theorem dL_law_1624 : decode cL_law 1624 = .ok (.ireturn, 1) := by decide +kernel
theorem dL_law_1625 : decode cL_law 1625 = .ok (.aload_n 1, 1) := by decide +kernel
theorem dL_law_1626 : decode cL_law 1626 = .ok (.aload_n 0, 1) := by decide +kernel
theorem dL_law_1627 : decode cL_law 1627 = .ok (.iload_n 3, 1) := by decide +kernel
theorem dL_law_1628 : decode cL_law 1628 = .ok (.iconst 1, 1) := by decide +kernel
theorem dL_law_1629 : decode cL_law 1629 = .ok (.iadd, 1) := by decide +kernel
theorem dL_law_1630 : decode cL_law 1630 = .ok (.iaload, 1) := by decide +kernel
theorem dL_law_1631 : decode cL_law 1631 = .ok (.invokevirtual 175, 3) := by decide +kernel
theorem dL_law_1634 : decode cL_law 1634 = .ok (.aload_n 2, 1) := by decide +kernel
theorem dL_law_1635 : decode cL_law 1635 = .ok (.aload_n 0, 1) := by decide +kernel
theorem dL_law_1636 : decode cL_law 1636 = .ok (.iload_n 3, 1) := by decide +kernel
theorem dL_law_1637 : decode cL_law 1637 = .ok (.iconst 1, 1) := by decide +kernel
theorem dL_law_1638 : decode cL_law 1638 = .ok (.iadd, 1) := by decide +kernel
theorem dL_law_1639 : decode cL_law 1639 = .ok (.iaload, 1) := by decide +kernel
theorem dL_law_1640 : decode cL_law 1640 = .ok (.invokevirtual 178, 3) := by decide +kernel
theorem dL_law_1643 : decode cL_law 1643 = .ok (.if_icmp .eq 369, 3) := by decide +kernel
theorem dL_law_1646 : decode cL_law 1646 = .ok (.iconst 0, 1) := by decide +kernel
theorem dL_law_1647 : decode cL_law 1647 = .ok (.ireturn, 1) := by decide +kernel
theorem dL_law_1648 : decode cL_law 1648 = .ok (.aload_n 1, 1) := by decide +kernel
theorem dL_law_1649 : decode cL_law 1649 = .ok (.invokevirtual 179, 3) := by decide +kernel
theorem dL_law_1652 : decode cL_law 1652 = .ok (.aload_n 2, 1) := by decide +kernel
theorem dL_law_1653 : decode cL_law 1653 = .ok (.invokevirtual 182, 3) := by decide +kernel
theorem dL_law_1656 : decode cL_law 1656 = .ok (.if_icmp .eq 356, 3) := by decide +kernel
theorem dL_law_1659 : decode cL_law 1659 = .ok (.iconst 0, 1) := by decide +kernel
theorem dL_law_1660 : decode cL_law 1660 = .ok (.ireturn, 1) := by decide +kernel
theorem dL_law_1661 : decode cL_law 1661 = .ok (.aload_n 1, 1) := by decide +kernel
theorem dL_law_1662 : decode cL_law 1662 = .ok (.invokevirtual 183, 3) := by decide +kernel
theorem dL_law_1665 : decode cL_law 1665 = .ok (.aload_n 2, 1) := by decide +kernel
theorem dL_law_1666 : decode cL_law 1666 = .ok (.invokevirtual 186, 3) := by decide +kernel
theorem dL_law_1669 : decode cL_law 1669 = .ok (.if_icmp .eq 343, 3) := by decide +kernel
theorem dL_law_1672 : decode cL_law 1672 = .ok (.iconst 0, 1) := by decide +kernel
theorem dL_law_1673 : decode cL_law 1673 = .ok (.ireturn, 1) := by decide +kernel
theorem dL_law_1674 : decode cL_law 1674 = .ok (.aload_n 1, 1) := by decide +kernel
theorem dL_law_1675 : decode cL_law 1675 = .ok (.aload_n 0, 1) := by decide +kernel
theorem dL_law_1676 : decode cL_law 1676 = .ok (.iload_n 3, 1) := by decide +kernel
theorem dL_law_1677 : decode cL_law 1677 = .ok (.iconst 1, 1) := by decide +kernel
theorem dL_law_1678 : decode cL_law 1678 = .ok (.iadd, 1) := by decide +kernel
theorem dL_law_1679 : decode cL_law 1679 = .ok (.iaload, 1) := by decide +kernel
theorem dL_law_1680 : decode cL_law 1680 = .ok (.invokevirtual 187, 3) := by decide +kernel
theorem dL_law_1683 : decode cL_law 1683 = .ok (.aload_n 2, 1) := by decide +kernel
theorem dL_law_1684 : decode cL_law 1684 = .ok (.aload_n 0, 1) := by decide +kernel
theorem dL_law_1685 : decode cL_law 1685 = .ok (.iload_n 3, 1) := by decide +kernel
theorem dL_law_1686 : decode cL_law 1686 = .ok (.iconst 1, 1) := by decide +kernel
theorem dL_law_1687 : decode cL_law 1687 = .ok (.iadd, 1) := by decide +kernel
theorem dL_law_1688 : decode cL_law 1688 = .ok (.iaload, 1) := by decide +kernel
theorem dL_law_1689 : decode cL_law 1689 = .ok (.invokevirtual 190, 3) := by decide +kernel
theorem dL_law_1692 : decode cL_law 1692 = .ok (.if_icmp .eq 320, 3) := by decide +kernel
theorem dL_law_1695 : decode cL_law 1695 = .ok (.iconst 0, 1) := by decide +kernel
theorem dL_law_1696 : decode cL_law 1696 = .ok (.ireturn, 1) := by decide +kernel
theorem dL_law_1697 : decode cL_law 1697 = .ok (.aload_n 1, 1) := by decide +kernel
theorem dL_law_1698 : decode cL_law 1698 = .ok (.aload_n 0, 1) := by decide +kernel
theorem dL_law_1699 : decode cL_law 1699 = .ok (.iload_n 3, 1) := by decide +kernel
theorem dL_law_1700 : decode cL_law 1700 = .ok (.iconst 1, 1) := by decide +kernel
theorem dL_law_1701 : decode cL_law 1701 = .ok (.iadd, 1) := by decide +kernel
theorem dL_law_1702 : decode cL_law 1702 = .ok (.iaload, 1) := by decide +kernel
theorem dL_law_1703 : decode cL_law 1703 = .ok (.aload_n 0, 1) := by decide +kernel
theorem dL_law_1704 : decode cL_law 1704 = .ok (.iload_n 3, 1) := by decide +kernel
theorem dL_law_1705 : decode cL_law 1705 = .ok (.iconst 2, 1) := by decide +kernel
theorem dL_law_1706 : decode cL_law 1706 = .ok (.iadd, 1) := by decide +kernel
theorem dL_law_1707 : decode cL_law 1707 = .ok (.iaload, 1) := by decide +kernel
theorem dL_law_1708 : decode cL_law 1708 = .ok (.aload_n 0, 1) := by decide +kernel
theorem dL_law_1709 : decode cL_law 1709 = .ok (.iload_n 3, 1) := by decide +kernel
theorem dL_law_1710 : decode cL_law 1710 = .ok (.iconst 3, 1) := by decide +kernel
theorem dL_law_1711 : decode cL_law 1711 = .ok (.iadd, 1) := by decide +kernel
theorem dL_law_1712 : decode cL_law 1712 = .ok (.iaload, 1) := by decide +kernel
theorem dL_law_1713 : decode cL_law 1713 = .ok (.invokevirtual 191, 3) := by decide +kernel
theorem dL_law_1716 : decode cL_law 1716 = .ok (.aload_n 2, 1) := by decide +kernel
theorem dL_law_1717 : decode cL_law 1717 = .ok (.aload_n 0, 1) := by decide +kernel
theorem dL_law_1718 : decode cL_law 1718 = .ok (.iload_n 3, 1) := by decide +kernel
theorem dL_law_1719 : decode cL_law 1719 = .ok (.iconst 1, 1) := by decide +kernel
theorem dL_law_1720 : decode cL_law 1720 = .ok (.iadd, 1) := by decide +kernel
theorem dL_law_1721 : decode cL_law 1721 = .ok (.iaload, 1) := by decide +kernel
theorem dL_law_1722 : decode cL_law 1722 = .ok (.aload_n 0, 1) := by decide +kernel
theorem dL_law_1723 : decode cL_law 1723 = .ok (.iload_n 3, 1) := by decide +kernel
theorem dL_law_1724 : decode cL_law 1724 = .ok (.iconst 2, 1) := by decide +kernel
theorem dL_law_1725 : decode cL_law 1725 = .ok (.iadd, 1) := by decide +kernel
theorem dL_law_1726 : decode cL_law 1726 = .ok (.iaload, 1) := by decide +kernel
theorem dL_law_1727 : decode cL_law 1727 = .ok (.aload_n 0, 1) := by decide +kernel
theorem dL_law_1728 : decode cL_law 1728 = .ok (.iload_n 3, 1) := by decide +kernel
theorem dL_law_1729 : decode cL_law 1729 = .ok (.iconst 3, 1) := by decide +kernel
theorem dL_law_1730 : decode cL_law 1730 = .ok (.iadd, 1) := by decide +kernel
theorem dL_law_1731 : decode cL_law 1731 = .ok (.iaload, 1) := by decide +kernel
theorem dL_law_1732 : decode cL_law 1732 = .ok (.invokevirtual 194, 3) := by decide +kernel
theorem dL_law_1735 : decode cL_law 1735 = .ok (.if_icmp .eq 277, 3) := by decide +kernel
theorem dL_law_1738 : decode cL_law 1738 = .ok (.iconst 0, 1) := by decide +kernel
theorem dL_law_1739 : decode cL_law 1739 = .ok (.ireturn, 1) := by decide +kernel
theorem dL_law_1740 : decode cL_law 1740 = .ok (.aload_n 1, 1) := by decide +kernel
theorem dL_law_1741 : decode cL_law 1741 = .ok (.aload_n 0, 1) := by decide +kernel
theorem dL_law_1742 : decode cL_law 1742 = .ok (.iload_n 3, 1) := by decide +kernel
theorem dL_law_1743 : decode cL_law 1743 = .ok (.iconst 1, 1) := by decide +kernel
theorem dL_law_1744 : decode cL_law 1744 = .ok (.iadd, 1) := by decide +kernel
theorem dL_law_1745 : decode cL_law 1745 = .ok (.iaload, 1) := by decide +kernel
theorem dL_law_1746 : decode cL_law 1746 = .ok (.invokevirtual 195, 3) := by decide +kernel
theorem dL_law_1749 : decode cL_law 1749 = .ok (.aload_n 2, 1) := by decide +kernel
theorem dL_law_1750 : decode cL_law 1750 = .ok (.aload_n 0, 1) := by decide +kernel
theorem dL_law_1751 : decode cL_law 1751 = .ok (.iload_n 3, 1) := by decide +kernel
theorem dL_law_1752 : decode cL_law 1752 = .ok (.iconst 1, 1) := by decide +kernel
theorem dL_law_1753 : decode cL_law 1753 = .ok (.iadd, 1) := by decide +kernel
end
section
theorem dL_law_1754 : decode cL_law 1754 = .ok (.iaload, 1) := by decide +kernel
theorem dL_law_1755 : decode cL_law 1755 = .ok (.invokevirtual 198, 3) := by decide +kernel
theorem dL_law_1758 : decode cL_law 1758 = .ok (.if_icmp .eq 254, 3) := by decide +kernel
theorem dL_law_1761 : decode cL_law 1761 = .ok (.iconst 0, 1) := by decide +kernel
theorem dL_law_1762 : decode cL_law 1762 = .ok (.ireturn, 1) := by decide +kernel
theorem dL_law_1763 : decode cL_law 1763 = .ok (.aload_n 1, 1) := by decide +kernel
theorem dL_law_1764 : decode cL_law 1764 = .ok (.aload_n 0, 1) := by decide +kernel
theorem dL_law_1765 : decode cL_law 1765 = .ok (.iload_n 3, 1) := by decide +kernel
theorem dL_law_1766 : decode cL_law 1766 = .ok (.iconst 1, 1) := by decide +kernel
theorem dL_law_1767 : decode cL_law 1767 = .ok (.iadd, 1) := by decide +kernel
theorem dL_law_1768 : decode cL_law 1768 = .ok (.iaload, 1) := by decide +kernel
theorem dL_law_1769 : decode cL_law 1769 = .ok (.aload_n 0, 1) := by decide +kernel
theorem dL_law_1770 : decode cL_law 1770 = .ok (.iload_n 3, 1) := by decide +kernel
theorem dL_law_1771 : decode cL_law 1771 = .ok (.iconst 2, 1) := by decide +kernel
theorem dL_law_1772 : decode cL_law 1772 = .ok (.iadd, 1) := by decide +kernel
theorem dL_law_1773 : decode cL_law 1773 = .ok (.iaload, 1) := by decide +kernel
theorem dL_law_1774 : decode cL_law 1774 = .ok (.aload_n 0, 1) := by decide +kernel
theorem dL_law_1775 : decode cL_law 1775 = .ok (.iload_n 3, 1) := by decide +kernel
theorem dL_law_1776 : decode cL_law 1776 = .ok (.iconst 3, 1) := by decide +kernel
theorem dL_law_1777 : decode cL_law 1777 = .ok (.iadd, 1) := by decide +kernel
theorem dL_law_1778 : decode cL_law 1778 = .ok (.iaload, 1) := by decide +kernel
theorem dL_law_1779 : decode cL_law 1779 = .ok (.aload_n 0, 1) := by decide +kernel
theorem dL_law_1780 : decode cL_law 1780 = .ok (.iload_n 3, 1) := by decide +kernel
theorem dL_law_1781 : decode cL_law 1781 = .ok (.iconst 4, 1) := by decide +kernel
theorem dL_law_1782 : decode cL_law 1782 = .ok (.iadd, 1) := by decide +kernel
theorem dL_law_1783 : decode cL_law 1783 = .ok (.iaload, 1) := by decide +kernel
theorem dL_law_1784 : decode cL_law 1784 = .ok (.invokevirtual 199, 3) := by decide +kernel
theorem dL_law_1787 : decode cL_law 1787 = .ok (.aload_n 2, 1) := by decide +kernel
theorem dL_law_1788 : decode cL_law 1788 = .ok (.aload_n 0, 1) := by decide +kernel
theorem dL_law_1789 : decode cL_law 1789 = .ok (.iload_n 3, 1) := by decide +kernel
theorem dL_law_1790 : decode cL_law 1790 = .ok (.iconst 1, 1) := by decide +kernel
theorem dL_law_1791 : decode cL_law 1791 = .ok (.iadd, 1) := by decide +kernel
theorem dL_law_1792 : decode cL_law 1792 = .ok (.iaload, 1) := by decide +kernel
theorem dL_law_1793 : decode cL_law 1793 = .ok (.aload_n 0, 1) := by decide +kernel
theorem dL_law_1794 : decode cL_law 1794 = .ok (.iload_n 3, 1) := by decide +kernel
theorem dL_law_1795 : decode cL_law 1795 = .ok (.iconst 2, 1) := by decide +kernel
theorem dL_law_1796 : decode cL_law 1796 = .ok (.iadd, 1) := by decide +kernel
theorem dL_law_1797 : decode cL_law 1797 = .ok (.iaload, 1) := by decide +kernel
theorem dL_law_1798 : decode cL_law 1798 = .ok (.aload_n 0, 1) := by decide +kernel
theorem dL_law_1799 : decode cL_law 1799 = .ok (.iload_n 3, 1) := by decide +kernel
theorem dL_law_1800 : decode cL_law 1800 = .ok (.iconst 3, 1) := by decide +kernel
theorem dL_law_1801 : decode cL_law 1801 = .ok (.iadd, 1) := by decide +kernel
theorem dL_law_1802 : decode cL_law 1802 = .ok (.iaload, 1) := by decide +kernel
theorem dL_law_1803 : decode cL_law 1803 = .ok (.aload_n 0, 1) := by decide +kernel
theorem dL_law_1804 : decode cL_law 1804 = .ok (.iload_n 3, 1) := by decide +kernel
theorem dL_law_1805 : decode cL_law 1805 = .ok (.iconst 4, 1) := by decide +kernel
theorem dL_law_1806 : decode cL_law 1806 = .ok (.iadd, 1) := by decide +kernel
theorem dL_law_1807 : decode cL_law 1807 = .ok (.iaload, 1) := by decide +kernel
theorem dL_law_1808 : decode cL_law 1808 = .ok (.invokevirtual 203, 3) := by decide +kernel
theorem dL_law_1811 : decode cL_law 1811 = .ok (.if_icmp .eq 201, 3) := by decide +kernel
theorem dL_law_1814 : decode cL_law 1814 = .ok (.iconst 0, 1) := by decide +kernel
theorem dL_law_1815 : decode cL_law 1815 = .ok (.ireturn, 1) := by decide +kernel
theorem dL_law_1816 : decode cL_law 1816 = .ok (.aload_n 1, 1) := by decide +kernel
theorem dL_law_1817 : decode cL_law 1817 = .ok (.aload_n 0, 1) := by decide +kernel
theorem dL_law_1818 : decode cL_law 1818 = .ok (.iload_n 3, 1) := by decide +kernel
theorem dL_law_1819 : decode cL_law 1819 = .ok (.iconst 1, 1) := by decide +kernel
theorem dL_law_1820 : decode cL_law 1820 = .ok (.iadd, 1) := by decide +kernel
theorem dL_law_1821 : decode cL_law 1821 = .ok (.iaload, 1) := by decide +kernel
theorem dL_law_1822 : decode cL_law 1822 = .ok (.aload_n 0, 1) := by decide +kernel
theorem dL_law_1823 : decode cL_law 1823 = .ok (.iload_n 3, 1) := by decide +kernel
theorem dL_law_1824 : decode cL_law 1824 = .ok (.iconst 2, 1) := by decide +kernel
theorem dL_law_1825 : decode cL_law 1825 = .ok (.iadd, 1) := by decide +kernel
theorem dL_law_1826 : decode cL_law 1826 = .ok (.iaload, 1) := by decide +kernel
theorem dL_law_1827 : decode cL_law 1827 = .ok (.aload_n 0, 1) := by decide +kernel
theorem dL_law_1828 : decode cL_law 1828 = .ok (.iload_n 3, 1) := by decide +kernel
theorem dL_law_1829 : decode cL_law 1829 = .ok (.iconst 3, 1) := by decide +kernel
theorem dL_law_1830 : decode cL_law 1830 = .ok (.iadd, 1) := by decide +kernel
theorem dL_law_1831 : decode cL_law 1831 = .ok (.iaload, 1) := by decide +kernel
theorem dL_law_1832 : decode cL_law 1832 = .ok (.invokevirtual 204, 3) := by decide +kernel
theorem dL_law_1835 : decode cL_law 1835 = .ok (.aload_n 2, 1) := by decide +kernel
theorem dL_law_1836 : decode cL_law 1836 = .ok (.aload_n 0, 1) := by decide +kernel
theorem dL_law_1837 : decode cL_law 1837 = .ok (.iload_n 3, 1) := by decide +kernel
theorem dL_law_1838 : decode cL_law 1838 = .ok (.iconst 1, 1) := by decide +kernel
theorem dL_law_1839 : decode cL_law 1839 = .ok (.iadd, 1) := by decide +kernel
theorem dL_law_1840 : decode cL_law 1840 = .ok (.iaload, 1) := by decide +kernel
theorem dL_law_1841 : decode cL_law 1841 = .ok (.aload_n 0, 1) := by decide +kernel
theorem dL_law_1842 : decode cL_law 1842 = .ok (.iload_n 3, 1) := by decide +kernel
theorem dL_law_1843 : decode cL_law 1843 = .ok (.iconst 2, 1) := by decide +kernel
theorem dL_law_1844 : decode cL_law 1844 = .ok (.iadd, 1) := by decide +kernel
theorem dL_law_1845 : decode cL_law 1845 = .ok (.iaload, 1) := by decide +kernel
theorem dL_law_1846 : decode cL_law 1846 = .ok (.aload_n 0, 1) := by decide +kernel
theorem dL_law_1847 : decode cL_law 1847 = .ok (.iload_n 3, 1) := by decide +kernel
theorem dL_law_1848 : decode cL_law 1848 = .ok (.iconst 3, 1) := by decide +kernel
theorem dL_law_1849 : decode cL_law 1849 = .ok (.iadd, 1) := by decide +kernel
theorem dL_law_1850 : decode cL_law 1850 = .ok (.iaload, 1) := by decide +kernel
theorem dL_law_1851 : decode cL_law 1851 = .ok (.invokevirtual 207, 3) := by decide +kernel
theorem dL_law_1854 : decode cL_law 1854 = .ok (.if_icmp .eq 158, 3) := by decide +kernel
theorem dL_law_1857 : decode cL_law 1857 = .ok (.iconst 0, 1) := by decide +kernel
theorem dL_law_1858 : decode cL_law 1858 = .ok (.ireturn, 1) := by decide +kernel
theorem dL_law_1859 : decode cL_law 1859 = .ok (.aload_n 1, 1) := by decide +kernel
theorem dL_law_1860 : decode cL_law 1860 = .ok (.aload_n 0, 1) := by decide +kernel
theorem dL_law_1861 : decode cL_law 1861 = .ok (.iload_n 3, 1) := by decide +kernel
theorem dL_law_1862 : decode cL_law 1862 = .ok (.iconst 1, 1) := by decide +kernel
theorem dL_law_1863 : decode cL_law 1863 = .ok (.iadd, 1) := by decide +kernel
theorem dL_law_1864 : decode cL_law 1864 = .ok (.iaload, 1) := by decide +kernel
theorem dL_law_1865 : decode cL_law 1865 = .ok (.aload_n 0, 1) := by decide +kernel
theorem dL_law_1866 : decode cL_law 1866 = .ok (.iload_n 3, 1) := by decide +kernel
theorem dL_law_1867 : decode cL_law 1867 = .ok (.iconst 2, 1) := by decide +kernel
theorem dL_law_1868 : decode cL_law 1868 = .ok (.iadd, 1) := by decide +kernel
theorem dL_law_1869 : decode cL_law 1869 = .ok (.iaload, 1) := by decide +kernel
theorem dL_law_1870 : decode cL_law 1870 = .ok (.aload_n 0, 1) := by decide +kernel
theorem dL_law_1871 : decode cL_law 1871 = .ok (.iload_n 3, 1) := by decide +kernel
theorem dL_law_1872 : decode cL_law 1872 = .ok (.iconst 3, 1) := by decide +kernel
theorem dL_law_1873 : decode cL_law 1873 = .ok (.iadd, 1) := by decide +kernel
theorem dL_law_1874 : decode cL_law 1874 = .ok (.iaload, 1) := by decide +kernel
theorem dL_law_1875 : decode cL_law 1875 = .ok (.aload_n 0, 1) := by decide +kernel
theorem dL_law_1876 : decode cL_law 1876 = .ok (.iload_n 3, 1) := by decide +kernel
theorem dL_law_1877 : decode cL_law 1877 = .ok (.iconst 4, 1) := by decide +kernel
theorem dL_law_1878 : decode cL_law 1878 = .ok (.iadd, 1) := by decide +kernel
theorem dL_law_1879 : decode cL_law 1879 = .ok (.iaload, 1) := by decide +kernel
theorem dL_law_1880 : decode cL_law 1880 = .ok (.aload_n 0, 1) := by decide +kernel
theorem dL_law_1881 : decode cL_law 1881 = .ok (.iload_n 3, 1) := by decide +kernel
theorem dL_law_1882 : decode cL_law 1882 = .ok (.iconst 5, 1) := by decide +kernel
theorem dL_law_1883 : decode cL_law 1883 = .ok (.iadd, 1) := by decide +kernel
theorem dL_law_1884 : decode cL_law 1884 = .ok (.iaload, 1) := by decide +kernel
theorem dL_law_1885 : decode cL_law 1885 = .ok (.invokevirtual 208, 3) := by decide +kernel
theorem dL_law_1888 : decode cL_law 1888 = .ok (.aload_n 2, 1) := by decide +kernel
theorem dL_law_1889 : decode cL_law 1889 = .ok (.aload_n 0, 1) := by decide +kernel
theorem dL_law_1890 : decode cL_law 1890 = .ok (.iload_n 3, 1) := by decide +kernel
theorem dL_law_1891 : decode cL_law 1891 = .ok (.iconst 1, 1) := by decide +kernel
theorem dL_law_1892 : decode cL_law 1892 = .ok (.iadd, 1) := by decide +kernel
theorem dL_law_1893 : decode cL_law 1893 = .ok (.iaload, 1) := by decide +kernel
theorem dL_law_1894 : decode cL_law 1894 = .ok (.aload_n 0, 1) := by decide +kernel
theorem dL_law_1895 : decode cL_law 1895 = .ok (.iload_n 3, 1) := by decide +kernel
theorem dL_law_1896 : decode cL_law 1896 = .ok (.iconst 2, 1) := by decide +kernel
theorem dL_law_1897 : decode cL_law 1897 = .ok (.iadd, 1) := by decide +kernel
theorem dL_law_1898 : decode cL_law 1898 = .ok (.iaload, 1) := by decide +kernel
theorem dL_law_1899 : decode cL_law 1899 = .ok (.aload_n 0, 1) := by decide +kernel
theorem dL_law_1900 : decode cL_law 1900 = .ok (.iload_n 3, 1) := by decide +kernel
theorem dL_law_1901 : decode cL_law 1901 = .ok (.iconst 3, 1) := by decide +kernel
theorem dL_law_1902 : decode cL_law 1902 = .ok (.iadd, 1) := by decide +kernel
theorem dL_law_1903 : decode cL_law 1903 = .ok (.iaload, 1) := by decide +kernel
theorem dL_law_1904 : decode cL_law 1904 = .ok (.aload_n 0, 1) := by decide +kernel
theorem dL_law_1905 : decode cL_law 1905 = .ok (.iload_n 3, 1) := by decide +kernel
theorem dL_law_1906 : decode cL_law 1906 = .ok (.iconst 4, 1) := by decide +kernel
theorem dL_law_1907 : decode cL_law 1907 = .ok (.iadd, 1) := by decide +kernel
theorem dL_law_1908 : decode cL_law 1908 = .ok (.iaload, 1) := by decide +kernel
theorem dL_law_1909 : decode cL_law 1909 = .ok (.aload_n 0, 1) := by decide +kernel
theorem dL_law_1910 : decode cL_law 1910 = .ok (.iload_n 3, 1) := by decide +kernel
theorem dL_law_1911 : decode cL_law 1911 = .ok (.iconst 5, 1) := by decide +kernel
theorem dL_law_1912 : decode cL_law 1912 = .ok (.iadd, 1) := by decide +kernel
theorem dL_law_1913 : decode cL_law 1913 = .ok (.iaload, 1) := by decide +kernel
theorem dL_law_1914 : decode cL_law 1914 = .ok (.invokevirtual 211, 3) := by decide +kernel
theorem dL_law_1917 : decode cL_law 1917 = .ok (.if_icmp .eq 95, 3) := by decide +kernel
theorem dL_law_1920 : decode cL_law 1920 = .ok (.iconst 0, 1) := by decide +kernel
theorem dL_law_1921 : decode cL_law 1921 = .ok (.ireturn, 1) := by decide +kernel
theorem dL_law_1922 : decode cL_law 1922 = .ok (.aload_n 1, 1) := by decide +kernel
theorem dL_law_1923 : decode cL_law 1923 = .ok (.aload_n 0, 1) := by decide +kernel
theorem dL_law_1924 : decode cL_law 1924 = .ok (.iload_n 3, 1) := by decide +kernel
theorem dL_law_1925 : decode cL_law 1925 = .ok (.iconst 1, 1) := by decide +kernel
theorem dL_law_1926 : decode cL_law 1926 = .ok (.iadd, 1) := by decide +kernel
theorem dL_law_1927 : decode cL_law 1927 = .ok (.iaload, 1) := by decide +kernel
theorem dL_law_1928 : decode cL_law 1928 = .ok (.aload_n 0, 1) := by decide +kernel
theorem dL_law_1929 : decode cL_law 1929 = .ok (.iload_n 3, 1) := by decide +kernel
theorem dL_law_1930 : decode cL_law 1930 = .ok (.iconst 2, 1) := by decide +kernel
theorem dL_law_1931 : decode cL_law 1931 = .ok (.iadd, 1) := by decide +kernel
theorem dL_law_1932 : decode cL_law 1932 = .ok (.iaload, 1) := by decide +kernel
theorem dL_law_1933 : decode cL_law 1933 = .ok (.aload_n 0, 1) := by decide +kernel
theorem dL_law_1934 : decode cL_law 1934 = .ok (.iload_n 3, 1) := by decide +kernel
theorem dL_law_1935 : decode cL_law 1935 = .ok (.iconst 3, 1) := by decide +kernel
theorem dL_law_1936 : decode cL_law 1936 = .ok (.iadd, 1) := by decide +kernel
theorem dL_law_1937 : decode cL_law 1937 = .ok (.iaload, 1) := by decide +kernel
theorem dL_law_1938 : decode cL_law 1938 = .ok (.aload_n 0, 1) := by decide +kernel
theorem dL_law_1939 : decode cL_law 1939 = .ok (.iload_n 3, 1) := by decide +kernel
theorem dL_law_1940 : decode cL_law 1940 = .ok (.iconst 4, 1) := by decide +kernel
theorem dL_law_1941 : decode cL_law 1941 = .ok (.iadd, 1) := by decide +kernel
theorem dL_law_1942 : decode cL_law 1942 = .ok (.iaload, 1) := by decide +kernel
theorem dL_law_1943 : decode cL_law 1943 = .ok (.invokevirtual 212, 3) := by decide +kernel
theorem dL_law_1946 : decode cL_law 1946 = .ok (.aload_n 2, 1) := by decide +kernel
theorem dL_law_1947 : decode cL_law 1947 = .ok (.aload_n 0, 1) := by decide +kernel
theorem dL_law_1948 : decode cL_law 1948 = .ok (.iload_n 3, 1) := by decide +kernel
theorem dL_law_1949 : decode cL_law 1949 = .ok (.iconst 1, 1) := by decide +kernel
theorem dL_law_1950 : decode cL_law 1950 = .ok (.iadd, 1) := by decide +kernel
theorem dL_law_1951 : decode cL_law 1951 = .ok (.iaload, 1) := by decide +kernel
theorem dL_law_1952 : decode cL_law 1952 = .ok (.aload_n 0, 1) := by decide +kernel
theorem dL_law_1953 : decode cL_law 1953 = .ok (.iload_n 3, 1) := by decide +kernel
theorem dL_law_1954 : decode cL_law 1954 = .ok (.iconst 2, 1) := by decide +kernel
theorem dL_law_1955 : decode cL_law 1955 = .ok (.iadd, 1) := by decide +kernel
theorem dL_law_1956 : decode cL_law 1956 = .ok (.iaload, 1) := by decide +kernel
theorem dL_law_1957 : decode cL_law 1957 = .ok (.aload_n 0, 1) := by decide +kernel
theorem dL_law_1958 : decode cL_law 1958 = .ok (.iload_n 3, 1) := by decide +kernel
theorem dL_law_1959 : decode cL_law 1959 = .ok (.iconst 3, 1) := by decide +kernel
theorem dL_law_1960 : decode cL_law 1960 = .ok (.iadd, 1) := by decide +kernel
theorem dL_law_1961 : decode cL_law 1961 = .ok (.iaload, 1) := by decide +kernel
theorem dL_law_1962 : decode cL_law 1962 = .ok (.aload_n 0, 1) := by decide +kernel
theorem dL_law_1963 : decode cL_law 1963 = .ok (.iload_n 3, 1) := by decide +kernel
theorem dL_law_1964 : decode cL_law 1964 = .ok (.iconst 4, 1) := by decide +kernel
theorem dL_law_1965 : decode cL_law 1965 = .ok (.iadd, 1) := by decide +kernel
theorem dL_law_1966 : decode cL_law 1966 = .ok (.iaload, 1) := by decide +kernel
theorem dL_law_1967 : decode cL_law 1967 = .ok (.invokevirtual 215, 3) := by decide +kernel
theorem dL_law_1970 : decode cL_law 1970 = .ok (.if_icmp .eq 42, 3) := by decide +kernel
theorem dL_law_1973 : decode cL_law 1973 = .ok (.iconst 0, 1) := by decide +kernel
theorem dL_law_1974 : decode cL_law 1974 = .ok (.ireturn, 1) := by decide +kernel
theorem dL_law_1975 : decode cL_law 1975 = .ok (.aload_n 1, 1) := by decide +kernel
theorem dL_law_1976 : decode cL_law 1976 = .ok (.aload_n 0, 1) := by decide +kernel
theorem dL_law_1977 : decode cL_law 1977 = .ok (.iload_n 3, 1) := by decide +kernel
theorem dL_law_1978 : decode cL_law 1978 = .ok (.iconst 1, 1) := by decide +kernel
theorem dL_law_1979 : decode cL_law 1979 = .ok (.iadd, 1) := by decide +kernel
theorem dL_law_1980 : decode cL_law 1980 = .ok (.iaload, 1) := by decide +kernel
theorem dL_law_1981 : decode cL_law 1981 = .ok (.invokevirtual 216, 3) := by decide +kernel
theorem dL_law_1984 : decode cL_law 1984 = .ok (.aload_n 2, 1) := by decide +kernel
theorem dL_law_1985 : decode cL_law 1985 = .ok (.aload_n 0, 1) := by decide +kernel
theorem dL_law_1986 : decode cL_law 1986 = .ok (.iload_n 3, 1) := by decide +kernel
theorem dL_law_1987 : decode cL_law 1987 = .ok (.iconst 1, 1) := by decide +kernel
theorem dL_law_1988 : decode cL_law 1988 = .ok (.iadd, 1) := by decide +kernel
theorem dL_law_1989 : decode cL_law 1989 = .ok (.iaload, 1) := by decide +kernel
theorem dL_law_1990 : decode cL_law 1990 = .ok (.invokevirtual 219, 3) := by decide +kernel
theorem dL_law_1993 : decode cL_law 1993 = .ok (.if_icmp .eq 19, 3) := by decide +kernel
theorem dL_law_1996 : decode cL_law 1996 = .ok (.iconst 0, 1) := by decide +kernel
theorem dL_law_1997 : decode cL_law 1997 = .ok (.ireturn, 1) := by decide +kernel
theorem dL_law_1998 : decode cL_law 1998 = .ok (.aload_n 1, 1) := by decide +kernel
theorem dL_law_1999 : decode cL_law 1999 = .ok (.invokevirtual 220, 3) := by decide +kernel
theorem dL_law_2002 : decode cL_law 2002 = .ok (.aload_n 2, 1) := by decide +kernel
theorem dL_law_2003 : decode cL_law 2003 = .ok (.invokevirtual 224, 3) := by decide +kernel
theorem dL_law_2006 : decode cL_law 2006 = .ok (.lcmp, 1) := by decide +kernel
theorem dL_law_2007 : decode cL_law 2007 = .ok (.ifCond .eq 5, 3) := by decide +kernel
theorem dL_law_2010 : decode cL_law 2010 = .ok (.iconst 0, 1) := by decide +kernel
theorem dL_law_2011 : decode cL_law 2011 = .ok (.ireturn, 1) := by decide +kernel
theorem dL_law_2012 : decode cL_law 2012 = .ok (.iinc 3 6, 3) := by decide +kernel
theorem dL_law_2015 : decode cL_law 2015 = .ok (.goto (-1997), 3) := by decide +kernel
theorem dL_law_2018 : decode cL_law 2018 = .ok (.iconst 1, 1) := by decide +kernel
theorem dL_law_2019 : decode cL_law 2019 = .ok (.ireturn, 1) := by decide +kernel
end
section
def isNest (w : Cond) : Bool := match w with
  | .methodLinkNest .. => true
  | _ => false
def lw_good : List Cond := lw_tbl.filter goodWord
/-- the words that the walks use: all that a call hands on, and the nest's links -/
def lw_use : List Cond := lw_tbl.filter (fun w => goodWord w || isNest w)
theorem use_of {k : Nat} {w : Cond} (h : lw_tbl[k]? = some w) (hg : (goodWord w || isNest w) = true) : w ∈ lw_use := List.mem_filter.mpr ⟨List.mem_of_getElem? h, hg⟩
theorem use_ws {ws : List Cond} (h : ∀ w ∈ ws, w ∈ lw_tbl) (hg : ws.all (fun w => goodWord w || isNest w) = true) : ∀ w ∈ ws, w ∈ lw_use := fun w hw => List.mem_filter.mpr ⟨h w hw, List.all_eq_true.mp hg w hw⟩
theorem use_good {w : Cond} (h : w ∈ lw_good) : w ∈ lw_use := by
  obtain ⟨a, b⟩ := List.mem_filter.mp h
  exact List.mem_filter.mpr ⟨a, by rw [b]; rfl⟩
/-! the places of the two objects' cells, and what each holds: (class number, fields: a place, or none for an int), or (kind 0 int 1 long 2 boolean 3 rows of ints, length, first row) -/
abbrev xSt : Type := (Nat → Nat → Int32) × (Nat → Nat → Int64)
abbrev xSh : Type := (Nat × List (Option Nat)) ⊕ (Nat × Nat × Nat)
abbrev xG : Type := va_G × (Nat → Nat) × ClassId × ClassId × ClassId × ClassId
abbrev xM : Type := MethodName × ByteArray × Nat × Option FieldType
def xshapes : List xSh := [.inl (6, [some 1, some 2, some 3, some 4, some 5, some 6]), .inl (4, [some 8, some 9, some 10, none]), .inl (0, [some 11, some 12, some 13, some 14, none]), .inl (3, [some 15, some 16, some 17, some 18, none, none, none]), .inl (1, [some 19, some 20, some 21, none]), .inl (2, [some 22, some 23, some 24, some 25, some 26, none]), .inl (5, [some 27, none, none, none, none, none]), .inl (7, [none, some 28, some 29, some 30, some 31, none, none, some 32, some 33, some 34, none, some 35, some 36, some 37, none, some 38, some 39, some 40, some 41, none, none, none, some 42, none, none, none, some 43, some 44, some 45, some 46, some 47, none]), .inr (3, 4, 48), .inr (0, 4, 0), .inr (0, 4, 0), .inr (3, 6, 52), .inr (0, 6, 0), .inr (0, 6, 0), .inr (0, 6, 0), .inr (3, 8, 58), .inr (1, 8, 0), .inr (1, 3, 0), .inr (0, 3, 0), .inr (3, 8, 66), .inr (0, 8, 0), .inr (0, 8, 0), .inr (3, 8, 74), .inr (0, 8, 0), .inr (0, 8, 0), .inr (0, 31, 0), .inr (0, 31, 0), .inr (0, 60, 0), .inr (0, 126, 0), .inr (0, 6, 0), .inr (2, 6, 0), .inr (0, 6, 0), .inr (0, 48, 0), .inr (0, 3, 0), .inr (2, 256, 0), .inr (0, 8, 0), .inr (0, 64, 0), .inr (0, 8, 0), .inr (0, 8, 0), .inr (0, 8, 0), .inr (0, 240, 0), .inr (0, 961, 0), .inr (0, 60, 0), .inr (2, 4, 0), .inr (0, 4, 0), .inr (0, 4, 0), .inr (0, 240, 0), .inr (0, 60, 0), .inr (0, 60, 0), .inr (0, 60, 0), .inr (0, 60, 0), .inr (0, 60, 0), .inr (0, 41, 0), .inr (0, 41, 0), .inr (0, 41, 0), .inr (0, 41, 0), .inr (0, 41, 0), .inr (0, 41, 0), .inr (0, 6, 0), .inr (0, 6, 0), .inr (0, 6, 0), .inr (0, 6, 0), .inr (0, 6, 0), .inr (0, 6, 0), .inr (0, 6, 0), .inr (0, 6, 0), .inr (0, 8, 0), .inr (0, 8, 0), .inr (0, 8, 0), .inr (0, 8, 0), .inr (0, 8, 0), .inr (0, 8, 0), .inr (0, 8, 0), .inr (0, 8, 0), .inr (0, 30, 0), .inr (0, 30, 0), .inr (0, 30, 0), .inr (0, 30, 0), .inr (0, 30, 0), .inr (0, 30, 0), .inr (0, 30, 0), .inr (0, 30, 0)]

def xv (G : xG) (v : Value) : Value := match v with
  | .ref p => .ref (G.2.1 p)
  | w => w
theorem xv_cat (G : xG) (v : Value) : (xv G v).category = v.category := by cases v <;> rfl
def xvL (G : xG) (L : List (Nat × Value)) : List (Nat × Value) := L.map (fun q => (q.1, xv G q.2))
def xfl (G : xG) (f : Nat → Int32) : Nat → List (Option Nat) → List Value
  | _, [] => []
  | k, o :: os => (match o with
    | some r => Value.ref (G.2.1 r)
    | none => Value.int (f k)) :: xfl G f (k + 1) os
theorem xfl_get (G : xG) (f : Nat → Int32) : ∀ (fs : List (Option Nat)) (k j : Nat), (xfl G f k fs)[j]? = (fs[j]?).map (fun o => match o with
    | some r => Value.ref (G.2.1 r)
    | none => Value.int (f (k + j)))
  | [], _, _ => by simp [xfl]
  | o :: os, k, 0 => by simp [xfl]
  | o :: os, k, j + 1 => by
    have h := xfl_get G f os (k + 1) j
    rw [show k + 1 + j = k + (j + 1) by omega] at h
    simpa [xfl] using h
theorem xfl_len (G : xG) (f : Nat → Int32) : ∀ (fs : List (Option Nat)) (k : Nat), (xfl G f k fs).length = fs.length
  | [], _ => rfl
  | _ :: os, k => by simp [xfl, xfl_len G f os (k + 1)]
def xcell (G : xG) (st : xSt) (p : Nat) (sh : xSh) : va_E := match sh with
  | .inl (ci, fs) => .inr (ci, xfl G (st.1 p) 0 fs)
  | .inr (0, n, _) => .inl (G.2.2.1, n, .inl (st.1 p))
  | .inr (1, n, _) => .inl (G.2.2.2.1, n, .inr (.inl (st.2 p)))
  | .inr (2, n, _) => .inl (G.2.2.2.2.1, n, .inl (st.1 p))
  | .inr (_, n, r0) => .inl (G.2.2.2.2.2, n, .inr (.inr (.inr (.inr (fun i => if i < n then some (G.2.1 (r0 + i)) else none)))))
theorem xcell_congr (G : xG) {st st' : xSt} {p : Nat} (sh : xSh) (h1 : st'.1 p = st.1 p) (h2 : st'.2 p = st.2 p) : xcell G st' p sh = xcell G st p sh := by
  unfold xcell
  rw [h1, h2]
def xwl (G : xG) (st : xSt) : Nat → List xSh → va_W
  | _, [] => []
  | k, sh :: r => (G.2.1 k, xcell G st k sh) :: xwl G st (k + 1) r
theorem xwl_get (G : xG) (st : xSt) : ∀ (l : List xSh) (k j : Nat), (xwl G st k l)[j]? = (l[j]?).map (fun sh => (G.2.1 (k + j), xcell G st (k + j) sh))
  | [], _, _ => by simp [xwl]
  | o :: os, k, 0 => by simp [xwl]
  | o :: os, k, j + 1 => by
    have h := xwl_get G st os (k + 1) j
    rw [show k + 1 + j = k + (j + 1) by omega] at h
    simpa [xwl] using h
def xw (G : xG) (st : xSt) : va_W := xwl G st 0 xshapes
theorem xw_all (G : xG) (st : xSt) (j : Nat) : (xw G st)[j]? = (xshapes[j]?).map (fun sh => (G.2.1 j, xcell G st j sh)) := by
  have h := xwl_get G st xshapes 0 j
  rw [Nat.zero_add] at h
  exact h
theorem xw_get {G : xG} {st : xSt} {p : Nat} {sh : xSh} (h : xshapes[p]? = some sh) : (xw G st)[p]? = some (G.2.1 p, xcell G st p sh) := by rw [xw_all, h]; rfl
theorem xw_set {G : xG} {st st' : xSt} {p : Nat} {sh : xSh} (h : xshapes[p]? = some sh) (ho : ∀ q, q ≠ p → st'.1 q = st.1 q ∧ st'.2 q = st.2 q) : (xw G st).set p (G.2.1 p, xcell G st' p sh) = xw G st' := by
  apply List.ext_getElem?
  intro j
  rw [List.getElem?_set]
  by_cases e : p = j
  · subst e
    have hl : p < (xw G st).length := (List.getElem?_eq_some_iff.mp (xw_get (G := G) (st := st) h)).1
    rw [if_pos rfl, if_pos hl, xw_get h]
  · rw [if_neg e, xw_all, xw_all]
    cases xshapes[j]? with
    | none => rfl
    | some s2 =>
      have := ho j (fun q => e q.symm)
      simp only [Option.map_some, xcell_congr G s2 this.1 this.2]
theorem xw_D {G : xG} {A : Nat → Prop} {st : xSt} (st' : xSt) (h : va_D A (xw G st)) : va_D A (xw G st') := by
  have key : ∀ (i : Nat) (q : Nat × va_E), (xw G st')[i]? = some q → ∃ q2, (xw G st)[i]? = some q2 ∧ q2.1 = q.1 := by
    intro i q hq
    rw [xw_all] at hq
    cases hs : xshapes[i]? with
    | none => rw [hs] at hq; cases hq
    | some sh => rw [hs] at hq; cases hq; exact ⟨_, xw_get hs, rfl⟩
  refine ⟨fun i j p q hi hj e => ?_, fun k q hk => ?_⟩
  · obtain ⟨p2, a1, a2⟩ := key i p hi
    obtain ⟨q2, b1, b2⟩ := key j q hj
    exact h.1 i j p2 q2 a1 b1 (by rw [a2, b2, e])
  · obtain ⟨q2, a1, a2⟩ := key k q hk
    rw [← a2]
    exact h.2 k q2 a1
def xup (st : xSt) (p k : Nat) (v : Int32) : xSt := (fun q => if q = p then upd (st.1 p) k v else st.1 q, st.2)
def xupL (st : xSt) (p k : Nat) (v : Int64) : xSt := (st.1, fun q => if q = p then vp_updL (st.2 p) k v else st.2 q)
theorem xup_at (st : xSt) (p k : Nat) (v : Int32) : (xup st p k v).1 p = upd (st.1 p) k v := if_pos rfl
theorem xupL_at (st : xSt) (p k : Nat) (v : Int64) : (xupL st p k v).2 p = vp_updL (st.2 p) k v := if_pos rfl
theorem xup_ne (st : xSt) (p k : Nat) (v : Int32) : ∀ q, q ≠ p → (xup st p k v).1 q = st.1 q ∧ (xup st p k v).2 q = st.2 q := fun _ h => ⟨if_neg h, rfl⟩
theorem xupL_ne (st : xSt) (p k : Nat) (v : Int64) : ∀ q, q ≠ p → (xupL st p k v).1 q = st.1 q ∧ (xupL st p k v).2 q = st.2 q := fun _ h => ⟨rfl, if_neg h⟩
theorem xfl_set (G : xG) (f : Nat → Int32) (v : Int32) : ∀ (fs : List (Option Nat)) (k j : Nat), fs[j]? = some none → (xfl G f k fs).set j (.int v) = xfl G (upd f (k + j) v) k fs := by
  intro fs k j hj
  apply List.ext_getElem?
  intro i
  have hlen : j < (xfl G f k fs).length := by rw [xfl_len]; exact (List.getElem?_eq_some_iff.mp hj).1
  rw [List.getElem?_set, xfl_get, xfl_get]
  by_cases e : j = i
  · subst e
    rw [if_pos rfl, if_pos hlen, hj]
    simp [upd]
  · rw [if_neg e]
    cases fs[i]? with
    | none => rfl
    | some o =>
      cases o with
      | none =>
        have e2 : ¬ i = j := fun q => e q.symm
        simp [upd, e2]
      | some r => rfl
abbrev xtys (G : xG) : List (ClassId × FieldType) := [(G.2.2.1, .int), (G.2.2.2.1, .long), (G.2.2.2.2.1, .boolean), (G.2.2.2.2.2, .array .int)]
abbrev xK : Type := Program × Launch × Env × Room × State × MethodId × Array Value × List Frame × Method × Code × Nat × Nat × (State → Prop) × (Nat → Prop) × xG
/-- the method walked in κ stands at pc with locals L and stack S in the world st: it comes to what κ wants -/
def X (κ : xK) (pc : Nat) (L : List (Nat × Value)) (S : List Value) (st : xSt) : Prop := match κ with
  | (p, l, e, R, s, m, args, below, meth, c, cells, slots, QQ, A, G) => ∀ (H : Heap) (locs : List Loc) (ls : Array Slot), va_P G.1 vwCl (xw G st) H → va_S A s.heap H locs → lv_has ls c.maxLocals (xvL G L) → W p l e R s m args below meth c H locs cells slots QQ (F0 m pc ls (S.map (xv G)))
/-- what is known of κ: the method M, room for d more frames, the tables -/
def Cx (κ : xK) (M : xM) (d : Nat) : Prop := match κ with
  | (p, _, _, R, s, m, args, _, meth, c, cells, slots, _, A, G) => p.tables.exec = Jvm.exec ∧ c.code = M.2.1 ∧ c.maxLocals = M.2.2.1 ∧ meth.sig.returnType = M.2.2.2 ∧ meth.locks = false ∧ s.vm.findClass M.1.cls = some m.cls ∧ (∀ w ∈ lw_use, w.before args s = true) ∧ (d ≤ R.frames ∧ 64 * d ≤ R.locals ∧ cells ≤ R.cells ∧ slots ≤ R.slots) ∧ va_K G.1 vwCl (xtys G) s ∧ va_D A (xw G (fun _ _ => 0, fun _ _ => 0))
def xA (G : xG) : Nat → Prop := fun q => ∃ p, p < xshapes.length ∧ q = G.2.1 p
def xQ (G : xG) (Q : Option Value → xSt → Prop) : Array Value → State → Outcome → State → Prop := fun _ st o t => (∃ (r : Option Value) (st' : xSt), o = .returned (r.map (xv G)) ∧ Q r st' ∧ va_P G.1 vwCl (xw G st') t.heap) ∧ va_F (xA G) st t
/-- κ wants of the method's own end: Q -/
def xR (κ : xK) (Q : Option Value → xSt → Prop) : Prop := match κ with
  | (_, _, _, _, s, _, args, below, _, _, cells, slots, QQ, A, G) => QQ = MQ below (xQ G Q) args s cells slots (xA G) ∧ A = xA G

theorem X_iadd {κ : xK} {M : xM} {d pc : Nat} {L : List (Nat × Value)} {S : List Value} {st : xSt} {x y : Int32} (C : Cx κ M d) (hd : decode M.2.1 pc = .ok (.iadd, 1)) (k : X κ (pc + 1) L (.int (x + y) :: S) st) : X κ pc L (.int y :: .int x :: S) st := by
  obtain ⟨pg, l, e, R, s, m, args, below, meth, c, cells, slots, QQ, A, G⟩ := κ
  obtain ⟨hx, hb, hml, hr, hlk, hown, hts, hR, hK, hD⟩ := C
  intro H locs ls hP hS hl
  exact lv_iadd hx hb hd (k H locs ls hP hS hl)

theorem X_isub {κ : xK} {M : xM} {d pc : Nat} {L : List (Nat × Value)} {S : List Value} {st : xSt} {x y : Int32} (C : Cx κ M d) (hd : decode M.2.1 pc = .ok (.isub, 1)) (k : X κ (pc + 1) L (.int (x - y) :: S) st) : X κ pc L (.int y :: .int x :: S) st := by
  obtain ⟨pg, l, e, R, s, m, args, below, meth, c, cells, slots, QQ, A, G⟩ := κ
  obtain ⟨hx, hb, hml, hr, hlk, hown, hts, hR, hK, hD⟩ := C
  intro H locs ls hP hS hl
  exact lv_isub hx hb hd (k H locs ls hP hS hl)

theorem X_imul {κ : xK} {M : xM} {d pc : Nat} {L : List (Nat × Value)} {S : List Value} {st : xSt} {x y : Int32} (C : Cx κ M d) (hd : decode M.2.1 pc = .ok (.imul, 1)) (k : X κ (pc + 1) L (.int (x * y) :: S) st) : X κ pc L (.int y :: .int x :: S) st := by
  obtain ⟨pg, l, e, R, s, m, args, below, meth, c, cells, slots, QQ, A, G⟩ := κ
  obtain ⟨hx, hb, hml, hr, hlk, hown, hts, hR, hK, hD⟩ := C
  intro H locs ls hP hS hl
  exact lv_imul hx hb hd (k H locs ls hP hS hl)

theorem X_iand {κ : xK} {M : xM} {d pc : Nat} {L : List (Nat × Value)} {S : List Value} {st : xSt} {x y : Int32} (C : Cx κ M d) (hd : decode M.2.1 pc = .ok (.iand, 1)) (k : X κ (pc + 1) L (.int (x &&& y) :: S) st) : X κ pc L (.int y :: .int x :: S) st := by
  obtain ⟨pg, l, e, R, s, m, args, below, meth, c, cells, slots, QQ, A, G⟩ := κ
  obtain ⟨hx, hb, hml, hr, hlk, hown, hts, hR, hK, hD⟩ := C
  intro H locs ls hP hS hl
  exact lv_iand hx hb hd (k H locs ls hP hS hl)

theorem X_ior {κ : xK} {M : xM} {d pc : Nat} {L : List (Nat × Value)} {S : List Value} {st : xSt} {x y : Int32} (C : Cx κ M d) (hd : decode M.2.1 pc = .ok (.ior, 1)) (k : X κ (pc + 1) L (.int (x ||| y) :: S) st) : X κ pc L (.int y :: .int x :: S) st := by
  obtain ⟨pg, l, e, R, s, m, args, below, meth, c, cells, slots, QQ, A, G⟩ := κ
  obtain ⟨hx, hb, hml, hr, hlk, hown, hts, hR, hK, hD⟩ := C
  intro H locs ls hP hS hl
  exact lv_ior hx hb hd (k H locs ls hP hS hl)

theorem X_ixor {κ : xK} {M : xM} {d pc : Nat} {L : List (Nat × Value)} {S : List Value} {st : xSt} {x y : Int32} (C : Cx κ M d) (hd : decode M.2.1 pc = .ok (.ixor, 1)) (k : X κ (pc + 1) L (.int (x ^^^ y) :: S) st) : X κ pc L (.int y :: .int x :: S) st := by
  obtain ⟨pg, l, e, R, s, m, args, below, meth, c, cells, slots, QQ, A, G⟩ := κ
  obtain ⟨hx, hb, hml, hr, hlk, hown, hts, hR, hK, hD⟩ := C
  intro H locs ls hP hS hl
  exact lv_ixor hx hb hd (k H locs ls hP hS hl)

theorem X_ishl {κ : xK} {M : xM} {d pc : Nat} {L : List (Nat × Value)} {S : List Value} {st : xSt} {x y : Int32} (C : Cx κ M d) (hd : decode M.2.1 pc = .ok (.ishl, 1)) (k : X κ (pc + 1) L (.int (x <<< (y &&& 31)) :: S) st) : X κ pc L (.int y :: .int x :: S) st := by
  obtain ⟨pg, l, e, R, s, m, args, below, meth, c, cells, slots, QQ, A, G⟩ := κ
  obtain ⟨hx, hb, hml, hr, hlk, hown, hts, hR, hK, hD⟩ := C
  intro H locs ls hP hS hl
  exact lv_ishl hx hb hd (k H locs ls hP hS hl)

theorem X_ishr {κ : xK} {M : xM} {d pc : Nat} {L : List (Nat × Value)} {S : List Value} {st : xSt} {x y : Int32} (C : Cx κ M d) (hd : decode M.2.1 pc = .ok (.ishr, 1)) (k : X κ (pc + 1) L (.int (x >>> (y &&& 31)) :: S) st) : X κ pc L (.int y :: .int x :: S) st := by
  obtain ⟨pg, l, e, R, s, m, args, below, meth, c, cells, slots, QQ, A, G⟩ := κ
  obtain ⟨hx, hb, hml, hr, hlk, hown, hts, hR, hK, hD⟩ := C
  intro H locs ls hP hS hl
  exact lv_ishr hx hb hd (k H locs ls hP hS hl)

theorem X_idiv {κ : xK} {M : xM} {d pc : Nat} {L : List (Nat × Value)} {S : List Value} {st : xSt} {x y : Int32} (C : Cx κ M d) (hne : ¬ y = 0) (hd : decode M.2.1 pc = .ok (.idiv, 1)) (k : X κ (pc + 1) L (.int (x / y) :: S) st) : X κ pc L (.int y :: .int x :: S) st := by
  obtain ⟨pg, l, e, R, s, m, args, below, meth, c, cells, slots, QQ, A, G⟩ := κ
  obtain ⟨hx, hb, hml, hr, hlk, hown, hts, hR, hK, hD⟩ := C
  intro H locs ls hP hS hl
  exact lv_idiv hx hb hd hne (k H locs ls hP hS hl)

theorem X_irem {κ : xK} {M : xM} {d pc : Nat} {L : List (Nat × Value)} {S : List Value} {st : xSt} {x y : Int32} (C : Cx κ M d) (hne : ¬ y = 0) (hd : decode M.2.1 pc = .ok (.irem, 1)) (k : X κ (pc + 1) L (.int (x - x / y * y) :: S) st) : X κ pc L (.int y :: .int x :: S) st := by
  obtain ⟨pg, l, e, R, s, m, args, below, meth, c, cells, slots, QQ, A, G⟩ := κ
  obtain ⟨hx, hb, hml, hr, hlk, hown, hts, hR, hK, hD⟩ := C
  intro H locs ls hP hS hl
  exact lv_irem hx hb hd hne (k H locs ls hP hS hl)

theorem X_iushr {κ : xK} {M : xM} {d pc : Nat} {L : List (Nat × Value)} {S : List Value} {st : xSt} {x y : Int32} (C : Cx κ M d) (hd : decode M.2.1 pc = .ok (.iushr, 1)) (k : X κ (pc + 1) L (.int (x.toUInt32 >>> (y.toUInt32 &&& Int32.toUInt32 31)).toInt32 :: S) st) : X κ pc L (.int y :: .int x :: S) st := by
  obtain ⟨pg, l, e, R, s, m, args, below, meth, c, cells, slots, QQ, A, G⟩ := κ
  obtain ⟨hx, hb, hml, hr, hlk, hown, hts, hR, hK, hD⟩ := C
  intro H locs ls hP hS hl
  exact lv_iushr hx hb hd rfl (k H locs ls hP hS hl)

theorem X_ineg {κ : xK} {M : xM} {d pc : Nat} {L : List (Nat × Value)} {S : List Value} {st : xSt} {x : Int32} (C : Cx κ M d) (hd : decode M.2.1 pc = .ok (.ineg, 1)) (k : X κ (pc + 1) L (.int (-x) :: S) st) : X κ pc L (.int x :: S) st := by
  obtain ⟨pg, l, e, R, s, m, args, below, meth, c, cells, slots, QQ, A, G⟩ := κ
  obtain ⟨hx, hb, hml, hr, hlk, hown, hts, hR, hK, hD⟩ := C
  intro H locs ls hP hS hl
  exact lv_ineg hx hb hd (k H locs ls hP hS hl)

theorem X_ladd {κ : xK} {M : xM} {d pc : Nat} {L : List (Nat × Value)} {S : List Value} {st : xSt} {x y : Int64} (C : Cx κ M d) (hd : decode M.2.1 pc = .ok (.ladd, 1)) (k : X κ (pc + 1) L (.long (x + y) :: S) st) : X κ pc L (.long y :: .long x :: S) st := by
  obtain ⟨pg, l, e, R, s, m, args, below, meth, c, cells, slots, QQ, A, G⟩ := κ
  obtain ⟨hx, hb, hml, hr, hlk, hown, hts, hR, hK, hD⟩ := C
  intro H locs ls hP hS hl
  exact lv_ladd hx hb hd (k H locs ls hP hS hl)

theorem X_lsub {κ : xK} {M : xM} {d pc : Nat} {L : List (Nat × Value)} {S : List Value} {st : xSt} {x y : Int64} (C : Cx κ M d) (hd : decode M.2.1 pc = .ok (.lsub, 1)) (k : X κ (pc + 1) L (.long (x - y) :: S) st) : X κ pc L (.long y :: .long x :: S) st := by
  obtain ⟨pg, l, e, R, s, m, args, below, meth, c, cells, slots, QQ, A, G⟩ := κ
  obtain ⟨hx, hb, hml, hr, hlk, hown, hts, hR, hK, hD⟩ := C
  intro H locs ls hP hS hl
  exact lv_lsub hx hb hd (k H locs ls hP hS hl)

theorem X_lmul {κ : xK} {M : xM} {d pc : Nat} {L : List (Nat × Value)} {S : List Value} {st : xSt} {x y : Int64} (C : Cx κ M d) (hd : decode M.2.1 pc = .ok (.lmul, 1)) (k : X κ (pc + 1) L (.long (x * y) :: S) st) : X κ pc L (.long y :: .long x :: S) st := by
  obtain ⟨pg, l, e, R, s, m, args, below, meth, c, cells, slots, QQ, A, G⟩ := κ
  obtain ⟨hx, hb, hml, hr, hlk, hown, hts, hR, hK, hD⟩ := C
  intro H locs ls hP hS hl
  exact lv_lmul hx hb hd (k H locs ls hP hS hl)

theorem X_land {κ : xK} {M : xM} {d pc : Nat} {L : List (Nat × Value)} {S : List Value} {st : xSt} {x y : Int64} (C : Cx κ M d) (hd : decode M.2.1 pc = .ok (.land, 1)) (k : X κ (pc + 1) L (.long (x &&& y) :: S) st) : X κ pc L (.long y :: .long x :: S) st := by
  obtain ⟨pg, l, e, R, s, m, args, below, meth, c, cells, slots, QQ, A, G⟩ := κ
  obtain ⟨hx, hb, hml, hr, hlk, hown, hts, hR, hK, hD⟩ := C
  intro H locs ls hP hS hl
  exact lv_land hx hb hd (k H locs ls hP hS hl)

theorem X_lor {κ : xK} {M : xM} {d pc : Nat} {L : List (Nat × Value)} {S : List Value} {st : xSt} {x y : Int64} (C : Cx κ M d) (hd : decode M.2.1 pc = .ok (.lor, 1)) (k : X κ (pc + 1) L (.long (x ||| y) :: S) st) : X κ pc L (.long y :: .long x :: S) st := by
  obtain ⟨pg, l, e, R, s, m, args, below, meth, c, cells, slots, QQ, A, G⟩ := κ
  obtain ⟨hx, hb, hml, hr, hlk, hown, hts, hR, hK, hD⟩ := C
  intro H locs ls hP hS hl
  exact lv_lor hx hb hd (k H locs ls hP hS hl)

theorem X_lshl {κ : xK} {M : xM} {d pc : Nat} {L : List (Nat × Value)} {S : List Value} {st : xSt} {x : Int64} {y : Int32} (C : Cx κ M d) (hd : decode M.2.1 pc = .ok (.lshl, 1)) (k : X κ (pc + 1) L (.long (x <<< (y.toInt64 &&& 63)) :: S) st) : X κ pc L (.int y :: .long x :: S) st := by
  obtain ⟨pg, l, e, R, s, m, args, below, meth, c, cells, slots, QQ, A, G⟩ := κ
  obtain ⟨hx, hb, hml, hr, hlk, hown, hts, hR, hK, hD⟩ := C
  intro H locs ls hP hS hl
  exact lv_lshl hx hb hd rfl (k H locs ls hP hS hl)

theorem X_lushr {κ : xK} {M : xM} {d pc : Nat} {L : List (Nat × Value)} {S : List Value} {st : xSt} {x : Int64} {y : Int32} (C : Cx κ M d) (hd : decode M.2.1 pc = .ok (.lushr, 1)) (k : X κ (pc + 1) L (.long ((x.toUInt64 >>> (y.toInt64.toUInt64 &&& Int64.toUInt64 63)).toInt64) :: S) st) : X κ pc L (.int y :: .long x :: S) st := by
  obtain ⟨pg, l, e, R, s, m, args, below, meth, c, cells, slots, QQ, A, G⟩ := κ
  obtain ⟨hx, hb, hml, hr, hlk, hown, hts, hR, hK, hD⟩ := C
  intro H locs ls hP hS hl
  exact lv_lushr hx hb hd rfl (k H locs ls hP hS hl)

theorem X_lshr {κ : xK} {M : xM} {d pc : Nat} {L : List (Nat × Value)} {S : List Value} {st : xSt} {x : Int64} {y : Int32} (C : Cx κ M d) (hd : decode M.2.1 pc = .ok (.lshr, 1)) (k : X κ (pc + 1) L (.long (x >>> (y.toInt64 &&& 63)) :: S) st) : X κ pc L (.int y :: .long x :: S) st := by
  obtain ⟨pg, l, e, R, s, m, args, below, meth, c, cells, slots, QQ, A, G⟩ := κ
  obtain ⟨hx, hb, hml, hr, hlk, hown, hts, hR, hK, hD⟩ := C
  intro H locs ls hP hS hl
  exact lv_lshr hx hb hd rfl (k H locs ls hP hS hl)

theorem X_lcmp {κ : xK} {M : xM} {d pc : Nat} {L : List (Nat × Value)} {S : List Value} {st : xSt} {x y : Int64} (C : Cx κ M d) (hd : decode M.2.1 pc = .ok (.lcmp, 1)) (k : X κ (pc + 1) L (.int (lg_cmp x y) :: S) st) : X κ pc L (.long y :: .long x :: S) st := by
  obtain ⟨pg, l, e, R, s, m, args, below, meth, c, cells, slots, QQ, A, G⟩ := κ
  obtain ⟨hx, hb, hml, hr, hlk, hown, hts, hR, hK, hD⟩ := C
  intro H locs ls hP hS hl
  exact W.lcmp hx hb hd (k H locs ls hP hS hl)

theorem X_i2l {κ : xK} {M : xM} {d pc : Nat} {L : List (Nat × Value)} {S : List Value} {st : xSt} {x : Int32} (C : Cx κ M d) (hd : decode M.2.1 pc = .ok (.i2l, 1)) (k : X κ (pc + 1) L (.long x.toInt64 :: S) st) : X κ pc L (.int x :: S) st := by
  obtain ⟨pg, l, e, R, s, m, args, below, meth, c, cells, slots, QQ, A, G⟩ := κ
  obtain ⟨hx, hb, hml, hr, hlk, hown, hts, hR, hK, hD⟩ := C
  intro H locs ls hP hS hl
  exact lv_i2l hx hb hd rfl (k H locs ls hP hS hl)

theorem X_l2i {κ : xK} {M : xM} {d pc : Nat} {L : List (Nat × Value)} {S : List Value} {st : xSt} {x : Int64} (C : Cx κ M d) (hd : decode M.2.1 pc = .ok (.l2i, 1)) (k : X κ (pc + 1) L (.int x.toInt32 :: S) st) : X κ pc L (.long x :: S) st := by
  obtain ⟨pg, l, e, R, s, m, args, below, meth, c, cells, slots, QQ, A, G⟩ := κ
  obtain ⟨hx, hb, hml, hr, hlk, hown, hts, hR, hK, hD⟩ := C
  intro H locs ls hP hS hl
  exact lv_l2i hx hb hd rfl (k H locs ls hP hS hl)

theorem X_i2b {κ : xK} {M : xM} {d pc : Nat} {L : List (Nat × Value)} {S : List Value} {st : xSt} {x : Int32} (C : Cx κ M d) (hd : decode M.2.1 pc = .ok (.i2b, 1)) (k : X κ (pc + 1) L (.int x.toInt8.toInt32 :: S) st) : X κ pc L (.int x :: S) st := by
  obtain ⟨pg, l, e, R, s, m, args, below, meth, c, cells, slots, QQ, A, G⟩ := κ
  obtain ⟨hx, hb, hml, hr, hlk, hown, hts, hR, hK, hD⟩ := C
  intro H locs ls hP hS hl
  exact lv_i2b hx hb hd rfl (k H locs ls hP hS hl)

theorem X_i2s {κ : xK} {M : xM} {d pc : Nat} {L : List (Nat × Value)} {S : List Value} {st : xSt} {x : Int32} (C : Cx κ M d) (hd : decode M.2.1 pc = .ok (.i2s, 1)) (k : X κ (pc + 1) L (.int x.toInt16.toInt32 :: S) st) : X κ pc L (.int x :: S) st := by
  obtain ⟨pg, l, e, R, s, m, args, below, meth, c, cells, slots, QQ, A, G⟩ := κ
  obtain ⟨hx, hb, hml, hr, hlk, hown, hts, hR, hK, hD⟩ := C
  intro H locs ls hP hS hl
  exact lv_i2s hx hb hd rfl (k H locs ls hP hS hl)

theorem X_iconst {κ : xK} {M : xM} {d pc : Nat} {L : List (Nat × Value)} {S : List Value} {st : xSt} {n : Int} {v : Int32} (C : Cx κ M d) (hv : Int32.ofInt n = v) (hd : decode M.2.1 pc = .ok (.iconst n, 1)) (k : X κ (pc + 1) L (.int v :: S) st) : X κ pc L (S) st := by
  obtain ⟨pg, l, e, R, s, m, args, below, meth, c, cells, slots, QQ, A, G⟩ := κ
  obtain ⟨hx, hb, hml, hr, hlk, hown, hts, hR, hK, hD⟩ := C
  intro H locs ls hP hS hl
  exact lv_iconst hx hb hd hv (k H locs ls hP hS hl)

theorem X_bipush {κ : xK} {M : xM} {d pc : Nat} {L : List (Nat × Value)} {S : List Value} {st : xSt} {n : Int} {v : Int32} (C : Cx κ M d) (hv : (Int8.ofInt n).toInt32 = v) (hd : decode M.2.1 pc = .ok (.bipush n, 2)) (k : X κ (pc + 2) L (.int v :: S) st) : X κ pc L (S) st := by
  obtain ⟨pg, l, e, R, s, m, args, below, meth, c, cells, slots, QQ, A, G⟩ := κ
  obtain ⟨hx, hb, hml, hr, hlk, hown, hts, hR, hK, hD⟩ := C
  intro H locs ls hP hS hl
  exact lv_bipush hx hb hd hv (k H locs ls hP hS hl)

theorem X_sipush {κ : xK} {M : xM} {d pc : Nat} {L : List (Nat × Value)} {S : List Value} {st : xSt} {n : Int} {v : Int32} (C : Cx κ M d) (hv : (Int16.ofInt n).toInt32 = v) (hd : decode M.2.1 pc = .ok (.sipush n, 3)) (k : X κ (pc + 3) L (.int v :: S) st) : X κ pc L (S) st := by
  obtain ⟨pg, l, e, R, s, m, args, below, meth, c, cells, slots, QQ, A, G⟩ := κ
  obtain ⟨hx, hb, hml, hr, hlk, hown, hts, hR, hK, hD⟩ := C
  intro H locs ls hP hS hl
  exact lv_sipush hx hb hd hv (k H locs ls hP hS hl)

theorem X_lconst {κ : xK} {M : xM} {d pc : Nat} {L : List (Nat × Value)} {S : List Value} {st : xSt} {n : Fin 2} {v : Int64} (C : Cx κ M d) (hv : Int64.ofNat (n : Nat) = v) (hd : decode M.2.1 pc = .ok (.lconst n, 1)) (k : X κ (pc + 1) L (.long v :: S) st) : X κ pc L (S) st := by
  obtain ⟨pg, l, e, R, s, m, args, below, meth, c, cells, slots, QQ, A, G⟩ := κ
  obtain ⟨hx, hb, hml, hr, hlk, hown, hts, hR, hK, hD⟩ := C
  intro H locs ls hP hS hl
  exact lv_lconst hx hb hd hv (k H locs ls hP hS hl)

theorem X_ldc {κ : xK} {M : xM} {d pc : Nat} {L : List (Nat × Value)} {S : List Value} {st : xSt} {i : Nat} {v : Int32} (C : Cx κ M d) (hw : Cond.constant M.1.cls i v ∈ lw_use) (hd : decode M.2.1 pc = .ok (.ldc i, 2)) (k : X κ (pc + 2) L (.int v :: S) st) : X κ pc L (S) st := by
  obtain ⟨pg, l, e, R, s, m, args, below, meth, c, cells, slots, QQ, A, G⟩ := κ
  obtain ⟨hx, hb, hml, hr, hlk, hown, hts, hR, hK, hD⟩ := C
  intro H locs ls hP hS hl
  exact lv_ldc hx hb hown (hts _ hw) hd (k H locs ls hP hS hl)

theorem X_ldcw {κ : xK} {M : xM} {d pc : Nat} {L : List (Nat × Value)} {S : List Value} {st : xSt} {i : Nat} {v : Int32} (C : Cx κ M d) (hw : Cond.constant M.1.cls i v ∈ lw_use) (hd : decode M.2.1 pc = .ok (.ldc_w i, 3)) (k : X κ (pc + 3) L (.int v :: S) st) : X κ pc L (S) st := by
  obtain ⟨pg, l, e, R, s, m, args, below, meth, c, cells, slots, QQ, A, G⟩ := κ
  obtain ⟨hx, hb, hml, hr, hlk, hown, hts, hR, hK, hD⟩ := C
  intro H locs ls hP hS hl
  exact lv_ldcw hx hb hown (hts _ hw) hd (k H locs ls hP hS hl)

theorem X_ldc2 {κ : xK} {M : xM} {d pc : Nat} {L : List (Nat × Value)} {S : List Value} {st : xSt} {i : Nat} {v : Int64} (C : Cx κ M d) (hw : Cond.constantLong M.1.cls i v ∈ lw_use) (hd : decode M.2.1 pc = .ok (.ldc2_w i, 3)) (k : X κ (pc + 3) L (.long v :: S) st) : X κ pc L (S) st := by
  obtain ⟨pg, l, e, R, s, m, args, below, meth, c, cells, slots, QQ, A, G⟩ := κ
  obtain ⟨hx, hb, hml, hr, hlk, hown, hts, hR, hK, hD⟩ := C
  intro H locs ls hP hS hl
  exact lv_ldc2 hx hb hown (hts _ hw) hd (k H locs ls hP hS hl)

theorem xvL_at {G : xG} {L : List (Nat × Value)} {n : Nat} {ls : Array Slot} (hl : lv_has ls n (xvL G L)) {j i : Nat} {v : Value} (hk : L[j]? = some (i, v)) : ls[i]? = some (.val (xv G v)) := lv_at hl j (by
  unfold xvL
  rw [List.getElem?_map, hk]
  rfl)
def xst (L : List (Nat × Value)) (i : Nat) (v : Value) : List (Nat × Value) := (i, v) :: L.filter (fun q => !(q.1 == i) && !(q.1 + 1 == i && q.2.category == 2))
def xst2 (L : List (Nat × Value)) (i : Nat) (v : Value) : List (Nat × Value) := (i, v) :: L.filter (fun q => !(q.1 == i) && (!(q.1 == i + 1) && !(q.1 + 1 == i && q.2.category == 2)))
theorem xvL_filter (G : xG) (f : Nat × Value → Bool) (hf : ∀ i v, f (i, xv G v) = f (i, v)) : ∀ L : List (Nat × Value), xvL G (L.filter f) = (xvL G L).filter f
  | [] => rfl
  | (i, v) :: L => by
    have ih := xvL_filter G f hf L
    unfold xvL at ih ⊢
    rw [List.map_cons, List.filter_cons, List.filter_cons, hf]
    cases f (i, v) <;> simp [ih]
theorem xst_eq (G : xG) (L : List (Nat × Value)) (i : Nat) (v : Value) : (i, xv G v) :: (xvL G L).filter (fun q => !(q.1 == i) && !(q.1 + 1 == i && q.2.category == 2)) = xvL G (xst L i v) := by
  unfold xst
  rw [← xvL_filter G _ (fun j w => by simp only [xv_cat])]
  rfl
theorem xst2_eq (G : xG) (L : List (Nat × Value)) (i : Nat) (v : Value) : (i, xv G v) :: (xvL G L).filter (fun q => !(q.1 == i) && (!(q.1 == i + 1) && !(q.1 + 1 == i && q.2.category == 2))) = xvL G (xst2 L i v) := by
  unfold xst2
  rw [← xvL_filter G _ (fun j w => by simp only [xv_cat])]
  rfl
theorem X_iload_n {κ : xK} {M : xM} {d pc : Nat} {L : List (Nat × Value)} {S : List Value} {st : xSt} {k : Fin 4} {i j : Nat} {x : Int32} (C : Cx κ M d) (hd : decode M.2.1 pc = .ok (.iload_n k, 1)) (hi : (k : Nat) = i) (hk : L[j]? = some (i, .int x)) (k : X κ (pc + 1) L (.int x :: S) st) : X κ pc L (S) st := by
  obtain ⟨pg, l, e, R, s, m, args, below, meth, c, cells, slots, QQ, A, G⟩ := κ
  obtain ⟨hx, hb, hml, hr, hlk, hown, hts, hR, hK, hD⟩ := C
  intro H locs ls hP hS hl
  exact lv_iload_n hx hb hd hi (xvL_at hl hk) (k H locs ls hP hS hl)

theorem X_iload {κ : xK} {M : xM} {d pc : Nat} {L : List (Nat × Value)} {S : List Value} {st : xSt} {i j : Nat} {x : Int32} (C : Cx κ M d) (hd : decode M.2.1 pc = .ok (.iload i, 2)) (hk : L[j]? = some (i, .int x)) (k : X κ (pc + 2) L (.int x :: S) st) : X κ pc L (S) st := by
  obtain ⟨pg, l, e, R, s, m, args, below, meth, c, cells, slots, QQ, A, G⟩ := κ
  obtain ⟨hx, hb, hml, hr, hlk, hown, hts, hR, hK, hD⟩ := C
  intro H locs ls hP hS hl
  exact lv_iload hx hb hd (xvL_at hl hk) (k H locs ls hP hS hl)

theorem X_lload_n {κ : xK} {M : xM} {d pc : Nat} {L : List (Nat × Value)} {S : List Value} {st : xSt} {k : Fin 4} {i j : Nat} {x : Int64} (C : Cx κ M d) (hd : decode M.2.1 pc = .ok (.lload_n k, 1)) (hi : (k : Nat) = i) (hk : L[j]? = some (i, .long x)) (k : X κ (pc + 1) L (.long x :: S) st) : X κ pc L (S) st := by
  obtain ⟨pg, l, e, R, s, m, args, below, meth, c, cells, slots, QQ, A, G⟩ := κ
  obtain ⟨hx, hb, hml, hr, hlk, hown, hts, hR, hK, hD⟩ := C
  intro H locs ls hP hS hl
  exact lv_lload_n hx hb hd hi (xvL_at hl hk) (k H locs ls hP hS hl)

theorem X_lload {κ : xK} {M : xM} {d pc : Nat} {L : List (Nat × Value)} {S : List Value} {st : xSt} {i j : Nat} {x : Int64} (C : Cx κ M d) (hd : decode M.2.1 pc = .ok (.lload i, 2)) (hk : L[j]? = some (i, .long x)) (k : X κ (pc + 2) L (.long x :: S) st) : X κ pc L (S) st := by
  obtain ⟨pg, l, e, R, s, m, args, below, meth, c, cells, slots, QQ, A, G⟩ := κ
  obtain ⟨hx, hb, hml, hr, hlk, hown, hts, hR, hK, hD⟩ := C
  intro H locs ls hP hS hl
  exact lv_lload hx hb hd (xvL_at hl hk) (k H locs ls hP hS hl)

theorem X_aload_n {κ : xK} {M : xM} {d pc : Nat} {L : List (Nat × Value)} {S : List Value} {st : xSt} {k : Fin 4} {i j : Nat} {x : Nat} (C : Cx κ M d) (hd : decode M.2.1 pc = .ok (.aload_n k, 1)) (hi : (k : Nat) = i) (hk : L[j]? = some (i, .ref x)) (k : X κ (pc + 1) L (.ref x :: S) st) : X κ pc L (S) st := by
  obtain ⟨pg, l, e, R, s, m, args, below, meth, c, cells, slots, QQ, A, G⟩ := κ
  obtain ⟨hx, hb, hml, hr, hlk, hown, hts, hR, hK, hD⟩ := C
  intro H locs ls hP hS hl
  exact lv_aload_n hx hb hd hi (xvL_at hl hk) (k H locs ls hP hS hl)

theorem X_aload {κ : xK} {M : xM} {d pc : Nat} {L : List (Nat × Value)} {S : List Value} {st : xSt} {i j : Nat} {x : Nat} (C : Cx κ M d) (hd : decode M.2.1 pc = .ok (.aload i, 2)) (hk : L[j]? = some (i, .ref x)) (k : X κ (pc + 2) L (.ref x :: S) st) : X κ pc L (S) st := by
  obtain ⟨pg, l, e, R, s, m, args, below, meth, c, cells, slots, QQ, A, G⟩ := κ
  obtain ⟨hx, hb, hml, hr, hlk, hown, hts, hR, hK, hD⟩ := C
  intro H locs ls hP hS hl
  exact lv_aload hx hb hd (xvL_at hl hk) (k H locs ls hP hS hl)

theorem X_istore_n {κ : xK} {M : xM} {d pc : Nat} {L : List (Nat × Value)} {S : List Value} {st : xSt} {k : Fin 4} {i : Nat} {x : Int32} {L' : List (Nat × Value)} (C : Cx κ M d) (hd : decode M.2.1 pc = .ok (.istore_n k, 1)) (hi : (k : Nat) = i) (hn : i < M.2.2.1) (hL : xst L i (.int x) = L') (k : X κ (pc + 1) L' S st) : X κ pc L (.int x :: S) st := by
  obtain ⟨pg, l, e, R, s, m, args, below, meth, c, cells, slots, QQ, A, G⟩ := κ
  obtain ⟨hx, hb, hml, hr, hlk, hown, hts, hR, hK, hD⟩ := C
  intro H locs ls hP hS hl
  subst hL
  exact lv_istore_n hx hb hd hi hl (by rw [hml]; exact hn) (xst_eq G L i (.int x)) (fun ls2 hl2 => k H locs ls2 hP hS hl2)

theorem X_istore {κ : xK} {M : xM} {d pc : Nat} {L : List (Nat × Value)} {S : List Value} {st : xSt} {i : Nat} {x : Int32} {L' : List (Nat × Value)} (C : Cx κ M d) (hd : decode M.2.1 pc = .ok (.istore i, 2)) (hn : i < M.2.2.1) (hL : xst L i (.int x) = L') (k : X κ (pc + 2) L' S st) : X κ pc L (.int x :: S) st := by
  obtain ⟨pg, l, e, R, s, m, args, below, meth, c, cells, slots, QQ, A, G⟩ := κ
  obtain ⟨hx, hb, hml, hr, hlk, hown, hts, hR, hK, hD⟩ := C
  intro H locs ls hP hS hl
  subst hL
  exact lv_istore hx hb hd hl (by rw [hml]; exact hn) (xst_eq G L i (.int x)) (fun ls2 hl2 => k H locs ls2 hP hS hl2)

theorem X_lstore_n {κ : xK} {M : xM} {d pc : Nat} {L : List (Nat × Value)} {S : List Value} {st : xSt} {k : Fin 4} {i : Nat} {x : Int64} {L' : List (Nat × Value)} (C : Cx κ M d) (hd : decode M.2.1 pc = .ok (.lstore_n k, 1)) (hi : (k : Nat) = i) (hn : i + 1 < M.2.2.1) (hL : xst2 L i (.long x) = L') (k : X κ (pc + 1) L' S st) : X κ pc L (.long x :: S) st := by
  obtain ⟨pg, l, e, R, s, m, args, below, meth, c, cells, slots, QQ, A, G⟩ := κ
  obtain ⟨hx, hb, hml, hr, hlk, hown, hts, hR, hK, hD⟩ := C
  intro H locs ls hP hS hl
  subst hL
  exact lv_lstore_n hx hb hd hi hl (by rw [hml]; exact hn) (xst2_eq G L i (.long x)) (fun ls2 hl2 => k H locs ls2 hP hS hl2)

theorem X_lstore {κ : xK} {M : xM} {d pc : Nat} {L : List (Nat × Value)} {S : List Value} {st : xSt} {i : Nat} {x : Int64} {L' : List (Nat × Value)} (C : Cx κ M d) (hd : decode M.2.1 pc = .ok (.lstore i, 2)) (hn : i + 1 < M.2.2.1) (hL : xst2 L i (.long x) = L') (k : X κ (pc + 2) L' S st) : X κ pc L (.long x :: S) st := by
  obtain ⟨pg, l, e, R, s, m, args, below, meth, c, cells, slots, QQ, A, G⟩ := κ
  obtain ⟨hx, hb, hml, hr, hlk, hown, hts, hR, hK, hD⟩ := C
  intro H locs ls hP hS hl
  subst hL
  exact lv_lstore hx hb hd hl (by rw [hml]; exact hn) (xst2_eq G L i (.long x)) (fun ls2 hl2 => k H locs ls2 hP hS hl2)

theorem X_astore_n {κ : xK} {M : xM} {d pc : Nat} {L : List (Nat × Value)} {S : List Value} {st : xSt} {k : Fin 4} {i : Nat} {x : Nat} {L' : List (Nat × Value)} (C : Cx κ M d) (hd : decode M.2.1 pc = .ok (.astore_n k, 1)) (hi : (k : Nat) = i) (hn : i < M.2.2.1) (hL : xst L i (.ref x) = L') (k : X κ (pc + 1) L' S st) : X κ pc L (.ref x :: S) st := by
  obtain ⟨pg, l, e, R, s, m, args, below, meth, c, cells, slots, QQ, A, G⟩ := κ
  obtain ⟨hx, hb, hml, hr, hlk, hown, hts, hR, hK, hD⟩ := C
  intro H locs ls hP hS hl
  subst hL
  exact lv_astore_n hx hb hd hi hl (by rw [hml]; exact hn) (xst_eq G L i (.ref x)) (fun ls2 hl2 => k H locs ls2 hP hS hl2)

theorem X_astore {κ : xK} {M : xM} {d pc : Nat} {L : List (Nat × Value)} {S : List Value} {st : xSt} {i : Nat} {x : Nat} {L' : List (Nat × Value)} (C : Cx κ M d) (hd : decode M.2.1 pc = .ok (.astore i, 2)) (hn : i < M.2.2.1) (hL : xst L i (.ref x) = L') (k : X κ (pc + 2) L' S st) : X κ pc L (.ref x :: S) st := by
  obtain ⟨pg, l, e, R, s, m, args, below, meth, c, cells, slots, QQ, A, G⟩ := κ
  obtain ⟨hx, hb, hml, hr, hlk, hown, hts, hR, hK, hD⟩ := C
  intro H locs ls hP hS hl
  subst hL
  exact lv_astore hx hb hd hl (by rw [hml]; exact hn) (xst_eq G L i (.ref x)) (fun ls2 hl2 => k H locs ls2 hP hS hl2)

theorem X_iinc {κ : xK} {M : xM} {d pc : Nat} {L : List (Nat × Value)} {S : List Value} {st : xSt} {i j : Nat} {n : Int} {x v : Int32} {L' : List (Nat × Value)} (C : Cx κ M d) (hd : decode M.2.1 pc = .ok (.iinc i n, 3)) (hk : L[j]? = some (i, .int x)) (hv : x + Int32.ofInt n = v) (hn : i < M.2.2.1) (hL : xst L i (.int v) = L') (k : X κ (pc + 3) L' S st) : X κ pc L (S) st := by
  obtain ⟨pg, l, e, R, s, m, args, below, meth, c, cells, slots, QQ, A, G⟩ := κ
  obtain ⟨hx, hb, hml, hr, hlk, hown, hts, hR, hK, hD⟩ := C
  intro H locs ls hP hS hl
  subst hL
  refine lv_iinc (k := j) (v := v) hx hb hd hl ?_ hv (by rw [hml]; exact hn) (xst_eq G L i (.int v)) (fun ls2 hl2 => k H locs ls2 hP hS hl2)
  unfold xvL
  rw [List.getElem?_map, hk]
  rfl

theorem X_loc {κ : xK} {pc : Nat} {L L' : List (Nat × Value)} {S : List Value} {st : xSt} (ks : List Nat) (h : lv_pick L ks = L') (k : X κ pc L' S st) : X κ pc L S st := by
  obtain ⟨p, l, e, R, s, m, args, below, meth, c, cells, slots, QQ, A, G⟩ := κ
  intro H locs ls hP hS hl
  refine k H locs ls hP hS (lv_sub hl ks ?_)
  subst h
  unfold lv_pick xvL
  rw [List.map_filterMap]
  congr 1
  funext k
  rw [List.getElem?_map]
theorem X_dup {κ : xK} {M : xM} {d pc : Nat} {L : List (Nat × Value)} {S : List Value} {st : xSt} {v : Value} (C : Cx κ M d) (hv : v.category = 1) (hd : decode M.2.1 pc = .ok (.dup, 1)) (k : X κ (pc + 1) L (v :: v :: S) st) : X κ pc L (v :: S) st := by
  obtain ⟨pg, l, e, R, s, m, args, below, meth, c, cells, slots, QQ, A, G⟩ := κ
  obtain ⟨hx, hb, hml, hr, hlk, hown, hts, hR, hK, hD⟩ := C
  intro H locs ls hP hS hl
  exact lv_dup hx hb hd (by rw [xv_cat]; exact hv) (k H locs ls hP hS hl)

theorem X_pop {κ : xK} {M : xM} {d pc : Nat} {L : List (Nat × Value)} {S : List Value} {st : xSt} {v : Value} (C : Cx κ M d) (hv : v.category = 1) (hd : decode M.2.1 pc = .ok (.pop, 1)) (k : X κ (pc + 1) L (S) st) : X κ pc L (v :: S) st := by
  obtain ⟨pg, l, e, R, s, m, args, below, meth, c, cells, slots, QQ, A, G⟩ := κ
  obtain ⟨hx, hb, hml, hr, hlk, hown, hts, hR, hK, hD⟩ := C
  intro H locs ls hP hS hl
  exact lv_pop hx hb hd (by rw [xv_cat]; exact hv) (k H locs ls hP hS hl)

theorem X_dup2 {κ : xK} {M : xM} {d pc : Nat} {L : List (Nat × Value)} {S : List Value} {st : xSt} {v w : Value} (C : Cx κ M d) (hv : v.category = 1) (hw : w.category = 1) (hd : decode M.2.1 pc = .ok (.dup2, 1)) (k : X κ (pc + 1) L (v :: w :: v :: w :: S) st) : X κ pc L (v :: w :: S) st := by
  obtain ⟨pg, l, e, R, s, m, args, below, meth, c, cells, slots, QQ, A, G⟩ := κ
  obtain ⟨hx, hb, hml, hr, hlk, hown, hts, hR, hK, hD⟩ := C
  intro H locs ls hP hS hl
  exact lv_dup2_11 hx hb hd (by rw [xv_cat]; exact hv) (by rw [xv_cat]; exact hw) (k H locs ls hP hS hl)

theorem X_icmp_eq {κ : xK} {M : xM} {d pc : Nat} {L : List (Nat × Value)} {S : List Value} {st : xSt} {x y : Int32} {off : Int} {tgt : Nat} (C : Cx κ M d) (hd : decode M.2.1 pc = .ok (.if_icmp .eq off, 3)) (ht : (pc : Int) + off = (tgt : Int)) (kt : x = y → X κ tgt L S st) (kf : ¬ x = y → X κ (pc + 3) L S st) : X κ pc L (.int y :: .int x :: S) st := by
  obtain ⟨pg, l, e, R, s, m, args, below, meth, c, cells, slots, QQ, A, G⟩ := κ
  obtain ⟨hx, hb, hml, hr, hlk, hown, hts, hR, hK, hD⟩ := C
  intro H locs ls hP hS hl
  exact lv_icmp_eq hx hb hd ht (fun h => kt h H locs ls hP hS hl) (fun h => kf h H locs ls hP hS hl)

theorem X_icmp_ne {κ : xK} {M : xM} {d pc : Nat} {L : List (Nat × Value)} {S : List Value} {st : xSt} {x y : Int32} {off : Int} {tgt : Nat} (C : Cx κ M d) (hd : decode M.2.1 pc = .ok (.if_icmp .ne off, 3)) (ht : (pc : Int) + off = (tgt : Int)) (kt : ¬ x = y → X κ tgt L S st) (kf : x = y → X κ (pc + 3) L S st) : X κ pc L (.int y :: .int x :: S) st := by
  obtain ⟨pg, l, e, R, s, m, args, below, meth, c, cells, slots, QQ, A, G⟩ := κ
  obtain ⟨hx, hb, hml, hr, hlk, hown, hts, hR, hK, hD⟩ := C
  intro H locs ls hP hS hl
  exact lv_icmp_ne hx hb hd ht (fun h => kt h H locs ls hP hS hl) (fun h => kf h H locs ls hP hS hl)

theorem X_icmp_lt {κ : xK} {M : xM} {d pc : Nat} {L : List (Nat × Value)} {S : List Value} {st : xSt} {x y : Int32} {off : Int} {tgt : Nat} (C : Cx κ M d) (hd : decode M.2.1 pc = .ok (.if_icmp .lt off, 3)) (ht : (pc : Int) + off = (tgt : Int)) (kt : x < y → X κ tgt L S st) (kf : ¬ x < y → X κ (pc + 3) L S st) : X κ pc L (.int y :: .int x :: S) st := by
  obtain ⟨pg, l, e, R, s, m, args, below, meth, c, cells, slots, QQ, A, G⟩ := κ
  obtain ⟨hx, hb, hml, hr, hlk, hown, hts, hR, hK, hD⟩ := C
  intro H locs ls hP hS hl
  exact lv_icmp_lt hx hb hd ht (fun h => kt h H locs ls hP hS hl) (fun h => kf h H locs ls hP hS hl)

theorem X_icmp_ge {κ : xK} {M : xM} {d pc : Nat} {L : List (Nat × Value)} {S : List Value} {st : xSt} {x y : Int32} {off : Int} {tgt : Nat} (C : Cx κ M d) (hd : decode M.2.1 pc = .ok (.if_icmp .ge off, 3)) (ht : (pc : Int) + off = (tgt : Int)) (kt : y ≤ x → X κ tgt L S st) (kf : ¬ y ≤ x → X κ (pc + 3) L S st) : X κ pc L (.int y :: .int x :: S) st := by
  obtain ⟨pg, l, e, R, s, m, args, below, meth, c, cells, slots, QQ, A, G⟩ := κ
  obtain ⟨hx, hb, hml, hr, hlk, hown, hts, hR, hK, hD⟩ := C
  intro H locs ls hP hS hl
  exact lv_icmp_ge hx hb hd ht (fun h => kt h H locs ls hP hS hl) (fun h => kf h H locs ls hP hS hl)

theorem X_icmp_gt {κ : xK} {M : xM} {d pc : Nat} {L : List (Nat × Value)} {S : List Value} {st : xSt} {x y : Int32} {off : Int} {tgt : Nat} (C : Cx κ M d) (hd : decode M.2.1 pc = .ok (.if_icmp .gt off, 3)) (ht : (pc : Int) + off = (tgt : Int)) (kt : y < x → X κ tgt L S st) (kf : ¬ y < x → X κ (pc + 3) L S st) : X κ pc L (.int y :: .int x :: S) st := by
  obtain ⟨pg, l, e, R, s, m, args, below, meth, c, cells, slots, QQ, A, G⟩ := κ
  obtain ⟨hx, hb, hml, hr, hlk, hown, hts, hR, hK, hD⟩ := C
  intro H locs ls hP hS hl
  exact lv_icmp_gt hx hb hd ht (fun h => kt h H locs ls hP hS hl) (fun h => kf h H locs ls hP hS hl)

theorem X_icmp_le {κ : xK} {M : xM} {d pc : Nat} {L : List (Nat × Value)} {S : List Value} {st : xSt} {x y : Int32} {off : Int} {tgt : Nat} (C : Cx κ M d) (hd : decode M.2.1 pc = .ok (.if_icmp .le off, 3)) (ht : (pc : Int) + off = (tgt : Int)) (kt : x ≤ y → X κ tgt L S st) (kf : ¬ x ≤ y → X κ (pc + 3) L S st) : X κ pc L (.int y :: .int x :: S) st := by
  obtain ⟨pg, l, e, R, s, m, args, below, meth, c, cells, slots, QQ, A, G⟩ := κ
  obtain ⟨hx, hb, hml, hr, hlk, hown, hts, hR, hK, hD⟩ := C
  intro H locs ls hP hS hl
  exact lv_icmp_le hx hb hd ht (fun h => kt h H locs ls hP hS hl) (fun h => kf h H locs ls hP hS hl)

theorem X_if_eq {κ : xK} {M : xM} {d pc : Nat} {L : List (Nat × Value)} {S : List Value} {st : xSt} {x : Int32} {off : Int} {tgt : Nat} (C : Cx κ M d) (hd : decode M.2.1 pc = .ok (.ifCond .eq off, 3)) (ht : (pc : Int) + off = (tgt : Int)) (kt : x = 0 → X κ tgt L S st) (kf : ¬ x = 0 → X κ (pc + 3) L S st) : X κ pc L (.int x :: S) st := by
  obtain ⟨pg, l, e, R, s, m, args, below, meth, c, cells, slots, QQ, A, G⟩ := κ
  obtain ⟨hx, hb, hml, hr, hlk, hown, hts, hR, hK, hD⟩ := C
  intro H locs ls hP hS hl
  exact lv_if_eq hx hb hd ht (fun h => kt h H locs ls hP hS hl) (fun h => kf h H locs ls hP hS hl)

theorem X_if_ne {κ : xK} {M : xM} {d pc : Nat} {L : List (Nat × Value)} {S : List Value} {st : xSt} {x : Int32} {off : Int} {tgt : Nat} (C : Cx κ M d) (hd : decode M.2.1 pc = .ok (.ifCond .ne off, 3)) (ht : (pc : Int) + off = (tgt : Int)) (kt : ¬ x = 0 → X κ tgt L S st) (kf : x = 0 → X κ (pc + 3) L S st) : X κ pc L (.int x :: S) st := by
  obtain ⟨pg, l, e, R, s, m, args, below, meth, c, cells, slots, QQ, A, G⟩ := κ
  obtain ⟨hx, hb, hml, hr, hlk, hown, hts, hR, hK, hD⟩ := C
  intro H locs ls hP hS hl
  exact lv_if_ne hx hb hd ht (fun h => kt h H locs ls hP hS hl) (fun h => kf h H locs ls hP hS hl)

theorem X_if_lt {κ : xK} {M : xM} {d pc : Nat} {L : List (Nat × Value)} {S : List Value} {st : xSt} {x : Int32} {off : Int} {tgt : Nat} (C : Cx κ M d) (hd : decode M.2.1 pc = .ok (.ifCond .lt off, 3)) (ht : (pc : Int) + off = (tgt : Int)) (kt : x < 0 → X κ tgt L S st) (kf : ¬ x < 0 → X κ (pc + 3) L S st) : X κ pc L (.int x :: S) st := by
  obtain ⟨pg, l, e, R, s, m, args, below, meth, c, cells, slots, QQ, A, G⟩ := κ
  obtain ⟨hx, hb, hml, hr, hlk, hown, hts, hR, hK, hD⟩ := C
  intro H locs ls hP hS hl
  exact lv_if_lt hx hb hd ht (fun h => kt h H locs ls hP hS hl) (fun h => kf h H locs ls hP hS hl)

theorem X_if_ge {κ : xK} {M : xM} {d pc : Nat} {L : List (Nat × Value)} {S : List Value} {st : xSt} {x : Int32} {off : Int} {tgt : Nat} (C : Cx κ M d) (hd : decode M.2.1 pc = .ok (.ifCond .ge off, 3)) (ht : (pc : Int) + off = (tgt : Int)) (kt : 0 ≤ x → X κ tgt L S st) (kf : ¬ 0 ≤ x → X κ (pc + 3) L S st) : X κ pc L (.int x :: S) st := by
  obtain ⟨pg, l, e, R, s, m, args, below, meth, c, cells, slots, QQ, A, G⟩ := κ
  obtain ⟨hx, hb, hml, hr, hlk, hown, hts, hR, hK, hD⟩ := C
  intro H locs ls hP hS hl
  exact lv_if_ge hx hb hd ht (fun h => kt h H locs ls hP hS hl) (fun h => kf h H locs ls hP hS hl)

theorem X_if_gt {κ : xK} {M : xM} {d pc : Nat} {L : List (Nat × Value)} {S : List Value} {st : xSt} {x : Int32} {off : Int} {tgt : Nat} (C : Cx κ M d) (hd : decode M.2.1 pc = .ok (.ifCond .gt off, 3)) (ht : (pc : Int) + off = (tgt : Int)) (kt : 0 < x → X κ tgt L S st) (kf : ¬ 0 < x → X κ (pc + 3) L S st) : X κ pc L (.int x :: S) st := by
  obtain ⟨pg, l, e, R, s, m, args, below, meth, c, cells, slots, QQ, A, G⟩ := κ
  obtain ⟨hx, hb, hml, hr, hlk, hown, hts, hR, hK, hD⟩ := C
  intro H locs ls hP hS hl
  exact lv_if_gt hx hb hd ht (fun h => kt h H locs ls hP hS hl) (fun h => kf h H locs ls hP hS hl)

theorem X_if_le {κ : xK} {M : xM} {d pc : Nat} {L : List (Nat × Value)} {S : List Value} {st : xSt} {x : Int32} {off : Int} {tgt : Nat} (C : Cx κ M d) (hd : decode M.2.1 pc = .ok (.ifCond .le off, 3)) (ht : (pc : Int) + off = (tgt : Int)) (kt : x ≤ 0 → X κ tgt L S st) (kf : ¬ x ≤ 0 → X κ (pc + 3) L S st) : X κ pc L (.int x :: S) st := by
  obtain ⟨pg, l, e, R, s, m, args, below, meth, c, cells, slots, QQ, A, G⟩ := κ
  obtain ⟨hx, hb, hml, hr, hlk, hown, hts, hR, hK, hD⟩ := C
  intro H locs ls hP hS hl
  exact lv_if_le hx hb hd ht (fun h => kt h H locs ls hP hS hl) (fun h => kf h H locs ls hP hS hl)

theorem X_goto {κ : xK} {M : xM} {d pc : Nat} {L : List (Nat × Value)} {S : List Value} {st : xSt} {off : Int} {tgt : Nat} (C : Cx κ M d) (hd : decode M.2.1 pc = .ok (.goto off, 3)) (ht : (pc : Int) + off = (tgt : Int)) (k : X κ tgt L S st) : X κ pc L (S) st := by
  obtain ⟨pg, l, e, R, s, m, args, below, meth, c, cells, slots, QQ, A, G⟩ := κ
  obtain ⟨hx, hb, hml, hr, hlk, hown, hts, hR, hK, hD⟩ := C
  intro H locs ls hP hS hl
  exact lv_goto hx hb hd ht (k H locs ls hP hS hl)

theorem X_tableIn {κ : xK} {M : xM} {d pc : Nat} {L : List (Nat × Value)} {S : List Value} {st : xSt} {dflt lo hi : Int} {offs : Array Int} {len : Nat} {x : Int32} {off : Int} {tgt : Nat} (C : Cx κ M d) (hd : decode M.2.1 pc = .ok (.tableswitch dflt lo hi offs, len)) (h1 : ¬ x.toInt < lo) (h2 : ¬ hi < x.toInt) (ho : offs[(x.toInt - lo).toNat]? = some off) (ht : (pc : Int) + off = (tgt : Int)) (k : X κ tgt L S st) : X κ pc L (.int x :: S) st := by
  obtain ⟨pg, l, e, R, s, m, args, below, meth, c, cells, slots, QQ, A, G⟩ := κ
  obtain ⟨hx, hb, hml, hr, hlk, hown, hts, hR, hK, hD⟩ := C
  intro H locs ls hP hS hl
  exact lv_tableIn hx hb hd h1 h2 ho ht (k H locs ls hP hS hl)
theorem X_tableOut {κ : xK} {M : xM} {d pc : Nat} {L : List (Nat × Value)} {S : List Value} {st : xSt} {dflt lo hi : Int} {offs : Array Int} {len : Nat} {x : Int32} {tgt : Nat} (C : Cx κ M d) (hd : decode M.2.1 pc = .ok (.tableswitch dflt lo hi offs, len)) (h : x.toInt < lo ∨ hi < x.toInt) (ht : (pc : Int) + dflt = (tgt : Int)) (k : X κ tgt L S st) : X κ pc L (.int x :: S) st := by
  obtain ⟨pg, l, e, R, s, m, args, below, meth, c, cells, slots, QQ, A, G⟩ := κ
  obtain ⟨hx, hb, hml, hr, hlk, hown, hts, hR, hK, hD⟩ := C
  intro H locs ls hP hS hl
  exact lv_tableOut hx hb hd h ht (k H locs ls hP hS hl)
theorem X_lookup {κ : xK} {M : xM} {d pc : Nat} {L : List (Nat × Value)} {S : List Value} {st : xSt} {dflt : Int} {ps : Array (Int × Int)} {len : Nat} {x : Int32} {off : Int} {tgt : Nat} (C : Cx κ M d) (hd : decode M.2.1 pc = .ok (.lookupswitch dflt ps, len)) (hp : (ps.toList.zip (ps.toList.drop 1)).all (fun (a, next) => a.1 < next.1) = true) (ho : Op.lookupswitch.offset ps.toList dflt x.toInt = off) (ht : (pc : Int) + off = (tgt : Int)) (k : X κ tgt L S st) : X κ pc L (.int x :: S) st := by
  obtain ⟨pg, l, e, R, s, m, args, below, meth, c, cells, slots, QQ, A, G⟩ := κ
  obtain ⟨hx, hb, hml, hr, hlk, hown, hts, hR, hK, hD⟩ := C
  intro H locs ls hP hS hl
  exact lv_lookup hx hb hd hp ho ht (k H locs ls hP hS hl)
/-- the field that pool place 'index' of class own names: slot k of class number ci -/
def xFW (own : String) (index ci k : Nat) : Prop := ∃ (C : String) (T : u_T) (N : Nat), vwCl[ci]? = some (C, T, N) ∧ k < N ∧ Cond.fieldLink own index (T k).1 (T k).2.1 (T k).2.2.1 ∈ lw_use ∧ ∀ w ∈ u_ws C T N, w ∈ lw_use
/-- it may be written: an int, not final; and what a write needs of the class -/
def xFI (own : String) (index ci k : Nat) : Prop := ∃ (C : String) (T : u_T) (N : Nat) (ty : Nat → FieldType), vwCl[ci]? = some (C, T, N) ∧ k < N ∧ Cond.fieldLink own index (T k).1 (T k).2.1 (T k).2.2.1 ∈ lw_use ∧ (∀ w ∈ u_ws C T N, w ∈ lw_use) ∧ (∀ k, k < N → parseFieldDescriptor (T k).2.2.1 = some (ty k)) ∧ (∀ a, a < N → ∀ b, b < N → a ≠ b → (T a).2.1 ≠ (T b).2.1) ∧ (T k).2.2.2 = false ∧ parseFieldDescriptor (T k).2.2.1 = some .int
def xFZ (own : String) (index ci k : Nat) : Prop := ∃ (C : String) (T : u_T) (N : Nat) (ty : Nat → FieldType), vwCl[ci]? = some (C, T, N) ∧ k < N ∧ Cond.fieldLink own index (T k).1 (T k).2.1 (T k).2.2.1 ∈ lw_use ∧ (∀ w ∈ u_ws C T N, w ∈ lw_use) ∧ (∀ k, k < N → parseFieldDescriptor (T k).2.2.1 = some (ty k)) ∧ (∀ a, a < N → ∀ b, b < N → a ≠ b → (T a).2.1 ≠ (T b).2.1) ∧ (T k).2.2.2 = false ∧ parseFieldDescriptor (T k).2.2.1 = some .boolean
theorem X_getR {κ : xK} {M : xM} {d pc : Nat} {L : List (Nat × Value)} {S : List Value} {st : xSt} {p ci index k r : Nat} {fs : List (Option Nat)} (C : Cx κ M d) (hsh : xshapes[p]? = some (.inl (ci, fs))) (hf : fs[k]? = some (some r)) (hw : xFW M.1.cls index ci k) (hd : decode M.2.1 pc = .ok (.getfield index, 3)) (kk : X κ (pc + 3) L (.ref r :: S) st) : X κ pc L (.ref p :: S) st := by
  obtain ⟨pg, l, e, R, s, m, args, below, meth, c, cells, slots, QQ, A, G⟩ := κ
  obtain ⟨hx, hb, hml, hr, hlk, hown, hts, hR, hK, hD⟩ := C
  intro H locs ls hP hS hl
  obtain ⟨C, T, N, w1, w2, w3, w4⟩ := hw
  exact va_get hx hb hts w4 hown hK hP p (xw_get hsh) w1 k w2 (hts _ w3) (fun _ h => h) (v := .ref (G.2.1 r)) (by rw [xfl_get, hf]; rfl) hd (kk H locs ls hP hS hl)

theorem X_getI {κ : xK} {M : xM} {d pc : Nat} {L : List (Nat × Value)} {S : List Value} {st : xSt} {p ci index k : Nat} {fs : List (Option Nat)} (C : Cx κ M d) (hsh : xshapes[p]? = some (.inl (ci, fs))) (hf : fs[k]? = some none) (hw : xFW M.1.cls index ci k) (hd : decode M.2.1 pc = .ok (.getfield index, 3)) (kk : X κ (pc + 3) L (.int (st.1 p k) :: S) st) : X κ pc L (.ref p :: S) st := by
  obtain ⟨pg, l, e, R, s, m, args, below, meth, c, cells, slots, QQ, A, G⟩ := κ
  obtain ⟨hx, hb, hml, hr, hlk, hown, hts, hR, hK, hD⟩ := C
  intro H locs ls hP hS hl
  obtain ⟨C, T, N, w1, w2, w3, w4⟩ := hw
  exact va_get hx hb hts w4 hown hK hP p (xw_get hsh) w1 k w2 (hts _ w3) (fun _ h => h) (v := .int (st.1 p k)) (by rw [xfl_get, hf, Nat.zero_add]; rfl) hd (kk H locs ls hP hS hl)

theorem X_putI {κ : xK} {M : xM} {d pc : Nat} {L : List (Nat × Value)} {S : List Value} {st : xSt} {p ci index k : Nat} {fs : List (Option Nat)} {v : Int32} (C : Cx κ M d) (hsh : xshapes[p]? = some (.inl (ci, fs))) (hf : fs[k]? = some none) (hw : xFI M.1.cls index ci k) (hd : decode M.2.1 pc = .ok (.putfield index, 3)) (kk : X κ (pc + 3) L S (xup st p k v)) : X κ pc L (.int v :: .ref p :: S) st := by
  obtain ⟨pg, l, e, R, s, m, args, below, meth, c, cells, slots, QQ, A, G⟩ := κ
  obtain ⟨hx, hb, hml, hr, hlk, hown, hts, hR, hK, hD⟩ := C
  intro H locs ls hP hS hl
  obtain ⟨C, T, N, ty, w1, w2, w3, w4, w5, w6, w7, w8⟩ := hw
  refine va_put hx hb hts w4 ty w5 w6 hown hK hP (xw_D st hD) hS p (xw_get hsh) w1 k w2 (hts _ w3) (fun _ h => h) w7 (v := .int v) w8 rfl rfl (by rw [xfl_len]; exact (List.getElem?_eq_some_iff.mp hf).1) hd (fun H1 locs1 hP1 _ hS1 => kk H1 locs1 ls ?_ hS1 hl)
  have e : xcell G (xup st p k v) p (.inl (ci, fs)) = .inr (ci, (xfl G (st.1 p) 0 fs).set k (.int v)) := by
    show (Sum.inr (ci, xfl G ((xup st p k v).1 p) 0 fs) : va_E) = _
    rw [xup_at, xfl_set G _ v fs 0 k hf, Nat.zero_add]
  rw [← e, xw_set hsh (xup_ne st p k v)] at hP1
  exact hP1

theorem X_putZ {κ : xK} {M : xM} {d pc : Nat} {L : List (Nat × Value)} {S : List Value} {st : xSt} {p ci index k : Nat} {fs : List (Option Nat)} {v : Int32} (C : Cx κ M d) (hsh : xshapes[p]? = some (.inl (ci, fs))) (hf : fs[k]? = some none) (hw : xFZ M.1.cls index ci k) (hv : v = 0 ∨ v = 1) (hd : decode M.2.1 pc = .ok (.putfield index, 3)) (kk : X κ (pc + 3) L S (xup st p k v)) : X κ pc L (.int v :: .ref p :: S) st := by
  obtain ⟨pg, l, e, R, s, m, args, below, meth, c, cells, slots, QQ, A, G⟩ := κ
  obtain ⟨hx, hb, hml, hr, hlk, hown, hts, hR, hK, hD⟩ := C
  intro H locs ls hP hS hl
  obtain ⟨C, T, N, ty, w1, w2, w3, w4, w5, w6, w7, w8⟩ := hw
  refine va_put hx hb hts w4 ty w5 w6 hown hK hP (xw_D st hD) hS p (xw_get hsh) w1 k w2 (hts _ w3) (fun _ h => h) w7 (v := .int v) w8 (by rcases hv with h | h <;> rw [h] <;> rfl) (by rcases hv with h | h <;> rw [h] <;> rfl) (by rw [xfl_len]; exact (List.getElem?_eq_some_iff.mp hf).1) hd (fun H1 locs1 hP1 _ hS1 => kk H1 locs1 ls ?_ hS1 hl)
  have e : xcell G (xup st p k v) p (.inl (ci, fs)) = .inr (ci, (xfl G (st.1 p) 0 fs).set k (.int v)) := by
    show (Sum.inr (ci, xfl G ((xup st p k v).1 p) 0 fs) : va_E) = _
    rw [xup_at, xfl_set G _ v fs 0 k hf, Nat.zero_add]
  rw [← e, xw_set hsh (xup_ne st p k v)] at hP1
  exact hP1

theorem X_iald {κ : xK} {M : xM} {d pc : Nat} {L : List (Nat × Value)} {S : List Value} {st : xSt} {p n r : Nat} {i : Int32} (C : Cx κ M d) (hsh : xshapes[p]? = some (.inr (0, n, r))) (hin : vp_in i n) (hd : decode M.2.1 pc = .ok (.iaload, 1)) (kk : X κ (pc + 1) L (.int (st.1 p i.toNatClampNeg) :: S) st) : X κ pc L (.int i :: .ref p :: S) st := by
  obtain ⟨pg, l, e, R, s, m, args, below, meth, c, cells, slots, QQ, A, G⟩ := κ
  obtain ⟨hx, hb, hml, hr, hlk, hown, hts, hR, hK, hD⟩ := C
  intro H locs ls hP hS hl
  exact va_iald hx hb hK hP p 0 (xw_get hsh) rfl hin hd (kk H locs ls hP hS hl)

theorem X_zald {κ : xK} {M : xM} {d pc : Nat} {L : List (Nat × Value)} {S : List Value} {st : xSt} {p n r : Nat} {i : Int32} (C : Cx κ M d) (hsh : xshapes[p]? = some (.inr (2, n, r))) (hin : vp_in i n) (hd : decode M.2.1 pc = .ok (.baload, 1)) (kk : X κ (pc + 1) L (.int (st.1 p i.toNatClampNeg) :: S) st) : X κ pc L (.int i :: .ref p :: S) st := by
  obtain ⟨pg, l, e, R, s, m, args, below, meth, c, cells, slots, QQ, A, G⟩ := κ
  obtain ⟨hx, hb, hml, hr, hlk, hown, hts, hR, hK, hD⟩ := C
  intro H locs ls hP hS hl
  exact va_zald hx hb hK hP p 2 (xw_get hsh) rfl hin hd (kk H locs ls hP hS hl)

theorem X_lald {κ : xK} {M : xM} {d pc : Nat} {L : List (Nat × Value)} {S : List Value} {st : xSt} {p n r : Nat} {i : Int32} (C : Cx κ M d) (hsh : xshapes[p]? = some (.inr (1, n, r))) (hin : vp_in i n) (hd : decode M.2.1 pc = .ok (.laload, 1)) (kk : X κ (pc + 1) L (.long (st.2 p i.toNatClampNeg) :: S) st) : X κ pc L (.int i :: .ref p :: S) st := by
  obtain ⟨pg, l, e, R, s, m, args, below, meth, c, cells, slots, QQ, A, G⟩ := κ
  obtain ⟨hx, hb, hml, hr, hlk, hown, hts, hR, hK, hD⟩ := C
  intro H locs ls hP hS hl
  exact va_lald hx hb hK hP p 1 (xw_get hsh) rfl hin hd (kk H locs ls hP hS hl)

theorem X_aald {κ : xK} {M : xM} {d pc : Nat} {L : List (Nat × Value)} {S : List Value} {st : xSt} {p n r : Nat} {i : Int32} (C : Cx κ M d) (hsh : xshapes[p]? = some (.inr (3, n, r))) (hin : vp_in i n) (hd : decode M.2.1 pc = .ok (.aaload, 1)) (kk : X κ (pc + 1) L (.ref (r + i.toNatClampNeg) :: S) st) : X κ pc L (.int i :: .ref p :: S) st := by
  obtain ⟨pg, l, e, R, s, m, args, below, meth, c, cells, slots, QQ, A, G⟩ := κ
  obtain ⟨hx, hb, hml, hr, hlk, hown, hts, hR, hK, hD⟩ := C
  intro H locs ls hP hS hl
  have hlt : i.toNatClampNeg < n := Nat.not_le.mp fun q => hin (Or.inr q)
  have h1 : va_at G.1 vwCl (G.2.1 p, xcell G st p (.inr (3, n, r))) H := hP p _ (xw_get hsh)
  exact W.aald (v := .ref (G.2.1 (r + i.toNatClampNeg))) (ty := .array .int) hx hb h1 ((hK.2 3 _ rfl).1 n (fun j => va_rf (if j < n then some (G.2.1 (r + j)) else none))) rfl (fun q => by cases q) (by show ¬ (i < 0 ∨ (arrV _ _ _).slots.size ≤ _); rw [arrV_size]; exact hin) (by show (arrV _ _ _).slots[_]? = _; rw [arrV_read _ _ hlt]; show some (va_rf (if i.toNatClampNeg < n then some (G.2.1 (r + i.toNatClampNeg)) else none)) = _; rw [if_pos hlt]; rfl) rfl rfl hd (kk H locs ls hP hS hl)

theorem X_iast {κ : xK} {M : xM} {d pc : Nat} {L : List (Nat × Value)} {S : List Value} {st : xSt} {p n r : Nat} {i : Int32} {x : Int32} (C : Cx κ M d) (hsh : xshapes[p]? = some (.inr (0, n, r))) (hin : vp_in i n) (hd : decode M.2.1 pc = .ok (.iastore, 1)) (kk : X κ (pc + 1) L S (xup st p i.toNatClampNeg x)) : X κ pc L (.int x :: .int i :: .ref p :: S) st := by
  obtain ⟨pg, l, e, R, s, m, args, below, meth, c, cells, slots, QQ, A, G⟩ := κ
  obtain ⟨hx, hb, hml, hr, hlk, hown, hts, hR, hK, hD⟩ := C
  intro H locs ls hP hS hl
  refine va_iast hx hb hK hP (xw_D st hD) hS p 0 (xw_get hsh) rfl hin hd (fun H1 locs1 hP1 _ hS1 => kk H1 locs1 ls ?_ hS1 hl)
  rw [← xw_set (G := G) (st := st) hsh (xup_ne st p i.toNatClampNeg x)]
  have e := xup_at st p i.toNatClampNeg x
  show va_P G.1 vwCl ((xw G st).set p (G.2.1 p, .inl (_, n, .inl ((xup st p i.toNatClampNeg x).1 p)))) H1
  rw [e]
  exact hP1

theorem X_zast {κ : xK} {M : xM} {d pc : Nat} {L : List (Nat × Value)} {S : List Value} {st : xSt} {p n r : Nat} {i : Int32} {x : Int32} (C : Cx κ M d) (hsh : xshapes[p]? = some (.inr (2, n, r))) (hin : vp_in i n) (hd : decode M.2.1 pc = .ok (.bastore, 1)) (kk : X κ (pc + 1) L S (xup st p i.toNatClampNeg (vp_nar .boolean x))) : X κ pc L (.int x :: .int i :: .ref p :: S) st := by
  obtain ⟨pg, l, e, R, s, m, args, below, meth, c, cells, slots, QQ, A, G⟩ := κ
  obtain ⟨hx, hb, hml, hr, hlk, hown, hts, hR, hK, hD⟩ := C
  intro H locs ls hP hS hl
  refine va_zast hx hb hK hP (xw_D st hD) hS p 2 (xw_get hsh) rfl hin hd (fun H1 locs1 hP1 _ hS1 => kk H1 locs1 ls ?_ hS1 hl)
  rw [← xw_set (G := G) (st := st) hsh (xup_ne st p i.toNatClampNeg (vp_nar .boolean x))]
  have e := xup_at st p i.toNatClampNeg (vp_nar .boolean x)
  show va_P G.1 vwCl ((xw G st).set p (G.2.1 p, .inl (_, n, .inl ((xup st p i.toNatClampNeg (vp_nar .boolean x)).1 p)))) H1
  rw [e]
  exact hP1

theorem X_last {κ : xK} {M : xM} {d pc : Nat} {L : List (Nat × Value)} {S : List Value} {st : xSt} {p n r : Nat} {i : Int32} {x : Int64} (C : Cx κ M d) (hsh : xshapes[p]? = some (.inr (1, n, r))) (hin : vp_in i n) (hd : decode M.2.1 pc = .ok (.lastore, 1)) (kk : X κ (pc + 1) L S (xupL st p i.toNatClampNeg x)) : X κ pc L (.long x :: .int i :: .ref p :: S) st := by
  obtain ⟨pg, l, e, R, s, m, args, below, meth, c, cells, slots, QQ, A, G⟩ := κ
  obtain ⟨hx, hb, hml, hr, hlk, hown, hts, hR, hK, hD⟩ := C
  intro H locs ls hP hS hl
  refine va_last hx hb hK hP (xw_D st hD) hS p 1 (xw_get hsh) rfl hin hd (fun H1 locs1 hP1 _ hS1 => kk H1 locs1 ls ?_ hS1 hl)
  rw [← xw_set (G := G) (st := st) hsh (xupL_ne st p i.toNatClampNeg x)]
  have e := xupL_at st p i.toNatClampNeg x
  show va_P G.1 vwCl ((xw G st).set p (G.2.1 p, .inl (_, n, .inr (.inl ((xupL st p i.toNatClampNeg x).2 p))))) H1
  rw [e]
  exact hP1

theorem X_alenI {κ : xK} {M : xM} {d pc : Nat} {L : List (Nat × Value)} {S : List Value} {st : xSt} {p n r : Nat} {v : Int32} (C : Cx κ M d) (hsh : xshapes[p]? = some (.inr (0, n, r))) (hv : Int32.ofNat n = v) (hd : decode M.2.1 pc = .ok (.arraylength, 1)) (kk : X κ (pc + 1) L (.int v :: S) st) : X κ pc L (.ref p :: S) st := by
  obtain ⟨pg, l, e, R, s, m, args, below, meth, c, cells, slots, QQ, A, G⟩ := κ
  obtain ⟨hx, hb, hml, hr, hlk, hown, hts, hR, hK, hD⟩ := C
  intro H locs ls hP hS hl
  exact va_alen hx hb hK hP p 0 (xw_get hsh) rfl hv hd (kk H locs ls hP hS hl)

theorem X_alenJ {κ : xK} {M : xM} {d pc : Nat} {L : List (Nat × Value)} {S : List Value} {st : xSt} {p n r : Nat} {v : Int32} (C : Cx κ M d) (hsh : xshapes[p]? = some (.inr (1, n, r))) (hv : Int32.ofNat n = v) (hd : decode M.2.1 pc = .ok (.arraylength, 1)) (kk : X κ (pc + 1) L (.int v :: S) st) : X κ pc L (.ref p :: S) st := by
  obtain ⟨pg, l, e, R, s, m, args, below, meth, c, cells, slots, QQ, A, G⟩ := κ
  obtain ⟨hx, hb, hml, hr, hlk, hown, hts, hR, hK, hD⟩ := C
  intro H locs ls hP hS hl
  exact va_alen hx hb hK hP p 1 (xw_get hsh) rfl hv hd (kk H locs ls hP hS hl)

theorem X_iret {κ : xK} {M : xM} {d pc : Nat} {L : List (Nat × Value)} {st : xSt} {v : Int32} {Q : Option Value → xSt → Prop} (C : Cx κ M d) (Z : xR κ Q) (hrt : M.2.2.2 = some .int) (hd : decode M.2.1 pc = .ok (.ireturn, 1)) (hq : Q (some (.int v)) st) : X κ pc L [.int v] st := by
  obtain ⟨pg, l, e, R, s, m, args, below, meth, c, cells, slots, QQ, A, G⟩ := κ
  obtain ⟨hx, hb, hml, hr, hlk, hown, hts, hR, hK, hD⟩ := C
  intro H locs ls hP hS hl
  obtain ⟨rfl, rfl⟩ := Z
  exact W.iret hx hb (hr.trans hrt) (fun t ht hW => ⟨⟨some (.int v), st, rfl, hq, by rw [ht]; exact hP⟩, hS.F ht⟩) hS.2.2 hd
theorem X_lret {κ : xK} {M : xM} {d pc : Nat} {L : List (Nat × Value)} {st : xSt} {v : Int64} {Q : Option Value → xSt → Prop} (C : Cx κ M d) (Z : xR κ Q) (hrt : M.2.2.2 = some .long) (hd : decode M.2.1 pc = .ok (.lreturn, 1)) (hq : Q (some (.long v)) st) : X κ pc L [.long v] st := by
  obtain ⟨pg, l, e, R, s, m, args, below, meth, c, cells, slots, QQ, A, G⟩ := κ
  obtain ⟨hx, hb, hml, hr, hlk, hown, hts, hR, hK, hD⟩ := C
  intro H locs ls hP hS hl
  obtain ⟨rfl, rfl⟩ := Z
  exact W.lret hx hb (hr.trans hrt) (fun t ht hW => ⟨⟨some (.long v), st, rfl, hq, by rw [ht]; exact hP⟩, hS.F ht⟩) hS.2.2 hd
theorem X_zret {κ : xK} {M : xM} {d pc : Nat} {L : List (Nat × Value)} {st : xSt} {v : Int32} {Q : Option Value → xSt → Prop} (C : Cx κ M d) (Z : xR κ Q) (hrt : M.2.2.2 = some .boolean) (hv : v = 0 ∨ v = 1) (hd : decode M.2.1 pc = .ok (.ireturn, 1)) (hq : Q (some (.int v)) st) : X κ pc L [.int v] st := by
  obtain ⟨pg, l, e, R, s, m, args, below, meth, c, cells, slots, QQ, A, G⟩ := κ
  obtain ⟨hx, hb, hml, hr, hlk, hown, hts, hR, hK, hD⟩ := C
  intro H locs ls hP hS hl
  obtain ⟨rfl, rfl⟩ := Z
  refine W.zret hx hb (hr.trans hrt) ?_ (fun t ht hW => ⟨⟨some (.int v), st, rfl, hq, by rw [ht]; exact hP⟩, hS.F ht⟩) hS.2.2 hd
  rcases hv with rfl | rfl <;> rfl
theorem X_vret {κ : xK} {M : xM} {d pc : Nat} {L : List (Nat × Value)} {st : xSt} {Q : Option Value → xSt → Prop} (C : Cx κ M d) (Z : xR κ Q) (hrt : M.2.2.2 = none) (hd : decode M.2.1 pc = .ok (.return_, 1)) (hq : Q none st) : X κ pc L [] st := by
  obtain ⟨pg, l, e, R, s, m, args, below, meth, c, cells, slots, QQ, A, G⟩ := κ
  obtain ⟨hx, hb, hml, hr, hlk, hown, hts, hR, hK, hD⟩ := C
  intro H locs ls hP hS hl
  obtain ⟨rfl, rfl⟩ := Z
  exact W.vret hx hb (hr.trans hrt) (fun t ht hW => ⟨⟨none, st, rfl, hq, by rw [ht]; exact hP⟩, hS.F ht⟩) hS.2.2 hd
end
section
theorem xargs (G : xG) : ∀ (as : List Value) (i : Nat), lv_args i (as.map (xv G)) = xvL G (lv_args i as)
  | [], _ => rfl
  | v :: vs, i => by
    have ih := xargs G vs (if v.category = 2 then i + 2 else i + 1)
    show (i, xv G v) :: lv_args (if (xv G v).category = 2 then i + 2 else i + 1) (vs.map (xv G)) = (i, xv G v) :: xvL G (lv_args (if v.category = 2 then i + 2 else i + 1) vs)
    rw [xv_cat, ih]
theorem xsl (G : xG) : ∀ (as : List Value), (lg_sl (as.map (xv G))).length = (lg_sl as).length
  | [] => rfl
  | v :: vs => by
    have ih := xsl G vs
    unfold lg_sl at ih ⊢
    rw [List.map_cons, List.flatMap_cons, List.flatMap_cons, List.length_append, List.length_append, ih, xv_cat]
    by_cases h : v.category = 2 <;> simp [h]
theorem xcats (G : xG) (S : List Value) : ((S.map (xv G)).map fun v => v.category).sum = (S.map fun v => v.category).sum := by
  rw [List.map_map]
  congr 1
  apply List.map_congr_left
  intro v _
  exact xv_cat G v
def lw_nest : List Cond := lw_tbl.filter isNest
def xNw (U : State) : Prop := ∀ w ∈ lw_nest, va_Nw w U
theorem nest_on {w : Cond} (h : w ∈ lw_nest) : w.onTables = true := by
  have h2 := (List.mem_filter.mp h).2
  cases w <;> first | rfl | (simp [isNest] at h2)
theorem nest_use {w : Cond} (h : w ∈ lw_nest) : w ∈ lw_use := by
  obtain ⟨a, b⟩ := List.mem_filter.mp h
  exact List.mem_filter.mpr ⟨a, by rw [b]; exact Bool.or_true _⟩
theorem nest_warm {w : Cond} (h : w ∈ lw_nest) {s U : State} (hW : s.WarmedH U.vm) (hZ : va_Nw w s) : va_Nw w U := by
  have h2 := (List.mem_filter.mp h).2
  cases w <;> first | exact va_Nw.warmM hW hZ | (simp [isNest] at h2)
/-- method M, called with as in the world st, returns, and Q holds of its answer and the world behind it; d: room for calls -/
def Ct (d : Nat) (M : xM) (as : List Value) (st : xSt) (Q : Option Value → xSt → Prop) : Prop := ∃ Q0 : Option Value → xSt → Prop, (∀ r st', Q0 r st' → Q r st') ∧ ∀ (l : Launch) (G : xG), Met l M.1 (.code M.1 M.2.1 M.2.2.1 M.2.2.2 :: lw_good) ({ frames := d, cells := 0, slots := 0, locals := 64 * d }) (va_Pc (as.map (xv G)) (fun U => va_P G.1 vwCl (xw G st) U.heap ∧ va_K G.1 vwCl (xtys G) U ∧ va_D (fun _ => True) (xw G st) ∧ xNw U)) (xQ G Q0) 0 0 (xA G)
theorem Ct_mono {d : Nat} {M : xM} {as : List Value} {st : xSt} {Q Q' : Option Value → xSt → Prop} (h : Ct d M as st Q) (hm : ∀ r st', Q r st' → Q' r st') : Ct d M as st Q' := by
  obtain ⟨Q0, a, b⟩ := h
  exact ⟨Q0, fun r st' q => hm r st' (a r st' q), b⟩
theorem Ct_of {d : Nat} {M : xM} {as : List Value} {st : xSt} {Q : Option Value → xSt → Prop} (hpl : plainName M.1.cls = true) (hlen : (lg_sl as).length ≤ M.2.2.1) (h : ∀ κ, Cx κ M d → xR κ Q → X κ 0 (lv_args 0 as) [] st) : Ct d M as st Q := by
  refine ⟨Q, fun _ _ q => q, fun l G => ?_⟩
  refine Met.ofW (cc := M.2.1) (maxL := M.2.2.1) (ret := M.2.2.2) hpl rfl ?_
  intro p e s m args below meth c s₁ B hml hv
  obtain ⟨rfl, hP, hK, hD0, hN⟩ := hv
  have hts := atoms_spec (ws := .code M.1 M.2.1 M.2.2.1 M.2.2.2 :: lw_good) B.pre
  have hts2 : ∀ w ∈ lw_use, w.before ((as.map (xv G)).toArray) s = true := by
    intro w hw
    obtain ⟨a, b⟩ := List.mem_filter.mp hw
    rcases Bool.or_eq_true _ _ ▸ b with g | g
    · exact hts w (List.mem_cons_of_mem _ (List.mem_filter.mpr ⟨a, g⟩))
    · have hm : w ∈ lw_nest := List.mem_filter.mpr ⟨a, g⟩
      exact va_Nw.use (nest_on hm) (hN w hm)
  have hD : va_D (xA G) (xw G st) := ⟨hD0.1, fun k q hk => by
    have hl : k < (xw G st).length := (List.getElem?_eq_some_iff.mp hk).1
    rw [xw_all] at hk
    cases hs : xshapes[k]? with
    | none => rw [hs] at hk; cases hk
    | some sh => rw [hs] at hk; cases hk; exact ⟨k, (List.getElem?_eq_some_iff.mp hs).1, rfl⟩⟩
  have hX := h (p, l, e, ({ frames := d, cells := 0, slots := 0, locals := 64 * d } : Room), s, m, _, below, meth, c, 0, 0, MQ below (xQ G Q) _ s 0 0 (xA G), xA G, G) ⟨B.exec, B.bytes, hml, B.returns, B.notSynchronized, findClass_of_methodNamed B.named, hts2, ⟨Nat.le_refl _, Nat.le_refl _, Nat.zero_le _, Nat.zero_le _⟩, hK, xw_D _ hD⟩ ⟨rfl, rfl⟩
  rw [lg_entry_eq]
  have he := lv_entry (as.map (xv G)) (n := M.2.2.1) (by rw [xsl]; exact hlen)
  rw [xargs] at he
  exact hX s.heap [] _ hP va_S.rf (by rw [hml]; exact he)
section XC
variable {p : Program} {l : Launch} {e : Env} {R : Room} {s : State} {m : MethodId} {args : Array Value} {below : List Frame} {meth : Method} {c : Code} {H : Heap} {locs : List Loc} {cells slots : Nat} {QQ : State → Prop}
theorem W_xcall {G : xG} {A : Nat → Prop} {Q' : Option Value → xSt → Prop} {pc : Nat} {ls : Array Slot} {st0 rest : List Value} {a : Array Value} (hr : va_Run p l e R s m args below meth c H locs cells slots 0 0 (F0 m pc ls st0) rest (xQ G Q' a) (xA G)) (hS : va_S A s.heap H locs) (hA : ∀ q, xA G q → A q)
    (kk : ∀ (r : Option Value) (st' : xSt) (H1 : Heap) (locs1 : List Loc), Q' r st' → va_P G.1 vwCl (xw G st') H1 → va_S A s.heap H1 locs1 → W p l e R s m args below meth c H1 locs1 cells slots QQ (F0 m (pc + 3) ls ((r.map (xv G)).toList ++ rest))) : W p l e R s m args below meth c H locs cells slots QQ (F0 m pc ls st0) := by
  intro T hT X
  obtain ⟨v, st₀, t, T', L, h0, X', hL, e1, e2, ⟨⟨r, st', hv, hq, hp⟩, hz, hk⟩, st⟩ := hr T hT X
  cases hv
  rw [h0] at hz hk
  obtain ⟨t2, a1, b1⟩ := kk r st' T'.heap (locs ++ L) hq (by rw [e1]; exact hp) ⟨Nat.le_trans hS.1 (by rw [e1]; exact hz), fun q h1 h2 => by rw [e1, hk q (Nat.lt_of_lt_of_le h1 hS.1) (fun z => h2 (hA q z))]; exact hS.2.1 q h1 h2, fun q hq => by
      rcases List.mem_append.mp hq with h | h
      · exact hS.2.2 q h
      · exact hA _ (hL q h)⟩ T' rfl X'
  exact ⟨t2, st t2 a1, b1⟩
end XC
/-- what a call at pool place 'index' of class own needs of the tables: method M', with n arguments -/
def xCB (own : String) (index : Nat) (M' : xM) (n : Nat) : Prop := Cond.methodLink own index M'.1 ∈ lw_use ∧ Cond.initialized M'.1.cls ∈ lw_use ∧ Cond.code M'.1 M'.2.1 M'.2.2.1 M'.2.2.2 ∈ lw_use ∧ (M'.1.cls ≠ "java/lang/invoke/MethodHandle" ∧ M'.1.cls ≠ "java/lang/invoke/VarHandle" ∧ (parseMethodDescriptor M'.1.desc).map (fun d => d.parameters.length) = some n) ∧ M'.2.2.1 ≤ 45
def xCV (own : String) (index : Nat) (M' : xM) (n : Nat) : Prop := xCB own index M' n ∧ Cond.instanceMethod M'.1 ∈ lw_use ∧ Cond.selects M'.1.cls M'.1 M'.1 ∈ lw_use
def xCS (own : String) (index : Nat) (M' : xM) (n : Nat) : Prop := xCB own index M' n ∧ Cond.static M'.1 ∈ lw_use
def xCN (own : String) (index : Nat) (host : String) (M' : xM) (n : Nat) : Prop := (Cond.methodLinkNest own index M'.1 host ∈ lw_use ∧ Cond.initialized M'.1.cls ∈ lw_use ∧ Cond.code M'.1 M'.2.1 M'.2.2.1 M'.2.2.2 ∈ lw_use ∧ (M'.1.cls ≠ "java/lang/invoke/MethodHandle" ∧ M'.1.cls ≠ "java/lang/invoke/VarHandle" ∧ (parseMethodDescriptor M'.1.desc).map (fun d => d.parameters.length) = some n) ∧ M'.2.2.1 ≤ 45) ∧ Cond.static M'.1 ∈ lw_use
theorem good_code {M' : xM} (h : Cond.code M'.1 M'.2.1 M'.2.2.1 M'.2.2.2 ∈ lw_use) : GoodIn lw_use (.code M'.1 M'.2.1 M'.2.2.1 M'.2.2.2 :: lw_good) := by
  intro w hw
  rcases List.mem_cons.mp hw with e | e
  · subst e
    exact ⟨h, Or.inl rfl⟩
  · exact ⟨use_good e, good_of_word (List.mem_filter.mp e).2⟩
theorem xPre_blind (G : xG) (st : xSt) (as : List Value) : FrameBlind (va_Pc as (fun U => va_P G.1 vwCl (xw G st) U.heap ∧ va_K G.1 vwCl (xtys G) U ∧ va_D (fun _ => True) (xw G st) ∧ xNw U)) := by
  intro a U g mk q
  obtain ⟨q0, qP, qK, qD, qN⟩ := q
  exact ⟨q0, qP, va_K.moved (u := U) (U := U.calling g mk a) (Vm.Alike.refl U.vm) qK, qD, fun w hw => va_Nw.same (nest_on hw) (u := U) (U := U.calling g mk a) rfl (qN w hw)⟩
theorem xPre_at {G : xG} {st : xSt} {s U : State} {H : Heap} {A : Nat → Prop} {args : Array Value} {as : List Value} (hP : va_P G.1 vwCl (xw G st) H) (hK : va_K G.1 vwCl (xtys G) s) (hD : va_D A (xw G (fun _ _ => 0, fun _ _ => 0))) (hts : ∀ w ∈ lw_use, w.before args s = true) (hU : U.heap = H) (hW : s.WarmedH U.vm) : va_Pc as (fun U => va_P G.1 vwCl (xw G st) U.heap ∧ va_K G.1 vwCl (xtys G) U ∧ va_D (fun _ => True) (xw G st) ∧ xNw U) as.toArray U :=
  ⟨rfl, by rw [hU]; exact hP, va_K.moved hW.alike hK, (xw_D st hD).weaken (fun _ _ _ _ => trivial), fun w hw => nest_warm hw hW (va_Nw.of (nest_on hw) (hts w (nest_use hw)))⟩
theorem xA_of {G : xG} {A : Nat → Prop} {st : xSt} (hD : va_D A (xw G st)) : ∀ q, xA G q → A q := by
  rintro q ⟨p, hp, rfl⟩
  obtain ⟨sh, hs⟩ : ∃ sh, xshapes[p]? = some sh := ⟨xshapes[p], List.getElem?_eq_getElem hp⟩
  exact hD.2 p _ (xw_get (G := G) (st := st) hs)
theorem X_callV {κ : xK} {M : xM} {d pc : Nat} {L : List (Nat × Value)} {S S0 : List Value} {st : xSt} {M' : xM} {as : List Value} {b index n ci : Nat} {fs : List (Option Nat)} (C : Cx κ M (d + 1)) (hd : decode M.2.1 pc = .ok (.invokevirtual index, 3)) (hw : xCV M.1.cls index M' n) (hsh : xshapes[b]? = some (.inl (ci, fs))) (hci : (vwCl[ci]?).map (fun q => q.1) = some M'.1.cls) (hst : S0 = as.reverse ++ .ref b :: S) (hn : as.length = n) (hcat : (S.map fun v => v.category).sum ≤ 8) (h : Ct d M' (.ref b :: as) st (fun r st' => X κ (pc + 3) L (r.toList ++ S) st')) : X κ pc L S0 st := by
  obtain ⟨p, l, e, R, s, m, args, below, meth, c, cells, slots, QQ, A, G⟩ := κ
  obtain ⟨hx, hb, hml, hr, hlk, hown, hts, hR, hK, hD⟩ := C
  intro H locs ls hP hS hl
  subst hst
  obtain ⟨Q0, hm, h⟩ := h
  obtain ⟨⟨w1, w2, w3, w4, w5⟩, w6, w7⟩ := hw
  obtain ⟨q, hq1, hq2⟩ := Option.map_eq_some_iff.mp hci
  have hrv := va_recv hK hP hq1 (xw_get (G := G) (st := st) hsh)
  rw [hq2] at hrv
  have cw : CallW R s args M.1.cls M'.1.cls index M'.1 M'.2.1 M'.2.2.1 M'.2.2.2 (.code M'.1 M'.2.1 M'.2.2.1 M'.2.2.2 :: lw_good) ({ frames := d, cells := 0, slots := 0, locals := 64 * d }) 0 0 n :=
    ⟨callB_of n hts (good_code w3) rfl rfl rfl (hts _ w2) (hts _ w1) w4 ⟨hR.1, by have := hR.2.1; show 8 + (M'.2.2.1 + 11) + 64 * d ≤ R.locals; omega⟩, hts _ w6, hts _ w7⟩
  refine W_xcall (va_runV (C := M'.1.cls) (b := G.2.1 b) (As := as.map (xv G)) (rest := S.map (xv G)) ⟨hx, hb, rfl, hown, hts⟩ (h l G) cw ⟨xPre_blind G st _, hrv, fun U hU hW => xPre_at hP hK hD hts hU hW⟩ rfl (by rw [List.length_map]; exact hn) hl.1 (by simp [xv]) (lv_room (by rw [xcats]; exact hcat)) hd ⟨hR.2.2.1, hR.2.2.2⟩) hS (xA_of hD) (fun r st' H1 locs1 hq hp hs => ?_)
  have hX := hm r st' hq H1 locs1 ls hp hs hl
  cases r <;> exact hX
theorem X_callS {κ : xK} {M : xM} {d pc : Nat} {L : List (Nat × Value)} {S S0 : List Value} {st : xSt} {M' : xM} {as : List Value} {index n : Nat} (C : Cx κ M (d + 1)) (hd : decode M.2.1 pc = .ok (.invokestatic index, 3)) (hw : xCS M.1.cls index M' n) (hst : S0 = as.reverse ++ S) (hn : as.length = n) (hcat : (S.map fun v => v.category).sum ≤ 8) (h : Ct d M' as st (fun r st' => X κ (pc + 3) L (r.toList ++ S) st')) : X κ pc L S0 st := by
  obtain ⟨p, l, e, R, s, m, args, below, meth, c, cells, slots, QQ, A, G⟩ := κ
  obtain ⟨hx, hb, hml, hr, hlk, hown, hts, hR, hK, hD⟩ := C
  intro H locs ls hP hS hl
  subst hst
  obtain ⟨Q0, hm, h⟩ := h
  obtain ⟨⟨w1, w2, w3, w4, w5⟩, w6⟩ := hw
  have cw : CallB R s args M.1.cls index M'.1 M'.2.1 M'.2.2.1 M'.2.2.2 (.code M'.1 M'.2.1 M'.2.2.1 M'.2.2.2 :: lw_good) ({ frames := d, cells := 0, slots := 0, locals := 64 * d }) 0 0 n :=
    callB_of n hts (good_code w3) rfl rfl rfl (hts _ w2) (hts _ w1) w4 ⟨hR.1, by have := hR.2.1; show 8 + (M'.2.2.1 + 11) + 64 * d ≤ R.locals; omega⟩
  refine W_xcall (va_runS (As := as.map (xv G)) (rest := S.map (xv G)) ⟨hx, hb, rfl, hown, hts⟩ (h l G) ⟨cw, hts _ w6⟩ ⟨xPre_blind G st _, fun U hU hW => xPre_at hP hK hD hts hU hW⟩ rfl (by rw [List.length_map]; exact hn) hl.1 (by simp) (lv_room (by rw [xcats]; exact hcat)) hd ⟨hR.2.2.1, hR.2.2.2⟩) hS (xA_of hD) (fun r st' H1 locs1 hq hp hs => ?_)
  have hX := hm r st' hq H1 locs1 ls hp hs hl
  cases r <;> exact hX
theorem X_callN {κ : xK} {M : xM} {d pc : Nat} {L : List (Nat × Value)} {S S0 : List Value} {st : xSt} {M' : xM} {as : List Value} {index n : Nat} {host : String} (C : Cx κ M (d + 1)) (hd : decode M.2.1 pc = .ok (.invokestatic index, 3)) (hw : xCN M.1.cls index host M' n) (hst : S0 = as.reverse ++ S) (hn : as.length = n) (hcat : (S.map fun v => v.category).sum ≤ 8) (h : Ct d M' as st (fun r st' => X κ (pc + 3) L (r.toList ++ S) st')) : X κ pc L S0 st := by
  obtain ⟨p, l, e, R, s, m, args, below, meth, c, cells, slots, QQ, A, G⟩ := κ
  obtain ⟨hx, hb, hml, hr, hlk, hown, hts, hR, hK, hD⟩ := C
  intro H locs ls hP hS hl
  subst hst
  obtain ⟨Q0, hm, h⟩ := h
  obtain ⟨⟨w1, w2, w3, w4, w5⟩, w6⟩ := hw
  have cw : va_CN R s args M.1.cls index M'.1 host M'.2.1 M'.2.2.1 M'.2.2.2 (.code M'.1 M'.2.1 M'.2.2.1 M'.2.2.2 :: lw_good) ({ frames := d, cells := 0, slots := 0, locals := 64 * d }) 0 0 n :=
    va_cnB n hts (good_code w3) rfl rfl rfl (va_Nw.of rfl (hts _ w1)) (hts _ w2) w4 ⟨hR.1, by have := hR.2.1; show 8 + (M'.2.2.1 + 11) + 64 * d ≤ R.locals; omega⟩
  refine W_xcall (va_runSN (As := as.map (xv G)) (rest := S.map (xv G)) ⟨hx, hb, rfl, hown, hts⟩ (h l G) ⟨cw, hts _ w6, trivial⟩ ⟨xPre_blind G st _, fun U hU hW => xPre_at hP hK hD hts hU hW⟩ rfl (by rw [List.length_map]; exact hn) hl.1 (by simp) (lv_room (by rw [xcats]; exact hcat)) hd ⟨hR.2.2.1, hR.2.2.2⟩) hS (xA_of hD) (fun r st' H1 locs1 hq hp hs => ?_)
  have hX := hm r st' hq H1 locs1 ls hp hs hl
  cases r <;> exact hX
/-- what is wanted of an answer that is an int, a long, nothing -/
def Qi (P : Int32 → xSt → Prop) (r : Option Value) (st : xSt) : Prop := ∃ v, r = some (.int v) ∧ P v st
def Ql (P : Int64 → xSt → Prop) (r : Option Value) (st : xSt) : Prop := ∃ v, r = some (.long v) ∧ P v st
def Qv (P : xSt → Prop) (r : Option Value) (st : xSt) : Prop := r = none ∧ P st
end
