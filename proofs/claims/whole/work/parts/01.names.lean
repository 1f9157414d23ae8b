-- ===== PART A: goes FIRST, ahead of the names: the tables' words, and 'selects' of the private methods out of them =====
/-- a private method of a class that the tables say can be made, by its rows of tables_1 -/
def lw_okq (q : MethodName × Nat) : Prop := (q.1.cls ≠ "java/lang/invoke/MethodHandle" ∧ q.1.cls ≠ "java/lang/invoke/VarHandle") ∧ Cond.instantiable q.1.cls q.2 ∈ tables_1 ∧ Cond.privateMethod q.1 ∈ tables_1 ∧ Cond.instanceMethod q.1 ∈ tables_1
theorem lw_p0 : lw_okq (⟨"ReturnPoints", "found", "(I)I"⟩, 10) := ⟨⟨by decide +kernel, by decide +kernel⟩, List.mem_of_getElem? (i := 13) (by decide +kernel), List.mem_of_getElem? (i := 202) (by decide +kernel), List.mem_of_getElem? (i := 203) (by decide +kernel)⟩
theorem lw_p1 : lw_okq (⟨"ReturnPoints", "fine", "(I)I"⟩, 10) := ⟨⟨by decide +kernel, by decide +kernel⟩, List.mem_of_getElem? (i := 13) (by decide +kernel), List.mem_of_getElem? (i := 225) (by decide +kernel), List.mem_of_getElem? (i := 226) (by decide +kernel)⟩
theorem lw_p2 : lw_okq (⟨"ReturnPoints", "put", "(I[I)I"⟩, 10) := ⟨⟨by decide +kernel, by decide +kernel⟩, List.mem_of_getElem? (i := 13) (by decide +kernel), List.mem_of_getElem? (i := 263) (by decide +kernel), List.mem_of_getElem? (i := 264) (by decide +kernel)⟩
theorem lw_p3 : lw_okq (⟨"ReturnPoints$Roads", "countComers", "()V"⟩, 12) := ⟨⟨by decide +kernel, by decide +kernel⟩, List.mem_of_getElem? (i := 28) (by decide +kernel), List.mem_of_getElem? (i := 373) (by decide +kernel), List.mem_of_getElem? (i := 374) (by decide +kernel)⟩
theorem lw_p4 : lw_okq (⟨"ReturnPoints$Orbits", "walkFrom", "(I)V"⟩, 6) := ⟨⟨by decide +kernel, by decide +kernel⟩, List.mem_of_getElem? (i := 34) (by decide +kernel), List.mem_of_getElem? (i := 387) (by decide +kernel), List.mem_of_getElem? (i := 388) (by decide +kernel)⟩
theorem lw_p5 : lw_okq (⟨"ReturnPoints$Orbits", "closeRing", "(II)I"⟩, 6) := ⟨⟨by decide +kernel, by decide +kernel⟩, List.mem_of_getElem? (i := 34) (by decide +kernel), List.mem_of_getElem? (i := 392) (by decide +kernel), List.mem_of_getElem? (i := 393) (by decide +kernel)⟩
theorem lw_p6 : lw_okq (⟨"ReturnPoints$Orbits", "hang", "(I)V"⟩, 6) := ⟨⟨by decide +kernel, by decide +kernel⟩, List.mem_of_getElem? (i := 34) (by decide +kernel), List.mem_of_getElem? (i := 397) (by decide +kernel), List.mem_of_getElem? (i := 398) (by decide +kernel)⟩
theorem lw_p7 : lw_okq (⟨"ReturnPoints$Roads", "numberRings", "(LReturnPoints$Poly;)V"⟩, 12) := ⟨⟨by decide +kernel, by decide +kernel⟩, List.mem_of_getElem? (i := 28) (by decide +kernel), List.mem_of_getElem? (i := 401) (by decide +kernel), List.mem_of_getElem? (i := 402) (by decide +kernel)⟩
theorem lw_p8 : lw_okq (⟨"ReturnPoints$Roads", "goRound", "(LReturnPoints$Poly;II)V"⟩, 12) := ⟨⟨by decide +kernel, by decide +kernel⟩, List.mem_of_getElem? (i := 28) (by decide +kernel), List.mem_of_getElem? (i := 406) (by decide +kernel), List.mem_of_getElem? (i := 407) (by decide +kernel)⟩
theorem lw_p9 : lw_okq (⟨"ReturnPoints$Roads", "gatherBasins", "()V"⟩, 12) := ⟨⟨by decide +kernel, by decide +kernel⟩, List.mem_of_getElem? (i := 28) (by decide +kernel), List.mem_of_getElem? (i := 414) (by decide +kernel), List.mem_of_getElem? (i := 415) (by decide +kernel)⟩
theorem lw_p10 : lw_okq (⟨"ReturnPoints", "sizeAsked", "(LReturnPoints$Poly;)I"⟩, 10) := ⟨⟨by decide +kernel, by decide +kernel⟩, List.mem_of_getElem? (i := 13) (by decide +kernel), List.mem_of_getElem? (i := 418) (by decide +kernel), List.mem_of_getElem? (i := 419) (by decide +kernel)⟩
theorem lw_p11 : lw_okq (⟨"ReturnPoints", "body11", "()I"⟩, 10) := ⟨⟨by decide +kernel, by decide +kernel⟩, List.mem_of_getElem? (i := 13) (by decide +kernel), List.mem_of_getElem? (i := 422) (by decide +kernel), List.mem_of_getElem? (i := 423) (by decide +kernel)⟩
theorem lw_p12 : lw_okq (⟨"ReturnPoints", "begin", "(I)V"⟩, 10) := ⟨⟨by decide +kernel, by decide +kernel⟩, List.mem_of_getElem? (i := 13) (by decide +kernel), List.mem_of_getElem? (i := 426) (by decide +kernel), List.mem_of_getElem? (i := 427) (by decide +kernel)⟩
theorem lw_p13 : lw_okq (⟨"ReturnPoints", "body12", "()I"⟩, 10) := ⟨⟨by decide +kernel, by decide +kernel⟩, List.mem_of_getElem? (i := 13) (by decide +kernel), List.mem_of_getElem? (i := 430) (by decide +kernel), List.mem_of_getElem? (i := 431) (by decide +kernel)⟩
theorem lw_p14 : lw_okq (⟨"ReturnPoints", "body10", "()I"⟩, 10) := ⟨⟨by decide +kernel, by decide +kernel⟩, List.mem_of_getElem? (i := 13) (by decide +kernel), List.mem_of_getElem? (i := 434) (by decide +kernel), List.mem_of_getElem? (i := 435) (by decide +kernel)⟩
theorem lw_p15 : lw_okq (⟨"ReturnPoints", "body13", "(LReturnPoints$Poly;)I"⟩, 10) := ⟨⟨by decide +kernel, by decide +kernel⟩, List.mem_of_getElem? (i := 13) (by decide +kernel), List.mem_of_getElem? (i := 442) (by decide +kernel), List.mem_of_getElem? (i := 443) (by decide +kernel)⟩
def lw_privs_1 : List (MethodName × Nat) := [(⟨"ReturnPoints", "found", "(I)I"⟩, 10), (⟨"ReturnPoints", "fine", "(I)I"⟩, 10), (⟨"ReturnPoints", "put", "(I[I)I"⟩, 10), (⟨"ReturnPoints$Roads", "countComers", "()V"⟩, 12), (⟨"ReturnPoints$Orbits", "walkFrom", "(I)V"⟩, 6), (⟨"ReturnPoints$Orbits", "closeRing", "(II)I"⟩, 6), (⟨"ReturnPoints$Orbits", "hang", "(I)V"⟩, 6), (⟨"ReturnPoints$Roads", "numberRings", "(LReturnPoints$Poly;)V"⟩, 12), (⟨"ReturnPoints$Roads", "goRound", "(LReturnPoints$Poly;II)V"⟩, 12), (⟨"ReturnPoints$Roads", "gatherBasins", "()V"⟩, 12), (⟨"ReturnPoints", "sizeAsked", "(LReturnPoints$Poly;)I"⟩, 10), (⟨"ReturnPoints", "body11", "()I"⟩, 10), (⟨"ReturnPoints", "begin", "(I)V"⟩, 10), (⟨"ReturnPoints", "body12", "()I"⟩, 10), (⟨"ReturnPoints", "body10", "()I"⟩, 10), (⟨"ReturnPoints", "body13", "(LReturnPoints$Poly;)I"⟩, 10)]
theorem lw_r1 : ∀ q ∈ lw_privs_1, lw_okq q := List.forall_mem_cons.mpr ⟨lw_p0, List.forall_mem_cons.mpr ⟨lw_p1, List.forall_mem_cons.mpr ⟨lw_p2, List.forall_mem_cons.mpr ⟨lw_p3, List.forall_mem_cons.mpr ⟨lw_p4, List.forall_mem_cons.mpr ⟨lw_p5, List.forall_mem_cons.mpr ⟨lw_p6, List.forall_mem_cons.mpr ⟨lw_p7, List.forall_mem_cons.mpr ⟨lw_p8, List.forall_mem_cons.mpr ⟨lw_p9, List.forall_mem_cons.mpr ⟨lw_p10, List.forall_mem_cons.mpr ⟨lw_p11, List.forall_mem_cons.mpr ⟨lw_p12, List.forall_mem_cons.mpr ⟨lw_p13, List.forall_mem_cons.mpr ⟨lw_p14, List.forall_mem_cons.mpr ⟨lw_p15, fun _ h => absurd h List.not_mem_nil⟩⟩⟩⟩⟩⟩⟩⟩⟩⟩⟩⟩⟩⟩⟩⟩
theorem lw_p16 : lw_okq (⟨"ReturnPoints", "body22", "(LReturnPoints$Poly;)I"⟩, 10) := ⟨⟨by decide +kernel, by decide +kernel⟩, List.mem_of_getElem? (i := 13) (by decide +kernel), List.mem_of_getElem? (i := 446) (by decide +kernel), List.mem_of_getElem? (i := 447) (by decide +kernel)⟩
theorem lw_p17 : lw_okq (⟨"ReturnPoints", "body21", "(LReturnPoints$Poly;)I"⟩, 10) := ⟨⟨by decide +kernel, by decide +kernel⟩, List.mem_of_getElem? (i := 13) (by decide +kernel), List.mem_of_getElem? (i := 450) (by decide +kernel), List.mem_of_getElem? (i := 451) (by decide +kernel)⟩
theorem lw_p18 : lw_okq (⟨"ReturnPoints", "body20", "(LReturnPoints$Poly;)I"⟩, 10) := ⟨⟨by decide +kernel, by decide +kernel⟩, List.mem_of_getElem? (i := 13) (by decide +kernel), List.mem_of_getElem? (i := 454) (by decide +kernel), List.mem_of_getElem? (i := 455) (by decide +kernel)⟩
theorem lw_p19 : lw_okq (⟨"ReturnPoints", "markAsked", "(LReturnPoints$Poly;)I"⟩, 10) := ⟨⟨by decide +kernel, by decide +kernel⟩, List.mem_of_getElem? (i := 13) (by decide +kernel), List.mem_of_getElem? (i := 458) (by decide +kernel), List.mem_of_getElem? (i := 459) (by decide +kernel)⟩
theorem lw_p20 : lw_okq (⟨"ReturnPoints", "body23", "(LReturnPoints$Poly;)I"⟩, 10) := ⟨⟨by decide +kernel, by decide +kernel⟩, List.mem_of_getElem? (i := 13) (by decide +kernel), List.mem_of_getElem? (i := 462) (by decide +kernel), List.mem_of_getElem? (i := 463) (by decide +kernel)⟩
theorem lw_p21 : lw_okq (⟨"ReturnPoints", "isPoint", "(I)Z"⟩, 10) := ⟨⟨by decide +kernel, by decide +kernel⟩, List.mem_of_getElem? (i := 13) (by decide +kernel), List.mem_of_getElem? (i := 475) (by decide +kernel), List.mem_of_getElem? (i := 476) (by decide +kernel)⟩
theorem lw_p22 : lw_okq (⟨"ReturnPoints", "roadsOf", "(LReturnPoints$Poly;)LReturnPoints$Roads;"⟩, 10) := ⟨⟨by decide +kernel, by decide +kernel⟩, List.mem_of_getElem? (i := 13) (by decide +kernel), List.mem_of_getElem? (i := 480) (by decide +kernel), List.mem_of_getElem? (i := 481) (by decide +kernel)⟩
theorem lw_p23 : lw_okq (⟨"ReturnPoints$Roads", "pointsOnRings", "()I"⟩, 12) := ⟨⟨by decide +kernel, by decide +kernel⟩, List.mem_of_getElem? (i := 28) (by decide +kernel), List.mem_of_getElem? (i := 512) (by decide +kernel), List.mem_of_getElem? (i := 513) (by decide +kernel)⟩
theorem lw_p24 : lw_okq (⟨"ReturnPoints$Roads", "longestRing", "()I"⟩, 12) := ⟨⟨by decide +kernel, by decide +kernel⟩, List.mem_of_getElem? (i := 28) (by decide +kernel), List.mem_of_getElem? (i := 516) (by decide +kernel), List.mem_of_getElem? (i := 517) (by decide +kernel)⟩
theorem lw_p25 : lw_okq (⟨"ReturnPoints$Roads", "longestTail", "()I"⟩, 12) := ⟨⟨by decide +kernel, by decide +kernel⟩, List.mem_of_getElem? (i := 28) (by decide +kernel), List.mem_of_getElem? (i := 521) (by decide +kernel), List.mem_of_getElem? (i := 522) (by decide +kernel)⟩
theorem lw_p26 : lw_okq (⟨"ReturnPoints$Roads", "stillRings", "()I"⟩, 12) := ⟨⟨by decide +kernel, by decide +kernel⟩, List.mem_of_getElem? (i := 28) (by decide +kernel), List.mem_of_getElem? (i := 526) (by decide +kernel), List.mem_of_getElem? (i := 527) (by decide +kernel)⟩
theorem lw_p27 : lw_okq (⟨"ReturnPoints$Roads", "hasTailsOf", "(LReturnPoints$Orbits;I)Z"⟩, 12) := ⟨⟨by decide +kernel, by decide +kernel⟩, List.mem_of_getElem? (i := 28) (by decide +kernel), List.mem_of_getElem? (i := 538) (by decide +kernel), List.mem_of_getElem? (i := 539) (by decide +kernel)⟩
theorem lw_p28 : lw_okq (⟨"ReturnPoints$Roads", "tally", "(LReturnPoints$Orbits;II)V"⟩, 12) := ⟨⟨by decide +kernel, by decide +kernel⟩, List.mem_of_getElem? (i := 28) (by decide +kernel), List.mem_of_getElem? (i := 542) (by decide +kernel), List.mem_of_getElem? (i := 543) (by decide +kernel)⟩
theorem lw_p29 : lw_okq (⟨"ReturnPoints$Rounds", "divideOut", "(I)V"⟩, 7) := ⟨⟨by decide +kernel, by decide +kernel⟩, List.mem_of_getElem? (i := 108) (by decide +kernel), List.mem_of_getElem? (i := 558) (by decide +kernel), List.mem_of_getElem? (i := 559) (by decide +kernel)⟩
theorem lw_p30 : lw_okq (⟨"ReturnPoints$Rounds", "divide", "([II[II)V"⟩, 7) := ⟨⟨by decide +kernel, by decide +kernel⟩, List.mem_of_getElem? (i := 108) (by decide +kernel), List.mem_of_getElem? (i := 564) (by decide +kernel), List.mem_of_getElem? (i := 565) (by decide +kernel)⟩
theorem lw_p31 : lw_okq (⟨"ReturnPoints$Fractions", "follower", "(I)I"⟩, 5) := ⟨⟨by decide +kernel, by decide +kernel⟩, List.mem_of_getElem? (i := 138) (by decide +kernel), List.mem_of_getElem? (i := 594) (by decide +kernel), List.mem_of_getElem? (i := 595) (by decide +kernel)⟩
def lw_privs_2 : List (MethodName × Nat) := [(⟨"ReturnPoints", "body22", "(LReturnPoints$Poly;)I"⟩, 10), (⟨"ReturnPoints", "body21", "(LReturnPoints$Poly;)I"⟩, 10), (⟨"ReturnPoints", "body20", "(LReturnPoints$Poly;)I"⟩, 10), (⟨"ReturnPoints", "markAsked", "(LReturnPoints$Poly;)I"⟩, 10), (⟨"ReturnPoints", "body23", "(LReturnPoints$Poly;)I"⟩, 10), (⟨"ReturnPoints", "isPoint", "(I)Z"⟩, 10), (⟨"ReturnPoints", "roadsOf", "(LReturnPoints$Poly;)LReturnPoints$Roads;"⟩, 10), (⟨"ReturnPoints$Roads", "pointsOnRings", "()I"⟩, 12), (⟨"ReturnPoints$Roads", "longestRing", "()I"⟩, 12), (⟨"ReturnPoints$Roads", "longestTail", "()I"⟩, 12), (⟨"ReturnPoints$Roads", "stillRings", "()I"⟩, 12), (⟨"ReturnPoints$Roads", "hasTailsOf", "(LReturnPoints$Orbits;I)Z"⟩, 12), (⟨"ReturnPoints$Roads", "tally", "(LReturnPoints$Orbits;II)V"⟩, 12), (⟨"ReturnPoints$Rounds", "divideOut", "(I)V"⟩, 7), (⟨"ReturnPoints$Rounds", "divide", "([II[II)V"⟩, 7), (⟨"ReturnPoints$Fractions", "follower", "(I)I"⟩, 5)]
theorem lw_r2 : ∀ q ∈ lw_privs_2, lw_okq q := List.forall_mem_cons.mpr ⟨lw_p16, List.forall_mem_cons.mpr ⟨lw_p17, List.forall_mem_cons.mpr ⟨lw_p18, List.forall_mem_cons.mpr ⟨lw_p19, List.forall_mem_cons.mpr ⟨lw_p20, List.forall_mem_cons.mpr ⟨lw_p21, List.forall_mem_cons.mpr ⟨lw_p22, List.forall_mem_cons.mpr ⟨lw_p23, List.forall_mem_cons.mpr ⟨lw_p24, List.forall_mem_cons.mpr ⟨lw_p25, List.forall_mem_cons.mpr ⟨lw_p26, List.forall_mem_cons.mpr ⟨lw_p27, List.forall_mem_cons.mpr ⟨lw_p28, List.forall_mem_cons.mpr ⟨lw_p29, List.forall_mem_cons.mpr ⟨lw_p30, List.forall_mem_cons.mpr ⟨lw_p31, fun _ h => absurd h List.not_mem_nil⟩⟩⟩⟩⟩⟩⟩⟩⟩⟩⟩⟩⟩⟩⟩⟩
theorem lw_p32 : lw_okq (⟨"ReturnPoints", "sheetsThere", "()I"⟩, 10) := ⟨⟨by decide +kernel, by decide +kernel⟩, List.mem_of_getElem? (i := 13) (by decide +kernel), List.mem_of_getElem? (i := 617) (by decide +kernel), List.mem_of_getElem? (i := 618) (by decide +kernel)⟩
theorem lw_p33 : lw_okq (⟨"ReturnPoints", "mapsOf", "(I)I"⟩, 10) := ⟨⟨by decide +kernel, by decide +kernel⟩, List.mem_of_getElem? (i := 13) (by decide +kernel), List.mem_of_getElem? (i := 621) (by decide +kernel), List.mem_of_getElem? (i := 622) (by decide +kernel)⟩
theorem lw_p34 : lw_okq (⟨"ReturnPointsModel", "found", "(I)I"⟩, 28) := ⟨⟨by decide +kernel, by decide +kernel⟩, List.mem_of_getElem? (i := 632) (by decide +kernel), List.mem_of_getElem? (i := 742) (by decide +kernel), List.mem_of_getElem? (i := 743) (by decide +kernel)⟩
theorem lw_p35 : lw_okq (⟨"ReturnPointsModel", "modulo", "(J)I"⟩, 28) := ⟨⟨by decide +kernel, by decide +kernel⟩, List.mem_of_getElem? (i := 632) (by decide +kernel), List.mem_of_getElem? (i := 769) (by decide +kernel), List.mem_of_getElem? (i := 770) (by decide +kernel)⟩
theorem lw_p36 : lw_okq (⟨"ReturnPointsModel", "lay", "(I)I"⟩, 28) := ⟨⟨by decide +kernel, by decide +kernel⟩, List.mem_of_getElem? (i := 632) (by decide +kernel), List.mem_of_getElem? (i := 773) (by decide +kernel), List.mem_of_getElem? (i := 774) (by decide +kernel)⟩
theorem lw_p37 : lw_okq (⟨"ReturnPointsModel", "kindOf", "(I)I"⟩, 28) := ⟨⟨by decide +kernel, by decide +kernel⟩, List.mem_of_getElem? (i := 632) (by decide +kernel), List.mem_of_getElem? (i := 777) (by decide +kernel), List.mem_of_getElem? (i := 778) (by decide +kernel)⟩
theorem lw_p38 : lw_okq (⟨"ReturnPointsModel", "mix", "(I)V"⟩, 28) := ⟨⟨by decide +kernel, by decide +kernel⟩, List.mem_of_getElem? (i := 632) (by decide +kernel), List.mem_of_getElem? (i := 789) (by decide +kernel), List.mem_of_getElem? (i := 790) (by decide +kernel)⟩
theorem lw_p39 : lw_okq (⟨"ReturnPointsModel", "inverse", "(I)I"⟩, 28) := ⟨⟨by decide +kernel, by decide +kernel⟩, List.mem_of_getElem? (i := 632) (by decide +kernel), List.mem_of_getElem? (i := 793) (by decide +kernel), List.mem_of_getElem? (i := 794) (by decide +kernel)⟩
theorem lw_p40 : lw_okq (⟨"ReturnPointsModel", "look", "(I)I"⟩, 28) := ⟨⟨by decide +kernel, by decide +kernel⟩, List.mem_of_getElem? (i := 632) (by decide +kernel), List.mem_of_getElem? (i := 812) (by decide +kernel), List.mem_of_getElem? (i := 813) (by decide +kernel)⟩
theorem lw_p41 : lw_okq (⟨"ReturnPointsModel", "sized", "(I)I"⟩, 28) := ⟨⟨by decide +kernel, by decide +kernel⟩, List.mem_of_getElem? (i := 632) (by decide +kernel), List.mem_of_getElem? (i := 835) (by decide +kernel), List.mem_of_getElem? (i := 836) (by decide +kernel)⟩
theorem lw_p42 : lw_okq (⟨"ReturnPointsModel", "began", "(I)V"⟩, 28) := ⟨⟨by decide +kernel, by decide +kernel⟩, List.mem_of_getElem? (i := 632) (by decide +kernel), List.mem_of_getElem? (i := 839) (by decide +kernel), List.mem_of_getElem? (i := 840) (by decide +kernel)⟩
theorem lw_p43 : lw_okq (⟨"ReturnPointsModel", "plainSize", "(I)I"⟩, 28) := ⟨⟨by decide +kernel, by decide +kernel⟩, List.mem_of_getElem? (i := 632) (by decide +kernel), List.mem_of_getElem? (i := 843) (by decide +kernel), List.mem_of_getElem? (i := 844) (by decide +kernel)⟩
theorem lw_p44 : lw_okq (⟨"ReturnPointsModel", "valuesOf", "(I)I"⟩, 28) := ⟨⟨by decide +kernel, by decide +kernel⟩, List.mem_of_getElem? (i := 632) (by decide +kernel), List.mem_of_getElem? (i := 847) (by decide +kernel), List.mem_of_getElem? (i := 848) (by decide +kernel)⟩
theorem lw_p45 : lw_okq (⟨"ReturnPointsModel", "findWays", "(I)V"⟩, 28) := ⟨⟨by decide +kernel, by decide +kernel⟩, List.mem_of_getElem? (i := 632) (by decide +kernel), List.mem_of_getElem? (i := 851) (by decide +kernel), List.mem_of_getElem? (i := 852) (by decide +kernel)⟩
theorem lw_p46 : lw_okq (⟨"ReturnPointsModel", "valueOf", "(II)I"⟩, 28) := ⟨⟨by decide +kernel, by decide +kernel⟩, List.mem_of_getElem? (i := 632) (by decide +kernel), List.mem_of_getElem? (i := 855) (by decide +kernel), List.mem_of_getElem? (i := 856) (by decide +kernel)⟩
theorem lw_p47 : lw_okq (⟨"ReturnPointsModel", "marked", "(I)I"⟩, 28) := ⟨⟨by decide +kernel, by decide +kernel⟩, List.mem_of_getElem? (i := 632) (by decide +kernel), List.mem_of_getElem? (i := 859) (by decide +kernel), List.mem_of_getElem? (i := 860) (by decide +kernel)⟩
def lw_privs_3 : List (MethodName × Nat) := [(⟨"ReturnPoints", "sheetsThere", "()I"⟩, 10), (⟨"ReturnPoints", "mapsOf", "(I)I"⟩, 10), (⟨"ReturnPointsModel", "found", "(I)I"⟩, 28), (⟨"ReturnPointsModel", "modulo", "(J)I"⟩, 28), (⟨"ReturnPointsModel", "lay", "(I)I"⟩, 28), (⟨"ReturnPointsModel", "kindOf", "(I)I"⟩, 28), (⟨"ReturnPointsModel", "mix", "(I)V"⟩, 28), (⟨"ReturnPointsModel", "inverse", "(I)I"⟩, 28), (⟨"ReturnPointsModel", "look", "(I)I"⟩, 28), (⟨"ReturnPointsModel", "sized", "(I)I"⟩, 28), (⟨"ReturnPointsModel", "began", "(I)V"⟩, 28), (⟨"ReturnPointsModel", "plainSize", "(I)I"⟩, 28), (⟨"ReturnPointsModel", "valuesOf", "(I)I"⟩, 28), (⟨"ReturnPointsModel", "findWays", "(I)V"⟩, 28), (⟨"ReturnPointsModel", "valueOf", "(II)I"⟩, 28), (⟨"ReturnPointsModel", "marked", "(I)I"⟩, 28)]
theorem lw_r3 : ∀ q ∈ lw_privs_3, lw_okq q := List.forall_mem_cons.mpr ⟨lw_p32, List.forall_mem_cons.mpr ⟨lw_p33, List.forall_mem_cons.mpr ⟨lw_p34, List.forall_mem_cons.mpr ⟨lw_p35, List.forall_mem_cons.mpr ⟨lw_p36, List.forall_mem_cons.mpr ⟨lw_p37, List.forall_mem_cons.mpr ⟨lw_p38, List.forall_mem_cons.mpr ⟨lw_p39, List.forall_mem_cons.mpr ⟨lw_p40, List.forall_mem_cons.mpr ⟨lw_p41, List.forall_mem_cons.mpr ⟨lw_p42, List.forall_mem_cons.mpr ⟨lw_p43, List.forall_mem_cons.mpr ⟨lw_p44, List.forall_mem_cons.mpr ⟨lw_p45, List.forall_mem_cons.mpr ⟨lw_p46, List.forall_mem_cons.mpr ⟨lw_p47, fun _ h => absurd h List.not_mem_nil⟩⟩⟩⟩⟩⟩⟩⟩⟩⟩⟩⟩⟩⟩⟩⟩
theorem lw_p48 : lw_okq (⟨"ReturnPointsModel", "ringOf", "(I)I"⟩, 28) := ⟨⟨by decide +kernel, by decide +kernel⟩, List.mem_of_getElem? (i := 632) (by decide +kernel), List.mem_of_getElem? (i := 877) (by decide +kernel), List.mem_of_getElem? (i := 878) (by decide +kernel)⟩
theorem lw_p49 : lw_okq (⟨"ReturnPointsModel", "times", "(II)I"⟩, 28) := ⟨⟨by decide +kernel, by decide +kernel⟩, List.mem_of_getElem? (i := 632) (by decide +kernel), List.mem_of_getElem? (i := 885) (by decide +kernel), List.mem_of_getElem? (i := 886) (by decide +kernel)⟩
theorem lw_p50 : lw_okq (⟨"ReturnPointsModel", "slopeOf", "(II)I"⟩, 28) := ⟨⟨by decide +kernel, by decide +kernel⟩, List.mem_of_getElem? (i := 632) (by decide +kernel), List.mem_of_getElem? (i := 889) (by decide +kernel), List.mem_of_getElem? (i := 890) (by decide +kernel)⟩
theorem lw_p51 : lw_okq (⟨"ReturnPointsModel", "findRounds", "(II)V"⟩, 28) := ⟨⟨by decide +kernel, by decide +kernel⟩, List.mem_of_getElem? (i := 632) (by decide +kernel), List.mem_of_getElem? (i := 906) (by decide +kernel), List.mem_of_getElem? (i := 907) (by decide +kernel)⟩
theorem lw_p52 : lw_okq (⟨"ReturnPointsModel", "goOn", "(I)V"⟩, 28) := ⟨⟨by decide +kernel, by decide +kernel⟩, List.mem_of_getElem? (i := 632) (by decide +kernel), List.mem_of_getElem? (i := 910) (by decide +kernel), List.mem_of_getElem? (i := 911) (by decide +kernel)⟩
theorem lw_p53 : lw_okq (⟨"ReturnPointsModel", "divide", "(I)V"⟩, 28) := ⟨⟨by decide +kernel, by decide +kernel⟩, List.mem_of_getElem? (i := 632) (by decide +kernel), List.mem_of_getElem? (i := 914) (by decide +kernel), List.mem_of_getElem? (i := 915) (by decide +kernel)⟩
theorem lw_p54 : lw_okq (⟨"ReturnPointsModel", "degreeOf", "(I)I"⟩, 28) := ⟨⟨by decide +kernel, by decide +kernel⟩, List.mem_of_getElem? (i := 632) (by decide +kernel), List.mem_of_getElem? (i := 918) (by decide +kernel), List.mem_of_getElem? (i := 919) (by decide +kernel)⟩
theorem lw_p55 : lw_okq (⟨"ReturnPointsModel", "returns", "(III)Z"⟩, 28) := ⟨⟨by decide +kernel, by decide +kernel⟩, List.mem_of_getElem? (i := 632) (by decide +kernel), List.mem_of_getElem? (i := 935) (by decide +kernel), List.mem_of_getElem? (i := 936) (by decide +kernel)⟩
def lw_privs_4 : List (MethodName × Nat) := [(⟨"ReturnPointsModel", "ringOf", "(I)I"⟩, 28), (⟨"ReturnPointsModel", "times", "(II)I"⟩, 28), (⟨"ReturnPointsModel", "slopeOf", "(II)I"⟩, 28), (⟨"ReturnPointsModel", "findRounds", "(II)V"⟩, 28), (⟨"ReturnPointsModel", "goOn", "(I)V"⟩, 28), (⟨"ReturnPointsModel", "divide", "(I)V"⟩, 28), (⟨"ReturnPointsModel", "degreeOf", "(I)I"⟩, 28), (⟨"ReturnPointsModel", "returns", "(III)Z"⟩, 28)]
theorem lw_r4 : ∀ q ∈ lw_privs_4, lw_okq q := List.forall_mem_cons.mpr ⟨lw_p48, List.forall_mem_cons.mpr ⟨lw_p49, List.forall_mem_cons.mpr ⟨lw_p50, List.forall_mem_cons.mpr ⟨lw_p51, List.forall_mem_cons.mpr ⟨lw_p52, List.forall_mem_cons.mpr ⟨lw_p53, List.forall_mem_cons.mpr ⟨lw_p54, List.forall_mem_cons.mpr ⟨lw_p55, fun _ h => absurd h List.not_mem_nil⟩⟩⟩⟩⟩⟩⟩⟩
def lw_privs : List (MethodName × Nat) := lw_privs_1 ++ (lw_privs_2 ++ (lw_privs_3 ++ (lw_privs_4)))
def lw_tbl : List Cond := k2_sels lw_privs ++ tables_1
theorem lw_privs_ok : ∀ q ∈ lw_privs, lw_okq q := by
  show ∀ q ∈ lw_privs_1 ++ (lw_privs_2 ++ (lw_privs_3 ++ (lw_privs_4))), lw_okq q
  exact List.forall_mem_append.mpr ⟨lw_r1, List.forall_mem_append.mpr ⟨lw_r2, List.forall_mem_append.mpr ⟨lw_r3, lw_r4⟩⟩⟩
/-! ===== BEGIN words of one list among another's, by their places ===== -/
theorem goodIn_r {big : List Cond} (ws : List Cond) (ps : List Nat) (hp : ws = ps.filterMap (fun i => big[i]?)) (h : ws.all goodWord = true) : GoodIn big ws := by
  intro w hw
  have h1 := List.all_eq_true.mp h w hw
  rw [hp] at hw
  obtain ⟨i, -, hi⟩ := List.mem_filterMap.mp hw
  have hm : w ∈ big := by first | exact List.mem_of_getElem? hi | exact List.getElem?_mem hi
  exact ⟨hm, good_of_word h1⟩
theorem goodIn_app {big a b : List Cond} (ha : GoodIn big a) (hb : GoodIn big b) : GoodIn big (a ++ b) := fun w h => (List.mem_append.mp h).elim (ha w) (hb w)
theorem goodIn_ca {big a b : List Cond} {c : Cond} (ha : GoodIn big (c :: a)) (hb : GoodIn big b) : GoodIn big (c :: (a ++ b)) := fun w h => (List.mem_cons.mp h).elim (fun e => ha w (List.mem_cons.mpr (Or.inl e))) (fun h => (List.mem_append.mp h).elim (fun h => ha w (List.mem_cons.mpr (Or.inr h))) (hb w))
theorem goodIn_sub {big ws : List Cond} (hm : ∀ w ∈ ws, w ∈ big) (h : ws.all goodWord = true) : GoodIn big ws := fun w hw => ⟨hm w hw, good_of_word (List.all_eq_true.mp h w hw)⟩
/-! ===== END ===== -/

/-! ===== END ===== -/

/-! ===== BEGIN printed: names, fields, word lists, decode rows ===== -/
def RX0 : String := "ReturnPoints$Fractions"
def TX0 : u_T := fun k => match k with
  | 0 => ("ReturnPoints$Fractions", "orbits", "LReturnPoints$Orbits;", true)
  | 1 => ("ReturnPoints$Fractions", "list", "[I", true)
  | 2 => ("ReturnPoints$Fractions", "listed", "I", false)
  | 3 => ("ReturnPoints$Fractions", "upper", "I", false)
  | _ => ("ReturnPoints$Fractions", "lower", "I", false)
def tyX0 : Nat → FieldType := fun k => match k with
  | 0 => .object "ReturnPoints$Orbits"
  | 1 => .array .int
  | 2 => .int
  | 3 => .int
  | _ => .int
abbrev wsX00 : List Cond := u_ws RX0 TX0 5
theorem nmX0 : ∀ a, a < 5 → ∀ b, b < 5 → a ≠ b → (TX0 a).2.1 ≠ (TX0 b).2.1 := by decide +kernel
theorem tyX0_ok : ∀ k, k < 5 → parseFieldDescriptor (TX0 k).2.2.1 = some (tyX0 k) := by decide +kernel
abbrev cX0_init : ByteArray := prog_2_method_1_code
def yX0_init : MethodName := ⟨RX0, "<init>", "()V"⟩
abbrev cX0_prepare : ByteArray := prog_2_method_2_code
def yX0_prepare : MethodName := ⟨RX0, "prepare", "(II)V"⟩
abbrev cX0_follower : ByteArray := prog_2_method_3_code
def yX0_follower : MethodName := ⟨RX0, "follower", "(I)I"⟩
abbrev cX0_ofListed : ByteArray := prog_2_method_4_code
def yX0_ofListed : MethodName := ⟨RX0, "ofListed", "(II)I"⟩
abbrev cX0_image : ByteArray := prog_2_method_5_code
def yX0_image : MethodName := ⟨RX0, "image", "(III)I"⟩
def RX1 : String := "ReturnPoints$Orbits"
def TX1 : u_T := fun k => match k with
  | 0 => ("ReturnPoints$Orbits", "size", "I", true)
  | 1 => ("ReturnPoints$Orbits", "next", "[I", true)
  | 2 => ("ReturnPoints$Orbits", "tail", "[I", true)
  | 3 => ("ReturnPoints$Orbits", "period", "[I", true)
  | 4 => ("ReturnPoints$Orbits", "entry", "[I", true)
  | _ => ("ReturnPoints$Orbits", "path", "[I", true)
def tyX1 : Nat → FieldType := fun k => match k with
  | 0 => .int
  | 1 => .array .int
  | 2 => .array .int
  | 3 => .array .int
  | 4 => .array .int
  | _ => .array .int
abbrev wsX10 : List Cond := u_ws RX1 TX1 6
theorem nmX1 : ∀ a, a < 6 → ∀ b, b < 6 → a ≠ b → (TX1 a).2.1 ≠ (TX1 b).2.1 := by decide +kernel
theorem tyX1_ok : ∀ k, k < 6 → parseFieldDescriptor (TX1 k).2.2.1 = some (tyX1 k) := by decide +kernel
abbrev cX1_init : ByteArray := prog_3_method_1_code
def yX1_init : MethodName := ⟨RX1, "<init>", "(I)V"⟩
abbrev cX1_isInside : ByteArray := prog_3_method_2_code
def yX1_isInside : MethodName := ⟨RX1, "isInside", "(I)Z"⟩
abbrev cX1_followAll : ByteArray := prog_3_method_3_code
def yX1_followAll : MethodName := ⟨RX1, "followAll", "()V"⟩
abbrev cX1_walkFrom : ByteArray := prog_3_method_4_code
def yX1_walkFrom : MethodName := ⟨RX1, "walkFrom", "(I)V"⟩
abbrev cX1_closeRing : ByteArray := prog_3_method_5_code
def yX1_closeRing : MethodName := ⟨RX1, "closeRing", "(II)I"⟩
abbrev cX1_hang : ByteArray := prog_3_method_6_code
def yX1_hang : MethodName := ⟨RX1, "hang", "(I)V"⟩
abbrev cX1_after : ByteArray := prog_3_method_7_code
def yX1_after : MethodName := ⟨RX1, "after", "(II)I"⟩
def RX2 : String := "ReturnPoints$Poly"
def TX2 : u_T := fun k => match k with
  | 0 => ("ReturnPoints$Poly", "p", "I", true)
  | 1 => ("ReturnPoints$Poly", "c", "[I", true)
  | 2 => ("ReturnPoints$Poly", "degree", "I", true)
  | _ => ("ReturnPoints$Poly", "told", "I", true)
def tyX2 : Nat → FieldType := fun k => match k with
  | 0 => .int
  | 1 => .array .int
  | 2 => .int
  | _ => .int
abbrev wsX20 : List Cond := u_ws RX2 TX2 4
theorem nmX2 : ∀ a, a < 4 → ∀ b, b < 4 → a ≠ b → (TX2 a).2.1 ≠ (TX2 b).2.1 := by decide +kernel
theorem tyX2_ok : ∀ k, k < 4 → parseFieldDescriptor (TX2 k).2.2.1 = some (tyX2 k) := by decide +kernel
abbrev cX2_init : ByteArray := prog_4_method_1_code
def yX2_init : MethodName := ⟨RX2, "<init>", "([II)V"⟩
abbrev cX2_degreeOf : ByteArray := prog_4_method_2_code
def yX2_degreeOf : MethodName := ⟨RX2, "degreeOf", "([I)I"⟩
abbrev cX2_toldOf : ByteArray := prog_4_method_3_code
def yX2_toldOf : MethodName := ⟨RX2, "toldOf", "([II)I"⟩
abbrev cX2_fits : ByteArray := prog_4_method_4_code
def yX2_fits : MethodName := ⟨RX2, "fits", "(I)Z"⟩
abbrev cX2_valueAt : ByteArray := prog_4_method_5_code
def yX2_valueAt : MethodName := ⟨RX2, "valueAt", "(I)I"⟩
abbrev cX2_slopeAt : ByteArray := prog_4_method_6_code
def yX2_slopeAt : MethodName := ⟨RX2, "slopeAt", "(I)I"⟩
abbrev cX2_turned : ByteArray := prog_4_method_7_code
def yX2_turned : MethodName := ⟨RX2, "turned", "(II)[I"⟩
abbrev cX2_putOver : ByteArray := prog_4_method_8_code
def yX2_putOver : MethodName := ⟨RX2, "putOver", "([II[I)V"⟩
abbrev cX2_multiply : ByteArray := prog_4_method_9_code
def yX2_multiply : MethodName := ⟨RX2, "multiply", "([II[III)V"⟩
def RX3 : String := "ReturnPoints$Roads"
def TX3 : u_T := fun k => match k with
  | 0 => ("ReturnPoints$Roads", "p", "I", true)
  | 1 => ("ReturnPoints$Roads", "orbits", "LReturnPoints$Orbits;", true)
  | 2 => ("ReturnPoints$Roads", "comers", "[I", true)
  | 3 => ("ReturnPoints$Roads", "ringOf", "[I", true)
  | 4 => ("ReturnPoints$Roads", "length", "[I", true)
  | 5 => ("ReturnPoints$Roads", "least", "[I", true)
  | 6 => ("ReturnPoints$Roads", "multiplier", "[I", true)
  | 7 => ("ReturnPoints$Roads", "basin", "[I", true)
  | 8 => ("ReturnPoints$Roads", "byTail", "[I", true)
  | 9 => ("ReturnPoints$Roads", "compared", "[I", true)
  | 10 => ("ReturnPoints$Roads", "rings", "I", false)
  | _ => ("ReturnPoints$Roads", "surveyed", "LReturnPoints$Poly;", false)
def tyX3 : Nat → FieldType := fun k => match k with
  | 0 => .int
  | 1 => .object "ReturnPoints$Orbits"
  | 2 => .array .int
  | 3 => .array .int
  | 4 => .array .int
  | 5 => .array .int
  | 6 => .array .int
  | 7 => .array .int
  | 8 => .array .int
  | 9 => .array .int
  | 10 => .int
  | _ => .object "ReturnPoints$Poly"
abbrev wsX30 : List Cond := u_ws RX3 TX3 12
theorem nmX3 : ∀ a, a < 12 → ∀ b, b < 12 → a ≠ b → (TX3 a).2.1 ≠ (TX3 b).2.1 := by decide +kernel
theorem tyX3_ok : ∀ k, k < 12 → parseFieldDescriptor (TX3 k).2.2.1 = some (tyX3 k) := by decide +kernel
abbrev cX3_init : ByteArray := prog_5_method_1_code
def yX3_init : MethodName := ⟨RX3, "<init>", "(I)V"⟩
abbrev cX3_survey : ByteArray := prog_5_method_2_code
def yX3_survey : MethodName := ⟨RX3, "survey", "(LReturnPoints$Poly;)V"⟩
abbrev cX3_countComers : ByteArray := prog_5_method_3_code
def yX3_countComers : MethodName := ⟨RX3, "countComers", "()V"⟩
abbrev cX3_numberRings : ByteArray := prog_5_method_4_code
def yX3_numberRings : MethodName := ⟨RX3, "numberRings", "(LReturnPoints$Poly;)V"⟩
abbrev cX3_goRound : ByteArray := prog_5_method_5_code
def yX3_goRound : MethodName := ⟨RX3, "goRound", "(LReturnPoints$Poly;II)V"⟩
abbrev cX3_gatherBasins : ByteArray := prog_5_method_6_code
def yX3_gatherBasins : MethodName := ⟨RX3, "gatherBasins", "()V"⟩
abbrev cX3_ofPoint : ByteArray := prog_5_method_7_code
def yX3_ofPoint : MethodName := ⟨RX3, "ofPoint", "(II)I"⟩
abbrev cX3_ofRing : ByteArray := prog_5_method_8_code
def yX3_ofRing : MethodName := ⟨RX3, "ofRing", "(II)I"⟩
abbrev cX3_ofAll : ByteArray := prog_5_method_9_code
def yX3_ofAll : MethodName := ⟨RX3, "ofAll", "(I)I"⟩
abbrev cX3_pointsOnRings : ByteArray := prog_5_method_10_code
def yX3_pointsOnRings : MethodName := ⟨RX3, "pointsOnRings", "()I"⟩
abbrev cX3_longestRing : ByteArray := prog_5_method_11_code
def yX3_longestRing : MethodName := ⟨RX3, "longestRing", "()I"⟩
abbrev cX3_longestTail : ByteArray := prog_5_method_12_code
def yX3_longestTail : MethodName := ⟨RX3, "longestTail", "()I"⟩
abbrev cX3_pointsWithoutComers : ByteArray := prog_5_method_13_code
def yX3_pointsWithoutComers : MethodName := ⟨RX3, "pointsWithoutComers", "()I"⟩
abbrev cX3_stillRings : ByteArray := prog_5_method_14_code
def yX3_stillRings : MethodName := ⟨RX3, "stillRings", "()I"⟩
abbrev cX3_isLike : ByteArray := prog_5_method_15_code
def yX3_isLike : MethodName := ⟨RX3, "isLike", "(LReturnPoints$Orbits;)Z"⟩
abbrev cX3_hasTailsOf : ByteArray := prog_5_method_16_code
def yX3_hasTailsOf : MethodName := ⟨RX3, "hasTailsOf", "(LReturnPoints$Orbits;I)Z"⟩
abbrev cX3_tally : ByteArray := prog_5_method_17_code
def yX3_tally : MethodName := ⟨RX3, "tally", "(LReturnPoints$Orbits;II)V"⟩
def RX4 : String := "ReturnPoints$Rounds"
def TX4 : u_T := fun k => match k with
  | 0 => ("ReturnPoints$Rounds", "p", "I", true)
  | 1 => ("ReturnPoints$Rounds", "done", "[[I", true)
  | 2 => ("ReturnPoints$Rounds", "doneDegree", "[I", true)
  | 3 => ("ReturnPoints$Rounds", "rows", "[[I", true)
  | 4 => ("ReturnPoints$Rounds", "rowDegree", "[I", true)
  | 5 => ("ReturnPoints$Rounds", "map", "LReturnPoints$Poly;", false)
  | _ => ("ReturnPoints$Rounds", "known", "I", false)
def tyX4 : Nat → FieldType := fun k => match k with
  | 0 => .int
  | 1 => .array (.array .int)
  | 2 => .array .int
  | 3 => .array (.array .int)
  | 4 => .array .int
  | 5 => .object "ReturnPoints$Poly"
  | _ => .int
abbrev wsX40 : List Cond := u_ws RX4 TX4 7
theorem nmX4 : ∀ a, a < 7 → ∀ b, b < 7 → a ≠ b → (TX4 a).2.1 ≠ (TX4 b).2.1 := by decide +kernel
theorem tyX4_ok : ∀ k, k < 7 → parseFieldDescriptor (TX4 k).2.2.1 = some (tyX4 k) := by decide +kernel
abbrev cX4_init : ByteArray := prog_6_method_1_code
def yX4_init : MethodName := ⟨RX4, "<init>", "(I)V"⟩
abbrev cX4_power : ByteArray := prog_6_method_2_code
def yX4_power : MethodName := ⟨RX4, "power", "(II)I"⟩
abbrev cX4_degreeOf : ByteArray := prog_6_method_3_code
def yX4_degreeOf : MethodName := ⟨RX4, "degreeOf", "(I)I"⟩
abbrev cX4_numberOf : ByteArray := prog_6_method_4_code
def yX4_numberOf : MethodName := ⟨RX4, "numberOf", "(II)I"⟩
abbrev cX4_prepare : ByteArray := prog_6_method_5_code
def yX4_prepare : MethodName := ⟨RX4, "prepare", "(LReturnPoints$Poly;I)V"⟩
abbrev cX4_divideOut : ByteArray := prog_6_method_6_code
def yX4_divideOut : MethodName := ⟨RX4, "divideOut", "(I)V"⟩
abbrev cX4_divide : ByteArray := prog_6_method_7_code
def yX4_divide : MethodName := ⟨RX4, "divide", "([II[II)V"⟩
def RX5 : String := "ReturnPoints$Sheet"
def TX5 : u_T := fun k => match k with
  | 0 => ("ReturnPoints$Sheet", "lane", "I", true)
  | _ => ("ReturnPoints$Sheet", "items", "[J", true)
def tyX5 : Nat → FieldType := fun k => match k with
  | 0 => .int
  | _ => .array .long
abbrev wsX50 : List Cond := u_ws RX5 TX5 2
theorem nmX5 : ∀ a, a < 2 → ∀ b, b < 2 → a ≠ b → (TX5 a).2.1 ≠ (TX5 b).2.1 := by decide +kernel
theorem tyX5_ok : ∀ k, k < 2 → parseFieldDescriptor (TX5 k).2.2.1 = some (tyX5 k) := by decide +kernel
abbrev cX5_init : ByteArray := prog_7_method_1_code
def yX5_init : MethodName := ⟨RX5, "<init>", "(II)V"⟩
abbrev cX5_holds : ByteArray := prog_7_method_2_code
def yX5_holds : MethodName := ⟨RX5, "holds", "(II)Z"⟩
abbrev cX5_cut : ByteArray := prog_7_method_3_code
def yX5_cut : MethodName := ⟨RX5, "cut", "(J)J"⟩
def RX6 : String := "ReturnPoints"
def TX6 : u_T := fun k => match k with
  | 0 => ("ReturnPoints", "p", "I", true)
  | 1 => ("ReturnPoints", "sheets", "[LReturnPoints$Sheet;", true)
  | 2 => ("ReturnPoints", "shelf", "[LReturnPoints$Poly;", true)
  | 3 => ("ReturnPoints", "trace", "[I", true)
  | 4 => ("ReturnPoints", "roads", "LReturnPoints$Roads;", true)
  | 5 => ("ReturnPoints", "otherRoads", "LReturnPoints$Roads;", true)
  | 6 => ("ReturnPoints", "rounds", "LReturnPoints$Rounds;", true)
  | 7 => ("ReturnPoints", "fractions", "LReturnPoints$Fractions;", true)
  | 8 => ("ReturnPoints", "traced", "I", false)
  | _ => ("ReturnPoints", "status", "I", false)
def tyX6 : Nat → FieldType := fun k => match k with
  | 0 => .int
  | 1 => .array (.object "ReturnPoints$Sheet")
  | 2 => .array (.object "ReturnPoints$Poly")
  | 3 => .array .int
  | 4 => .object "ReturnPoints$Roads"
  | 5 => .object "ReturnPoints$Roads"
  | 6 => .object "ReturnPoints$Rounds"
  | 7 => .object "ReturnPoints$Fractions"
  | 8 => .int
  | _ => .int
abbrev wsX60 : List Cond := u_ws RX6 TX6 10
theorem nmX6 : ∀ a, a < 10 → ∀ b, b < 10 → a ≠ b → (TX6 a).2.1 ≠ (TX6 b).2.1 := by decide +kernel
theorem tyX6_ok : ∀ k, k < 10 → parseFieldDescriptor (TX6 k).2.2.1 = some (tyX6 k) := by decide +kernel
abbrev cX6_init : ByteArray := prog_1_method_1_code
def yX6_init : MethodName := ⟨RX6, "<init>", "(I)V"⟩
abbrev cX6_sheet : ByteArray := prog_1_method_2_code
def yX6_sheet : MethodName := ⟨RX6, "sheet", "(III)I"⟩
abbrev cX6_set : ByteArray := prog_1_method_3_code
def yX6_set : MethodName := ⟨RX6, "set", "(IIJ)J"⟩
abbrev cX6_copy : ByteArray := prog_1_method_4_code
def yX6_copy : MethodName := ⟨RX6, "copy", "(IIIII)I"⟩
abbrev cX6_drop : ByteArray := prog_1_method_5_code
def yX6_drop : MethodName := ⟨RX6, "drop", "(I)I"⟩
abbrev cX6_map : ByteArray := prog_1_method_6_code
def yX6_map : MethodName := ⟨RX6, "map", "(IIII)I"⟩
abbrev cX6_plain : ByteArray := prog_1_method_7_code
def yX6_plain : MethodName := ⟨RX6, "plain", "(II)I"⟩
abbrev cX6_turn : ByteArray := prog_1_method_8_code
def yX6_turn : MethodName := ⟨RX6, "turn", "(IIII)I"⟩
abbrev cX6_behind : ByteArray := prog_1_method_9_code
def yX6_behind : MethodName := ⟨RX6, "behind", "(III)I"⟩
abbrev cX6_clear : ByteArray := prog_1_method_10_code
def yX6_clear : MethodName := ⟨RX6, "clear", "(I)I"⟩
abbrev cX6_number : ByteArray := prog_1_method_11_code
def yX6_number : MethodName := ⟨RX6, "number", "(II)I"⟩
abbrev cX6_kind : ByteArray := prog_1_method_12_code
def yX6_kind : MethodName := ⟨RX6, "kind", "(I)I"⟩
abbrev cX6_is : ByteArray := prog_1_method_13_code
def yX6_is : MethodName := ⟨RX6, "is", "(II)I"⟩
abbrev cX6_as : ByteArray := prog_1_method_14_code
def yX6_as : MethodName := ⟨RX6, "as", "(II)I"⟩
abbrev cX6_ask : ByteArray := prog_1_method_15_code
def yX6_ask : MethodName := ⟨RX6, "ask", "(II)I"⟩
abbrev cX6_trace : ByteArray := prog_1_method_16_code
def yX6_trace : MethodName := ⟨RX6, "trace", "(I)I"⟩
abbrev cX6_step : ByteArray := prog_1_method_17_code
def yX6_step : MethodName := ⟨RX6, "step", "(III)I"⟩
abbrev cX6_way : ByteArray := prog_1_method_18_code
def yX6_way : MethodName := ⟨RX6, "way", "(III)I"⟩
abbrev cX6_ring : ByteArray := prog_1_method_19_code
def yX6_ring : MethodName := ⟨RX6, "ring", "(III)I"⟩
abbrev cX6_all : ByteArray := prog_1_method_20_code
def yX6_all : MethodName := ⟨RX6, "all", "(II)I"⟩
abbrev cX6_alike : ByteArray := prog_1_method_21_code
def yX6_alike : MethodName := ⟨RX6, "alike", "(II)I"⟩
abbrev cX6_round : ByteArray := prog_1_method_22_code
def yX6_round : MethodName := ⟨RX6, "round", "(III)I"⟩
abbrev cX6_fraction : ByteArray := prog_1_method_23_code
def yX6_fraction : MethodName := ⟨RX6, "fraction", "(IIII)I"⟩
abbrev cX6_next : ByteArray := prog_1_method_24_code
def yX6_next : MethodName := ⟨RX6, "next", "(III)I"⟩
abbrev cX6_count : ByteArray := prog_1_method_25_code
def yX6_count : MethodName := ⟨RX6, "count", "(I)I"⟩
abbrev cX6_status : ByteArray := prog_1_method_26_code
def yX6_status : MethodName := ⟨RX6, "status", "()I"⟩
abbrev cX6_found : ByteArray := prog_1_method_27_code
def yX6_found : MethodName := ⟨RX6, "found", "(I)I"⟩
abbrev cX6_fine : ByteArray := prog_1_method_28_code
def yX6_fine : MethodName := ⟨RX6, "fine", "(I)I"⟩
abbrev cX6_put : ByteArray := prog_1_method_29_code
def yX6_put : MethodName := ⟨RX6, "put", "(I[I)I"⟩
abbrev cX6_roadsOf : ByteArray := prog_1_method_30_code
def yX6_roadsOf : MethodName := ⟨RX6, "roadsOf", "(LReturnPoints$Poly;)LReturnPoints$Roads;"⟩
abbrev cX6_isPoint : ByteArray := prog_1_method_31_code
def yX6_isPoint : MethodName := ⟨RX6, "isPoint", "(I)Z"⟩
abbrev cX6_sheetsThere : ByteArray := prog_1_method_32_code
def yX6_sheetsThere : MethodName := ⟨RX6, "sheetsThere", "()I"⟩
abbrev cX6_mapsOf : ByteArray := prog_1_method_33_code
def yX6_mapsOf : MethodName := ⟨RX6, "mapsOf", "(I)I"⟩
abbrev cX6_isSheet : ByteArray := prog_1_method_34_code
def yX6_isSheet : MethodName := ⟨RX6, "isSheet", "(I)Z"⟩
abbrev cX6_isPlace : ByteArray := prog_1_method_35_code
def yX6_isPlace : MethodName := ⟨RX6, "isPlace", "(I)Z"⟩
abbrev cX6_isKind : ByteArray := prog_1_method_36_code
def yX6_isKind : MethodName := ⟨RX6, "isKind", "(I)Z"⟩
abbrev cX6_isPair : ByteArray := prog_1_method_37_code
def yX6_isPair : MethodName := ⟨RX6, "isPair", "(II)Z"⟩
abbrev cX6_isPrimeHere : ByteArray := prog_1_method_38_code
def yX6_isPrimeHere : MethodName := ⟨RX6, "isPrimeHere", "(I)Z"⟩
abbrev cX6_commonDivisor : ByteArray := prog_1_method_39_code
def yX6_commonDivisor : MethodName := ⟨RX6, "commonDivisor", "(II)I"⟩
abbrev cX6_inverse : ByteArray := prog_1_method_40_code
def yX6_inverse : MethodName := ⟨RX6, "inverse", "(II)I"⟩
abbrev cX6_sizeAsked : ByteArray := prog_1_method_41_code
def yX6_sizeAsked : MethodName := ⟨RX6, "sizeAsked", "(LReturnPoints$Poly;)I"⟩
abbrev cX6_markAsked : ByteArray := prog_1_method_42_code
def yX6_markAsked : MethodName := ⟨RX6, "markAsked", "(LReturnPoints$Poly;)I"⟩
abbrev cX6_begin : ByteArray := prog_1_method_43_code
def yX6_begin : MethodName := ⟨RX6, "begin", "(I)V"⟩
abbrev cX6_body10 : ByteArray := prog_1_method_44_code
def yX6_body10 : MethodName := ⟨RX6, "body10", "()I"⟩
abbrev cX6_body11 : ByteArray := prog_1_method_45_code
def yX6_body11 : MethodName := ⟨RX6, "body11", "()I"⟩
abbrev cX6_body12 : ByteArray := prog_1_method_46_code
def yX6_body12 : MethodName := ⟨RX6, "body12", "()I"⟩
abbrev cX6_body13 : ByteArray := prog_1_method_47_code
def yX6_body13 : MethodName := ⟨RX6, "body13", "(LReturnPoints$Poly;)I"⟩
abbrev cX6_body20 : ByteArray := prog_1_method_48_code
def yX6_body20 : MethodName := ⟨RX6, "body20", "(LReturnPoints$Poly;)I"⟩
abbrev cX6_body21 : ByteArray := prog_1_method_49_code
def yX6_body21 : MethodName := ⟨RX6, "body21", "(LReturnPoints$Poly;)I"⟩
abbrev cX6_body22 : ByteArray := prog_1_method_50_code
def yX6_body22 : MethodName := ⟨RX6, "body22", "(LReturnPoints$Poly;)I"⟩
abbrev cX6_body23 : ByteArray := prog_1_method_51_code
def yX6_body23 : MethodName := ⟨RX6, "body23", "(LReturnPoints$Poly;)I"⟩
def RX7 : String := "ReturnPointsModel"
def TX7 : u_T := fun k => match k with
  | 0 => ("ReturnPointsModel", "thrown", "I", false)
  | 1 => ("ReturnPointsModel", "status", "I", false)
  | 2 => ("ReturnPointsModel", "prime", "I", true)
  | 3 => ("ReturnPointsModel", "lane", "[I", true)
  | 4 => ("ReturnPointsModel", "many", "[I", true)
  | 5 => ("ReturnPointsModel", "item", "[J", true)
  | 6 => ("ReturnPointsModel", "degree", "[I", true)
  | 7 => ("ReturnPointsModel", "number", "[I", true)
  | 8 => ("ReturnPointsModel", "made", "[I", true)
  | 9 => ("ReturnPointsModel", "inner", "[I", true)
  | 10 => ("ReturnPointsModel", "longer", "[I", true)
  | 11 => ("ReturnPointsModel", "goes", "[I", true)
  | 12 => ("ReturnPointsModel", "tail", "[I", true)
  | 13 => ("ReturnPointsModel", "period", "[I", true)
  | 14 => ("ReturnPointsModel", "least", "[I", true)
  | 15 => ("ReturnPointsModel", "comes", "[I", true)
  | 16 => ("ReturnPointsModel", "seen", "[I", true)
  | 17 => ("ReturnPointsModel", "trace", "[I", true)
  | 18 => ("ReturnPointsModel", "traced", "I", false)
  | 19 => ("ReturnPointsModel", "counted", "[I", true)
  | 20 => ("ReturnPointsModel", "done", "[I", true)
  | 21 => ("ReturnPointsModel", "next", "[I", true)
  | 22 => ("ReturnPointsModel", "rest", "[I", true)
  | 23 => ("ReturnPointsModel", "quotient", "[I", true)
  | 24 => ("ReturnPointsModel", "rounds", "[I", true)
  | 25 => ("ReturnPointsModel", "met", "[I", true)
  | 26 => ("ReturnPointsModel", "fractionTail", "I", false)
  | _ => ("ReturnPointsModel", "fractionPeriod", "I", false)
def tyX7 : Nat → FieldType := fun k => match k with
  | 0 => .int
  | 1 => .int
  | 2 => .int
  | 3 => .array .int
  | 4 => .array .int
  | 5 => .array .long
  | 6 => .array .int
  | 7 => .array .int
  | 8 => .array .int
  | 9 => .array .int
  | 10 => .array .int
  | 11 => .array .int
  | 12 => .array .int
  | 13 => .array .int
  | 14 => .array .int
  | 15 => .array .int
  | 16 => .array .int
  | 17 => .array .int
  | 18 => .int
  | 19 => .array .int
  | 20 => .array .int
  | 21 => .array .int
  | 22 => .array .int
  | 23 => .array .int
  | 24 => .array .int
  | 25 => .array .int
  | 26 => .int
  | _ => .int
abbrev wsX70 : List Cond := u_ws RX7 TX7 28
theorem nmX7 : ∀ a, a < 28 → ∀ b, b < 28 → a ≠ b → (TX7 a).2.1 ≠ (TX7 b).2.1 := by decide +kernel
theorem tyX7_ok : ∀ k, k < 28 → parseFieldDescriptor (TX7 k).2.2.1 = some (tyX7 k) := by decide +kernel
abbrev cX7_in : ByteArray := prog_9_method_2_code
def yX7_in : MethodName := ⟨RX7, "in", "(JJJ)Z"⟩
abbrev cX7_found : ByteArray := prog_9_method_3_code
def yX7_found : MethodName := ⟨RX7, "found", "(I)I"⟩
abbrev cX7_isPrime : ByteArray := prog_9_method_4_code
def yX7_isPrime : MethodName := ⟨RX7, "isPrime", "(I)Z"⟩
abbrev cX7_init : ByteArray := prog_9_method_5_code
def yX7_init : MethodName := ⟨RX7, "<init>", "(I)V"⟩
abbrev cX7_isSheet : ByteArray := prog_9_method_6_code
def yX7_isSheet : MethodName := ⟨RX7, "isSheet", "(I)Z"⟩
abbrev cX7_sheet : ByteArray := prog_9_method_7_code
def yX7_sheet : MethodName := ⟨RX7, "sheet", "(III)I"⟩
abbrev cX7_set : ByteArray := prog_9_method_8_code
def yX7_set : MethodName := ⟨RX7, "set", "(IIJ)J"⟩
abbrev cX7_copy : ByteArray := prog_9_method_9_code
def yX7_copy : MethodName := ⟨RX7, "copy", "(IIIII)I"⟩
abbrev cX7_drop : ByteArray := prog_9_method_10_code
def yX7_drop : MethodName := ⟨RX7, "drop", "(I)I"⟩
abbrev cX7_isPlace : ByteArray := prog_9_method_11_code
def yX7_isPlace : MethodName := ⟨RX7, "isPlace", "(I)Z"⟩
abbrev cX7_modulo : ByteArray := prog_9_method_12_code
def yX7_modulo : MethodName := ⟨RX7, "modulo", "(J)I"⟩
abbrev cX7_kindOf : ByteArray := prog_9_method_13_code
def yX7_kindOf : MethodName := ⟨RX7, "kindOf", "(I)I"⟩
abbrev cX7_lay : ByteArray := prog_9_method_14_code
def yX7_lay : MethodName := ⟨RX7, "lay", "(I)I"⟩
abbrev cX7_map : ByteArray := prog_9_method_15_code
def yX7_map : MethodName := ⟨RX7, "map", "(IIII)I"⟩
abbrev cX7_plain : ByteArray := prog_9_method_16_code
def yX7_plain : MethodName := ⟨RX7, "plain", "(II)I"⟩
abbrev cX7_inverse : ByteArray := prog_9_method_17_code
def yX7_inverse : MethodName := ⟨RX7, "inverse", "(I)I"⟩
abbrev cX7_mix : ByteArray := prog_9_method_18_code
def yX7_mix : MethodName := ⟨RX7, "mix", "(I)V"⟩
abbrev cX7_turn : ByteArray := prog_9_method_19_code
def yX7_turn : MethodName := ⟨RX7, "turn", "(IIII)I"⟩
abbrev cX7_behind : ByteArray := prog_9_method_20_code
def yX7_behind : MethodName := ⟨RX7, "behind", "(III)I"⟩
abbrev cX7_clear : ByteArray := prog_9_method_21_code
def yX7_clear : MethodName := ⟨RX7, "clear", "(I)I"⟩
abbrev cX7_look : ByteArray := prog_9_method_22_code
def yX7_look : MethodName := ⟨RX7, "look", "(I)I"⟩
abbrev cX7_number : ByteArray := prog_9_method_23_code
def yX7_number : MethodName := ⟨RX7, "number", "(II)I"⟩
abbrev cX7_kind : ByteArray := prog_9_method_24_code
def yX7_kind : MethodName := ⟨RX7, "kind", "(I)I"⟩
abbrev cX7_isOf : ByteArray := prog_9_method_25_code
def yX7_isOf : MethodName := ⟨RX7, "isOf", "(II)Z"⟩
abbrev cX7_is : ByteArray := prog_9_method_26_code
def yX7_is : MethodName := ⟨RX7, "is", "(II)I"⟩
abbrev cX7_as : ByteArray := prog_9_method_27_code
def yX7_as : MethodName := ⟨RX7, "as", "(II)I"⟩
abbrev cX7_valueOf : ByteArray := prog_9_method_28_code
def yX7_valueOf : MethodName := ⟨RX7, "valueOf", "(II)I"⟩
abbrev cX7_slopeOf : ByteArray := prog_9_method_29_code
def yX7_slopeOf : MethodName := ⟨RX7, "slopeOf", "(II)I"⟩
abbrev cX7_findWays : ByteArray := prog_9_method_30_code
def yX7_findWays : MethodName := ⟨RX7, "findWays", "(I)V"⟩
abbrev cX7_valuesOf : ByteArray := prog_9_method_31_code
def yX7_valuesOf : MethodName := ⟨RX7, "valuesOf", "(I)I"⟩
abbrev cX7_began : ByteArray := prog_9_method_32_code
def yX7_began : MethodName := ⟨RX7, "began", "(I)V"⟩
abbrev cX7_plainSize : ByteArray := prog_9_method_33_code
def yX7_plainSize : MethodName := ⟨RX7, "plainSize", "(I)I"⟩
abbrev cX7_marked : ByteArray := prog_9_method_34_code
def yX7_marked : MethodName := ⟨RX7, "marked", "(I)I"⟩
abbrev cX7_sized : ByteArray := prog_9_method_35_code
def yX7_sized : MethodName := ⟨RX7, "sized", "(I)I"⟩
abbrev cX7_ask : ByteArray := prog_9_method_36_code
def yX7_ask : MethodName := ⟨RX7, "ask", "(II)I"⟩
abbrev cX7_trace : ByteArray := prog_9_method_37_code
def yX7_trace : MethodName := ⟨RX7, "trace", "(I)I"⟩
abbrev cX7_step : ByteArray := prog_9_method_38_code
def yX7_step : MethodName := ⟨RX7, "step", "(III)I"⟩
abbrev cX7_ringOf : ByteArray := prog_9_method_39_code
def yX7_ringOf : MethodName := ⟨RX7, "ringOf", "(I)I"⟩
abbrev cX7_way : ByteArray := prog_9_method_40_code
def yX7_way : MethodName := ⟨RX7, "way", "(III)I"⟩
abbrev cX7_times : ByteArray := prog_9_method_41_code
def yX7_times : MethodName := ⟨RX7, "times", "(II)I"⟩
abbrev cX7_ring : ByteArray := prog_9_method_42_code
def yX7_ring : MethodName := ⟨RX7, "ring", "(III)I"⟩
abbrev cX7_all : ByteArray := prog_9_method_43_code
def yX7_all : MethodName := ⟨RX7, "all", "(II)I"⟩
abbrev cX7_alike : ByteArray := prog_9_method_44_code
def yX7_alike : MethodName := ⟨RX7, "alike", "(II)I"⟩
abbrev cX7_goOn : ByteArray := prog_9_method_45_code
def yX7_goOn : MethodName := ⟨RX7, "goOn", "(I)V"⟩
abbrev cX7_degreeOf : ByteArray := prog_9_method_46_code
def yX7_degreeOf : MethodName := ⟨RX7, "degreeOf", "(I)I"⟩
abbrev cX7_divide : ByteArray := prog_9_method_47_code
def yX7_divide : MethodName := ⟨RX7, "divide", "(I)V"⟩
abbrev cX7_findRounds : ByteArray := prog_9_method_48_code
def yX7_findRounds : MethodName := ⟨RX7, "findRounds", "(II)V"⟩
abbrev cX7_round : ByteArray := prog_9_method_49_code
def yX7_round : MethodName := ⟨RX7, "round", "(III)I"⟩
abbrev cX7_divisor : ByteArray := prog_9_method_50_code
def yX7_divisor : MethodName := ⟨RX7, "divisor", "(II)I"⟩
abbrev cX7_isFraction : ByteArray := prog_9_method_51_code
def yX7_isFraction : MethodName := ⟨RX7, "isFraction", "(II)Z"⟩
abbrev cX7_nextOf : ByteArray := prog_9_method_52_code
def yX7_nextOf : MethodName := ⟨RX7, "nextOf", "(III)I"⟩
abbrev cX7_returns : ByteArray := prog_9_method_53_code
def yX7_returns : MethodName := ⟨RX7, "returns", "(III)Z"⟩
abbrev cX7_fraction : ByteArray := prog_9_method_54_code
def yX7_fraction : MethodName := ⟨RX7, "fraction", "(IIII)I"⟩
abbrev cX7_next : ByteArray := prog_9_method_55_code
def yX7_next : MethodName := ⟨RX7, "next", "(III)I"⟩
abbrev cX7_count : ByteArray := prog_9_method_56_code
def yX7_count : MethodName := ⟨RX7, "count", "(I)I"⟩
abbrev cX7_status : ByteArray := prog_9_method_57_code
def yX7_status : MethodName := ⟨RX7, "status", "()I"⟩
def RJ9 : String := "java/lang/Math"
def TJ9 : u_T := fun k => match k with
  | _ => ("", "", "", false)
def tyJ9 : Nat → FieldType := fun k => match k with
  | _ => .int
abbrev wsJ90 : List Cond := u_ws RJ9 TJ9 0
theorem nmJ9 : ∀ a, a < 0 → ∀ b, b < 0 → a ≠ b → (TJ9 a).2.1 ≠ (TJ9 b).2.1 := by decide +kernel
theorem tyJ9_ok : ∀ k, k < 0 → parseFieldDescriptor (TJ9 k).2.2.1 = some (tyJ9 k) := by decide +kernel
abbrev cJ9_floorMod_7cf53 : ByteArray := prog_10_method_50_code
def yJ9_floorMod_7cf53 : MethodName := ⟨RJ9, "floorMod", "(II)I"⟩
abbrev cJ9_floorMod_f86c9 : ByteArray := prog_10_method_52_code
def yJ9_floorMod_f86c9 : MethodName := ⟨RJ9, "floorMod", "(JJ)J"⟩
abbrev cJ9_abs_0f7a4 : ByteArray := prog_10_method_59_code
def yJ9_abs_0f7a4 : MethodName := ⟨RJ9, "abs", "(I)I"⟩
abbrev cJ9_max_7cf53 : ByteArray := prog_10_method_65_code
def yJ9_max_7cf53 : MethodName := ⟨RJ9, "max", "(II)I"⟩
abbrev cJ9_min_7cf53 : ByteArray := prog_10_method_69_code
def yJ9_min_7cf53 : MethodName := ⟨RJ9, "min", "(II)I"⟩
def RJ10 : String := "java/lang/System"
def TJ10 : u_T := fun k => match k with
  | _ => ("", "", "", false)
def tyJ10 : Nat → FieldType := fun k => match k with
  | _ => .int
abbrev wsJ100 : List Cond := u_ws RJ10 TJ10 0
theorem nmJ10 : ∀ a, a < 0 → ∀ b, b < 0 → a ≠ b → (TJ10 a).2.1 ≠ (TJ10 b).2.1 := by decide +kernel
theorem tyJ10_ok : ∀ k, k < 0 → parseFieldDescriptor (TJ10 k).2.2.1 = some (tyJ10 k) := by decide +kernel
def RJ7 : String := "java/util/Arrays"
def TJ7 : u_T := fun k => match k with
  | _ => ("", "", "", false)
def tyJ7 : Nat → FieldType := fun k => match k with
  | _ => .int
abbrev wsJ70 : List Cond := u_ws RJ7 TJ7 0
theorem nmJ7 : ∀ a, a < 0 → ∀ b, b < 0 → a ≠ b → (TJ7 a).2.1 ≠ (TJ7 b).2.1 := by decide +kernel
theorem tyJ7_ok : ∀ k, k < 0 → parseFieldDescriptor (TJ7 k).2.2.1 = some (tyJ7 k) := by decide +kernel
abbrev cJ7_fill_53178 : ByteArray := prog_12_method_103_code
def yJ7_fill_53178 : MethodName := ⟨RJ7, "fill", "([II)V"⟩
def RL : String := "ReturnPointsLaw"
abbrev cL_cell : ByteArray := method_2_code
def yL_cell : MethodName := ⟨RL, "cell", "([II)I"⟩
abbrev cL_law : ByteArray := code
def yL_law : MethodName := ⟨RL, "law", "([I)Z"⟩
def wsX1_init : List Cond := .code yX1_init cX1_init 2 none :: ([.methodLink RX1 1 objectInit, .instanceMethod objectInit, .code objectInit ⟨#[0xb1]⟩ 1 none, .fieldLink RX1 7 "ReturnPoints$Orbits" "size" "I", .arrayClass .int, .fieldLink RX1 13 "ReturnPoints$Orbits" "next" "[I", .fieldLink RX1 17 "ReturnPoints$Orbits" "tail" "[I", .fieldLink RX1 20 "ReturnPoints$Orbits" "period" "[I", .fieldLink RX1 23 "ReturnPoints$Orbits" "entry" "[I", .fieldLink RX1 26 "ReturnPoints$Orbits" "path" "[I"] ++ wsX10)
def wsX0_init : List Cond := .code yX0_init cX0_init 1 none :: ([.methodLink RX0 3 objectInit, .instanceMethod objectInit, .code objectInit ⟨#[0xb1]⟩ 1 none, .classLink RX0 9 RX1, .instantiable RX1 6, .initialized RX1, .fieldLink RX0 16 "ReturnPoints$Fractions" "orbits" "LReturnPoints$Orbits;", .arrayClass .int, .fieldLink RX0 20 "ReturnPoints$Fractions" "list" "[I", .fieldLink RX0 24 "ReturnPoints$Fractions" "listed" "I", .fieldLink RX0 28 "ReturnPoints$Fractions" "upper" "I", .fieldLink RX0 31 "ReturnPoints$Fractions" "lower" "I", .methodLink RX0 13 yX1_init, .instanceMethod yX1_init, .code yX1_init cX1_init 2 none, .methodLink RX1 1 objectInit, .fieldLink RX1 7 "ReturnPoints$Orbits" "size" "I", .fieldLink RX1 13 "ReturnPoints$Orbits" "next" "[I", .fieldLink RX1 17 "ReturnPoints$Orbits" "tail" "[I", .fieldLink RX1 20 "ReturnPoints$Orbits" "period" "[I", .fieldLink RX1 23 "ReturnPoints$Orbits" "entry" "[I", .fieldLink RX1 26 "ReturnPoints$Orbits" "path" "[I"] ++ wsX10 ++ wsX00)
def wsX6_commonDivisor : List Cond := .code yX6_commonDivisor cX6_commonDivisor 6 (some .int) :: ([.methodLink RX6 226 Lib.Math.abs.name, .static Lib.Math.abs.name, .initialized "java/lang/Math", .code Lib.Math.abs.name Lib.Math.abs.code 1 (some .int)])
def wsX0_image : List Cond := .code yX0_image cX0_image 5 (some .int) :: ([.constant RX0 58 (-1000000), .static yX6_commonDivisor, .initialized RX6, .code yX6_commonDivisor cX6_commonDivisor 6 (some .int), .methodLink RX6 226 Lib.Math.abs.name, .static Lib.Math.abs.name, .initialized "java/lang/Math", .code Lib.Math.abs.name Lib.Math.abs.code 1 (some .int)])
def wsX0_follower : List Cond := .code yX0_follower cX0_follower 3 (some .int) :: ([.fieldLink RX0 31 "ReturnPoints$Fractions" "lower" "I", .fieldLink RX0 28 "ReturnPoints$Fractions" "upper" "I", .static yX6_commonDivisor, .initialized RX6, .code yX6_commonDivisor cX6_commonDivisor 6 (some .int), .methodLink RX6 226 Lib.Math.abs.name, .static Lib.Math.abs.name, .initialized "java/lang/Math", .code Lib.Math.abs.name Lib.Math.abs.code 1 (some .int), .methodLink RX0 54 yX0_image, .static yX0_image, .initialized RX0, .code yX0_image cX0_image 5 (some .int), .constant RX0 58 (-1000000)] ++ wsX00)
def wsJ7_fill_53178 : List Cond := .code yJ7_fill_53178 cJ7_fill_53178 4 none :: ([])
def wsX1_isInside : List Cond := .code yX1_isInside cX1_isInside 2 (some .boolean) :: ([.fieldLink RX1 7 "ReturnPoints$Orbits" "size" "I"] ++ wsX10)
def wsX1_closeRing : List Cond := .code yX1_closeRing cX1_closeRing 5 (some .int) :: ([.methodLink RX1 50 Lib.Math.max.name, .static Lib.Math.max.name, .initialized "java/lang/Math", .code Lib.Math.max.name Lib.Math.max.code 2 (some .int), .fieldLink RX1 26 "ReturnPoints$Orbits" "path" "[I", .fieldLink RX1 17 "ReturnPoints$Orbits" "tail" "[I", .fieldLink RX1 20 "ReturnPoints$Orbits" "period" "[I", .fieldLink RX1 23 "ReturnPoints$Orbits" "entry" "[I"] ++ wsX10)
def wsX1_hang : List Cond := .code yX1_hang cX1_hang 3 none :: ([.fieldLink RX1 13 "ReturnPoints$Orbits" "next" "[I", .fieldLink RX1 20 "ReturnPoints$Orbits" "period" "[I", .fieldLink RX1 17 "ReturnPoints$Orbits" "tail" "[I", .fieldLink RX1 23 "ReturnPoints$Orbits" "entry" "[I", .methodLink RX1 39 yX1_isInside, .instanceMethod yX1_isInside, .selects RX1 yX1_isInside yX1_isInside, .initialized RX1, .code yX1_isInside cX1_isInside 2 (some .boolean), .fieldLink RX1 7 "ReturnPoints$Orbits" "size" "I"] ++ wsX10)
def wsX1_walkFrom : List Cond := .code yX1_walkFrom cX1_walkFrom 6 none :: ([.fieldLink RX1 7 "ReturnPoints$Orbits" "size" "I", .fieldLink RX1 20 "ReturnPoints$Orbits" "period" "[I", .fieldLink RX1 26 "ReturnPoints$Orbits" "path" "[I", .fieldLink RX1 13 "ReturnPoints$Orbits" "next" "[I", .methodLink RX1 39 yX1_isInside, .instanceMethod yX1_isInside, .selects RX1 yX1_isInside yX1_isInside, .initialized RX1, .code yX1_isInside cX1_isInside 2 (some .boolean), .methodLink RX1 43 yX1_closeRing, .instanceMethod yX1_closeRing, .selects RX1 yX1_closeRing yX1_closeRing, .code yX1_closeRing cX1_closeRing 5 (some .int), .methodLink RX1 50 Lib.Math.max.name, .static Lib.Math.max.name, .initialized "java/lang/Math", .code Lib.Math.max.name Lib.Math.max.code 2 (some .int), .fieldLink RX1 17 "ReturnPoints$Orbits" "tail" "[I", .fieldLink RX1 23 "ReturnPoints$Orbits" "entry" "[I", .methodLink RX1 47 yX1_hang, .instanceMethod yX1_hang, .selects RX1 yX1_hang yX1_hang, .code yX1_hang cX1_hang 3 none] ++ wsX10)
def wsX1_followAll_r1 : List Cond := [Cond.fieldLink RX1 20 "ReturnPoints$Orbits" "period" "[I", Cond.fieldLink RX1 7 "ReturnPoints$Orbits" "size" "I", Cond.methodLink RX1 29 yJ7_fill_53178, Cond.static yJ7_fill_53178, Cond.initialized RJ7, Cond.code yJ7_fill_53178 cJ7_fill_53178 4 none, Cond.methodLink RX1 35 yX1_walkFrom, Cond.instanceMethod yX1_walkFrom, Cond.selects RX1 yX1_walkFrom yX1_walkFrom, Cond.initialized RX1, Cond.code yX1_walkFrom cX1_walkFrom 6 none, Cond.fieldLink RX1 26 "ReturnPoints$Orbits" "path" "[I", Cond.fieldLink RX1 13 "ReturnPoints$Orbits" "next" "[I", Cond.methodLink RX1 39 yX1_isInside, Cond.instanceMethod yX1_isInside, Cond.selects RX1 yX1_isInside yX1_isInside, Cond.code yX1_isInside cX1_isInside 2 (some .boolean), Cond.methodLink RX1 43 yX1_closeRing, Cond.instanceMethod yX1_closeRing, Cond.selects RX1 yX1_closeRing yX1_closeRing, Cond.code yX1_closeRing cX1_closeRing 5 (some .int), Cond.methodLink RX1 50 Lib.Math.max.name, Cond.static Lib.Math.max.name, Cond.initialized "java/lang/Math"]
def wsX1_followAll_r2 : List Cond := [Cond.code Lib.Math.max.name Lib.Math.max.code 2 (some .int), Cond.fieldLink RX1 17 "ReturnPoints$Orbits" "tail" "[I", Cond.fieldLink RX1 23 "ReturnPoints$Orbits" "entry" "[I", Cond.methodLink RX1 47 yX1_hang, Cond.instanceMethod yX1_hang, Cond.selects RX1 yX1_hang yX1_hang, Cond.code yX1_hang cX1_hang 3 none]
def wsX1_followAll : List Cond := .code yX1_followAll cX1_followAll 2 none :: ((wsX1_followAll_r1 ++ wsX1_followAll_r2) ++ wsX10)
def wsX0_prepare_r1 : List Cond := [Cond.fieldLink RX0 28 "ReturnPoints$Fractions" "upper" "I", Cond.fieldLink RX0 31 "ReturnPoints$Fractions" "lower" "I", Cond.fieldLink RX0 16 "ReturnPoints$Fractions" "orbits" "LReturnPoints$Orbits;", Cond.fieldLink RX0 34 "ReturnPoints$Orbits" "size" "I", Cond.fieldLink RX0 37 "ReturnPoints$Orbits" "next" "[I", Cond.fieldLink RX0 24 "ReturnPoints$Fractions" "listed" "I", Cond.fieldLink RX0 20 "ReturnPoints$Fractions" "list" "[I", Cond.fieldLink RX0 47 "ReturnPoints$Orbits" "period" "[I", Cond.methodLink RX0 40 yX0_follower, Cond.instanceMethod yX0_follower, Cond.selects RX0 yX0_follower yX0_follower, Cond.initialized RX0, Cond.code yX0_follower cX0_follower 3 (some .int), Cond.static yX6_commonDivisor, Cond.initialized RX6, Cond.code yX6_commonDivisor cX6_commonDivisor 6 (some .int), Cond.methodLink RX6 226 Lib.Math.abs.name, Cond.static Lib.Math.abs.name, Cond.initialized "java/lang/Math", Cond.code Lib.Math.abs.name Lib.Math.abs.code 1 (some .int), Cond.methodLink RX0 54 yX0_image, Cond.static yX0_image, Cond.code yX0_image cX0_image 5 (some .int), Cond.constant RX0 58 (-1000000)]
def wsX0_prepare_r2 : List Cond := [Cond.methodLink RX0 44 yX1_followAll, Cond.instanceMethod yX1_followAll, Cond.selects RX1 yX1_followAll yX1_followAll, Cond.initialized RX1, Cond.code yX1_followAll cX1_followAll 2 none, Cond.fieldLink RX1 20 "ReturnPoints$Orbits" "period" "[I", Cond.fieldLink RX1 7 "ReturnPoints$Orbits" "size" "I", Cond.methodLink RX1 29 yJ7_fill_53178, Cond.static yJ7_fill_53178, Cond.initialized RJ7, Cond.code yJ7_fill_53178 cJ7_fill_53178 4 none, Cond.methodLink RX1 35 yX1_walkFrom, Cond.instanceMethod yX1_walkFrom, Cond.selects RX1 yX1_walkFrom yX1_walkFrom, Cond.code yX1_walkFrom cX1_walkFrom 6 none, Cond.fieldLink RX1 26 "ReturnPoints$Orbits" "path" "[I", Cond.fieldLink RX1 13 "ReturnPoints$Orbits" "next" "[I", Cond.methodLink RX1 39 yX1_isInside, Cond.instanceMethod yX1_isInside, Cond.selects RX1 yX1_isInside yX1_isInside, Cond.code yX1_isInside cX1_isInside 2 (some .boolean), Cond.methodLink RX1 43 yX1_closeRing, Cond.instanceMethod yX1_closeRing, Cond.selects RX1 yX1_closeRing yX1_closeRing]
def wsX0_prepare_r3 : List Cond := [Cond.code yX1_closeRing cX1_closeRing 5 (some .int), Cond.methodLink RX1 50 Lib.Math.max.name, Cond.static Lib.Math.max.name, Cond.code Lib.Math.max.name Lib.Math.max.code 2 (some .int), Cond.fieldLink RX1 17 "ReturnPoints$Orbits" "tail" "[I", Cond.fieldLink RX1 23 "ReturnPoints$Orbits" "entry" "[I", Cond.methodLink RX1 47 yX1_hang, Cond.instanceMethod yX1_hang, Cond.selects RX1 yX1_hang yX1_hang, Cond.code yX1_hang cX1_hang 3 none]
def wsX0_prepare : List Cond := .code yX0_prepare cX0_prepare 4 none :: ((wsX0_prepare_r1 ++ (wsX0_prepare_r2 ++ wsX0_prepare_r3)) ++ wsX00 ++ wsX10)
def wsX0_ofListed : List Cond := .code yX0_ofListed cX0_ofListed 4 (some .int) :: ([.fieldLink RX0 24 "ReturnPoints$Fractions" "listed" "I", .constant RX0 58 (-1000000), .fieldLink RX0 20 "ReturnPoints$Fractions" "list" "[I", .fieldLink RX0 16 "ReturnPoints$Fractions" "orbits" "LReturnPoints$Orbits;", .fieldLink RX0 59 "ReturnPoints$Orbits" "tail" "[I", .fieldLink RX0 47 "ReturnPoints$Orbits" "period" "[I"] ++ wsX00 ++ wsX10)
def wsX1_after : List Cond := .code yX1_after cX1_after 6 (some .int) :: ([.fieldLink RX1 17 "ReturnPoints$Orbits" "tail" "[I", .fieldLink RX1 20 "ReturnPoints$Orbits" "period" "[I", .fieldLink RX1 13 "ReturnPoints$Orbits" "next" "[I", .methodLink RX1 39 yX1_isInside, .instanceMethod yX1_isInside, .selects RX1 yX1_isInside yX1_isInside, .initialized RX1, .code yX1_isInside cX1_isInside 2 (some .boolean), .fieldLink RX1 7 "ReturnPoints$Orbits" "size" "I"] ++ wsX10)
def wsX2_degreeOf : List Cond := .code yX2_degreeOf cX2_degreeOf 2 (some .int) :: ([])
def wsX2_toldOf : List Cond := .code yX2_toldOf cX2_toldOf 2 (some .int) :: ([])
def wsX2_init : List Cond := .code yX2_init cX2_init 3 none :: ([.methodLink RX2 3 objectInit, .instanceMethod objectInit, .code objectInit ⟨#[0xb1]⟩ 1 none, .fieldLink RX2 9 "ReturnPoints$Poly" "p" "I", .fieldLink RX2 15 "ReturnPoints$Poly" "c" "[I", .fieldLink RX2 23 "ReturnPoints$Poly" "degree" "I", .fieldLink RX2 30 "ReturnPoints$Poly" "told" "I", .methodLink RX2 19 yX2_degreeOf, .static yX2_degreeOf, .initialized RX2, .code yX2_degreeOf cX2_degreeOf 2 (some .int), .methodLink RX2 26 yX2_toldOf, .static yX2_toldOf, .code yX2_toldOf cX2_toldOf 2 (some .int)] ++ wsX20)
def wsX2_fits : List Cond := .code yX2_fits cX2_fits 2 (some .boolean) :: ([.fieldLink RX2 30 "ReturnPoints$Poly" "told" "I"] ++ wsX20)
def wsX2_valueAt : List Cond := .code yX2_valueAt cX2_valueAt 4 (some .int) :: ([.fieldLink RX2 23 "ReturnPoints$Poly" "degree" "I", .fieldLink RX2 15 "ReturnPoints$Poly" "c" "[I", .fieldLink RX2 9 "ReturnPoints$Poly" "p" "I"] ++ wsX20)
def wsX2_slopeAt : List Cond := .code yX2_slopeAt cX2_slopeAt 4 (some .int) :: ([.fieldLink RX2 23 "ReturnPoints$Poly" "degree" "I", .fieldLink RX2 15 "ReturnPoints$Poly" "c" "[I", .fieldLink RX2 9 "ReturnPoints$Poly" "p" "I"] ++ wsX20)
def wsX2_multiply : List Cond := .code yX2_multiply cX2_multiply 8 none :: ([.methodLink RX2 56 Lib.Math.min.name, .static Lib.Math.min.name, .initialized "java/lang/Math", .code Lib.Math.min.name Lib.Math.min.code 2 (some .int), .methodLink RX2 59 Lib.Math.max.name, .static Lib.Math.max.name, .code Lib.Math.max.name Lib.Math.max.code 2 (some .int)])
def wsX2_putOver : List Cond := .code yX2_putOver cX2_putOver 6 none :: ([.fieldLink RX2 15 "ReturnPoints$Poly" "c" "[I", .fieldLink RX2 23 "ReturnPoints$Poly" "degree" "I", .fieldLink RX2 9 "ReturnPoints$Poly" "p" "I", .methodLink RX2 46 yJ7_fill_53178, .static yJ7_fill_53178, .initialized RJ7, .code yJ7_fill_53178 cJ7_fill_53178 4 none, .methodLink RX2 52 yX2_multiply, .static yX2_multiply, .initialized RX2, .code yX2_multiply cX2_multiply 8 none, .methodLink RX2 56 Lib.Math.min.name, .static Lib.Math.min.name, .initialized "java/lang/Math", .code Lib.Math.min.name Lib.Math.min.code 2 (some .int), .methodLink RX2 59 Lib.Math.max.name, .static Lib.Math.max.name, .code Lib.Math.max.name Lib.Math.max.code 2 (some .int)] ++ wsX20)
def wsJ9_floorMod_7cf53 : List Cond := .code yJ9_floorMod_7cf53 cJ9_floorMod_7cf53 3 (some .int) :: ([])
def wsX6_inverse : List Cond := .code yX6_inverse cX6_inverse 3 (some .int) :: ([])
def wsX2_turned_r1 : List Cond := [Cond.arrayClass .int, Cond.fieldLink RX2 9 "ReturnPoints$Poly" "p" "I", Cond.methodLink RX2 33 yX2_putOver, Cond.instanceMethod yX2_putOver, Cond.selects RX2 yX2_putOver yX2_putOver, Cond.initialized RX2, Cond.code yX2_putOver cX2_putOver 6 none, Cond.fieldLink RX2 15 "ReturnPoints$Poly" "c" "[I", Cond.fieldLink RX2 23 "ReturnPoints$Poly" "degree" "I", Cond.methodLink RX2 46 yJ7_fill_53178, Cond.static yJ7_fill_53178, Cond.initialized RJ7, Cond.code yJ7_fill_53178 cJ7_fill_53178 4 none, Cond.methodLink RX2 52 yX2_multiply, Cond.static yX2_multiply, Cond.code yX2_multiply cX2_multiply 8 none, Cond.methodLink RX2 56 Lib.Math.min.name, Cond.static Lib.Math.min.name, Cond.initialized "java/lang/Math", Cond.code Lib.Math.min.name Lib.Math.min.code 2 (some .int), Cond.methodLink RX2 59 Lib.Math.max.name, Cond.static Lib.Math.max.name, Cond.code Lib.Math.max.name Lib.Math.max.code 2 (some .int), Cond.methodLink RX2 37 yJ9_floorMod_7cf53]
def wsX2_turned_r2 : List Cond := [Cond.static yJ9_floorMod_7cf53, Cond.initialized RJ9, Cond.code yJ9_floorMod_7cf53 cJ9_floorMod_7cf53 3 (some .int), Cond.static yX6_inverse, Cond.initialized RX6, Cond.code yX6_inverse cX6_inverse 3 (some .int)]
def wsX2_turned : List Cond := .code yX2_turned cX2_turned 7 (some (.array .int)) :: ((wsX2_turned_r1 ++ wsX2_turned_r2) ++ wsX20)
def wsX3_init_r1 : List Cond := [Cond.methodLink RX3 3 objectInit, Cond.instanceMethod objectInit, Cond.code objectInit ⟨#[0xb1]⟩ 1 none, Cond.fieldLink RX3 9 "ReturnPoints$Roads" "p" "I", Cond.classLink RX3 15 RX1, Cond.instantiable RX1 6, Cond.initialized RX1, Cond.fieldLink RX3 20 "ReturnPoints$Roads" "orbits" "LReturnPoints$Orbits;", Cond.arrayClass .int, Cond.fieldLink RX3 24 "ReturnPoints$Roads" "comers" "[I", Cond.fieldLink RX3 28 "ReturnPoints$Roads" "ringOf" "[I", Cond.fieldLink RX3 31 "ReturnPoints$Roads" "length" "[I", Cond.fieldLink RX3 34 "ReturnPoints$Roads" "least" "[I", Cond.fieldLink RX3 37 "ReturnPoints$Roads" "multiplier" "[I", Cond.fieldLink RX3 40 "ReturnPoints$Roads" "basin" "[I", Cond.fieldLink RX3 43 "ReturnPoints$Roads" "byTail" "[I", Cond.fieldLink RX3 46 "ReturnPoints$Roads" "compared" "[I", Cond.fieldLink RX3 49 "ReturnPoints$Roads" "rings" "I", Cond.fieldLink RX3 52 "ReturnPoints$Roads" "surveyed" "LReturnPoints$Poly;", Cond.methodLink RX3 17 yX1_init, Cond.instanceMethod yX1_init, Cond.code yX1_init cX1_init 2 none, Cond.methodLink RX1 1 objectInit, Cond.fieldLink RX1 7 "ReturnPoints$Orbits" "size" "I"]
def wsX3_init_r2 : List Cond := [Cond.fieldLink RX1 13 "ReturnPoints$Orbits" "next" "[I", Cond.fieldLink RX1 17 "ReturnPoints$Orbits" "tail" "[I", Cond.fieldLink RX1 20 "ReturnPoints$Orbits" "period" "[I", Cond.fieldLink RX1 23 "ReturnPoints$Orbits" "entry" "[I", Cond.fieldLink RX1 26 "ReturnPoints$Orbits" "path" "[I"]
def wsX3_init : List Cond := .code yX3_init cX3_init 2 none :: ((wsX3_init_r1 ++ wsX3_init_r2) ++ wsX30 ++ wsX10)
def wsX3_countComers : List Cond := .code yX3_countComers cX3_countComers 5 none :: ([.fieldLink RX3 24 "ReturnPoints$Roads" "comers" "[I", .fieldLink RX3 20 "ReturnPoints$Roads" "orbits" "LReturnPoints$Orbits;", .fieldLink RX3 56 "ReturnPoints$Orbits" "next" "[I", .methodLink RX3 78 yJ7_fill_53178, .static yJ7_fill_53178, .initialized RJ7, .code yJ7_fill_53178 cJ7_fill_53178 4 none, .methodLink RX3 84 yX1_isInside, .instanceMethod yX1_isInside, .selects RX1 yX1_isInside yX1_isInside, .initialized RX1, .code yX1_isInside cX1_isInside 2 (some .boolean), .fieldLink RX1 7 "ReturnPoints$Orbits" "size" "I"] ++ wsX30 ++ wsX10)
def wsX3_goRound : List Cond := .code yX3_goRound cX3_goRound 7 none :: ([.fieldLink RX3 20 "ReturnPoints$Roads" "orbits" "LReturnPoints$Orbits;", .fieldLink RX3 96 "ReturnPoints$Orbits" "period" "[I", .fieldLink RX3 28 "ReturnPoints$Roads" "ringOf" "[I", .fieldLink RX3 9 "ReturnPoints$Roads" "p" "I", .fieldLink RX3 56 "ReturnPoints$Orbits" "next" "[I", .fieldLink RX3 31 "ReturnPoints$Roads" "length" "[I", .fieldLink RX3 34 "ReturnPoints$Roads" "least" "[I", .fieldLink RX3 37 "ReturnPoints$Roads" "multiplier" "[I", .fieldLink RX3 40 "ReturnPoints$Roads" "basin" "[I", .methodLink RX3 84 yX1_isInside, .instanceMethod yX1_isInside, .selects RX1 yX1_isInside yX1_isInside, .initialized RX1, .code yX1_isInside cX1_isInside 2 (some .boolean), .fieldLink RX1 7 "ReturnPoints$Orbits" "size" "I", .methodLink RX3 99 yX2_slopeAt, .instanceMethod yX2_slopeAt, .selects RX2 yX2_slopeAt yX2_slopeAt, .initialized RX2, .code yX2_slopeAt cX2_slopeAt 4 (some .int), .fieldLink RX2 23 "ReturnPoints$Poly" "degree" "I", .fieldLink RX2 15 "ReturnPoints$Poly" "c" "[I", .fieldLink RX2 9 "ReturnPoints$Poly" "p" "I"] ++ wsX30 ++ wsX10 ++ wsX20)
def wsX3_numberRings_r1 : List Cond := [Cond.fieldLink RX3 49 "ReturnPoints$Roads" "rings" "I", Cond.fieldLink RX3 28 "ReturnPoints$Roads" "ringOf" "[I", Cond.constant RX3 88 (-1000000), Cond.fieldLink RX3 9 "ReturnPoints$Roads" "p" "I", Cond.fieldLink RX3 20 "ReturnPoints$Roads" "orbits" "LReturnPoints$Orbits;", Cond.fieldLink RX3 89 "ReturnPoints$Orbits" "tail" "[I", Cond.methodLink RX3 78 yJ7_fill_53178, Cond.static yJ7_fill_53178, Cond.initialized RJ7, Cond.code yJ7_fill_53178 cJ7_fill_53178 4 none, Cond.methodLink RX3 92 yX3_goRound, Cond.instanceMethod yX3_goRound, Cond.selects RX3 yX3_goRound yX3_goRound, Cond.initialized RX3, Cond.code yX3_goRound cX3_goRound 7 none, Cond.fieldLink RX3 96 "ReturnPoints$Orbits" "period" "[I", Cond.fieldLink RX3 56 "ReturnPoints$Orbits" "next" "[I", Cond.fieldLink RX3 31 "ReturnPoints$Roads" "length" "[I", Cond.fieldLink RX3 34 "ReturnPoints$Roads" "least" "[I", Cond.fieldLink RX3 37 "ReturnPoints$Roads" "multiplier" "[I", Cond.fieldLink RX3 40 "ReturnPoints$Roads" "basin" "[I", Cond.methodLink RX3 84 yX1_isInside, Cond.instanceMethod yX1_isInside, Cond.selects RX1 yX1_isInside yX1_isInside]
def wsX3_numberRings_r2 : List Cond := [Cond.initialized RX1, Cond.code yX1_isInside cX1_isInside 2 (some .boolean), Cond.fieldLink RX1 7 "ReturnPoints$Orbits" "size" "I", Cond.methodLink RX3 99 yX2_slopeAt, Cond.instanceMethod yX2_slopeAt, Cond.selects RX2 yX2_slopeAt yX2_slopeAt, Cond.initialized RX2, Cond.code yX2_slopeAt cX2_slopeAt 4 (some .int), Cond.fieldLink RX2 23 "ReturnPoints$Poly" "degree" "I", Cond.fieldLink RX2 15 "ReturnPoints$Poly" "c" "[I", Cond.fieldLink RX2 9 "ReturnPoints$Poly" "p" "I"]
def wsX3_numberRings : List Cond := .code yX3_numberRings cX3_numberRings 3 none :: ((wsX3_numberRings_r1 ++ wsX3_numberRings_r2) ++ wsX30 ++ wsX10 ++ wsX20)
def wsX3_gatherBasins : List Cond := .code yX3_gatherBasins cX3_gatherBasins 4 none :: ([.fieldLink RX3 9 "ReturnPoints$Roads" "p" "I", .fieldLink RX3 20 "ReturnPoints$Roads" "orbits" "LReturnPoints$Orbits;", .fieldLink RX3 102 "ReturnPoints$Orbits" "entry" "[I", .fieldLink RX3 28 "ReturnPoints$Roads" "ringOf" "[I", .constant RX3 88 (-1000000), .fieldLink RX3 49 "ReturnPoints$Roads" "rings" "I", .fieldLink RX3 40 "ReturnPoints$Roads" "basin" "[I", .methodLink RX3 84 yX1_isInside, .instanceMethod yX1_isInside, .selects RX1 yX1_isInside yX1_isInside, .initialized RX1, .code yX1_isInside cX1_isInside 2 (some .boolean), .fieldLink RX1 7 "ReturnPoints$Orbits" "size" "I"] ++ wsX30 ++ wsX10)
def wsX3_survey_r1 : List Cond := [Cond.fieldLink RX3 52 "ReturnPoints$Roads" "surveyed" "LReturnPoints$Poly;", Cond.fieldLink RX3 9 "ReturnPoints$Roads" "p" "I", Cond.fieldLink RX3 20 "ReturnPoints$Roads" "orbits" "LReturnPoints$Orbits;", Cond.fieldLink RX3 56 "ReturnPoints$Orbits" "next" "[I", Cond.methodLink RX3 59 yX2_valueAt, Cond.instanceMethod yX2_valueAt, Cond.selects RX2 yX2_valueAt yX2_valueAt, Cond.initialized RX2, Cond.code yX2_valueAt cX2_valueAt 4 (some .int), Cond.fieldLink RX2 23 "ReturnPoints$Poly" "degree" "I", Cond.fieldLink RX2 15 "ReturnPoints$Poly" "c" "[I", Cond.fieldLink RX2 9 "ReturnPoints$Poly" "p" "I", Cond.methodLink RX3 65 yX3_countComers, Cond.instanceMethod yX3_countComers, Cond.selects RX3 yX3_countComers yX3_countComers, Cond.initialized RX3, Cond.code yX3_countComers cX3_countComers 5 none, Cond.fieldLink RX3 24 "ReturnPoints$Roads" "comers" "[I", Cond.methodLink RX3 78 yJ7_fill_53178, Cond.static yJ7_fill_53178, Cond.initialized RJ7, Cond.code yJ7_fill_53178 cJ7_fill_53178 4 none, Cond.methodLink RX3 84 yX1_isInside, Cond.instanceMethod yX1_isInside]
def wsX3_survey_r2 : List Cond := [Cond.selects RX1 yX1_isInside yX1_isInside, Cond.initialized RX1, Cond.code yX1_isInside cX1_isInside 2 (some .boolean), Cond.fieldLink RX1 7 "ReturnPoints$Orbits" "size" "I", Cond.methodLink RX3 68 yX1_followAll, Cond.instanceMethod yX1_followAll, Cond.selects RX1 yX1_followAll yX1_followAll, Cond.code yX1_followAll cX1_followAll 2 none, Cond.fieldLink RX1 20 "ReturnPoints$Orbits" "period" "[I", Cond.methodLink RX1 29 yJ7_fill_53178, Cond.methodLink RX1 35 yX1_walkFrom, Cond.instanceMethod yX1_walkFrom, Cond.selects RX1 yX1_walkFrom yX1_walkFrom, Cond.code yX1_walkFrom cX1_walkFrom 6 none, Cond.fieldLink RX1 26 "ReturnPoints$Orbits" "path" "[I", Cond.fieldLink RX1 13 "ReturnPoints$Orbits" "next" "[I", Cond.methodLink RX1 39 yX1_isInside, Cond.methodLink RX1 43 yX1_closeRing, Cond.instanceMethod yX1_closeRing, Cond.selects RX1 yX1_closeRing yX1_closeRing, Cond.code yX1_closeRing cX1_closeRing 5 (some .int), Cond.methodLink RX1 50 Lib.Math.max.name, Cond.static Lib.Math.max.name, Cond.initialized "java/lang/Math"]
def wsX3_survey_r3 : List Cond := [Cond.code Lib.Math.max.name Lib.Math.max.code 2 (some .int), Cond.fieldLink RX1 17 "ReturnPoints$Orbits" "tail" "[I", Cond.fieldLink RX1 23 "ReturnPoints$Orbits" "entry" "[I", Cond.methodLink RX1 47 yX1_hang, Cond.instanceMethod yX1_hang, Cond.selects RX1 yX1_hang yX1_hang, Cond.code yX1_hang cX1_hang 3 none, Cond.methodLink RX3 71 yX3_numberRings, Cond.instanceMethod yX3_numberRings, Cond.selects RX3 yX3_numberRings yX3_numberRings, Cond.code yX3_numberRings cX3_numberRings 3 none, Cond.fieldLink RX3 49 "ReturnPoints$Roads" "rings" "I", Cond.fieldLink RX3 28 "ReturnPoints$Roads" "ringOf" "[I", Cond.constant RX3 88 (-1000000), Cond.fieldLink RX3 89 "ReturnPoints$Orbits" "tail" "[I", Cond.methodLink RX3 92 yX3_goRound, Cond.instanceMethod yX3_goRound, Cond.selects RX3 yX3_goRound yX3_goRound, Cond.code yX3_goRound cX3_goRound 7 none, Cond.fieldLink RX3 96 "ReturnPoints$Orbits" "period" "[I", Cond.fieldLink RX3 31 "ReturnPoints$Roads" "length" "[I", Cond.fieldLink RX3 34 "ReturnPoints$Roads" "least" "[I", Cond.fieldLink RX3 37 "ReturnPoints$Roads" "multiplier" "[I", Cond.fieldLink RX3 40 "ReturnPoints$Roads" "basin" "[I"]
def wsX3_survey_r4 : List Cond := [Cond.methodLink RX3 99 yX2_slopeAt, Cond.instanceMethod yX2_slopeAt, Cond.selects RX2 yX2_slopeAt yX2_slopeAt, Cond.code yX2_slopeAt cX2_slopeAt 4 (some .int), Cond.methodLink RX3 75 yX3_gatherBasins, Cond.instanceMethod yX3_gatherBasins, Cond.selects RX3 yX3_gatherBasins yX3_gatherBasins, Cond.code yX3_gatherBasins cX3_gatherBasins 4 none, Cond.fieldLink RX3 102 "ReturnPoints$Orbits" "entry" "[I"]
def wsX3_survey : List Cond := .code yX3_survey cX3_survey 3 none :: ((wsX3_survey_r1 ++ (wsX3_survey_r2 ++ (wsX3_survey_r3 ++ wsX3_survey_r4))) ++ wsX30 ++ wsX10 ++ wsX20)
def wsX3_ofPoint : List Cond := .code yX3_ofPoint cX3_ofPoint 3 (some .int) :: ([.fieldLink RX3 20 "ReturnPoints$Roads" "orbits" "LReturnPoints$Orbits;", .fieldLink RX3 89 "ReturnPoints$Orbits" "tail" "[I", .fieldLink RX3 96 "ReturnPoints$Orbits" "period" "[I", .fieldLink RX3 28 "ReturnPoints$Roads" "ringOf" "[I", .fieldLink RX3 24 "ReturnPoints$Roads" "comers" "[I"] ++ wsX30 ++ wsX10)
def wsX3_ofRing : List Cond := .code yX3_ofRing cX3_ofRing 3 (some .int) :: ([.fieldLink RX3 49 "ReturnPoints$Roads" "rings" "I", .constant RX3 88 (-1000000), .fieldLink RX3 31 "ReturnPoints$Roads" "length" "[I", .fieldLink RX3 34 "ReturnPoints$Roads" "least" "[I", .fieldLink RX3 37 "ReturnPoints$Roads" "multiplier" "[I", .fieldLink RX3 40 "ReturnPoints$Roads" "basin" "[I"] ++ wsX30)
def wsX3_pointsOnRings : List Cond := .code yX3_pointsOnRings cX3_pointsOnRings 3 (some .int) :: ([.fieldLink RX3 49 "ReturnPoints$Roads" "rings" "I", .fieldLink RX3 31 "ReturnPoints$Roads" "length" "[I"] ++ wsX30)
def wsX3_longestRing : List Cond := .code yX3_longestRing cX3_longestRing 3 (some .int) :: ([.fieldLink RX3 49 "ReturnPoints$Roads" "rings" "I", .fieldLink RX3 31 "ReturnPoints$Roads" "length" "[I", .methodLink RX3 121 Lib.Math.max.name, .static Lib.Math.max.name, .initialized "java/lang/Math", .code Lib.Math.max.name Lib.Math.max.code 2 (some .int)] ++ wsX30)
def wsX3_longestTail : List Cond := .code yX3_longestTail cX3_longestTail 3 (some .int) :: ([.fieldLink RX3 9 "ReturnPoints$Roads" "p" "I", .fieldLink RX3 20 "ReturnPoints$Roads" "orbits" "LReturnPoints$Orbits;", .fieldLink RX3 89 "ReturnPoints$Orbits" "tail" "[I", .methodLink RX3 121 Lib.Math.max.name, .static Lib.Math.max.name, .initialized "java/lang/Math", .code Lib.Math.max.name Lib.Math.max.code 2 (some .int)] ++ wsX30 ++ wsX10)
def wsX3_pointsWithoutComers : List Cond := .code yX3_pointsWithoutComers cX3_pointsWithoutComers 3 (some .int) :: ([.fieldLink RX3 9 "ReturnPoints$Roads" "p" "I", .fieldLink RX3 24 "ReturnPoints$Roads" "comers" "[I"] ++ wsX30)
def wsX3_stillRings : List Cond := .code yX3_stillRings cX3_stillRings 3 (some .int) :: ([.fieldLink RX3 49 "ReturnPoints$Roads" "rings" "I", .fieldLink RX3 37 "ReturnPoints$Roads" "multiplier" "[I"] ++ wsX30)
def wsX3_ofAll_r1 : List Cond := [Cond.fieldLink RX3 49 "ReturnPoints$Roads" "rings" "I", Cond.methodLink RX3 105 yX3_pointsOnRings, Cond.instanceMethod yX3_pointsOnRings, Cond.selects RX3 yX3_pointsOnRings yX3_pointsOnRings, Cond.initialized RX3, Cond.code yX3_pointsOnRings cX3_pointsOnRings 3 (some .int), Cond.fieldLink RX3 31 "ReturnPoints$Roads" "length" "[I", Cond.methodLink RX3 109 yX3_longestRing, Cond.instanceMethod yX3_longestRing, Cond.selects RX3 yX3_longestRing yX3_longestRing, Cond.code yX3_longestRing cX3_longestRing 3 (some .int), Cond.methodLink RX3 121 Lib.Math.max.name, Cond.static Lib.Math.max.name, Cond.initialized "java/lang/Math", Cond.code Lib.Math.max.name Lib.Math.max.code 2 (some .int), Cond.methodLink RX3 112 yX3_longestTail, Cond.instanceMethod yX3_longestTail, Cond.selects RX3 yX3_longestTail yX3_longestTail, Cond.code yX3_longestTail cX3_longestTail 3 (some .int), Cond.fieldLink RX3 9 "ReturnPoints$Roads" "p" "I", Cond.fieldLink RX3 20 "ReturnPoints$Roads" "orbits" "LReturnPoints$Orbits;", Cond.fieldLink RX3 89 "ReturnPoints$Orbits" "tail" "[I", Cond.methodLink RX3 115 yX3_pointsWithoutComers, Cond.instanceMethod yX3_pointsWithoutComers]
def wsX3_ofAll_r2 : List Cond := [Cond.selects RX3 yX3_pointsWithoutComers yX3_pointsWithoutComers, Cond.code yX3_pointsWithoutComers cX3_pointsWithoutComers 3 (some .int), Cond.fieldLink RX3 24 "ReturnPoints$Roads" "comers" "[I", Cond.methodLink RX3 118 yX3_stillRings, Cond.instanceMethod yX3_stillRings, Cond.selects RX3 yX3_stillRings yX3_stillRings, Cond.code yX3_stillRings cX3_stillRings 3 (some .int), Cond.fieldLink RX3 37 "ReturnPoints$Roads" "multiplier" "[I"]
def wsX3_ofAll : List Cond := .code yX3_ofAll cX3_ofAll 2 (some .int) :: ((wsX3_ofAll_r1 ++ wsX3_ofAll_r2) ++ wsX30 ++ wsX10)
def wsX3_tally : List Cond := .code yX3_tally cX3_tally 6 none :: ([.fieldLink RX3 135 "ReturnPoints$Orbits" "size" "I", .fieldLink RX3 89 "ReturnPoints$Orbits" "tail" "[I", .fieldLink RX3 96 "ReturnPoints$Orbits" "period" "[I", .fieldLink RX3 43 "ReturnPoints$Roads" "byTail" "[I"] ++ wsX10 ++ wsX30)
def wsX3_hasTailsOf : List Cond := .code yX3_hasTailsOf cX3_hasTailsOf 7 (some .boolean) :: ([.fieldLink RX3 43 "ReturnPoints$Roads" "byTail" "[I", .fieldLink RX3 20 "ReturnPoints$Roads" "orbits" "LReturnPoints$Orbits;", .methodLink RX3 78 yJ7_fill_53178, .static yJ7_fill_53178, .initialized RJ7, .code yJ7_fill_53178 cJ7_fill_53178 4 none, .methodLink RX3 131 yX3_tally, .instanceMethod yX3_tally, .selects RX3 yX3_tally yX3_tally, .initialized RX3, .code yX3_tally cX3_tally 6 none, .fieldLink RX3 135 "ReturnPoints$Orbits" "size" "I", .fieldLink RX3 89 "ReturnPoints$Orbits" "tail" "[I", .fieldLink RX3 96 "ReturnPoints$Orbits" "period" "[I"] ++ wsX30 ++ wsX10)
def wsX3_isLike : List Cond := .code yX3_isLike cX3_isLike 6 (some .boolean) :: ([.fieldLink RX3 46 "ReturnPoints$Roads" "compared" "[I", .fieldLink RX3 20 "ReturnPoints$Roads" "orbits" "LReturnPoints$Orbits;", .fieldLink RX3 96 "ReturnPoints$Orbits" "period" "[I", .methodLink RX3 78 yJ7_fill_53178, .static yJ7_fill_53178, .initialized RJ7, .code yJ7_fill_53178 cJ7_fill_53178 4 none, .methodLink RX3 127 yX3_hasTailsOf, .instanceMethod yX3_hasTailsOf, .selects RX3 yX3_hasTailsOf yX3_hasTailsOf, .initialized RX3, .code yX3_hasTailsOf cX3_hasTailsOf 7 (some .boolean), .fieldLink RX3 43 "ReturnPoints$Roads" "byTail" "[I", .methodLink RX3 131 yX3_tally, .instanceMethod yX3_tally, .selects RX3 yX3_tally yX3_tally, .code yX3_tally cX3_tally 6 none, .fieldLink RX3 135 "ReturnPoints$Orbits" "size" "I", .fieldLink RX3 89 "ReturnPoints$Orbits" "tail" "[I"] ++ wsX30 ++ wsX10)
def wsX4_init : List Cond := .code yX4_init cX4_init 2 none :: ([.methodLink RX4 3 objectInit, .instanceMethod objectInit, .code objectInit ⟨#[0xb1]⟩ 1 none, .fieldLink RX4 9 "ReturnPoints$Rounds" "p" "I", .classLink RX4 15 "[[I", .arrayClass .int, .fieldLink RX4 17 "ReturnPoints$Rounds" "done" "[[I", .fieldLink RX4 20 "ReturnPoints$Rounds" "doneDegree" "[I", .fieldLink RX4 24 "ReturnPoints$Rounds" "rows" "[[I", .fieldLink RX4 27 "ReturnPoints$Rounds" "rowDegree" "[I", .fieldLink RX4 30 "ReturnPoints$Rounds" "map" "LReturnPoints$Poly;", .fieldLink RX4 34 "ReturnPoints$Rounds" "known" "I"] ++ wsX40)
def wsX4_power : List Cond := .code yX4_power cX4_power 4 (some .int) :: ([])
def wsX4_degreeOf : List Cond := .code yX4_degreeOf cX4_degreeOf 2 (some .int) :: ([.fieldLink RX4 27 "ReturnPoints$Rounds" "rowDegree" "[I"] ++ wsX40)
def wsX4_numberOf : List Cond := .code yX4_numberOf cX4_numberOf 3 (some .int) :: ([.fieldLink RX4 27 "ReturnPoints$Rounds" "rowDegree" "[I", .fieldLink RX4 24 "ReturnPoints$Rounds" "rows" "[[I"] ++ wsX40)
def wsX4_divide : List Cond := .code yX4_divide cX4_divide 10 none :: ([.fieldLink RX4 9 "ReturnPoints$Rounds" "p" "I", .static yX6_inverse, .initialized RX6, .code yX6_inverse cX6_inverse 3 (some .int), .methodLink RX4 56 yJ9_floorMod_7cf53, .static yJ9_floorMod_7cf53, .initialized RJ9, .code yJ9_floorMod_7cf53 cJ9_floorMod_7cf53 3 (some .int)] ++ wsX40)
def wsX4_divideOut : List Cond := .code yX4_divideOut cX4_divideOut 4 none :: ([.fieldLink RX4 24 "ReturnPoints$Rounds" "rows" "[[I", .fieldLink RX4 17 "ReturnPoints$Rounds" "done" "[[I", .methodLink RX4 50 arraycopyName, .native arraycopyName, .static arraycopyName, .initialized "java/lang/System", .fieldLink RX4 9 "ReturnPoints$Rounds" "p" "I", .fieldLink RX4 27 "ReturnPoints$Rounds" "rowDegree" "[I", .fieldLink RX4 20 "ReturnPoints$Rounds" "doneDegree" "[I", .methodLink RX4 56 yJ9_floorMod_7cf53, .static yJ9_floorMod_7cf53, .initialized RJ9, .code yJ9_floorMod_7cf53 cJ9_floorMod_7cf53 3 (some .int), .methodLink RX4 62 yX4_divide, .instanceMethod yX4_divide, .selects RX4 yX4_divide yX4_divide, .initialized RX4, .code yX4_divide cX4_divide 10 none, .static yX6_inverse, .initialized RX6, .code yX6_inverse cX6_inverse 3 (some .int)] ++ wsX40)
def wsX4_prepare_r1 : List Cond := [Cond.fieldLink RX4 30 "ReturnPoints$Rounds" "map" "LReturnPoints$Poly;", Cond.fieldLink RX4 34 "ReturnPoints$Rounds" "known" "I", Cond.fieldLink RX4 17 "ReturnPoints$Rounds" "done" "[[I", Cond.fieldLink RX4 20 "ReturnPoints$Rounds" "doneDegree" "[I", Cond.fieldLink RX4 43 "ReturnPoints$Poly" "degree" "I", Cond.methodLink RX4 37 yX2_putOver, Cond.instanceMethod yX2_putOver, Cond.selects RX2 yX2_putOver yX2_putOver, Cond.initialized RX2, Cond.code yX2_putOver cX2_putOver 6 none, Cond.fieldLink RX2 15 "ReturnPoints$Poly" "c" "[I", Cond.fieldLink RX2 23 "ReturnPoints$Poly" "degree" "I", Cond.fieldLink RX2 9 "ReturnPoints$Poly" "p" "I", Cond.methodLink RX2 46 yJ7_fill_53178, Cond.static yJ7_fill_53178, Cond.initialized RJ7, Cond.code yJ7_fill_53178 cJ7_fill_53178 4 none, Cond.methodLink RX2 52 yX2_multiply, Cond.static yX2_multiply, Cond.code yX2_multiply cX2_multiply 8 none, Cond.methodLink RX2 56 Lib.Math.min.name, Cond.static Lib.Math.min.name, Cond.initialized "java/lang/Math", Cond.code Lib.Math.min.name Lib.Math.min.code 2 (some .int)]
def wsX4_prepare_r2 : List Cond := [Cond.methodLink RX2 59 Lib.Math.max.name, Cond.static Lib.Math.max.name, Cond.code Lib.Math.max.name Lib.Math.max.code 2 (some .int), Cond.methodLink RX4 46 yX4_divideOut, Cond.instanceMethod yX4_divideOut, Cond.selects RX4 yX4_divideOut yX4_divideOut, Cond.initialized RX4, Cond.code yX4_divideOut cX4_divideOut 4 none, Cond.fieldLink RX4 24 "ReturnPoints$Rounds" "rows" "[[I", Cond.methodLink RX4 50 arraycopyName, Cond.native arraycopyName, Cond.static arraycopyName, Cond.initialized "java/lang/System", Cond.fieldLink RX4 9 "ReturnPoints$Rounds" "p" "I", Cond.fieldLink RX4 27 "ReturnPoints$Rounds" "rowDegree" "[I", Cond.methodLink RX4 56 yJ9_floorMod_7cf53, Cond.static yJ9_floorMod_7cf53, Cond.initialized RJ9, Cond.code yJ9_floorMod_7cf53 cJ9_floorMod_7cf53 3 (some .int), Cond.methodLink RX4 62 yX4_divide, Cond.instanceMethod yX4_divide, Cond.selects RX4 yX4_divide yX4_divide, Cond.code yX4_divide cX4_divide 10 none, Cond.static yX6_inverse]
def wsX4_prepare_r3 : List Cond := [Cond.initialized RX6, Cond.code yX6_inverse cX6_inverse 3 (some .int)]
def wsX4_prepare : List Cond := .code yX4_prepare cX4_prepare 4 none :: ((wsX4_prepare_r1 ++ (wsX4_prepare_r2 ++ wsX4_prepare_r3)) ++ wsX40 ++ wsX20)
def wsX5_init : List Cond := .code yX5_init cX5_init 3 none :: ([.methodLink RX5 3 objectInit, .instanceMethod objectInit, .code objectInit ⟨#[0xb1]⟩ 1 none, .fieldLink RX5 9 "ReturnPoints$Sheet" "lane" "I", .methodLink RX5 15 Lib.Math.max.name, .static Lib.Math.max.name, .initialized "java/lang/Math", .code Lib.Math.max.name Lib.Math.max.code 2 (some .int), .arrayClass .long, .fieldLink RX5 21 "ReturnPoints$Sheet" "items" "[J"] ++ wsX50)
def wsX5_holds : List Cond := .code yX5_holds cX5_holds 3 (some .boolean) :: ([.fieldLink RX5 21 "ReturnPoints$Sheet" "items" "[J"] ++ wsX50)
def wsX5_cut : List Cond := .code yX5_cut cX5_cut 3 (some .long) :: ([.fieldLink RX5 9 "ReturnPoints$Sheet" "lane" "I"] ++ wsX50)
def wsX6_isPrimeHere : List Cond := .code yX6_isPrimeHere cX6_isPrimeHere 2 (some .boolean) :: ([])
def wsX6_init_r1 : List Cond := [Cond.methodLink RX6 1 objectInit, Cond.instanceMethod objectInit, Cond.code objectInit ⟨#[0xb1]⟩ 1 none, Cond.fieldLink RX6 13 "ReturnPoints" "p" "I", Cond.classLink RX6 17 RX5, Cond.fieldLink RX6 19 "ReturnPoints" "sheets" "[LReturnPoints$Sheet;", Cond.classLink RX6 23 RX2, Cond.fieldLink RX6 25 "ReturnPoints" "shelf" "[LReturnPoints$Poly;", Cond.arrayClass .int, Cond.fieldLink RX6 29 "ReturnPoints" "trace" "[I", Cond.classLink RX6 33 RX3, Cond.instantiable RX3 12, Cond.initialized RX3, Cond.fieldLink RX6 38 "ReturnPoints" "roads" "LReturnPoints$Roads;", Cond.fieldLink RX6 42 "ReturnPoints" "otherRoads" "LReturnPoints$Roads;", Cond.classLink RX6 45 RX4, Cond.instantiable RX4 7, Cond.initialized RX4, Cond.fieldLink RX6 48 "ReturnPoints" "rounds" "LReturnPoints$Rounds;", Cond.classLink RX6 52 RX0, Cond.instantiable RX0 5, Cond.initialized RX0, Cond.fieldLink RX6 55 "ReturnPoints" "fractions" "LReturnPoints$Fractions;", Cond.fieldLink RX6 59 "ReturnPoints" "traced" "I"]
def wsX6_init_r2 : List Cond := [Cond.fieldLink RX6 62 "ReturnPoints" "status" "I", Cond.methodLink RX6 7 yX6_isPrimeHere, Cond.static yX6_isPrimeHere, Cond.initialized RX6, Cond.code yX6_isPrimeHere cX6_isPrimeHere 2 (some .boolean), Cond.methodLink RX6 35 yX3_init, Cond.instanceMethod yX3_init, Cond.code yX3_init cX3_init 2 none, Cond.methodLink RX3 3 objectInit, Cond.fieldLink RX3 9 "ReturnPoints$Roads" "p" "I", Cond.classLink RX3 15 RX1, Cond.instantiable RX1 6, Cond.initialized RX1, Cond.fieldLink RX3 20 "ReturnPoints$Roads" "orbits" "LReturnPoints$Orbits;", Cond.fieldLink RX3 24 "ReturnPoints$Roads" "comers" "[I", Cond.fieldLink RX3 28 "ReturnPoints$Roads" "ringOf" "[I", Cond.fieldLink RX3 31 "ReturnPoints$Roads" "length" "[I", Cond.fieldLink RX3 34 "ReturnPoints$Roads" "least" "[I", Cond.fieldLink RX3 37 "ReturnPoints$Roads" "multiplier" "[I", Cond.fieldLink RX3 40 "ReturnPoints$Roads" "basin" "[I", Cond.fieldLink RX3 43 "ReturnPoints$Roads" "byTail" "[I", Cond.fieldLink RX3 46 "ReturnPoints$Roads" "compared" "[I", Cond.fieldLink RX3 49 "ReturnPoints$Roads" "rings" "I", Cond.fieldLink RX3 52 "ReturnPoints$Roads" "surveyed" "LReturnPoints$Poly;"]
def wsX6_init_r3 : List Cond := [Cond.methodLink RX3 17 yX1_init, Cond.instanceMethod yX1_init, Cond.code yX1_init cX1_init 2 none, Cond.methodLink RX1 1 objectInit, Cond.fieldLink RX1 7 "ReturnPoints$Orbits" "size" "I", Cond.fieldLink RX1 13 "ReturnPoints$Orbits" "next" "[I", Cond.fieldLink RX1 17 "ReturnPoints$Orbits" "tail" "[I", Cond.fieldLink RX1 20 "ReturnPoints$Orbits" "period" "[I", Cond.fieldLink RX1 23 "ReturnPoints$Orbits" "entry" "[I", Cond.fieldLink RX1 26 "ReturnPoints$Orbits" "path" "[I", Cond.methodLink RX6 47 yX4_init, Cond.instanceMethod yX4_init, Cond.code yX4_init cX4_init 2 none, Cond.methodLink RX4 3 objectInit, Cond.fieldLink RX4 9 "ReturnPoints$Rounds" "p" "I", Cond.classLink RX4 15 "[[I", Cond.fieldLink RX4 17 "ReturnPoints$Rounds" "done" "[[I", Cond.fieldLink RX4 20 "ReturnPoints$Rounds" "doneDegree" "[I", Cond.fieldLink RX4 24 "ReturnPoints$Rounds" "rows" "[[I", Cond.fieldLink RX4 27 "ReturnPoints$Rounds" "rowDegree" "[I", Cond.fieldLink RX4 30 "ReturnPoints$Rounds" "map" "LReturnPoints$Poly;", Cond.fieldLink RX4 34 "ReturnPoints$Rounds" "known" "I", Cond.methodLink RX6 54 yX0_init, Cond.instanceMethod yX0_init]
def wsX6_init_r4 : List Cond := [Cond.code yX0_init cX0_init 1 none, Cond.methodLink RX0 3 objectInit, Cond.classLink RX0 9 RX1, Cond.fieldLink RX0 16 "ReturnPoints$Fractions" "orbits" "LReturnPoints$Orbits;", Cond.fieldLink RX0 20 "ReturnPoints$Fractions" "list" "[I", Cond.fieldLink RX0 24 "ReturnPoints$Fractions" "listed" "I", Cond.fieldLink RX0 28 "ReturnPoints$Fractions" "upper" "I", Cond.fieldLink RX0 31 "ReturnPoints$Fractions" "lower" "I", Cond.methodLink RX0 13 yX1_init]
def wsX6_init : List Cond := .code yX6_init cX6_init 2 none :: ((wsX6_init_r1 ++ (wsX6_init_r2 ++ (wsX6_init_r3 ++ wsX6_init_r4))) ++ wsX60 ++ wsX30 ++ wsX40 ++ wsX00 ++ wsX10)
def wsX6_isSheet : List Cond := .code yX6_isSheet cX6_isSheet 1 (some .boolean) :: ([])
def wsX6_found : List Cond := .code yX6_found cX6_found 2 (some .int) :: ([.fieldLink RX6 62 "ReturnPoints" "status" "I", .constant RX6 222 (-1000010)] ++ wsX60)
def wsX6_fine : List Cond := .code yX6_fine cX6_fine 2 (some .int) :: ([.fieldLink RX6 62 "ReturnPoints" "status" "I"] ++ wsX60)
def wsX6_sheet_r1 : List Cond := [Cond.constant RX6 68 (-1000001), Cond.fieldLink RX6 19 "ReturnPoints" "sheets" "[LReturnPoints$Sheet;", Cond.classLink RX6 17 RX5, Cond.instantiable RX5 2, Cond.initialized RX5, Cond.methodLink RX6 65 yX6_isSheet, Cond.static yX6_isSheet, Cond.initialized RX6, Cond.code yX6_isSheet cX6_isSheet 1 (some .boolean), Cond.methodLink RX6 69 yX6_found, Cond.instanceMethod yX6_found, Cond.selects RX6 yX6_found yX6_found, Cond.code yX6_found cX6_found 2 (some .int), Cond.fieldLink RX6 62 "ReturnPoints" "status" "I", Cond.constant RX6 222 (-1000010), Cond.methodLink RX6 73 yX5_init, Cond.instanceMethod yX5_init, Cond.code yX5_init cX5_init 3 none, Cond.methodLink RX5 3 objectInit, Cond.instanceMethod objectInit, Cond.code objectInit ⟨#[0xb1]⟩ 1 none, Cond.fieldLink RX5 9 "ReturnPoints$Sheet" "lane" "I", Cond.methodLink RX5 15 Lib.Math.max.name, Cond.static Lib.Math.max.name]
def wsX6_sheet_r2 : List Cond := [Cond.initialized "java/lang/Math", Cond.code Lib.Math.max.name Lib.Math.max.code 2 (some .int), Cond.arrayClass .long, Cond.fieldLink RX5 21 "ReturnPoints$Sheet" "items" "[J", Cond.methodLink RX6 76 yX6_fine, Cond.instanceMethod yX6_fine, Cond.selects RX6 yX6_fine yX6_fine, Cond.code yX6_fine cX6_fine 2 (some .int)]
def wsX6_sheet : List Cond := .code yX6_sheet cX6_sheet 4 (some .int) :: ((wsX6_sheet_r1 ++ wsX6_sheet_r2) ++ wsX60 ++ wsX50)
def wsX6_set : List Cond := .code yX6_set cX6_set 6 (some .long) :: ([.constantLong RX6 79 (-1000001), .fieldLink RX6 19 "ReturnPoints" "sheets" "[LReturnPoints$Sheet;", .fieldLink RX6 85 "ReturnPoints$Sheet" "items" "[J", .fieldLink RX6 62 "ReturnPoints" "status" "I", .methodLink RX6 65 yX6_isSheet, .static yX6_isSheet, .initialized RX6, .code yX6_isSheet cX6_isSheet 1 (some .boolean), .methodLink RX6 69 yX6_found, .instanceMethod yX6_found, .selects RX6 yX6_found yX6_found, .code yX6_found cX6_found 2 (some .int), .constant RX6 222 (-1000010), .methodLink RX6 81 yX5_holds, .instanceMethod yX5_holds, .selects RX5 yX5_holds yX5_holds, .initialized RX5, .code yX5_holds cX5_holds 3 (some .boolean), .fieldLink RX5 21 "ReturnPoints$Sheet" "items" "[J", .methodLink RX6 89 yX5_cut, .instanceMethod yX5_cut, .selects RX5 yX5_cut yX5_cut, .code yX5_cut cX5_cut 3 (some .long), .fieldLink RX5 9 "ReturnPoints$Sheet" "lane" "I"] ++ wsX60 ++ wsX50)
def wsX6_copy_r1 : List Cond := [Cond.constant RX6 68 (-1000001), Cond.fieldLink RX6 19 "ReturnPoints" "sheets" "[LReturnPoints$Sheet;", Cond.fieldLink RX6 93 "ReturnPoints$Sheet" "lane" "I", Cond.fieldLink RX6 85 "ReturnPoints$Sheet" "items" "[J", Cond.methodLink RX6 96 arraycopyName, Cond.native arraycopyName, Cond.static arraycopyName, Cond.initialized "java/lang/System", Cond.methodLink RX6 65 yX6_isSheet, Cond.static yX6_isSheet, Cond.initialized RX6, Cond.code yX6_isSheet cX6_isSheet 1 (some .boolean), Cond.methodLink RX6 69 yX6_found, Cond.instanceMethod yX6_found, Cond.selects RX6 yX6_found yX6_found, Cond.code yX6_found cX6_found 2 (some .int), Cond.fieldLink RX6 62 "ReturnPoints" "status" "I", Cond.constant RX6 222 (-1000010), Cond.methodLink RX6 81 yX5_holds, Cond.instanceMethod yX5_holds, Cond.selects RX5 yX5_holds yX5_holds, Cond.initialized RX5, Cond.code yX5_holds cX5_holds 3 (some .boolean), Cond.fieldLink RX5 21 "ReturnPoints$Sheet" "items" "[J"]
def wsX6_copy_r2 : List Cond := [Cond.methodLink RX6 76 yX6_fine, Cond.instanceMethod yX6_fine, Cond.selects RX6 yX6_fine yX6_fine, Cond.code yX6_fine cX6_fine 2 (some .int)]
def wsX6_copy : List Cond := .code yX6_copy cX6_copy 8 (some .int) :: ((wsX6_copy_r1 ++ wsX6_copy_r2) ++ wsX60 ++ wsX50)
def wsX6_drop : List Cond := .code yX6_drop cX6_drop 3 (some .int) :: ([.constant RX6 68 (-1000001), .fieldLink RX6 19 "ReturnPoints" "sheets" "[LReturnPoints$Sheet;", .fieldLink RX6 85 "ReturnPoints$Sheet" "items" "[J", .methodLink RX6 65 yX6_isSheet, .static yX6_isSheet, .initialized RX6, .code yX6_isSheet cX6_isSheet 1 (some .boolean), .methodLink RX6 69 yX6_found, .instanceMethod yX6_found, .selects RX6 yX6_found yX6_found, .code yX6_found cX6_found 2 (some .int), .fieldLink RX6 62 "ReturnPoints" "status" "I", .constant RX6 222 (-1000010), .methodLink RX6 76 yX6_fine, .instanceMethod yX6_fine, .selects RX6 yX6_fine yX6_fine, .code yX6_fine cX6_fine 2 (some .int)] ++ wsX60 ++ wsX50)
def wsX6_isPlace : List Cond := .code yX6_isPlace cX6_isPlace 1 (some .boolean) :: ([])
def wsJ9_floorMod_f86c9 : List Cond := .code yJ9_floorMod_f86c9 cJ9_floorMod_f86c9 6 (some .long) :: ([])
def wsX6_put_r1 : List Cond := [Cond.classLink RX6 23 RX2, Cond.instantiable RX2 4, Cond.initialized RX2, Cond.fieldLink RX6 13 "ReturnPoints" "p" "I", Cond.fieldLink RX6 25 "ReturnPoints" "shelf" "[LReturnPoints$Poly;", Cond.fieldLink RX6 133 "ReturnPoints$Poly" "told" "I", Cond.methodLink RX6 223 yX2_init, Cond.instanceMethod yX2_init, Cond.code yX2_init cX2_init 3 none, Cond.methodLink RX2 3 objectInit, Cond.instanceMethod objectInit, Cond.code objectInit ⟨#[0xb1]⟩ 1 none, Cond.fieldLink RX2 9 "ReturnPoints$Poly" "p" "I", Cond.fieldLink RX2 15 "ReturnPoints$Poly" "c" "[I", Cond.fieldLink RX2 23 "ReturnPoints$Poly" "degree" "I", Cond.fieldLink RX2 30 "ReturnPoints$Poly" "told" "I", Cond.methodLink RX2 19 yX2_degreeOf, Cond.static yX2_degreeOf, Cond.code yX2_degreeOf cX2_degreeOf 2 (some .int), Cond.methodLink RX2 26 yX2_toldOf, Cond.static yX2_toldOf, Cond.code yX2_toldOf cX2_toldOf 2 (some .int), Cond.methodLink RX6 76 yX6_fine, Cond.instanceMethod yX6_fine]
def wsX6_put_r2 : List Cond := [Cond.selects RX6 yX6_fine yX6_fine, Cond.initialized RX6, Cond.code yX6_fine cX6_fine 2 (some .int), Cond.fieldLink RX6 62 "ReturnPoints" "status" "I"]
def wsX6_put : List Cond := .code yX6_put cX6_put 4 (some .int) :: ((wsX6_put_r1 ++ wsX6_put_r2) ++ wsX20 ++ wsX60)
def wsX6_map_r1 : List Cond := [Cond.constant RX6 68 (-1000001), Cond.fieldLink RX6 19 "ReturnPoints" "sheets" "[LReturnPoints$Sheet;", Cond.arrayClass .int, Cond.fieldLink RX6 85 "ReturnPoints$Sheet" "items" "[J", Cond.fieldLink RX6 13 "ReturnPoints" "p" "I", Cond.methodLink RX6 102 yX6_isPlace, Cond.static yX6_isPlace, Cond.initialized RX6, Cond.code yX6_isPlace cX6_isPlace 1 (some .boolean), Cond.methodLink RX6 65 yX6_isSheet, Cond.static yX6_isSheet, Cond.code yX6_isSheet cX6_isSheet 1 (some .boolean), Cond.methodLink RX6 69 yX6_found, Cond.instanceMethod yX6_found, Cond.selects RX6 yX6_found yX6_found, Cond.code yX6_found cX6_found 2 (some .int), Cond.fieldLink RX6 62 "ReturnPoints" "status" "I", Cond.constant RX6 222 (-1000010), Cond.methodLink RX6 81 yX5_holds, Cond.instanceMethod yX5_holds, Cond.selects RX5 yX5_holds yX5_holds, Cond.initialized RX5, Cond.code yX5_holds cX5_holds 3 (some .boolean), Cond.fieldLink RX5 21 "ReturnPoints$Sheet" "items" "[J"]
def wsX6_map_r2 : List Cond := [Cond.methodLink RX6 105 yJ9_floorMod_f86c9, Cond.static yJ9_floorMod_f86c9, Cond.initialized RJ9, Cond.code yJ9_floorMod_f86c9 cJ9_floorMod_f86c9 6 (some .long), Cond.methodLink RX6 111 yX6_put, Cond.instanceMethod yX6_put, Cond.selects RX6 yX6_put yX6_put, Cond.code yX6_put cX6_put 4 (some .int), Cond.classLink RX6 23 RX2, Cond.instantiable RX2 4, Cond.initialized RX2, Cond.fieldLink RX6 25 "ReturnPoints" "shelf" "[LReturnPoints$Poly;", Cond.fieldLink RX6 133 "ReturnPoints$Poly" "told" "I", Cond.methodLink RX6 223 yX2_init, Cond.instanceMethod yX2_init, Cond.code yX2_init cX2_init 3 none, Cond.methodLink RX2 3 objectInit, Cond.instanceMethod objectInit, Cond.code objectInit ⟨#[0xb1]⟩ 1 none, Cond.fieldLink RX2 9 "ReturnPoints$Poly" "p" "I", Cond.fieldLink RX2 15 "ReturnPoints$Poly" "c" "[I", Cond.fieldLink RX2 23 "ReturnPoints$Poly" "degree" "I", Cond.fieldLink RX2 30 "ReturnPoints$Poly" "told" "I", Cond.methodLink RX2 19 yX2_degreeOf]
def wsX6_map_r3 : List Cond := [Cond.static yX2_degreeOf, Cond.code yX2_degreeOf cX2_degreeOf 2 (some .int), Cond.methodLink RX2 26 yX2_toldOf, Cond.static yX2_toldOf, Cond.code yX2_toldOf cX2_toldOf 2 (some .int), Cond.methodLink RX6 76 yX6_fine, Cond.instanceMethod yX6_fine, Cond.selects RX6 yX6_fine yX6_fine, Cond.code yX6_fine cX6_fine 2 (some .int)]
def wsX6_map : List Cond := .code yX6_map cX6_map 8 (some .int) :: ((wsX6_map_r1 ++ (wsX6_map_r2 ++ wsX6_map_r3)) ++ wsX60 ++ wsX50 ++ wsX20)
def wsX6_plain_r1 : List Cond := [Cond.constant RX6 68 (-1000001), Cond.arrayClass .int, Cond.fieldLink RX6 13 "ReturnPoints" "p" "I", Cond.methodLink RX6 102 yX6_isPlace, Cond.static yX6_isPlace, Cond.initialized RX6, Cond.code yX6_isPlace cX6_isPlace 1 (some .boolean), Cond.methodLink RX6 115 yJ9_floorMod_7cf53, Cond.static yJ9_floorMod_7cf53, Cond.initialized RJ9, Cond.code yJ9_floorMod_7cf53 cJ9_floorMod_7cf53 3 (some .int), Cond.methodLink RX6 111 yX6_put, Cond.instanceMethod yX6_put, Cond.selects RX6 yX6_put yX6_put, Cond.code yX6_put cX6_put 4 (some .int), Cond.classLink RX6 23 RX2, Cond.instantiable RX2 4, Cond.initialized RX2, Cond.fieldLink RX6 25 "ReturnPoints" "shelf" "[LReturnPoints$Poly;", Cond.fieldLink RX6 133 "ReturnPoints$Poly" "told" "I", Cond.methodLink RX6 223 yX2_init, Cond.instanceMethod yX2_init, Cond.code yX2_init cX2_init 3 none, Cond.methodLink RX2 3 objectInit]
def wsX6_plain_r2 : List Cond := [Cond.instanceMethod objectInit, Cond.code objectInit ⟨#[0xb1]⟩ 1 none, Cond.fieldLink RX2 9 "ReturnPoints$Poly" "p" "I", Cond.fieldLink RX2 15 "ReturnPoints$Poly" "c" "[I", Cond.fieldLink RX2 23 "ReturnPoints$Poly" "degree" "I", Cond.fieldLink RX2 30 "ReturnPoints$Poly" "told" "I", Cond.methodLink RX2 19 yX2_degreeOf, Cond.static yX2_degreeOf, Cond.code yX2_degreeOf cX2_degreeOf 2 (some .int), Cond.methodLink RX2 26 yX2_toldOf, Cond.static yX2_toldOf, Cond.code yX2_toldOf cX2_toldOf 2 (some .int), Cond.methodLink RX6 76 yX6_fine, Cond.instanceMethod yX6_fine, Cond.selects RX6 yX6_fine yX6_fine, Cond.code yX6_fine cX6_fine 2 (some .int), Cond.fieldLink RX6 62 "ReturnPoints" "status" "I"]
def wsX6_plain : List Cond := .code yX6_plain cX6_plain 4 (some .int) :: ((wsX6_plain_r1 ++ wsX6_plain_r2) ++ wsX60 ++ wsX20)
def wsX6_turn_r1 : List Cond := [Cond.fieldLink RX6 13 "ReturnPoints" "p" "I", Cond.constant RX6 68 (-1000001), Cond.fieldLink RX6 25 "ReturnPoints" "shelf" "[LReturnPoints$Poly;", Cond.methodLink RX6 115 yJ9_floorMod_7cf53, Cond.static yJ9_floorMod_7cf53, Cond.initialized RJ9, Cond.code yJ9_floorMod_7cf53 cJ9_floorMod_7cf53 3 (some .int), Cond.methodLink RX6 102 yX6_isPlace, Cond.static yX6_isPlace, Cond.initialized RX6, Cond.code yX6_isPlace cX6_isPlace 1 (some .boolean), Cond.methodLink RX6 69 yX6_found, Cond.instanceMethod yX6_found, Cond.selects RX6 yX6_found yX6_found, Cond.code yX6_found cX6_found 2 (some .int), Cond.fieldLink RX6 62 "ReturnPoints" "status" "I", Cond.constant RX6 222 (-1000010), Cond.methodLink RX6 118 yX2_turned, Cond.instanceMethod yX2_turned, Cond.selects RX2 yX2_turned yX2_turned, Cond.initialized RX2, Cond.code yX2_turned cX2_turned 7 (some (.array .int)), Cond.arrayClass .int, Cond.fieldLink RX2 9 "ReturnPoints$Poly" "p" "I"]
def wsX6_turn_r2 : List Cond := [Cond.methodLink RX2 33 yX2_putOver, Cond.instanceMethod yX2_putOver, Cond.selects RX2 yX2_putOver yX2_putOver, Cond.code yX2_putOver cX2_putOver 6 none, Cond.fieldLink RX2 15 "ReturnPoints$Poly" "c" "[I", Cond.fieldLink RX2 23 "ReturnPoints$Poly" "degree" "I", Cond.methodLink RX2 46 yJ7_fill_53178, Cond.static yJ7_fill_53178, Cond.initialized RJ7, Cond.code yJ7_fill_53178 cJ7_fill_53178 4 none, Cond.methodLink RX2 52 yX2_multiply, Cond.static yX2_multiply, Cond.code yX2_multiply cX2_multiply 8 none, Cond.methodLink RX2 56 Lib.Math.min.name, Cond.static Lib.Math.min.name, Cond.initialized "java/lang/Math", Cond.code Lib.Math.min.name Lib.Math.min.code 2 (some .int), Cond.methodLink RX2 59 Lib.Math.max.name, Cond.static Lib.Math.max.name, Cond.code Lib.Math.max.name Lib.Math.max.code 2 (some .int), Cond.methodLink RX2 37 yJ9_floorMod_7cf53, Cond.static yX6_inverse, Cond.code yX6_inverse cX6_inverse 3 (some .int), Cond.methodLink RX6 111 yX6_put]
def wsX6_turn_r3 : List Cond := [Cond.instanceMethod yX6_put, Cond.selects RX6 yX6_put yX6_put, Cond.code yX6_put cX6_put 4 (some .int), Cond.classLink RX6 23 RX2, Cond.instantiable RX2 4, Cond.fieldLink RX6 133 "ReturnPoints$Poly" "told" "I", Cond.methodLink RX6 223 yX2_init, Cond.instanceMethod yX2_init, Cond.code yX2_init cX2_init 3 none, Cond.methodLink RX2 3 objectInit, Cond.instanceMethod objectInit, Cond.code objectInit ⟨#[0xb1]⟩ 1 none, Cond.fieldLink RX2 30 "ReturnPoints$Poly" "told" "I", Cond.methodLink RX2 19 yX2_degreeOf, Cond.static yX2_degreeOf, Cond.code yX2_degreeOf cX2_degreeOf 2 (some .int), Cond.methodLink RX2 26 yX2_toldOf, Cond.static yX2_toldOf, Cond.code yX2_toldOf cX2_toldOf 2 (some .int), Cond.methodLink RX6 76 yX6_fine, Cond.instanceMethod yX6_fine, Cond.selects RX6 yX6_fine yX6_fine, Cond.code yX6_fine cX6_fine 2 (some .int)]
def wsX6_turn : List Cond := .code yX6_turn cX6_turn 7 (some .int) :: ((wsX6_turn_r1 ++ (wsX6_turn_r2 ++ wsX6_turn_r3)) ++ wsX60 ++ wsX20)
def wsX6_behind_r1 : List Cond := [Cond.constant RX6 68 (-1000001), Cond.fieldLink RX6 25 "ReturnPoints" "shelf" "[LReturnPoints$Poly;", Cond.fieldLink RX6 122 "ReturnPoints$Poly" "degree" "I", Cond.constant RX6 125 (-1000003), Cond.arrayClass .int, Cond.fieldLink RX6 126 "ReturnPoints$Poly" "c" "[I", Cond.methodLink RX6 102 yX6_isPlace, Cond.static yX6_isPlace, Cond.initialized RX6, Cond.code yX6_isPlace cX6_isPlace 1 (some .boolean), Cond.methodLink RX6 69 yX6_found, Cond.instanceMethod yX6_found, Cond.selects RX6 yX6_found yX6_found, Cond.code yX6_found cX6_found 2 (some .int), Cond.fieldLink RX6 62 "ReturnPoints" "status" "I", Cond.constant RX6 222 (-1000010), Cond.methodLink RX6 129 yX2_putOver, Cond.instanceMethod yX2_putOver, Cond.selects RX2 yX2_putOver yX2_putOver, Cond.initialized RX2, Cond.code yX2_putOver cX2_putOver 6 none, Cond.fieldLink RX2 15 "ReturnPoints$Poly" "c" "[I", Cond.fieldLink RX2 23 "ReturnPoints$Poly" "degree" "I", Cond.fieldLink RX2 9 "ReturnPoints$Poly" "p" "I"]
def wsX6_behind_r2 : List Cond := [Cond.methodLink RX2 46 yJ7_fill_53178, Cond.static yJ7_fill_53178, Cond.initialized RJ7, Cond.code yJ7_fill_53178 cJ7_fill_53178 4 none, Cond.methodLink RX2 52 yX2_multiply, Cond.static yX2_multiply, Cond.code yX2_multiply cX2_multiply 8 none, Cond.methodLink RX2 56 Lib.Math.min.name, Cond.static Lib.Math.min.name, Cond.initialized "java/lang/Math", Cond.code Lib.Math.min.name Lib.Math.min.code 2 (some .int), Cond.methodLink RX2 59 Lib.Math.max.name, Cond.static Lib.Math.max.name, Cond.code Lib.Math.max.name Lib.Math.max.code 2 (some .int), Cond.methodLink RX6 111 yX6_put, Cond.instanceMethod yX6_put, Cond.selects RX6 yX6_put yX6_put, Cond.code yX6_put cX6_put 4 (some .int), Cond.classLink RX6 23 RX2, Cond.instantiable RX2 4, Cond.fieldLink RX6 13 "ReturnPoints" "p" "I", Cond.fieldLink RX6 133 "ReturnPoints$Poly" "told" "I", Cond.methodLink RX6 223 yX2_init, Cond.instanceMethod yX2_init]
def wsX6_behind_r3 : List Cond := [Cond.code yX2_init cX2_init 3 none, Cond.methodLink RX2 3 objectInit, Cond.instanceMethod objectInit, Cond.code objectInit ⟨#[0xb1]⟩ 1 none, Cond.fieldLink RX2 30 "ReturnPoints$Poly" "told" "I", Cond.methodLink RX2 19 yX2_degreeOf, Cond.static yX2_degreeOf, Cond.code yX2_degreeOf cX2_degreeOf 2 (some .int), Cond.methodLink RX2 26 yX2_toldOf, Cond.static yX2_toldOf, Cond.code yX2_toldOf cX2_toldOf 2 (some .int), Cond.methodLink RX6 76 yX6_fine, Cond.instanceMethod yX6_fine, Cond.selects RX6 yX6_fine yX6_fine, Cond.code yX6_fine cX6_fine 2 (some .int)]
def wsX6_behind : List Cond := .code yX6_behind cX6_behind 7 (some .int) :: ((wsX6_behind_r1 ++ (wsX6_behind_r2 ++ wsX6_behind_r3)) ++ wsX60 ++ wsX20)
def wsX6_clear : List Cond := .code yX6_clear cX6_clear 3 (some .int) :: ([.constant RX6 68 (-1000001), .fieldLink RX6 25 "ReturnPoints" "shelf" "[LReturnPoints$Poly;", .methodLink RX6 102 yX6_isPlace, .static yX6_isPlace, .initialized RX6, .code yX6_isPlace cX6_isPlace 1 (some .boolean)] ++ wsX60)
def wsX6_number : List Cond := .code yX6_number cX6_number 4 (some .int) :: ([.constant RX6 68 (-1000001), .fieldLink RX6 25 "ReturnPoints" "shelf" "[LReturnPoints$Poly;", .fieldLink RX6 122 "ReturnPoints$Poly" "degree" "I", .fieldLink RX6 126 "ReturnPoints$Poly" "c" "[I", .methodLink RX6 102 yX6_isPlace, .static yX6_isPlace, .initialized RX6, .code yX6_isPlace cX6_isPlace 1 (some .boolean), .methodLink RX6 69 yX6_found, .instanceMethod yX6_found, .selects RX6 yX6_found yX6_found, .code yX6_found cX6_found 2 (some .int), .fieldLink RX6 62 "ReturnPoints" "status" "I", .constant RX6 222 (-1000010), .methodLink RX6 76 yX6_fine, .instanceMethod yX6_fine, .selects RX6 yX6_fine yX6_fine, .code yX6_fine cX6_fine 2 (some .int)] ++ wsX60 ++ wsX20)
def wsX6_kind : List Cond := .code yX6_kind cX6_kind 3 (some .int) :: ([.constant RX6 68 (-1000001), .fieldLink RX6 25 "ReturnPoints" "shelf" "[LReturnPoints$Poly;", .fieldLink RX6 133 "ReturnPoints$Poly" "told" "I", .methodLink RX6 102 yX6_isPlace, .static yX6_isPlace, .initialized RX6, .code yX6_isPlace cX6_isPlace 1 (some .boolean), .methodLink RX6 69 yX6_found, .instanceMethod yX6_found, .selects RX6 yX6_found yX6_found, .code yX6_found cX6_found 2 (some .int), .fieldLink RX6 62 "ReturnPoints" "status" "I", .constant RX6 222 (-1000010), .methodLink RX6 76 yX6_fine, .instanceMethod yX6_fine, .selects RX6 yX6_fine yX6_fine, .code yX6_fine cX6_fine 2 (some .int)] ++ wsX60 ++ wsX20)
def wsX6_isKind : List Cond := .code yX6_isKind cX6_isKind 1 (some .boolean) :: ([])
def wsX6_is : List Cond := .code yX6_is cX6_is 4 (some .int) :: ([.constant RX6 68 (-1000001), .fieldLink RX6 25 "ReturnPoints" "shelf" "[LReturnPoints$Poly;", .methodLink RX6 102 yX6_isPlace, .static yX6_isPlace, .initialized RX6, .code yX6_isPlace cX6_isPlace 1 (some .boolean), .methodLink RX6 136 yX6_isKind, .static yX6_isKind, .code yX6_isKind cX6_isKind 1 (some .boolean), .methodLink RX6 139 yX2_fits, .instanceMethod yX2_fits, .selects RX2 yX2_fits yX2_fits, .initialized RX2, .code yX2_fits cX2_fits 2 (some .boolean), .fieldLink RX2 30 "ReturnPoints$Poly" "told" "I"] ++ wsX60 ++ wsX20)
def wsX6_as_r1 : List Cond := [Cond.constant RX6 68 (-1000001), Cond.fieldLink RX6 25 "ReturnPoints" "shelf" "[LReturnPoints$Poly;", Cond.fieldLink RX6 122 "ReturnPoints$Poly" "degree" "I", Cond.methodLink RX6 102 yX6_isPlace, Cond.static yX6_isPlace, Cond.initialized RX6, Cond.code yX6_isPlace cX6_isPlace 1 (some .boolean), Cond.methodLink RX6 136 yX6_isKind, Cond.static yX6_isKind, Cond.code yX6_isKind cX6_isKind 1 (some .boolean), Cond.methodLink RX6 69 yX6_found, Cond.instanceMethod yX6_found, Cond.selects RX6 yX6_found yX6_found, Cond.code yX6_found cX6_found 2 (some .int), Cond.fieldLink RX6 62 "ReturnPoints" "status" "I", Cond.constant RX6 222 (-1000010), Cond.methodLink RX6 139 yX2_fits, Cond.instanceMethod yX2_fits, Cond.selects RX2 yX2_fits yX2_fits, Cond.initialized RX2, Cond.code yX2_fits cX2_fits 2 (some .boolean), Cond.fieldLink RX2 30 "ReturnPoints$Poly" "told" "I", Cond.methodLink RX6 76 yX6_fine, Cond.instanceMethod yX6_fine]
def wsX6_as_r2 : List Cond := [Cond.selects RX6 yX6_fine yX6_fine, Cond.code yX6_fine cX6_fine 2 (some .int)]
def wsX6_as : List Cond := .code yX6_as cX6_as 4 (some .int) :: ((wsX6_as_r1 ++ wsX6_as_r2) ++ wsX60 ++ wsX20)
def wsX6_begin : List Cond := .code yX6_begin cX6_begin 2 none :: ([.fieldLink RX6 59 "ReturnPoints" "traced" "I", .fieldLink RX6 29 "ReturnPoints" "trace" "[I"] ++ wsX60)
def wsX6_body11 : List Cond := .code yX6_body11 cX6_body11 1 (some .int) :: ([.fieldLink RX6 13 "ReturnPoints" "p" "I", .methodLink RX6 253 yX6_begin, .instanceMethod yX6_begin, .selects RX6 yX6_begin yX6_begin, .initialized RX6, .code yX6_begin cX6_begin 2 none, .fieldLink RX6 59 "ReturnPoints" "traced" "I", .fieldLink RX6 29 "ReturnPoints" "trace" "[I"] ++ wsX60)
def wsX6_body10 : List Cond := .code yX6_body10 cX6_body10 1 (some .int) :: ([.fieldLink RX6 13 "ReturnPoints" "p" "I", .fieldLink RX6 38 "ReturnPoints" "roads" "LReturnPoints$Roads;", .methodLink RX6 253 yX6_begin, .instanceMethod yX6_begin, .selects RX6 yX6_begin yX6_begin, .initialized RX6, .code yX6_begin cX6_begin 2 none, .fieldLink RX6 59 "ReturnPoints" "traced" "I", .fieldLink RX6 29 "ReturnPoints" "trace" "[I", .methodLink RX6 256 yX3_pointsWithoutComers, .instanceMethod yX3_pointsWithoutComers, .selects RX3 yX3_pointsWithoutComers yX3_pointsWithoutComers, .initialized RX3, .code yX3_pointsWithoutComers cX3_pointsWithoutComers 3 (some .int), .fieldLink RX3 9 "ReturnPoints$Roads" "p" "I", .fieldLink RX3 24 "ReturnPoints$Roads" "comers" "[I"] ++ wsX60 ++ wsX30)
def wsX6_body12 : List Cond := .code yX6_body12 cX6_body12 1 (some .int) :: ([.methodLink RX6 253 yX6_begin, .instanceMethod yX6_begin, .selects RX6 yX6_begin yX6_begin, .initialized RX6, .code yX6_begin cX6_begin 2 none, .fieldLink RX6 59 "ReturnPoints" "traced" "I", .fieldLink RX6 29 "ReturnPoints" "trace" "[I", .methodLink RX6 238 yX6_body10, .instanceMethod yX6_body10, .selects RX6 yX6_body10 yX6_body10, .code yX6_body10 cX6_body10 1 (some .int), .fieldLink RX6 13 "ReturnPoints" "p" "I", .fieldLink RX6 38 "ReturnPoints" "roads" "LReturnPoints$Roads;", .methodLink RX6 256 yX3_pointsWithoutComers, .instanceMethod yX3_pointsWithoutComers, .selects RX3 yX3_pointsWithoutComers yX3_pointsWithoutComers, .initialized RX3, .code yX3_pointsWithoutComers cX3_pointsWithoutComers 3 (some .int), .fieldLink RX3 9 "ReturnPoints$Roads" "p" "I", .fieldLink RX3 24 "ReturnPoints$Roads" "comers" "[I"] ++ wsX60 ++ wsX30)
def wsX6_body20 : List Cond := .code yX6_body20 cX6_body20 2 (some .int) :: ([.fieldLink RX6 126 "ReturnPoints$Poly" "c" "[I", .methodLink RX6 253 yX6_begin, .instanceMethod yX6_begin, .selects RX6 yX6_begin yX6_begin, .initialized RX6, .code yX6_begin cX6_begin 2 none, .fieldLink RX6 59 "ReturnPoints" "traced" "I", .fieldLink RX6 29 "ReturnPoints" "trace" "[I"] ++ wsX20 ++ wsX60)
def wsX6_body21 : List Cond := .code yX6_body21 cX6_body21 2 (some .int) :: ([.fieldLink RX6 13 "ReturnPoints" "p" "I", .methodLink RX6 253 yX6_begin, .instanceMethod yX6_begin, .selects RX6 yX6_begin yX6_begin, .initialized RX6, .code yX6_begin cX6_begin 2 none, .fieldLink RX6 59 "ReturnPoints" "traced" "I", .fieldLink RX6 29 "ReturnPoints" "trace" "[I", .methodLink RX6 250 yX6_body20, .instanceMethod yX6_body20, .selects RX6 yX6_body20 yX6_body20, .code yX6_body20 cX6_body20 2 (some .int), .fieldLink RX6 126 "ReturnPoints$Poly" "c" "[I"] ++ wsX60 ++ wsX20)
def wsX6_body22 : List Cond := .code yX6_body22 cX6_body22 3 (some .int) :: ([.fieldLink RX6 38 "ReturnPoints" "roads" "LReturnPoints$Roads;", .fieldLink RX6 162 "ReturnPoints$Roads" "orbits" "LReturnPoints$Orbits;", .fieldLink RX6 259 "ReturnPoints$Orbits" "period" "[I", .methodLink RX6 253 yX6_begin, .instanceMethod yX6_begin, .selects RX6 yX6_begin yX6_begin, .initialized RX6, .code yX6_begin cX6_begin 2 none, .fieldLink RX6 59 "ReturnPoints" "traced" "I", .fieldLink RX6 29 "ReturnPoints" "trace" "[I", .methodLink RX6 241 yX6_body21, .instanceMethod yX6_body21, .selects RX6 yX6_body21 yX6_body21, .code yX6_body21 cX6_body21 2 (some .int), .fieldLink RX6 13 "ReturnPoints" "p" "I", .methodLink RX6 250 yX6_body20, .instanceMethod yX6_body20, .selects RX6 yX6_body20 yX6_body20, .code yX6_body20 cX6_body20 2 (some .int), .fieldLink RX6 126 "ReturnPoints$Poly" "c" "[I"] ++ wsX60 ++ wsX30 ++ wsX10 ++ wsX20)
def wsX6_body13_r1 : List Cond := [Cond.methodLink RX6 253 yX6_begin, Cond.instanceMethod yX6_begin, Cond.selects RX6 yX6_begin yX6_begin, Cond.initialized RX6, Cond.code yX6_begin cX6_begin 2 none, Cond.fieldLink RX6 59 "ReturnPoints" "traced" "I", Cond.fieldLink RX6 29 "ReturnPoints" "trace" "[I", Cond.methodLink RX6 232 yX6_body12, Cond.instanceMethod yX6_body12, Cond.selects RX6 yX6_body12 yX6_body12, Cond.code yX6_body12 cX6_body12 1 (some .int), Cond.methodLink RX6 238 yX6_body10, Cond.instanceMethod yX6_body10, Cond.selects RX6 yX6_body10 yX6_body10, Cond.code yX6_body10 cX6_body10 1 (some .int), Cond.fieldLink RX6 13 "ReturnPoints" "p" "I", Cond.fieldLink RX6 38 "ReturnPoints" "roads" "LReturnPoints$Roads;", Cond.methodLink RX6 256 yX3_pointsWithoutComers, Cond.instanceMethod yX3_pointsWithoutComers, Cond.selects RX3 yX3_pointsWithoutComers yX3_pointsWithoutComers, Cond.initialized RX3, Cond.code yX3_pointsWithoutComers cX3_pointsWithoutComers 3 (some .int), Cond.fieldLink RX3 9 "ReturnPoints$Roads" "p" "I", Cond.fieldLink RX3 24 "ReturnPoints$Roads" "comers" "[I"]
def wsX6_body13_r2 : List Cond := [Cond.methodLink RX6 244 yX6_body22, Cond.instanceMethod yX6_body22, Cond.selects RX6 yX6_body22 yX6_body22, Cond.code yX6_body22 cX6_body22 3 (some .int), Cond.fieldLink RX6 162 "ReturnPoints$Roads" "orbits" "LReturnPoints$Orbits;", Cond.fieldLink RX6 259 "ReturnPoints$Orbits" "period" "[I", Cond.methodLink RX6 241 yX6_body21, Cond.instanceMethod yX6_body21, Cond.selects RX6 yX6_body21 yX6_body21, Cond.code yX6_body21 cX6_body21 2 (some .int), Cond.methodLink RX6 250 yX6_body20, Cond.instanceMethod yX6_body20, Cond.selects RX6 yX6_body20 yX6_body20, Cond.code yX6_body20 cX6_body20 2 (some .int), Cond.fieldLink RX6 126 "ReturnPoints$Poly" "c" "[I"]
def wsX6_body13 : List Cond := .code yX6_body13 cX6_body13 3 (some .int) :: ((wsX6_body13_r1 ++ wsX6_body13_r2) ++ wsX60 ++ wsX30 ++ wsX10 ++ wsX20)
def wsX6_sizeAsked_r1 : List Cond := [Cond.fieldLink RX6 133 "ReturnPoints$Poly" "told" "I", Cond.methodLink RX6 229 yX6_body11, Cond.instanceMethod yX6_body11, Cond.selects RX6 yX6_body11 yX6_body11, Cond.initialized RX6, Cond.code yX6_body11 cX6_body11 1 (some .int), Cond.fieldLink RX6 13 "ReturnPoints" "p" "I", Cond.methodLink RX6 253 yX6_begin, Cond.instanceMethod yX6_begin, Cond.selects RX6 yX6_begin yX6_begin, Cond.code yX6_begin cX6_begin 2 none, Cond.fieldLink RX6 59 "ReturnPoints" "traced" "I", Cond.fieldLink RX6 29 "ReturnPoints" "trace" "[I", Cond.methodLink RX6 232 yX6_body12, Cond.instanceMethod yX6_body12, Cond.selects RX6 yX6_body12 yX6_body12, Cond.code yX6_body12 cX6_body12 1 (some .int), Cond.methodLink RX6 238 yX6_body10, Cond.instanceMethod yX6_body10, Cond.selects RX6 yX6_body10 yX6_body10, Cond.code yX6_body10 cX6_body10 1 (some .int), Cond.fieldLink RX6 38 "ReturnPoints" "roads" "LReturnPoints$Roads;", Cond.methodLink RX6 256 yX3_pointsWithoutComers, Cond.instanceMethod yX3_pointsWithoutComers]
def wsX6_sizeAsked_r2 : List Cond := [Cond.selects RX3 yX3_pointsWithoutComers yX3_pointsWithoutComers, Cond.initialized RX3, Cond.code yX3_pointsWithoutComers cX3_pointsWithoutComers 3 (some .int), Cond.fieldLink RX3 9 "ReturnPoints$Roads" "p" "I", Cond.fieldLink RX3 24 "ReturnPoints$Roads" "comers" "[I", Cond.methodLink RX6 235 yX6_body13, Cond.instanceMethod yX6_body13, Cond.selects RX6 yX6_body13 yX6_body13, Cond.code yX6_body13 cX6_body13 3 (some .int), Cond.methodLink RX6 244 yX6_body22, Cond.instanceMethod yX6_body22, Cond.selects RX6 yX6_body22 yX6_body22, Cond.code yX6_body22 cX6_body22 3 (some .int), Cond.fieldLink RX6 162 "ReturnPoints$Roads" "orbits" "LReturnPoints$Orbits;", Cond.fieldLink RX6 259 "ReturnPoints$Orbits" "period" "[I", Cond.methodLink RX6 241 yX6_body21, Cond.instanceMethod yX6_body21, Cond.selects RX6 yX6_body21 yX6_body21, Cond.code yX6_body21 cX6_body21 2 (some .int), Cond.methodLink RX6 250 yX6_body20, Cond.instanceMethod yX6_body20, Cond.selects RX6 yX6_body20 yX6_body20, Cond.code yX6_body20 cX6_body20 2 (some .int), Cond.fieldLink RX6 126 "ReturnPoints$Poly" "c" "[I"]
def wsX6_sizeAsked : List Cond := .code yX6_sizeAsked cX6_sizeAsked 2 (some .int) :: ((wsX6_sizeAsked_r1 ++ wsX6_sizeAsked_r2) ++ wsX20 ++ wsX60 ++ wsX30 ++ wsX10)
def wsX6_body23_r1 : List Cond := [Cond.methodLink RX6 253 yX6_begin, Cond.instanceMethod yX6_begin, Cond.selects RX6 yX6_begin yX6_begin, Cond.initialized RX6, Cond.code yX6_begin cX6_begin 2 none, Cond.fieldLink RX6 59 "ReturnPoints" "traced" "I", Cond.fieldLink RX6 29 "ReturnPoints" "trace" "[I", Cond.methodLink RX6 250 yX6_body20, Cond.instanceMethod yX6_body20, Cond.selects RX6 yX6_body20 yX6_body20, Cond.code yX6_body20 cX6_body20 2 (some .int), Cond.fieldLink RX6 126 "ReturnPoints$Poly" "c" "[I", Cond.methodLink RX6 238 yX6_body10, Cond.instanceMethod yX6_body10, Cond.selects RX6 yX6_body10 yX6_body10, Cond.code yX6_body10 cX6_body10 1 (some .int), Cond.fieldLink RX6 13 "ReturnPoints" "p" "I", Cond.fieldLink RX6 38 "ReturnPoints" "roads" "LReturnPoints$Roads;", Cond.methodLink RX6 256 yX3_pointsWithoutComers, Cond.instanceMethod yX3_pointsWithoutComers, Cond.selects RX3 yX3_pointsWithoutComers yX3_pointsWithoutComers, Cond.initialized RX3, Cond.code yX3_pointsWithoutComers cX3_pointsWithoutComers 3 (some .int), Cond.fieldLink RX3 9 "ReturnPoints$Roads" "p" "I"]
def wsX6_body23_r2 : List Cond := [Cond.fieldLink RX3 24 "ReturnPoints$Roads" "comers" "[I"]
def wsX6_body23 : List Cond := .code yX6_body23 cX6_body23 3 (some .int) :: ((wsX6_body23_r1 ++ wsX6_body23_r2) ++ wsX60 ++ wsX20 ++ wsX30)
def wsX6_markAsked_r1 : List Cond := [Cond.fieldLink RX6 133 "ReturnPoints$Poly" "told" "I", Cond.methodLink RX6 241 yX6_body21, Cond.instanceMethod yX6_body21, Cond.selects RX6 yX6_body21 yX6_body21, Cond.initialized RX6, Cond.code yX6_body21 cX6_body21 2 (some .int), Cond.fieldLink RX6 13 "ReturnPoints" "p" "I", Cond.methodLink RX6 253 yX6_begin, Cond.instanceMethod yX6_begin, Cond.selects RX6 yX6_begin yX6_begin, Cond.code yX6_begin cX6_begin 2 none, Cond.fieldLink RX6 59 "ReturnPoints" "traced" "I", Cond.fieldLink RX6 29 "ReturnPoints" "trace" "[I", Cond.methodLink RX6 250 yX6_body20, Cond.instanceMethod yX6_body20, Cond.selects RX6 yX6_body20 yX6_body20, Cond.code yX6_body20 cX6_body20 2 (some .int), Cond.fieldLink RX6 126 "ReturnPoints$Poly" "c" "[I", Cond.methodLink RX6 244 yX6_body22, Cond.instanceMethod yX6_body22, Cond.selects RX6 yX6_body22 yX6_body22, Cond.code yX6_body22 cX6_body22 3 (some .int), Cond.fieldLink RX6 38 "ReturnPoints" "roads" "LReturnPoints$Roads;", Cond.fieldLink RX6 162 "ReturnPoints$Roads" "orbits" "LReturnPoints$Orbits;"]
def wsX6_markAsked_r2 : List Cond := [Cond.fieldLink RX6 259 "ReturnPoints$Orbits" "period" "[I", Cond.methodLink RX6 247 yX6_body23, Cond.instanceMethod yX6_body23, Cond.selects RX6 yX6_body23 yX6_body23, Cond.code yX6_body23 cX6_body23 3 (some .int), Cond.methodLink RX6 238 yX6_body10, Cond.instanceMethod yX6_body10, Cond.selects RX6 yX6_body10 yX6_body10, Cond.code yX6_body10 cX6_body10 1 (some .int), Cond.methodLink RX6 256 yX3_pointsWithoutComers, Cond.instanceMethod yX3_pointsWithoutComers, Cond.selects RX3 yX3_pointsWithoutComers yX3_pointsWithoutComers, Cond.initialized RX3, Cond.code yX3_pointsWithoutComers cX3_pointsWithoutComers 3 (some .int), Cond.fieldLink RX3 9 "ReturnPoints$Roads" "p" "I", Cond.fieldLink RX3 24 "ReturnPoints$Roads" "comers" "[I"]
def wsX6_markAsked : List Cond := .code yX6_markAsked cX6_markAsked 2 (some .int) :: ((wsX6_markAsked_r1 ++ wsX6_markAsked_r2) ++ wsX20 ++ wsX60 ++ wsX30 ++ wsX10)
def wsX6_ask_r1 : List Cond := [Cond.constant RX6 68 (-1000001), Cond.fieldLink RX6 59 "ReturnPoints" "traced" "I", Cond.fieldLink RX6 25 "ReturnPoints" "shelf" "[LReturnPoints$Poly;", Cond.fieldLink RX6 38 "ReturnPoints" "roads" "LReturnPoints$Roads;", Cond.methodLink RX6 102 yX6_isPlace, Cond.static yX6_isPlace, Cond.initialized RX6, Cond.code yX6_isPlace cX6_isPlace 1 (some .boolean), Cond.methodLink RX6 69 yX6_found, Cond.instanceMethod yX6_found, Cond.selects RX6 yX6_found yX6_found, Cond.code yX6_found cX6_found 2 (some .int), Cond.fieldLink RX6 62 "ReturnPoints" "status" "I", Cond.constant RX6 222 (-1000010), Cond.methodLink RX6 142 yX3_survey, Cond.instanceMethod yX3_survey, Cond.selects RX3 yX3_survey yX3_survey, Cond.initialized RX3, Cond.code yX3_survey cX3_survey 3 none, Cond.fieldLink RX3 52 "ReturnPoints$Roads" "surveyed" "LReturnPoints$Poly;", Cond.fieldLink RX3 9 "ReturnPoints$Roads" "p" "I", Cond.fieldLink RX3 20 "ReturnPoints$Roads" "orbits" "LReturnPoints$Orbits;", Cond.fieldLink RX3 56 "ReturnPoints$Orbits" "next" "[I", Cond.methodLink RX3 59 yX2_valueAt]
def wsX6_ask_r2 : List Cond := [Cond.instanceMethod yX2_valueAt, Cond.selects RX2 yX2_valueAt yX2_valueAt, Cond.initialized RX2, Cond.code yX2_valueAt cX2_valueAt 4 (some .int), Cond.fieldLink RX2 23 "ReturnPoints$Poly" "degree" "I", Cond.fieldLink RX2 15 "ReturnPoints$Poly" "c" "[I", Cond.fieldLink RX2 9 "ReturnPoints$Poly" "p" "I", Cond.methodLink RX3 65 yX3_countComers, Cond.instanceMethod yX3_countComers, Cond.selects RX3 yX3_countComers yX3_countComers, Cond.code yX3_countComers cX3_countComers 5 none, Cond.fieldLink RX3 24 "ReturnPoints$Roads" "comers" "[I", Cond.methodLink RX3 78 yJ7_fill_53178, Cond.static yJ7_fill_53178, Cond.initialized RJ7, Cond.code yJ7_fill_53178 cJ7_fill_53178 4 none, Cond.methodLink RX3 84 yX1_isInside, Cond.instanceMethod yX1_isInside, Cond.selects RX1 yX1_isInside yX1_isInside, Cond.initialized RX1, Cond.code yX1_isInside cX1_isInside 2 (some .boolean), Cond.fieldLink RX1 7 "ReturnPoints$Orbits" "size" "I", Cond.methodLink RX3 68 yX1_followAll, Cond.instanceMethod yX1_followAll]
def wsX6_ask_r3 : List Cond := [Cond.selects RX1 yX1_followAll yX1_followAll, Cond.code yX1_followAll cX1_followAll 2 none, Cond.fieldLink RX1 20 "ReturnPoints$Orbits" "period" "[I", Cond.methodLink RX1 29 yJ7_fill_53178, Cond.methodLink RX1 35 yX1_walkFrom, Cond.instanceMethod yX1_walkFrom, Cond.selects RX1 yX1_walkFrom yX1_walkFrom, Cond.code yX1_walkFrom cX1_walkFrom 6 none, Cond.fieldLink RX1 26 "ReturnPoints$Orbits" "path" "[I", Cond.fieldLink RX1 13 "ReturnPoints$Orbits" "next" "[I", Cond.methodLink RX1 39 yX1_isInside, Cond.methodLink RX1 43 yX1_closeRing, Cond.instanceMethod yX1_closeRing, Cond.selects RX1 yX1_closeRing yX1_closeRing, Cond.code yX1_closeRing cX1_closeRing 5 (some .int), Cond.methodLink RX1 50 Lib.Math.max.name, Cond.static Lib.Math.max.name, Cond.initialized "java/lang/Math", Cond.code Lib.Math.max.name Lib.Math.max.code 2 (some .int), Cond.fieldLink RX1 17 "ReturnPoints$Orbits" "tail" "[I", Cond.fieldLink RX1 23 "ReturnPoints$Orbits" "entry" "[I", Cond.methodLink RX1 47 yX1_hang, Cond.instanceMethod yX1_hang, Cond.selects RX1 yX1_hang yX1_hang]
def wsX6_ask_r4 : List Cond := [Cond.code yX1_hang cX1_hang 3 none, Cond.methodLink RX3 71 yX3_numberRings, Cond.instanceMethod yX3_numberRings, Cond.selects RX3 yX3_numberRings yX3_numberRings, Cond.code yX3_numberRings cX3_numberRings 3 none, Cond.fieldLink RX3 49 "ReturnPoints$Roads" "rings" "I", Cond.fieldLink RX3 28 "ReturnPoints$Roads" "ringOf" "[I", Cond.constant RX3 88 (-1000000), Cond.fieldLink RX3 89 "ReturnPoints$Orbits" "tail" "[I", Cond.methodLink RX3 92 yX3_goRound, Cond.instanceMethod yX3_goRound, Cond.selects RX3 yX3_goRound yX3_goRound, Cond.code yX3_goRound cX3_goRound 7 none, Cond.fieldLink RX3 96 "ReturnPoints$Orbits" "period" "[I", Cond.fieldLink RX3 31 "ReturnPoints$Roads" "length" "[I", Cond.fieldLink RX3 34 "ReturnPoints$Roads" "least" "[I", Cond.fieldLink RX3 37 "ReturnPoints$Roads" "multiplier" "[I", Cond.fieldLink RX3 40 "ReturnPoints$Roads" "basin" "[I", Cond.methodLink RX3 99 yX2_slopeAt, Cond.instanceMethod yX2_slopeAt, Cond.selects RX2 yX2_slopeAt yX2_slopeAt, Cond.code yX2_slopeAt cX2_slopeAt 4 (some .int), Cond.methodLink RX3 75 yX3_gatherBasins, Cond.instanceMethod yX3_gatherBasins]
def wsX6_ask_r5 : List Cond := [Cond.selects RX3 yX3_gatherBasins yX3_gatherBasins, Cond.code yX3_gatherBasins cX3_gatherBasins 4 none, Cond.fieldLink RX3 102 "ReturnPoints$Orbits" "entry" "[I", Cond.methodLink RX6 146 yX6_sizeAsked, Cond.instanceMethod yX6_sizeAsked, Cond.selects RX6 yX6_sizeAsked yX6_sizeAsked, Cond.code yX6_sizeAsked cX6_sizeAsked 2 (some .int), Cond.fieldLink RX6 133 "ReturnPoints$Poly" "told" "I", Cond.methodLink RX6 229 yX6_body11, Cond.instanceMethod yX6_body11, Cond.selects RX6 yX6_body11 yX6_body11, Cond.code yX6_body11 cX6_body11 1 (some .int), Cond.fieldLink RX6 13 "ReturnPoints" "p" "I", Cond.methodLink RX6 253 yX6_begin, Cond.instanceMethod yX6_begin, Cond.selects RX6 yX6_begin yX6_begin, Cond.code yX6_begin cX6_begin 2 none, Cond.fieldLink RX6 29 "ReturnPoints" "trace" "[I", Cond.methodLink RX6 232 yX6_body12, Cond.instanceMethod yX6_body12, Cond.selects RX6 yX6_body12 yX6_body12, Cond.code yX6_body12 cX6_body12 1 (some .int), Cond.methodLink RX6 238 yX6_body10, Cond.instanceMethod yX6_body10]
def wsX6_ask_r6 : List Cond := [Cond.selects RX6 yX6_body10 yX6_body10, Cond.code yX6_body10 cX6_body10 1 (some .int), Cond.methodLink RX6 256 yX3_pointsWithoutComers, Cond.instanceMethod yX3_pointsWithoutComers, Cond.selects RX3 yX3_pointsWithoutComers yX3_pointsWithoutComers, Cond.code yX3_pointsWithoutComers cX3_pointsWithoutComers 3 (some .int), Cond.methodLink RX6 235 yX6_body13, Cond.instanceMethod yX6_body13, Cond.selects RX6 yX6_body13 yX6_body13, Cond.code yX6_body13 cX6_body13 3 (some .int), Cond.methodLink RX6 244 yX6_body22, Cond.instanceMethod yX6_body22, Cond.selects RX6 yX6_body22 yX6_body22, Cond.code yX6_body22 cX6_body22 3 (some .int), Cond.fieldLink RX6 162 "ReturnPoints$Roads" "orbits" "LReturnPoints$Orbits;", Cond.fieldLink RX6 259 "ReturnPoints$Orbits" "period" "[I", Cond.methodLink RX6 241 yX6_body21, Cond.instanceMethod yX6_body21, Cond.selects RX6 yX6_body21 yX6_body21, Cond.code yX6_body21 cX6_body21 2 (some .int), Cond.methodLink RX6 250 yX6_body20, Cond.instanceMethod yX6_body20, Cond.selects RX6 yX6_body20 yX6_body20, Cond.code yX6_body20 cX6_body20 2 (some .int)]
def wsX6_ask_r7 : List Cond := [Cond.fieldLink RX6 126 "ReturnPoints$Poly" "c" "[I", Cond.methodLink RX6 150 yX6_markAsked, Cond.instanceMethod yX6_markAsked, Cond.selects RX6 yX6_markAsked yX6_markAsked, Cond.code yX6_markAsked cX6_markAsked 2 (some .int), Cond.methodLink RX6 247 yX6_body23, Cond.instanceMethod yX6_body23, Cond.selects RX6 yX6_body23 yX6_body23, Cond.code yX6_body23 cX6_body23 3 (some .int), Cond.methodLink RX6 76 yX6_fine, Cond.instanceMethod yX6_fine, Cond.selects RX6 yX6_fine yX6_fine, Cond.code yX6_fine cX6_fine 2 (some .int)]
def wsX6_ask : List Cond := .code yX6_ask cX6_ask 4 (some .int) :: ((wsX6_ask_r1 ++ (wsX6_ask_r2 ++ (wsX6_ask_r3 ++ (wsX6_ask_r4 ++ (wsX6_ask_r5 ++ (wsX6_ask_r6 ++ wsX6_ask_r7)))))) ++ wsX60 ++ wsX30 ++ wsX10 ++ wsX20)
def wsX6_trace : List Cond := .code yX6_trace cX6_trace 2 (some .int) :: ([.fieldLink RX6 59 "ReturnPoints" "traced" "I", .fieldLink RX6 29 "ReturnPoints" "trace" "[I", .constant RX6 153 (-1000000)] ++ wsX60)
def wsX6_isPoint : List Cond := .code yX6_isPoint cX6_isPoint 2 (some .boolean) :: ([.fieldLink RX6 13 "ReturnPoints" "p" "I"] ++ wsX60)
def wsX6_roadsOf_r1 : List Cond := [Cond.fieldLink RX6 38 "ReturnPoints" "roads" "LReturnPoints$Roads;", Cond.methodLink RX6 142 yX3_survey, Cond.instanceMethod yX3_survey, Cond.selects RX3 yX3_survey yX3_survey, Cond.initialized RX3, Cond.code yX3_survey cX3_survey 3 none, Cond.fieldLink RX3 52 "ReturnPoints$Roads" "surveyed" "LReturnPoints$Poly;", Cond.fieldLink RX3 9 "ReturnPoints$Roads" "p" "I", Cond.fieldLink RX3 20 "ReturnPoints$Roads" "orbits" "LReturnPoints$Orbits;", Cond.fieldLink RX3 56 "ReturnPoints$Orbits" "next" "[I", Cond.methodLink RX3 59 yX2_valueAt, Cond.instanceMethod yX2_valueAt, Cond.selects RX2 yX2_valueAt yX2_valueAt, Cond.initialized RX2, Cond.code yX2_valueAt cX2_valueAt 4 (some .int), Cond.fieldLink RX2 23 "ReturnPoints$Poly" "degree" "I", Cond.fieldLink RX2 15 "ReturnPoints$Poly" "c" "[I", Cond.fieldLink RX2 9 "ReturnPoints$Poly" "p" "I", Cond.methodLink RX3 65 yX3_countComers, Cond.instanceMethod yX3_countComers, Cond.selects RX3 yX3_countComers yX3_countComers, Cond.code yX3_countComers cX3_countComers 5 none, Cond.fieldLink RX3 24 "ReturnPoints$Roads" "comers" "[I", Cond.methodLink RX3 78 yJ7_fill_53178]
def wsX6_roadsOf_r2 : List Cond := [Cond.static yJ7_fill_53178, Cond.initialized RJ7, Cond.code yJ7_fill_53178 cJ7_fill_53178 4 none, Cond.methodLink RX3 84 yX1_isInside, Cond.instanceMethod yX1_isInside, Cond.selects RX1 yX1_isInside yX1_isInside, Cond.initialized RX1, Cond.code yX1_isInside cX1_isInside 2 (some .boolean), Cond.fieldLink RX1 7 "ReturnPoints$Orbits" "size" "I", Cond.methodLink RX3 68 yX1_followAll, Cond.instanceMethod yX1_followAll, Cond.selects RX1 yX1_followAll yX1_followAll, Cond.code yX1_followAll cX1_followAll 2 none, Cond.fieldLink RX1 20 "ReturnPoints$Orbits" "period" "[I", Cond.methodLink RX1 29 yJ7_fill_53178, Cond.methodLink RX1 35 yX1_walkFrom, Cond.instanceMethod yX1_walkFrom, Cond.selects RX1 yX1_walkFrom yX1_walkFrom, Cond.code yX1_walkFrom cX1_walkFrom 6 none, Cond.fieldLink RX1 26 "ReturnPoints$Orbits" "path" "[I", Cond.fieldLink RX1 13 "ReturnPoints$Orbits" "next" "[I", Cond.methodLink RX1 39 yX1_isInside, Cond.methodLink RX1 43 yX1_closeRing, Cond.instanceMethod yX1_closeRing]
def wsX6_roadsOf_r3 : List Cond := [Cond.selects RX1 yX1_closeRing yX1_closeRing, Cond.code yX1_closeRing cX1_closeRing 5 (some .int), Cond.methodLink RX1 50 Lib.Math.max.name, Cond.static Lib.Math.max.name, Cond.initialized "java/lang/Math", Cond.code Lib.Math.max.name Lib.Math.max.code 2 (some .int), Cond.fieldLink RX1 17 "ReturnPoints$Orbits" "tail" "[I", Cond.fieldLink RX1 23 "ReturnPoints$Orbits" "entry" "[I", Cond.methodLink RX1 47 yX1_hang, Cond.instanceMethod yX1_hang, Cond.selects RX1 yX1_hang yX1_hang, Cond.code yX1_hang cX1_hang 3 none, Cond.methodLink RX3 71 yX3_numberRings, Cond.instanceMethod yX3_numberRings, Cond.selects RX3 yX3_numberRings yX3_numberRings, Cond.code yX3_numberRings cX3_numberRings 3 none, Cond.fieldLink RX3 49 "ReturnPoints$Roads" "rings" "I", Cond.fieldLink RX3 28 "ReturnPoints$Roads" "ringOf" "[I", Cond.constant RX3 88 (-1000000), Cond.fieldLink RX3 89 "ReturnPoints$Orbits" "tail" "[I", Cond.methodLink RX3 92 yX3_goRound, Cond.instanceMethod yX3_goRound, Cond.selects RX3 yX3_goRound yX3_goRound, Cond.code yX3_goRound cX3_goRound 7 none]
def wsX6_roadsOf_r4 : List Cond := [Cond.fieldLink RX3 96 "ReturnPoints$Orbits" "period" "[I", Cond.fieldLink RX3 31 "ReturnPoints$Roads" "length" "[I", Cond.fieldLink RX3 34 "ReturnPoints$Roads" "least" "[I", Cond.fieldLink RX3 37 "ReturnPoints$Roads" "multiplier" "[I", Cond.fieldLink RX3 40 "ReturnPoints$Roads" "basin" "[I", Cond.methodLink RX3 99 yX2_slopeAt, Cond.instanceMethod yX2_slopeAt, Cond.selects RX2 yX2_slopeAt yX2_slopeAt, Cond.code yX2_slopeAt cX2_slopeAt 4 (some .int), Cond.methodLink RX3 75 yX3_gatherBasins, Cond.instanceMethod yX3_gatherBasins, Cond.selects RX3 yX3_gatherBasins yX3_gatherBasins, Cond.code yX3_gatherBasins cX3_gatherBasins 4 none, Cond.fieldLink RX3 102 "ReturnPoints$Orbits" "entry" "[I"]
def wsX6_roadsOf : List Cond := .code yX6_roadsOf cX6_roadsOf 2 (some (.object "ReturnPoints$Roads")) :: ((wsX6_roadsOf_r1 ++ (wsX6_roadsOf_r2 ++ (wsX6_roadsOf_r3 ++ wsX6_roadsOf_r4))) ++ wsX60 ++ wsX30 ++ wsX10 ++ wsX20)
def wsX6_step_r1 : List Cond := [Cond.constant RX6 157 (1000000000), Cond.constant RX6 68 (-1000001), Cond.fieldLink RX6 25 "ReturnPoints" "shelf" "[LReturnPoints$Poly;", Cond.fieldLink RX6 162 "ReturnPoints$Roads" "orbits" "LReturnPoints$Orbits;", Cond.methodLink RX6 102 yX6_isPlace, Cond.static yX6_isPlace, Cond.initialized RX6, Cond.code yX6_isPlace cX6_isPlace 1 (some .boolean), Cond.methodLink RX6 154 yX6_isPoint, Cond.instanceMethod yX6_isPoint, Cond.selects RX6 yX6_isPoint yX6_isPoint, Cond.code yX6_isPoint cX6_isPoint 2 (some .boolean), Cond.fieldLink RX6 13 "ReturnPoints" "p" "I", Cond.methodLink RX6 69 yX6_found, Cond.instanceMethod yX6_found, Cond.selects RX6 yX6_found yX6_found, Cond.code yX6_found cX6_found 2 (some .int), Cond.fieldLink RX6 62 "ReturnPoints" "status" "I", Cond.constant RX6 222 (-1000010), Cond.methodLink RX6 158 yX6_roadsOf, Cond.instanceMethod yX6_roadsOf, Cond.selects RX6 yX6_roadsOf yX6_roadsOf, Cond.code yX6_roadsOf cX6_roadsOf 2 (some (.object "ReturnPoints$Roads")), Cond.fieldLink RX6 38 "ReturnPoints" "roads" "LReturnPoints$Roads;"]
def wsX6_step_r2 : List Cond := [Cond.methodLink RX6 142 yX3_survey, Cond.instanceMethod yX3_survey, Cond.selects RX3 yX3_survey yX3_survey, Cond.initialized RX3, Cond.code yX3_survey cX3_survey 3 none, Cond.fieldLink RX3 52 "ReturnPoints$Roads" "surveyed" "LReturnPoints$Poly;", Cond.fieldLink RX3 9 "ReturnPoints$Roads" "p" "I", Cond.fieldLink RX3 20 "ReturnPoints$Roads" "orbits" "LReturnPoints$Orbits;", Cond.fieldLink RX3 56 "ReturnPoints$Orbits" "next" "[I", Cond.methodLink RX3 59 yX2_valueAt, Cond.instanceMethod yX2_valueAt, Cond.selects RX2 yX2_valueAt yX2_valueAt, Cond.initialized RX2, Cond.code yX2_valueAt cX2_valueAt 4 (some .int), Cond.fieldLink RX2 23 "ReturnPoints$Poly" "degree" "I", Cond.fieldLink RX2 15 "ReturnPoints$Poly" "c" "[I", Cond.fieldLink RX2 9 "ReturnPoints$Poly" "p" "I", Cond.methodLink RX3 65 yX3_countComers, Cond.instanceMethod yX3_countComers, Cond.selects RX3 yX3_countComers yX3_countComers, Cond.code yX3_countComers cX3_countComers 5 none, Cond.fieldLink RX3 24 "ReturnPoints$Roads" "comers" "[I", Cond.methodLink RX3 78 yJ7_fill_53178, Cond.static yJ7_fill_53178]
def wsX6_step_r3 : List Cond := [Cond.initialized RJ7, Cond.code yJ7_fill_53178 cJ7_fill_53178 4 none, Cond.methodLink RX3 84 yX1_isInside, Cond.instanceMethod yX1_isInside, Cond.selects RX1 yX1_isInside yX1_isInside, Cond.initialized RX1, Cond.code yX1_isInside cX1_isInside 2 (some .boolean), Cond.fieldLink RX1 7 "ReturnPoints$Orbits" "size" "I", Cond.methodLink RX3 68 yX1_followAll, Cond.instanceMethod yX1_followAll, Cond.selects RX1 yX1_followAll yX1_followAll, Cond.code yX1_followAll cX1_followAll 2 none, Cond.fieldLink RX1 20 "ReturnPoints$Orbits" "period" "[I", Cond.methodLink RX1 29 yJ7_fill_53178, Cond.methodLink RX1 35 yX1_walkFrom, Cond.instanceMethod yX1_walkFrom, Cond.selects RX1 yX1_walkFrom yX1_walkFrom, Cond.code yX1_walkFrom cX1_walkFrom 6 none, Cond.fieldLink RX1 26 "ReturnPoints$Orbits" "path" "[I", Cond.fieldLink RX1 13 "ReturnPoints$Orbits" "next" "[I", Cond.methodLink RX1 39 yX1_isInside, Cond.methodLink RX1 43 yX1_closeRing, Cond.instanceMethod yX1_closeRing, Cond.selects RX1 yX1_closeRing yX1_closeRing]
def wsX6_step_r4 : List Cond := [Cond.code yX1_closeRing cX1_closeRing 5 (some .int), Cond.methodLink RX1 50 Lib.Math.max.name, Cond.static Lib.Math.max.name, Cond.initialized "java/lang/Math", Cond.code Lib.Math.max.name Lib.Math.max.code 2 (some .int), Cond.fieldLink RX1 17 "ReturnPoints$Orbits" "tail" "[I", Cond.fieldLink RX1 23 "ReturnPoints$Orbits" "entry" "[I", Cond.methodLink RX1 47 yX1_hang, Cond.instanceMethod yX1_hang, Cond.selects RX1 yX1_hang yX1_hang, Cond.code yX1_hang cX1_hang 3 none, Cond.methodLink RX3 71 yX3_numberRings, Cond.instanceMethod yX3_numberRings, Cond.selects RX3 yX3_numberRings yX3_numberRings, Cond.code yX3_numberRings cX3_numberRings 3 none, Cond.fieldLink RX3 49 "ReturnPoints$Roads" "rings" "I", Cond.fieldLink RX3 28 "ReturnPoints$Roads" "ringOf" "[I", Cond.constant RX3 88 (-1000000), Cond.fieldLink RX3 89 "ReturnPoints$Orbits" "tail" "[I", Cond.methodLink RX3 92 yX3_goRound, Cond.instanceMethod yX3_goRound, Cond.selects RX3 yX3_goRound yX3_goRound, Cond.code yX3_goRound cX3_goRound 7 none, Cond.fieldLink RX3 96 "ReturnPoints$Orbits" "period" "[I"]
def wsX6_step_r5 : List Cond := [Cond.fieldLink RX3 31 "ReturnPoints$Roads" "length" "[I", Cond.fieldLink RX3 34 "ReturnPoints$Roads" "least" "[I", Cond.fieldLink RX3 37 "ReturnPoints$Roads" "multiplier" "[I", Cond.fieldLink RX3 40 "ReturnPoints$Roads" "basin" "[I", Cond.methodLink RX3 99 yX2_slopeAt, Cond.instanceMethod yX2_slopeAt, Cond.selects RX2 yX2_slopeAt yX2_slopeAt, Cond.code yX2_slopeAt cX2_slopeAt 4 (some .int), Cond.methodLink RX3 75 yX3_gatherBasins, Cond.instanceMethod yX3_gatherBasins, Cond.selects RX3 yX3_gatherBasins yX3_gatherBasins, Cond.code yX3_gatherBasins cX3_gatherBasins 4 none, Cond.fieldLink RX3 102 "ReturnPoints$Orbits" "entry" "[I", Cond.methodLink RX6 166 yX1_after, Cond.instanceMethod yX1_after, Cond.selects RX1 yX1_after yX1_after, Cond.code yX1_after cX1_after 6 (some .int), Cond.methodLink RX6 76 yX6_fine, Cond.instanceMethod yX6_fine, Cond.selects RX6 yX6_fine yX6_fine, Cond.code yX6_fine cX6_fine 2 (some .int)]
def wsX6_step : List Cond := .code yX6_step cX6_step 5 (some .int) :: ((wsX6_step_r1 ++ (wsX6_step_r2 ++ (wsX6_step_r3 ++ (wsX6_step_r4 ++ wsX6_step_r5)))) ++ wsX60 ++ wsX30 ++ wsX10 ++ wsX20)
def wsX6_way_r1 : List Cond := [Cond.constant RX6 68 (-1000001), Cond.fieldLink RX6 25 "ReturnPoints" "shelf" "[LReturnPoints$Poly;", Cond.methodLink RX6 102 yX6_isPlace, Cond.static yX6_isPlace, Cond.initialized RX6, Cond.code yX6_isPlace cX6_isPlace 1 (some .boolean), Cond.methodLink RX6 154 yX6_isPoint, Cond.instanceMethod yX6_isPoint, Cond.selects RX6 yX6_isPoint yX6_isPoint, Cond.code yX6_isPoint cX6_isPoint 2 (some .boolean), Cond.fieldLink RX6 13 "ReturnPoints" "p" "I", Cond.methodLink RX6 69 yX6_found, Cond.instanceMethod yX6_found, Cond.selects RX6 yX6_found yX6_found, Cond.code yX6_found cX6_found 2 (some .int), Cond.fieldLink RX6 62 "ReturnPoints" "status" "I", Cond.constant RX6 222 (-1000010), Cond.methodLink RX6 158 yX6_roadsOf, Cond.instanceMethod yX6_roadsOf, Cond.selects RX6 yX6_roadsOf yX6_roadsOf, Cond.code yX6_roadsOf cX6_roadsOf 2 (some (.object "ReturnPoints$Roads")), Cond.fieldLink RX6 38 "ReturnPoints" "roads" "LReturnPoints$Roads;", Cond.methodLink RX6 142 yX3_survey, Cond.instanceMethod yX3_survey]
def wsX6_way_r2 : List Cond := [Cond.selects RX3 yX3_survey yX3_survey, Cond.initialized RX3, Cond.code yX3_survey cX3_survey 3 none, Cond.fieldLink RX3 52 "ReturnPoints$Roads" "surveyed" "LReturnPoints$Poly;", Cond.fieldLink RX3 9 "ReturnPoints$Roads" "p" "I", Cond.fieldLink RX3 20 "ReturnPoints$Roads" "orbits" "LReturnPoints$Orbits;", Cond.fieldLink RX3 56 "ReturnPoints$Orbits" "next" "[I", Cond.methodLink RX3 59 yX2_valueAt, Cond.instanceMethod yX2_valueAt, Cond.selects RX2 yX2_valueAt yX2_valueAt, Cond.initialized RX2, Cond.code yX2_valueAt cX2_valueAt 4 (some .int), Cond.fieldLink RX2 23 "ReturnPoints$Poly" "degree" "I", Cond.fieldLink RX2 15 "ReturnPoints$Poly" "c" "[I", Cond.fieldLink RX2 9 "ReturnPoints$Poly" "p" "I", Cond.methodLink RX3 65 yX3_countComers, Cond.instanceMethod yX3_countComers, Cond.selects RX3 yX3_countComers yX3_countComers, Cond.code yX3_countComers cX3_countComers 5 none, Cond.fieldLink RX3 24 "ReturnPoints$Roads" "comers" "[I", Cond.methodLink RX3 78 yJ7_fill_53178, Cond.static yJ7_fill_53178, Cond.initialized RJ7, Cond.code yJ7_fill_53178 cJ7_fill_53178 4 none]
def wsX6_way_r3 : List Cond := [Cond.methodLink RX3 84 yX1_isInside, Cond.instanceMethod yX1_isInside, Cond.selects RX1 yX1_isInside yX1_isInside, Cond.initialized RX1, Cond.code yX1_isInside cX1_isInside 2 (some .boolean), Cond.fieldLink RX1 7 "ReturnPoints$Orbits" "size" "I", Cond.methodLink RX3 68 yX1_followAll, Cond.instanceMethod yX1_followAll, Cond.selects RX1 yX1_followAll yX1_followAll, Cond.code yX1_followAll cX1_followAll 2 none, Cond.fieldLink RX1 20 "ReturnPoints$Orbits" "period" "[I", Cond.methodLink RX1 29 yJ7_fill_53178, Cond.methodLink RX1 35 yX1_walkFrom, Cond.instanceMethod yX1_walkFrom, Cond.selects RX1 yX1_walkFrom yX1_walkFrom, Cond.code yX1_walkFrom cX1_walkFrom 6 none, Cond.fieldLink RX1 26 "ReturnPoints$Orbits" "path" "[I", Cond.fieldLink RX1 13 "ReturnPoints$Orbits" "next" "[I", Cond.methodLink RX1 39 yX1_isInside, Cond.methodLink RX1 43 yX1_closeRing, Cond.instanceMethod yX1_closeRing, Cond.selects RX1 yX1_closeRing yX1_closeRing, Cond.code yX1_closeRing cX1_closeRing 5 (some .int), Cond.methodLink RX1 50 Lib.Math.max.name]
def wsX6_way_r4 : List Cond := [Cond.static Lib.Math.max.name, Cond.initialized "java/lang/Math", Cond.code Lib.Math.max.name Lib.Math.max.code 2 (some .int), Cond.fieldLink RX1 17 "ReturnPoints$Orbits" "tail" "[I", Cond.fieldLink RX1 23 "ReturnPoints$Orbits" "entry" "[I", Cond.methodLink RX1 47 yX1_hang, Cond.instanceMethod yX1_hang, Cond.selects RX1 yX1_hang yX1_hang, Cond.code yX1_hang cX1_hang 3 none, Cond.methodLink RX3 71 yX3_numberRings, Cond.instanceMethod yX3_numberRings, Cond.selects RX3 yX3_numberRings yX3_numberRings, Cond.code yX3_numberRings cX3_numberRings 3 none, Cond.fieldLink RX3 49 "ReturnPoints$Roads" "rings" "I", Cond.fieldLink RX3 28 "ReturnPoints$Roads" "ringOf" "[I", Cond.constant RX3 88 (-1000000), Cond.fieldLink RX3 89 "ReturnPoints$Orbits" "tail" "[I", Cond.methodLink RX3 92 yX3_goRound, Cond.instanceMethod yX3_goRound, Cond.selects RX3 yX3_goRound yX3_goRound, Cond.code yX3_goRound cX3_goRound 7 none, Cond.fieldLink RX3 96 "ReturnPoints$Orbits" "period" "[I", Cond.fieldLink RX3 31 "ReturnPoints$Roads" "length" "[I", Cond.fieldLink RX3 34 "ReturnPoints$Roads" "least" "[I"]
def wsX6_way_r5 : List Cond := [Cond.fieldLink RX3 37 "ReturnPoints$Roads" "multiplier" "[I", Cond.fieldLink RX3 40 "ReturnPoints$Roads" "basin" "[I", Cond.methodLink RX3 99 yX2_slopeAt, Cond.instanceMethod yX2_slopeAt, Cond.selects RX2 yX2_slopeAt yX2_slopeAt, Cond.code yX2_slopeAt cX2_slopeAt 4 (some .int), Cond.methodLink RX3 75 yX3_gatherBasins, Cond.instanceMethod yX3_gatherBasins, Cond.selects RX3 yX3_gatherBasins yX3_gatherBasins, Cond.code yX3_gatherBasins cX3_gatherBasins 4 none, Cond.fieldLink RX3 102 "ReturnPoints$Orbits" "entry" "[I", Cond.methodLink RX6 171 yX3_ofPoint, Cond.instanceMethod yX3_ofPoint, Cond.selects RX3 yX3_ofPoint yX3_ofPoint, Cond.code yX3_ofPoint cX3_ofPoint 3 (some .int), Cond.methodLink RX6 76 yX6_fine, Cond.instanceMethod yX6_fine, Cond.selects RX6 yX6_fine yX6_fine, Cond.code yX6_fine cX6_fine 2 (some .int)]
def wsX6_way : List Cond := .code yX6_way cX6_way 5 (some .int) :: ((wsX6_way_r1 ++ (wsX6_way_r2 ++ (wsX6_way_r3 ++ (wsX6_way_r4 ++ wsX6_way_r5)))) ++ wsX60 ++ wsX30 ++ wsX10 ++ wsX20)
def wsX6_ring_r1 : List Cond := [Cond.constant RX6 68 (-1000001), Cond.fieldLink RX6 25 "ReturnPoints" "shelf" "[LReturnPoints$Poly;", Cond.methodLink RX6 102 yX6_isPlace, Cond.static yX6_isPlace, Cond.initialized RX6, Cond.code yX6_isPlace cX6_isPlace 1 (some .boolean), Cond.methodLink RX6 69 yX6_found, Cond.instanceMethod yX6_found, Cond.selects RX6 yX6_found yX6_found, Cond.code yX6_found cX6_found 2 (some .int), Cond.fieldLink RX6 62 "ReturnPoints" "status" "I", Cond.constant RX6 222 (-1000010), Cond.methodLink RX6 158 yX6_roadsOf, Cond.instanceMethod yX6_roadsOf, Cond.selects RX6 yX6_roadsOf yX6_roadsOf, Cond.code yX6_roadsOf cX6_roadsOf 2 (some (.object "ReturnPoints$Roads")), Cond.fieldLink RX6 38 "ReturnPoints" "roads" "LReturnPoints$Roads;", Cond.methodLink RX6 142 yX3_survey, Cond.instanceMethod yX3_survey, Cond.selects RX3 yX3_survey yX3_survey, Cond.initialized RX3, Cond.code yX3_survey cX3_survey 3 none, Cond.fieldLink RX3 52 "ReturnPoints$Roads" "surveyed" "LReturnPoints$Poly;", Cond.fieldLink RX3 9 "ReturnPoints$Roads" "p" "I"]
def wsX6_ring_r2 : List Cond := [Cond.fieldLink RX3 20 "ReturnPoints$Roads" "orbits" "LReturnPoints$Orbits;", Cond.fieldLink RX3 56 "ReturnPoints$Orbits" "next" "[I", Cond.methodLink RX3 59 yX2_valueAt, Cond.instanceMethod yX2_valueAt, Cond.selects RX2 yX2_valueAt yX2_valueAt, Cond.initialized RX2, Cond.code yX2_valueAt cX2_valueAt 4 (some .int), Cond.fieldLink RX2 23 "ReturnPoints$Poly" "degree" "I", Cond.fieldLink RX2 15 "ReturnPoints$Poly" "c" "[I", Cond.fieldLink RX2 9 "ReturnPoints$Poly" "p" "I", Cond.methodLink RX3 65 yX3_countComers, Cond.instanceMethod yX3_countComers, Cond.selects RX3 yX3_countComers yX3_countComers, Cond.code yX3_countComers cX3_countComers 5 none, Cond.fieldLink RX3 24 "ReturnPoints$Roads" "comers" "[I", Cond.methodLink RX3 78 yJ7_fill_53178, Cond.static yJ7_fill_53178, Cond.initialized RJ7, Cond.code yJ7_fill_53178 cJ7_fill_53178 4 none, Cond.methodLink RX3 84 yX1_isInside, Cond.instanceMethod yX1_isInside, Cond.selects RX1 yX1_isInside yX1_isInside, Cond.initialized RX1, Cond.code yX1_isInside cX1_isInside 2 (some .boolean)]
def wsX6_ring_r3 : List Cond := [Cond.fieldLink RX1 7 "ReturnPoints$Orbits" "size" "I", Cond.methodLink RX3 68 yX1_followAll, Cond.instanceMethod yX1_followAll, Cond.selects RX1 yX1_followAll yX1_followAll, Cond.code yX1_followAll cX1_followAll 2 none, Cond.fieldLink RX1 20 "ReturnPoints$Orbits" "period" "[I", Cond.methodLink RX1 29 yJ7_fill_53178, Cond.methodLink RX1 35 yX1_walkFrom, Cond.instanceMethod yX1_walkFrom, Cond.selects RX1 yX1_walkFrom yX1_walkFrom, Cond.code yX1_walkFrom cX1_walkFrom 6 none, Cond.fieldLink RX1 26 "ReturnPoints$Orbits" "path" "[I", Cond.fieldLink RX1 13 "ReturnPoints$Orbits" "next" "[I", Cond.methodLink RX1 39 yX1_isInside, Cond.methodLink RX1 43 yX1_closeRing, Cond.instanceMethod yX1_closeRing, Cond.selects RX1 yX1_closeRing yX1_closeRing, Cond.code yX1_closeRing cX1_closeRing 5 (some .int), Cond.methodLink RX1 50 Lib.Math.max.name, Cond.static Lib.Math.max.name, Cond.initialized "java/lang/Math", Cond.code Lib.Math.max.name Lib.Math.max.code 2 (some .int), Cond.fieldLink RX1 17 "ReturnPoints$Orbits" "tail" "[I", Cond.fieldLink RX1 23 "ReturnPoints$Orbits" "entry" "[I"]
def wsX6_ring_r4 : List Cond := [Cond.methodLink RX1 47 yX1_hang, Cond.instanceMethod yX1_hang, Cond.selects RX1 yX1_hang yX1_hang, Cond.code yX1_hang cX1_hang 3 none, Cond.methodLink RX3 71 yX3_numberRings, Cond.instanceMethod yX3_numberRings, Cond.selects RX3 yX3_numberRings yX3_numberRings, Cond.code yX3_numberRings cX3_numberRings 3 none, Cond.fieldLink RX3 49 "ReturnPoints$Roads" "rings" "I", Cond.fieldLink RX3 28 "ReturnPoints$Roads" "ringOf" "[I", Cond.constant RX3 88 (-1000000), Cond.fieldLink RX3 89 "ReturnPoints$Orbits" "tail" "[I", Cond.methodLink RX3 92 yX3_goRound, Cond.instanceMethod yX3_goRound, Cond.selects RX3 yX3_goRound yX3_goRound, Cond.code yX3_goRound cX3_goRound 7 none, Cond.fieldLink RX3 96 "ReturnPoints$Orbits" "period" "[I", Cond.fieldLink RX3 31 "ReturnPoints$Roads" "length" "[I", Cond.fieldLink RX3 34 "ReturnPoints$Roads" "least" "[I", Cond.fieldLink RX3 37 "ReturnPoints$Roads" "multiplier" "[I", Cond.fieldLink RX3 40 "ReturnPoints$Roads" "basin" "[I", Cond.methodLink RX3 99 yX2_slopeAt, Cond.instanceMethod yX2_slopeAt, Cond.selects RX2 yX2_slopeAt yX2_slopeAt]
def wsX6_ring_r5 : List Cond := [Cond.code yX2_slopeAt cX2_slopeAt 4 (some .int), Cond.methodLink RX3 75 yX3_gatherBasins, Cond.instanceMethod yX3_gatherBasins, Cond.selects RX3 yX3_gatherBasins yX3_gatherBasins, Cond.code yX3_gatherBasins cX3_gatherBasins 4 none, Cond.fieldLink RX3 102 "ReturnPoints$Orbits" "entry" "[I", Cond.methodLink RX6 174 yX3_ofRing, Cond.instanceMethod yX3_ofRing, Cond.selects RX3 yX3_ofRing yX3_ofRing, Cond.code yX3_ofRing cX3_ofRing 3 (some .int), Cond.methodLink RX6 76 yX6_fine, Cond.instanceMethod yX6_fine, Cond.selects RX6 yX6_fine yX6_fine, Cond.code yX6_fine cX6_fine 2 (some .int)]
def wsX6_ring : List Cond := .code yX6_ring cX6_ring 5 (some .int) :: ((wsX6_ring_r1 ++ (wsX6_ring_r2 ++ (wsX6_ring_r3 ++ (wsX6_ring_r4 ++ wsX6_ring_r5)))) ++ wsX60 ++ wsX30 ++ wsX10 ++ wsX20)
def wsX6_all_r1 : List Cond := [Cond.constant RX6 68 (-1000001), Cond.fieldLink RX6 25 "ReturnPoints" "shelf" "[LReturnPoints$Poly;", Cond.methodLink RX6 102 yX6_isPlace, Cond.static yX6_isPlace, Cond.initialized RX6, Cond.code yX6_isPlace cX6_isPlace 1 (some .boolean), Cond.methodLink RX6 69 yX6_found, Cond.instanceMethod yX6_found, Cond.selects RX6 yX6_found yX6_found, Cond.code yX6_found cX6_found 2 (some .int), Cond.fieldLink RX6 62 "ReturnPoints" "status" "I", Cond.constant RX6 222 (-1000010), Cond.methodLink RX6 158 yX6_roadsOf, Cond.instanceMethod yX6_roadsOf, Cond.selects RX6 yX6_roadsOf yX6_roadsOf, Cond.code yX6_roadsOf cX6_roadsOf 2 (some (.object "ReturnPoints$Roads")), Cond.fieldLink RX6 38 "ReturnPoints" "roads" "LReturnPoints$Roads;", Cond.methodLink RX6 142 yX3_survey, Cond.instanceMethod yX3_survey, Cond.selects RX3 yX3_survey yX3_survey, Cond.initialized RX3, Cond.code yX3_survey cX3_survey 3 none, Cond.fieldLink RX3 52 "ReturnPoints$Roads" "surveyed" "LReturnPoints$Poly;", Cond.fieldLink RX3 9 "ReturnPoints$Roads" "p" "I"]
def wsX6_all_r2 : List Cond := [Cond.fieldLink RX3 20 "ReturnPoints$Roads" "orbits" "LReturnPoints$Orbits;", Cond.fieldLink RX3 56 "ReturnPoints$Orbits" "next" "[I", Cond.methodLink RX3 59 yX2_valueAt, Cond.instanceMethod yX2_valueAt, Cond.selects RX2 yX2_valueAt yX2_valueAt, Cond.initialized RX2, Cond.code yX2_valueAt cX2_valueAt 4 (some .int), Cond.fieldLink RX2 23 "ReturnPoints$Poly" "degree" "I", Cond.fieldLink RX2 15 "ReturnPoints$Poly" "c" "[I", Cond.fieldLink RX2 9 "ReturnPoints$Poly" "p" "I", Cond.methodLink RX3 65 yX3_countComers, Cond.instanceMethod yX3_countComers, Cond.selects RX3 yX3_countComers yX3_countComers, Cond.code yX3_countComers cX3_countComers 5 none, Cond.fieldLink RX3 24 "ReturnPoints$Roads" "comers" "[I", Cond.methodLink RX3 78 yJ7_fill_53178, Cond.static yJ7_fill_53178, Cond.initialized RJ7, Cond.code yJ7_fill_53178 cJ7_fill_53178 4 none, Cond.methodLink RX3 84 yX1_isInside, Cond.instanceMethod yX1_isInside, Cond.selects RX1 yX1_isInside yX1_isInside, Cond.initialized RX1, Cond.code yX1_isInside cX1_isInside 2 (some .boolean)]
def wsX6_all_r3 : List Cond := [Cond.fieldLink RX1 7 "ReturnPoints$Orbits" "size" "I", Cond.methodLink RX3 68 yX1_followAll, Cond.instanceMethod yX1_followAll, Cond.selects RX1 yX1_followAll yX1_followAll, Cond.code yX1_followAll cX1_followAll 2 none, Cond.fieldLink RX1 20 "ReturnPoints$Orbits" "period" "[I", Cond.methodLink RX1 29 yJ7_fill_53178, Cond.methodLink RX1 35 yX1_walkFrom, Cond.instanceMethod yX1_walkFrom, Cond.selects RX1 yX1_walkFrom yX1_walkFrom, Cond.code yX1_walkFrom cX1_walkFrom 6 none, Cond.fieldLink RX1 26 "ReturnPoints$Orbits" "path" "[I", Cond.fieldLink RX1 13 "ReturnPoints$Orbits" "next" "[I", Cond.methodLink RX1 39 yX1_isInside, Cond.methodLink RX1 43 yX1_closeRing, Cond.instanceMethod yX1_closeRing, Cond.selects RX1 yX1_closeRing yX1_closeRing, Cond.code yX1_closeRing cX1_closeRing 5 (some .int), Cond.methodLink RX1 50 Lib.Math.max.name, Cond.static Lib.Math.max.name, Cond.initialized "java/lang/Math", Cond.code Lib.Math.max.name Lib.Math.max.code 2 (some .int), Cond.fieldLink RX1 17 "ReturnPoints$Orbits" "tail" "[I", Cond.fieldLink RX1 23 "ReturnPoints$Orbits" "entry" "[I"]
def wsX6_all_r4 : List Cond := [Cond.methodLink RX1 47 yX1_hang, Cond.instanceMethod yX1_hang, Cond.selects RX1 yX1_hang yX1_hang, Cond.code yX1_hang cX1_hang 3 none, Cond.methodLink RX3 71 yX3_numberRings, Cond.instanceMethod yX3_numberRings, Cond.selects RX3 yX3_numberRings yX3_numberRings, Cond.code yX3_numberRings cX3_numberRings 3 none, Cond.fieldLink RX3 49 "ReturnPoints$Roads" "rings" "I", Cond.fieldLink RX3 28 "ReturnPoints$Roads" "ringOf" "[I", Cond.constant RX3 88 (-1000000), Cond.fieldLink RX3 89 "ReturnPoints$Orbits" "tail" "[I", Cond.methodLink RX3 92 yX3_goRound, Cond.instanceMethod yX3_goRound, Cond.selects RX3 yX3_goRound yX3_goRound, Cond.code yX3_goRound cX3_goRound 7 none, Cond.fieldLink RX3 96 "ReturnPoints$Orbits" "period" "[I", Cond.fieldLink RX3 31 "ReturnPoints$Roads" "length" "[I", Cond.fieldLink RX3 34 "ReturnPoints$Roads" "least" "[I", Cond.fieldLink RX3 37 "ReturnPoints$Roads" "multiplier" "[I", Cond.fieldLink RX3 40 "ReturnPoints$Roads" "basin" "[I", Cond.methodLink RX3 99 yX2_slopeAt, Cond.instanceMethod yX2_slopeAt, Cond.selects RX2 yX2_slopeAt yX2_slopeAt]
def wsX6_all_r5 : List Cond := [Cond.code yX2_slopeAt cX2_slopeAt 4 (some .int), Cond.methodLink RX3 75 yX3_gatherBasins, Cond.instanceMethod yX3_gatherBasins, Cond.selects RX3 yX3_gatherBasins yX3_gatherBasins, Cond.code yX3_gatherBasins cX3_gatherBasins 4 none, Cond.fieldLink RX3 102 "ReturnPoints$Orbits" "entry" "[I", Cond.methodLink RX6 177 yX3_ofAll, Cond.instanceMethod yX3_ofAll, Cond.selects RX3 yX3_ofAll yX3_ofAll, Cond.code yX3_ofAll cX3_ofAll 2 (some .int), Cond.methodLink RX3 105 yX3_pointsOnRings, Cond.instanceMethod yX3_pointsOnRings, Cond.selects RX3 yX3_pointsOnRings yX3_pointsOnRings, Cond.code yX3_pointsOnRings cX3_pointsOnRings 3 (some .int), Cond.methodLink RX3 109 yX3_longestRing, Cond.instanceMethod yX3_longestRing, Cond.selects RX3 yX3_longestRing yX3_longestRing, Cond.code yX3_longestRing cX3_longestRing 3 (some .int), Cond.methodLink RX3 121 Lib.Math.max.name, Cond.methodLink RX3 112 yX3_longestTail, Cond.instanceMethod yX3_longestTail, Cond.selects RX3 yX3_longestTail yX3_longestTail, Cond.code yX3_longestTail cX3_longestTail 3 (some .int), Cond.methodLink RX3 115 yX3_pointsWithoutComers]
def wsX6_all_r6 : List Cond := [Cond.instanceMethod yX3_pointsWithoutComers, Cond.selects RX3 yX3_pointsWithoutComers yX3_pointsWithoutComers, Cond.code yX3_pointsWithoutComers cX3_pointsWithoutComers 3 (some .int), Cond.methodLink RX3 118 yX3_stillRings, Cond.instanceMethod yX3_stillRings, Cond.selects RX3 yX3_stillRings yX3_stillRings, Cond.code yX3_stillRings cX3_stillRings 3 (some .int), Cond.methodLink RX6 76 yX6_fine, Cond.instanceMethod yX6_fine, Cond.selects RX6 yX6_fine yX6_fine, Cond.code yX6_fine cX6_fine 2 (some .int)]
def wsX6_all : List Cond := .code yX6_all cX6_all 4 (some .int) :: ((wsX6_all_r1 ++ (wsX6_all_r2 ++ (wsX6_all_r3 ++ (wsX6_all_r4 ++ (wsX6_all_r5 ++ wsX6_all_r6))))) ++ wsX60 ++ wsX30 ++ wsX10 ++ wsX20)
def wsX6_alike_r1 : List Cond := [Cond.constant RX6 68 (-1000001), Cond.fieldLink RX6 25 "ReturnPoints" "shelf" "[LReturnPoints$Poly;", Cond.fieldLink RX6 38 "ReturnPoints" "roads" "LReturnPoints$Roads;", Cond.fieldLink RX6 42 "ReturnPoints" "otherRoads" "LReturnPoints$Roads;", Cond.fieldLink RX6 162 "ReturnPoints$Roads" "orbits" "LReturnPoints$Orbits;", Cond.methodLink RX6 102 yX6_isPlace, Cond.static yX6_isPlace, Cond.initialized RX6, Cond.code yX6_isPlace cX6_isPlace 1 (some .boolean), Cond.methodLink RX6 69 yX6_found, Cond.instanceMethod yX6_found, Cond.selects RX6 yX6_found yX6_found, Cond.code yX6_found cX6_found 2 (some .int), Cond.fieldLink RX6 62 "ReturnPoints" "status" "I", Cond.constant RX6 222 (-1000010), Cond.methodLink RX6 142 yX3_survey, Cond.instanceMethod yX3_survey, Cond.selects RX3 yX3_survey yX3_survey, Cond.initialized RX3, Cond.code yX3_survey cX3_survey 3 none, Cond.fieldLink RX3 52 "ReturnPoints$Roads" "surveyed" "LReturnPoints$Poly;", Cond.fieldLink RX3 9 "ReturnPoints$Roads" "p" "I", Cond.fieldLink RX3 20 "ReturnPoints$Roads" "orbits" "LReturnPoints$Orbits;", Cond.fieldLink RX3 56 "ReturnPoints$Orbits" "next" "[I"]
def wsX6_alike_r2 : List Cond := [Cond.methodLink RX3 59 yX2_valueAt, Cond.instanceMethod yX2_valueAt, Cond.selects RX2 yX2_valueAt yX2_valueAt, Cond.initialized RX2, Cond.code yX2_valueAt cX2_valueAt 4 (some .int), Cond.fieldLink RX2 23 "ReturnPoints$Poly" "degree" "I", Cond.fieldLink RX2 15 "ReturnPoints$Poly" "c" "[I", Cond.fieldLink RX2 9 "ReturnPoints$Poly" "p" "I", Cond.methodLink RX3 65 yX3_countComers, Cond.instanceMethod yX3_countComers, Cond.selects RX3 yX3_countComers yX3_countComers, Cond.code yX3_countComers cX3_countComers 5 none, Cond.fieldLink RX3 24 "ReturnPoints$Roads" "comers" "[I", Cond.methodLink RX3 78 yJ7_fill_53178, Cond.static yJ7_fill_53178, Cond.initialized RJ7, Cond.code yJ7_fill_53178 cJ7_fill_53178 4 none, Cond.methodLink RX3 84 yX1_isInside, Cond.instanceMethod yX1_isInside, Cond.selects RX1 yX1_isInside yX1_isInside, Cond.initialized RX1, Cond.code yX1_isInside cX1_isInside 2 (some .boolean), Cond.fieldLink RX1 7 "ReturnPoints$Orbits" "size" "I", Cond.methodLink RX3 68 yX1_followAll]
def wsX6_alike_r3 : List Cond := [Cond.instanceMethod yX1_followAll, Cond.selects RX1 yX1_followAll yX1_followAll, Cond.code yX1_followAll cX1_followAll 2 none, Cond.fieldLink RX1 20 "ReturnPoints$Orbits" "period" "[I", Cond.methodLink RX1 29 yJ7_fill_53178, Cond.methodLink RX1 35 yX1_walkFrom, Cond.instanceMethod yX1_walkFrom, Cond.selects RX1 yX1_walkFrom yX1_walkFrom, Cond.code yX1_walkFrom cX1_walkFrom 6 none, Cond.fieldLink RX1 26 "ReturnPoints$Orbits" "path" "[I", Cond.fieldLink RX1 13 "ReturnPoints$Orbits" "next" "[I", Cond.methodLink RX1 39 yX1_isInside, Cond.methodLink RX1 43 yX1_closeRing, Cond.instanceMethod yX1_closeRing, Cond.selects RX1 yX1_closeRing yX1_closeRing, Cond.code yX1_closeRing cX1_closeRing 5 (some .int), Cond.methodLink RX1 50 Lib.Math.max.name, Cond.static Lib.Math.max.name, Cond.initialized "java/lang/Math", Cond.code Lib.Math.max.name Lib.Math.max.code 2 (some .int), Cond.fieldLink RX1 17 "ReturnPoints$Orbits" "tail" "[I", Cond.fieldLink RX1 23 "ReturnPoints$Orbits" "entry" "[I", Cond.methodLink RX1 47 yX1_hang, Cond.instanceMethod yX1_hang]
def wsX6_alike_r4 : List Cond := [Cond.selects RX1 yX1_hang yX1_hang, Cond.code yX1_hang cX1_hang 3 none, Cond.methodLink RX3 71 yX3_numberRings, Cond.instanceMethod yX3_numberRings, Cond.selects RX3 yX3_numberRings yX3_numberRings, Cond.code yX3_numberRings cX3_numberRings 3 none, Cond.fieldLink RX3 49 "ReturnPoints$Roads" "rings" "I", Cond.fieldLink RX3 28 "ReturnPoints$Roads" "ringOf" "[I", Cond.constant RX3 88 (-1000000), Cond.fieldLink RX3 89 "ReturnPoints$Orbits" "tail" "[I", Cond.methodLink RX3 92 yX3_goRound, Cond.instanceMethod yX3_goRound, Cond.selects RX3 yX3_goRound yX3_goRound, Cond.code yX3_goRound cX3_goRound 7 none, Cond.fieldLink RX3 96 "ReturnPoints$Orbits" "period" "[I", Cond.fieldLink RX3 31 "ReturnPoints$Roads" "length" "[I", Cond.fieldLink RX3 34 "ReturnPoints$Roads" "least" "[I", Cond.fieldLink RX3 37 "ReturnPoints$Roads" "multiplier" "[I", Cond.fieldLink RX3 40 "ReturnPoints$Roads" "basin" "[I", Cond.methodLink RX3 99 yX2_slopeAt, Cond.instanceMethod yX2_slopeAt, Cond.selects RX2 yX2_slopeAt yX2_slopeAt, Cond.code yX2_slopeAt cX2_slopeAt 4 (some .int), Cond.methodLink RX3 75 yX3_gatherBasins]
def wsX6_alike_r5 : List Cond := [Cond.instanceMethod yX3_gatherBasins, Cond.selects RX3 yX3_gatherBasins yX3_gatherBasins, Cond.code yX3_gatherBasins cX3_gatherBasins 4 none, Cond.fieldLink RX3 102 "ReturnPoints$Orbits" "entry" "[I", Cond.methodLink RX6 180 yX3_isLike, Cond.instanceMethod yX3_isLike, Cond.selects RX3 yX3_isLike yX3_isLike, Cond.code yX3_isLike cX3_isLike 6 (some .boolean), Cond.fieldLink RX3 46 "ReturnPoints$Roads" "compared" "[I", Cond.methodLink RX3 127 yX3_hasTailsOf, Cond.instanceMethod yX3_hasTailsOf, Cond.selects RX3 yX3_hasTailsOf yX3_hasTailsOf, Cond.code yX3_hasTailsOf cX3_hasTailsOf 7 (some .boolean), Cond.fieldLink RX3 43 "ReturnPoints$Roads" "byTail" "[I", Cond.methodLink RX3 131 yX3_tally, Cond.instanceMethod yX3_tally, Cond.selects RX3 yX3_tally yX3_tally, Cond.code yX3_tally cX3_tally 6 none, Cond.fieldLink RX3 135 "ReturnPoints$Orbits" "size" "I", Cond.methodLink RX6 76 yX6_fine, Cond.instanceMethod yX6_fine, Cond.selects RX6 yX6_fine yX6_fine, Cond.code yX6_fine cX6_fine 2 (some .int)]
def wsX6_alike : List Cond := .code yX6_alike cX6_alike 5 (some .int) :: ((wsX6_alike_r1 ++ (wsX6_alike_r2 ++ (wsX6_alike_r3 ++ (wsX6_alike_r4 ++ wsX6_alike_r5)))) ++ wsX60 ++ wsX30 ++ wsX10 ++ wsX20)
def wsX6_round_r1 : List Cond := [Cond.constant RX6 68 (-1000001), Cond.fieldLink RX6 25 "ReturnPoints" "shelf" "[LReturnPoints$Poly;", Cond.fieldLink RX6 122 "ReturnPoints$Poly" "degree" "I", Cond.constant RX6 125 (-1000003), Cond.fieldLink RX6 48 "ReturnPoints" "rounds" "LReturnPoints$Rounds;", Cond.methodLink RX6 102 yX6_isPlace, Cond.static yX6_isPlace, Cond.initialized RX6, Cond.code yX6_isPlace cX6_isPlace 1 (some .boolean), Cond.methodLink RX6 69 yX6_found, Cond.instanceMethod yX6_found, Cond.selects RX6 yX6_found yX6_found, Cond.code yX6_found cX6_found 2 (some .int), Cond.fieldLink RX6 62 "ReturnPoints" "status" "I", Cond.constant RX6 222 (-1000010), Cond.methodLink RX6 184 yX4_power, Cond.static yX4_power, Cond.initialized RX4, Cond.code yX4_power cX4_power 4 (some .int), Cond.methodLink RX6 187 yX4_prepare, Cond.instanceMethod yX4_prepare, Cond.selects RX4 yX4_prepare yX4_prepare, Cond.code yX4_prepare cX4_prepare 4 none, Cond.fieldLink RX4 30 "ReturnPoints$Rounds" "map" "LReturnPoints$Poly;"]
def wsX6_round_r2 : List Cond := [Cond.fieldLink RX4 34 "ReturnPoints$Rounds" "known" "I", Cond.fieldLink RX4 17 "ReturnPoints$Rounds" "done" "[[I", Cond.fieldLink RX4 20 "ReturnPoints$Rounds" "doneDegree" "[I", Cond.fieldLink RX4 43 "ReturnPoints$Poly" "degree" "I", Cond.methodLink RX4 37 yX2_putOver, Cond.instanceMethod yX2_putOver, Cond.selects RX2 yX2_putOver yX2_putOver, Cond.initialized RX2, Cond.code yX2_putOver cX2_putOver 6 none, Cond.fieldLink RX2 15 "ReturnPoints$Poly" "c" "[I", Cond.fieldLink RX2 23 "ReturnPoints$Poly" "degree" "I", Cond.fieldLink RX2 9 "ReturnPoints$Poly" "p" "I", Cond.methodLink RX2 46 yJ7_fill_53178, Cond.static yJ7_fill_53178, Cond.initialized RJ7, Cond.code yJ7_fill_53178 cJ7_fill_53178 4 none, Cond.methodLink RX2 52 yX2_multiply, Cond.static yX2_multiply, Cond.code yX2_multiply cX2_multiply 8 none, Cond.methodLink RX2 56 Lib.Math.min.name, Cond.static Lib.Math.min.name, Cond.initialized "java/lang/Math", Cond.code Lib.Math.min.name Lib.Math.min.code 2 (some .int), Cond.methodLink RX2 59 Lib.Math.max.name]
def wsX6_round_r3 : List Cond := [Cond.static Lib.Math.max.name, Cond.code Lib.Math.max.name Lib.Math.max.code 2 (some .int), Cond.methodLink RX4 46 yX4_divideOut, Cond.instanceMethod yX4_divideOut, Cond.selects RX4 yX4_divideOut yX4_divideOut, Cond.code yX4_divideOut cX4_divideOut 4 none, Cond.fieldLink RX4 24 "ReturnPoints$Rounds" "rows" "[[I", Cond.methodLink RX4 50 arraycopyName, Cond.native arraycopyName, Cond.static arraycopyName, Cond.initialized "java/lang/System", Cond.fieldLink RX4 9 "ReturnPoints$Rounds" "p" "I", Cond.fieldLink RX4 27 "ReturnPoints$Rounds" "rowDegree" "[I", Cond.methodLink RX4 56 yJ9_floorMod_7cf53, Cond.static yJ9_floorMod_7cf53, Cond.initialized RJ9, Cond.code yJ9_floorMod_7cf53 cJ9_floorMod_7cf53 3 (some .int), Cond.methodLink RX4 62 yX4_divide, Cond.instanceMethod yX4_divide, Cond.selects RX4 yX4_divide yX4_divide, Cond.code yX4_divide cX4_divide 10 none, Cond.static yX6_inverse, Cond.code yX6_inverse cX6_inverse 3 (some .int), Cond.methodLink RX6 191 yX4_degreeOf]
def wsX6_round_r4 : List Cond := [Cond.instanceMethod yX4_degreeOf, Cond.selects RX4 yX4_degreeOf yX4_degreeOf, Cond.code yX4_degreeOf cX4_degreeOf 2 (some .int), Cond.methodLink RX6 194 yX4_numberOf, Cond.instanceMethod yX4_numberOf, Cond.selects RX4 yX4_numberOf yX4_numberOf, Cond.code yX4_numberOf cX4_numberOf 3 (some .int), Cond.methodLink RX6 76 yX6_fine, Cond.instanceMethod yX6_fine, Cond.selects RX6 yX6_fine yX6_fine, Cond.code yX6_fine cX6_fine 2 (some .int)]
def wsX6_round : List Cond := .code yX6_round cX6_round 5 (some .int) :: ((wsX6_round_r1 ++ (wsX6_round_r2 ++ (wsX6_round_r3 ++ wsX6_round_r4))) ++ wsX60 ++ wsX20 ++ wsX40)
def wsX6_isPair : List Cond := .code yX6_isPair cX6_isPair 2 (some .boolean) :: ([.methodLink RX6 208 yX6_commonDivisor, .static yX6_commonDivisor, .initialized RX6, .code yX6_commonDivisor cX6_commonDivisor 6 (some .int), .methodLink RX6 226 Lib.Math.abs.name, .static Lib.Math.abs.name, .initialized "java/lang/Math", .code Lib.Math.abs.name Lib.Math.abs.code 1 (some .int)])
def wsX6_fraction_r1 : List Cond := [Cond.constant RX6 68 (-1000001), Cond.fieldLink RX6 55 "ReturnPoints" "fractions" "LReturnPoints$Fractions;", Cond.constant RX6 153 (-1000000), Cond.fieldLink RX6 202 "ReturnPoints$Fractions" "listed" "I", Cond.methodLink RX6 197 yX6_isPair, Cond.static yX6_isPair, Cond.initialized RX6, Cond.code yX6_isPair cX6_isPair 2 (some .boolean), Cond.methodLink RX6 208 yX6_commonDivisor, Cond.static yX6_commonDivisor, Cond.code yX6_commonDivisor cX6_commonDivisor 6 (some .int), Cond.methodLink RX6 226 Lib.Math.abs.name, Cond.static Lib.Math.abs.name, Cond.initialized "java/lang/Math", Cond.code Lib.Math.abs.name Lib.Math.abs.code 1 (some .int), Cond.methodLink RX6 200 yX0_prepare, Cond.instanceMethod yX0_prepare, Cond.selects RX0 yX0_prepare yX0_prepare, Cond.initialized RX0, Cond.code yX0_prepare cX0_prepare 4 none, Cond.fieldLink RX0 28 "ReturnPoints$Fractions" "upper" "I", Cond.fieldLink RX0 31 "ReturnPoints$Fractions" "lower" "I", Cond.fieldLink RX0 16 "ReturnPoints$Fractions" "orbits" "LReturnPoints$Orbits;", Cond.fieldLink RX0 34 "ReturnPoints$Orbits" "size" "I"]
def wsX6_fraction_r2 : List Cond := [Cond.fieldLink RX0 37 "ReturnPoints$Orbits" "next" "[I", Cond.fieldLink RX0 24 "ReturnPoints$Fractions" "listed" "I", Cond.fieldLink RX0 20 "ReturnPoints$Fractions" "list" "[I", Cond.fieldLink RX0 47 "ReturnPoints$Orbits" "period" "[I", Cond.methodLink RX0 40 yX0_follower, Cond.instanceMethod yX0_follower, Cond.selects RX0 yX0_follower yX0_follower, Cond.code yX0_follower cX0_follower 3 (some .int), Cond.methodLink RX0 54 yX0_image, Cond.static yX0_image, Cond.code yX0_image cX0_image 5 (some .int), Cond.constant RX0 58 (-1000000), Cond.methodLink RX0 44 yX1_followAll, Cond.instanceMethod yX1_followAll, Cond.selects RX1 yX1_followAll yX1_followAll, Cond.initialized RX1, Cond.code yX1_followAll cX1_followAll 2 none, Cond.fieldLink RX1 20 "ReturnPoints$Orbits" "period" "[I", Cond.fieldLink RX1 7 "ReturnPoints$Orbits" "size" "I", Cond.methodLink RX1 29 yJ7_fill_53178, Cond.static yJ7_fill_53178, Cond.initialized RJ7, Cond.code yJ7_fill_53178 cJ7_fill_53178 4 none, Cond.methodLink RX1 35 yX1_walkFrom]
def wsX6_fraction_r3 : List Cond := [Cond.instanceMethod yX1_walkFrom, Cond.selects RX1 yX1_walkFrom yX1_walkFrom, Cond.code yX1_walkFrom cX1_walkFrom 6 none, Cond.fieldLink RX1 26 "ReturnPoints$Orbits" "path" "[I", Cond.fieldLink RX1 13 "ReturnPoints$Orbits" "next" "[I", Cond.methodLink RX1 39 yX1_isInside, Cond.instanceMethod yX1_isInside, Cond.selects RX1 yX1_isInside yX1_isInside, Cond.code yX1_isInside cX1_isInside 2 (some .boolean), Cond.methodLink RX1 43 yX1_closeRing, Cond.instanceMethod yX1_closeRing, Cond.selects RX1 yX1_closeRing yX1_closeRing, Cond.code yX1_closeRing cX1_closeRing 5 (some .int), Cond.methodLink RX1 50 Lib.Math.max.name, Cond.static Lib.Math.max.name, Cond.code Lib.Math.max.name Lib.Math.max.code 2 (some .int), Cond.fieldLink RX1 17 "ReturnPoints$Orbits" "tail" "[I", Cond.fieldLink RX1 23 "ReturnPoints$Orbits" "entry" "[I", Cond.methodLink RX1 47 yX1_hang, Cond.instanceMethod yX1_hang, Cond.selects RX1 yX1_hang yX1_hang, Cond.code yX1_hang cX1_hang 3 none, Cond.methodLink RX6 205 yX0_ofListed, Cond.instanceMethod yX0_ofListed]
def wsX6_fraction_r4 : List Cond := [Cond.selects RX0 yX0_ofListed yX0_ofListed, Cond.code yX0_ofListed cX0_ofListed 4 (some .int), Cond.fieldLink RX0 59 "ReturnPoints$Orbits" "tail" "[I"]
def wsX6_fraction : List Cond := .code yX6_fraction cX6_fraction 5 (some .int) :: ((wsX6_fraction_r1 ++ (wsX6_fraction_r2 ++ (wsX6_fraction_r3 ++ wsX6_fraction_r4))) ++ wsX60 ++ wsX00 ++ wsX10)
def wsX6_next : List Cond := .code yX6_next cX6_next 4 (some .int) :: ([.constant RX6 68 (-1000001), .methodLink RX6 197 yX6_isPair, .static yX6_isPair, .initialized RX6, .code yX6_isPair cX6_isPair 2 (some .boolean), .methodLink RX6 208 yX6_commonDivisor, .static yX6_commonDivisor, .code yX6_commonDivisor cX6_commonDivisor 6 (some .int), .methodLink RX6 226 Lib.Math.abs.name, .static Lib.Math.abs.name, .initialized "java/lang/Math", .code Lib.Math.abs.name Lib.Math.abs.code 1 (some .int), .methodLink RX6 211 yX0_image, .static yX0_image, .initialized RX0, .code yX0_image cX0_image 5 (some .int), .constant RX0 58 (-1000000)])
def wsX6_sheetsThere : List Cond := .code yX6_sheetsThere cX6_sheetsThere 6 (some .int) :: ([.fieldLink RX6 19 "ReturnPoints" "sheets" "[LReturnPoints$Sheet;"] ++ wsX60)
def wsX6_mapsOf : List Cond := .code yX6_mapsOf cX6_mapsOf 7 (some .int) :: ([.fieldLink RX6 25 "ReturnPoints" "shelf" "[LReturnPoints$Poly;", .methodLink RX6 139 yX2_fits, .instanceMethod yX2_fits, .selects RX2 yX2_fits yX2_fits, .initialized RX2, .code yX2_fits cX2_fits 2 (some .boolean), .fieldLink RX2 30 "ReturnPoints$Poly" "told" "I"] ++ wsX60 ++ wsX20)
def wsX6_count : List Cond := .code yX6_count cX6_count 2 (some .int) :: ([.fieldLink RX6 13 "ReturnPoints" "p" "I", .constant RX6 68 (-1000001), .methodLink RX6 215 yX6_sheetsThere, .instanceMethod yX6_sheetsThere, .selects RX6 yX6_sheetsThere yX6_sheetsThere, .initialized RX6, .code yX6_sheetsThere cX6_sheetsThere 6 (some .int), .fieldLink RX6 19 "ReturnPoints" "sheets" "[LReturnPoints$Sheet;", .methodLink RX6 219 yX6_mapsOf, .instanceMethod yX6_mapsOf, .selects RX6 yX6_mapsOf yX6_mapsOf, .code yX6_mapsOf cX6_mapsOf 7 (some .int), .fieldLink RX6 25 "ReturnPoints" "shelf" "[LReturnPoints$Poly;", .methodLink RX6 139 yX2_fits, .instanceMethod yX2_fits, .selects RX2 yX2_fits yX2_fits, .initialized RX2, .code yX2_fits cX2_fits 2 (some .boolean), .fieldLink RX2 30 "ReturnPoints$Poly" "told" "I"] ++ wsX60 ++ wsX20)
def wsX6_status : List Cond := .code yX6_status cX6_status 1 (some .int) :: ([.fieldLink RX6 62 "ReturnPoints" "status" "I"] ++ wsX60)
def wsX7_in : List Cond := .code yX7_in cX7_in 6 (some .boolean) :: ([])
def wsX7_found : List Cond := .code yX7_found cX7_found 2 (some .int) :: ([.fieldLink RX7 7 "ReturnPointsModel" "status" "I", .constant RX7 10 (-1000010)] ++ wsX70)
def wsX7_isPrime : List Cond := .code yX7_isPrime cX7_isPrime 3 (some .boolean) :: ([])
def wsX7_init_r1 : List Cond := [Cond.methodLink RX7 11 objectInit, Cond.instanceMethod objectInit, Cond.code objectInit ⟨#[0xb1]⟩ 1 none, Cond.arrayClass .int, Cond.fieldLink RX7 17 "ReturnPointsModel" "lane" "[I", Cond.fieldLink RX7 21 "ReturnPointsModel" "many" "[I", Cond.arrayClass .long, Cond.fieldLink RX7 24 "ReturnPointsModel" "item" "[J", Cond.fieldLink RX7 28 "ReturnPointsModel" "degree" "[I", Cond.fieldLink RX7 31 "ReturnPointsModel" "number" "[I", Cond.fieldLink RX7 34 "ReturnPointsModel" "made" "[I", Cond.fieldLink RX7 37 "ReturnPointsModel" "inner" "[I", Cond.fieldLink RX7 40 "ReturnPointsModel" "longer" "[I", Cond.fieldLink RX7 43 "ReturnPointsModel" "goes" "[I", Cond.fieldLink RX7 46 "ReturnPointsModel" "tail" "[I", Cond.fieldLink RX7 49 "ReturnPointsModel" "period" "[I", Cond.fieldLink RX7 52 "ReturnPointsModel" "least" "[I", Cond.fieldLink RX7 55 "ReturnPointsModel" "comes" "[I", Cond.fieldLink RX7 58 "ReturnPointsModel" "seen" "[I", Cond.fieldLink RX7 61 "ReturnPointsModel" "trace" "[I", Cond.constant RX7 64 (40000), Cond.fieldLink RX7 65 "ReturnPointsModel" "counted" "[I", Cond.fieldLink RX7 68 "ReturnPointsModel" "done" "[I", Cond.fieldLink RX7 71 "ReturnPointsModel" "next" "[I"]
def wsX7_init_r2 : List Cond := [Cond.fieldLink RX7 74 "ReturnPointsModel" "rest" "[I", Cond.fieldLink RX7 77 "ReturnPointsModel" "quotient" "[I", Cond.fieldLink RX7 80 "ReturnPointsModel" "rounds" "[I", Cond.fieldLink RX7 83 "ReturnPointsModel" "met" "[I", Cond.constantLong RX7 86 (3), Cond.constantLong RX7 88 (199), Cond.fieldLink RX7 98 "ReturnPointsModel" "prime" "I", Cond.methodLink RX7 90 yX7_in, Cond.static yX7_in, Cond.initialized RX7, Cond.code yX7_in cX7_in 6 (some .boolean), Cond.methodLink RX7 94 yX7_isPrime, Cond.static yX7_isPrime, Cond.code yX7_isPrime cX7_isPrime 3 (some .boolean)]
def wsX7_init : List Cond := .code yX7_init cX7_init 2 none :: ((wsX7_init_r1 ++ wsX7_init_r2) ++ wsX70)
def wsX7_isSheet : List Cond := .code yX7_isSheet cX7_isSheet 1 (some .boolean) :: ([.constantLong RX7 101 (7), .methodLink RX7 90 yX7_in, .static yX7_in, .initialized RX7, .code yX7_in cX7_in 6 (some .boolean)])
def wsX7_sheet : List Cond := .code yX7_sheet cX7_sheet 5 (some .int) :: ([.fieldLink RX7 1 "ReturnPointsModel" "thrown" "I", .constantLong RX7 106 (2), .constant RX7 108 (-1000001), .fieldLink RX7 7 "ReturnPointsModel" "status" "I", .fieldLink RX7 17 "ReturnPointsModel" "lane" "[I", .fieldLink RX7 21 "ReturnPointsModel" "many" "[I", .fieldLink RX7 24 "ReturnPointsModel" "item" "[J", .methodLink RX7 103 yX7_isSheet, .static yX7_isSheet, .initialized RX7, .code yX7_isSheet cX7_isSheet 1 (some .boolean), .constantLong RX7 101 (7), .methodLink RX7 90 yX7_in, .static yX7_in, .code yX7_in cX7_in 6 (some .boolean), .methodLink RX7 109 yX7_found, .instanceMethod yX7_found, .selects RX7 yX7_found yX7_found, .code yX7_found cX7_found 2 (some .int), .constant RX7 10 (-1000010)] ++ wsX70)
def wsX7_set : List Cond := .code yX7_set cX7_set 5 (some .long) :: ([.fieldLink RX7 1 "ReturnPointsModel" "thrown" "I", .constantLong RX7 113 (-1000001), .fieldLink RX7 7 "ReturnPointsModel" "status" "I", .fieldLink RX7 17 "ReturnPointsModel" "lane" "[I", .fieldLink RX7 21 "ReturnPointsModel" "many" "[I", .fieldLink RX7 24 "ReturnPointsModel" "item" "[J", .methodLink RX7 103 yX7_isSheet, .static yX7_isSheet, .initialized RX7, .code yX7_isSheet cX7_isSheet 1 (some .boolean), .constantLong RX7 101 (7), .methodLink RX7 90 yX7_in, .static yX7_in, .code yX7_in cX7_in 6 (some .boolean), .methodLink RX7 109 yX7_found, .instanceMethod yX7_found, .selects RX7 yX7_found yX7_found, .code yX7_found cX7_found 2 (some .int), .constant RX7 10 (-1000010)] ++ wsX70)
def wsX7_copy : List Cond := .code yX7_copy cX7_copy 9 (some .int) :: ([.fieldLink RX7 1 "ReturnPointsModel" "thrown" "I", .constant RX7 108 (-1000001), .fieldLink RX7 7 "ReturnPointsModel" "status" "I", .fieldLink RX7 17 "ReturnPointsModel" "lane" "[I", .fieldLink RX7 21 "ReturnPointsModel" "many" "[I", .fieldLink RX7 24 "ReturnPointsModel" "item" "[J", .methodLink RX7 103 yX7_isSheet, .static yX7_isSheet, .initialized RX7, .code yX7_isSheet cX7_isSheet 1 (some .boolean), .constantLong RX7 101 (7), .methodLink RX7 90 yX7_in, .static yX7_in, .code yX7_in cX7_in 6 (some .boolean), .methodLink RX7 109 yX7_found, .instanceMethod yX7_found, .selects RX7 yX7_found yX7_found, .code yX7_found cX7_found 2 (some .int), .constant RX7 10 (-1000010)] ++ wsX70)
def wsX7_drop : List Cond := .code yX7_drop cX7_drop 2 (some .int) :: ([.fieldLink RX7 1 "ReturnPointsModel" "thrown" "I", .constant RX7 108 (-1000001), .fieldLink RX7 7 "ReturnPointsModel" "status" "I", .fieldLink RX7 17 "ReturnPointsModel" "lane" "[I", .fieldLink RX7 21 "ReturnPointsModel" "many" "[I", .methodLink RX7 103 yX7_isSheet, .static yX7_isSheet, .initialized RX7, .code yX7_isSheet cX7_isSheet 1 (some .boolean), .constantLong RX7 101 (7), .methodLink RX7 90 yX7_in, .static yX7_in, .code yX7_in cX7_in 6 (some .boolean), .methodLink RX7 109 yX7_found, .instanceMethod yX7_found, .selects RX7 yX7_found yX7_found, .code yX7_found cX7_found 2 (some .int), .constant RX7 10 (-1000010)] ++ wsX70)
def wsX7_isPlace : List Cond := .code yX7_isPlace cX7_isPlace 1 (some .boolean) :: ([.constantLong RX7 115 (9), .methodLink RX7 90 yX7_in, .static yX7_in, .initialized RX7, .code yX7_in cX7_in 6 (some .boolean)])
def wsX7_modulo : List Cond := .code yX7_modulo cX7_modulo 5 (some .int) :: ([.fieldLink RX7 98 "ReturnPointsModel" "prime" "I"] ++ wsX70)
def wsX7_kindOf : List Cond := .code yX7_kindOf cX7_kindOf 3 (some .int) :: ([.fieldLink RX7 28 "ReturnPointsModel" "degree" "[I", .fieldLink RX7 31 "ReturnPointsModel" "number" "[I"] ++ wsX70)
def wsX7_lay : List Cond := .code yX7_lay cX7_lay 3 (some .int) :: ([.fieldLink RX7 7 "ReturnPointsModel" "status" "I", .fieldLink RX7 28 "ReturnPointsModel" "degree" "[I", .fieldLink RX7 31 "ReturnPointsModel" "number" "[I", .fieldLink RX7 34 "ReturnPointsModel" "made" "[I", .methodLink RX7 117 yX7_kindOf, .instanceMethod yX7_kindOf, .selects RX7 yX7_kindOf yX7_kindOf, .initialized RX7, .code yX7_kindOf cX7_kindOf 3 (some .int)] ++ wsX70)
def wsX7_map_r1 : List Cond := [Cond.fieldLink RX7 1 "ReturnPointsModel" "thrown" "I", Cond.constantLong RX7 123 (5), Cond.constant RX7 108 (-1000001), Cond.fieldLink RX7 17 "ReturnPointsModel" "lane" "[I", Cond.fieldLink RX7 21 "ReturnPointsModel" "many" "[I", Cond.fieldLink RX7 34 "ReturnPointsModel" "made" "[I", Cond.fieldLink RX7 24 "ReturnPointsModel" "item" "[J", Cond.methodLink RX7 120 yX7_isPlace, Cond.static yX7_isPlace, Cond.initialized RX7, Cond.code yX7_isPlace cX7_isPlace 1 (some .boolean), Cond.constantLong RX7 115 (9), Cond.methodLink RX7 90 yX7_in, Cond.static yX7_in, Cond.code yX7_in cX7_in 6 (some .boolean), Cond.methodLink RX7 103 yX7_isSheet, Cond.static yX7_isSheet, Cond.code yX7_isSheet cX7_isSheet 1 (some .boolean), Cond.constantLong RX7 101 (7), Cond.methodLink RX7 109 yX7_found, Cond.instanceMethod yX7_found, Cond.selects RX7 yX7_found yX7_found, Cond.code yX7_found cX7_found 2 (some .int), Cond.fieldLink RX7 7 "ReturnPointsModel" "status" "I"]
def wsX7_map_r2 : List Cond := [Cond.constant RX7 10 (-1000010), Cond.methodLink RX7 125 yX7_modulo, Cond.instanceMethod yX7_modulo, Cond.selects RX7 yX7_modulo yX7_modulo, Cond.code yX7_modulo cX7_modulo 5 (some .int), Cond.fieldLink RX7 98 "ReturnPointsModel" "prime" "I", Cond.methodLink RX7 129 yX7_lay, Cond.instanceMethod yX7_lay, Cond.selects RX7 yX7_lay yX7_lay, Cond.code yX7_lay cX7_lay 3 (some .int), Cond.fieldLink RX7 28 "ReturnPointsModel" "degree" "[I", Cond.fieldLink RX7 31 "ReturnPointsModel" "number" "[I", Cond.methodLink RX7 117 yX7_kindOf, Cond.instanceMethod yX7_kindOf, Cond.selects RX7 yX7_kindOf yX7_kindOf, Cond.code yX7_kindOf cX7_kindOf 3 (some .int)]
def wsX7_map : List Cond := .code yX7_map cX7_map 6 (some .int) :: ((wsX7_map_r1 ++ wsX7_map_r2) ++ wsX70)
def wsX7_plain_r1 : List Cond := [Cond.fieldLink RX7 1 "ReturnPointsModel" "thrown" "I", Cond.constant RX7 108 (-1000001), Cond.fieldLink RX7 34 "ReturnPointsModel" "made" "[I", Cond.methodLink RX7 120 yX7_isPlace, Cond.static yX7_isPlace, Cond.initialized RX7, Cond.code yX7_isPlace cX7_isPlace 1 (some .boolean), Cond.constantLong RX7 115 (9), Cond.methodLink RX7 90 yX7_in, Cond.static yX7_in, Cond.code yX7_in cX7_in 6 (some .boolean), Cond.methodLink RX7 125 yX7_modulo, Cond.instanceMethod yX7_modulo, Cond.selects RX7 yX7_modulo yX7_modulo, Cond.code yX7_modulo cX7_modulo 5 (some .int), Cond.fieldLink RX7 98 "ReturnPointsModel" "prime" "I", Cond.methodLink RX7 129 yX7_lay, Cond.instanceMethod yX7_lay, Cond.selects RX7 yX7_lay yX7_lay, Cond.code yX7_lay cX7_lay 3 (some .int), Cond.fieldLink RX7 7 "ReturnPointsModel" "status" "I", Cond.fieldLink RX7 28 "ReturnPointsModel" "degree" "[I", Cond.fieldLink RX7 31 "ReturnPointsModel" "number" "[I", Cond.methodLink RX7 117 yX7_kindOf]
def wsX7_plain_r2 : List Cond := [Cond.instanceMethod yX7_kindOf, Cond.selects RX7 yX7_kindOf yX7_kindOf, Cond.code yX7_kindOf cX7_kindOf 3 (some .int)]
def wsX7_plain : List Cond := .code yX7_plain cX7_plain 4 (some .int) :: ((wsX7_plain_r1 ++ wsX7_plain_r2) ++ wsX70)
def wsX7_inverse : List Cond := .code yX7_inverse cX7_inverse 4 (some .int) :: ([.fieldLink RX7 98 "ReturnPointsModel" "prime" "I"] ++ wsX70)
def wsX7_mix : List Cond := .code yX7_mix cX7_mix 5 none :: ([.fieldLink RX7 34 "ReturnPointsModel" "made" "[I", .fieldLink RX7 28 "ReturnPointsModel" "degree" "[I", .fieldLink RX7 40 "ReturnPointsModel" "longer" "[I", .fieldLink RX7 37 "ReturnPointsModel" "inner" "[I", .fieldLink RX7 98 "ReturnPointsModel" "prime" "I", .fieldLink RX7 31 "ReturnPointsModel" "number" "[I"] ++ wsX70)
def wsX7_turn_r1 : List Cond := [Cond.fieldLink RX7 1 "ReturnPointsModel" "thrown" "I", Cond.constant RX7 108 (-1000001), Cond.fieldLink RX7 28 "ReturnPointsModel" "degree" "[I", Cond.fieldLink RX7 37 "ReturnPointsModel" "inner" "[I", Cond.fieldLink RX7 34 "ReturnPointsModel" "made" "[I", Cond.fieldLink RX7 98 "ReturnPointsModel" "prime" "I", Cond.methodLink RX7 120 yX7_isPlace, Cond.static yX7_isPlace, Cond.initialized RX7, Cond.code yX7_isPlace cX7_isPlace 1 (some .boolean), Cond.constantLong RX7 115 (9), Cond.methodLink RX7 90 yX7_in, Cond.static yX7_in, Cond.code yX7_in cX7_in 6 (some .boolean), Cond.methodLink RX7 125 yX7_modulo, Cond.instanceMethod yX7_modulo, Cond.selects RX7 yX7_modulo yX7_modulo, Cond.code yX7_modulo cX7_modulo 5 (some .int), Cond.methodLink RX7 109 yX7_found, Cond.instanceMethod yX7_found, Cond.selects RX7 yX7_found yX7_found, Cond.code yX7_found cX7_found 2 (some .int), Cond.fieldLink RX7 7 "ReturnPointsModel" "status" "I", Cond.constant RX7 10 (-1000010)]
def wsX7_turn_r2 : List Cond := [Cond.methodLink RX7 132 yX7_mix, Cond.instanceMethod yX7_mix, Cond.selects RX7 yX7_mix yX7_mix, Cond.code yX7_mix cX7_mix 5 none, Cond.fieldLink RX7 40 "ReturnPointsModel" "longer" "[I", Cond.fieldLink RX7 31 "ReturnPointsModel" "number" "[I", Cond.methodLink RX7 136 yX7_inverse, Cond.instanceMethod yX7_inverse, Cond.selects RX7 yX7_inverse yX7_inverse, Cond.code yX7_inverse cX7_inverse 4 (some .int), Cond.methodLink RX7 129 yX7_lay, Cond.instanceMethod yX7_lay, Cond.selects RX7 yX7_lay yX7_lay, Cond.code yX7_lay cX7_lay 3 (some .int), Cond.methodLink RX7 117 yX7_kindOf, Cond.instanceMethod yX7_kindOf, Cond.selects RX7 yX7_kindOf yX7_kindOf, Cond.code yX7_kindOf cX7_kindOf 3 (some .int)]
def wsX7_turn : List Cond := .code yX7_turn cX7_turn 7 (some .int) :: ((wsX7_turn_r1 ++ wsX7_turn_r2) ++ wsX70)
def wsX7_behind_r1 : List Cond := [Cond.fieldLink RX7 1 "ReturnPointsModel" "thrown" "I", Cond.constant RX7 108 (-1000001), Cond.fieldLink RX7 28 "ReturnPointsModel" "degree" "[I", Cond.constant RX7 139 (-1000003), Cond.fieldLink RX7 37 "ReturnPointsModel" "inner" "[I", Cond.fieldLink RX7 31 "ReturnPointsModel" "number" "[I", Cond.methodLink RX7 120 yX7_isPlace, Cond.static yX7_isPlace, Cond.initialized RX7, Cond.code yX7_isPlace cX7_isPlace 1 (some .boolean), Cond.constantLong RX7 115 (9), Cond.methodLink RX7 90 yX7_in, Cond.static yX7_in, Cond.code yX7_in cX7_in 6 (some .boolean), Cond.methodLink RX7 109 yX7_found, Cond.instanceMethod yX7_found, Cond.selects RX7 yX7_found yX7_found, Cond.code yX7_found cX7_found 2 (some .int), Cond.fieldLink RX7 7 "ReturnPointsModel" "status" "I", Cond.constant RX7 10 (-1000010), Cond.methodLink RX7 132 yX7_mix, Cond.instanceMethod yX7_mix, Cond.selects RX7 yX7_mix yX7_mix, Cond.code yX7_mix cX7_mix 5 none]
def wsX7_behind_r2 : List Cond := [Cond.fieldLink RX7 34 "ReturnPointsModel" "made" "[I", Cond.fieldLink RX7 40 "ReturnPointsModel" "longer" "[I", Cond.fieldLink RX7 98 "ReturnPointsModel" "prime" "I", Cond.methodLink RX7 129 yX7_lay, Cond.instanceMethod yX7_lay, Cond.selects RX7 yX7_lay yX7_lay, Cond.code yX7_lay cX7_lay 3 (some .int), Cond.methodLink RX7 117 yX7_kindOf, Cond.instanceMethod yX7_kindOf, Cond.selects RX7 yX7_kindOf yX7_kindOf, Cond.code yX7_kindOf cX7_kindOf 3 (some .int)]
def wsX7_behind : List Cond := .code yX7_behind cX7_behind 5 (some .int) :: ((wsX7_behind_r1 ++ wsX7_behind_r2) ++ wsX70)
def wsX7_clear : List Cond := .code yX7_clear cX7_clear 3 (some .int) :: ([.fieldLink RX7 1 "ReturnPointsModel" "thrown" "I", .constant RX7 108 (-1000001), .fieldLink RX7 28 "ReturnPointsModel" "degree" "[I", .methodLink RX7 120 yX7_isPlace, .static yX7_isPlace, .initialized RX7, .code yX7_isPlace cX7_isPlace 1 (some .boolean), .constantLong RX7 115 (9), .methodLink RX7 90 yX7_in, .static yX7_in, .code yX7_in cX7_in 6 (some .boolean)] ++ wsX70)
def wsX7_look : List Cond := .code yX7_look cX7_look 2 (some .int) :: ([.fieldLink RX7 7 "ReturnPointsModel" "status" "I", .fieldLink RX7 28 "ReturnPointsModel" "degree" "[I", .methodLink RX7 109 yX7_found, .instanceMethod yX7_found, .selects RX7 yX7_found yX7_found, .initialized RX7, .code yX7_found cX7_found 2 (some .int), .constant RX7 10 (-1000010)] ++ wsX70)
def wsX7_number : List Cond := .code yX7_number cX7_number 4 (some .int) :: ([.fieldLink RX7 1 "ReturnPointsModel" "thrown" "I", .constantLong RX7 140 (-1), .constantLong RX7 142 (4), .constant RX7 108 (-1000001), .fieldLink RX7 28 "ReturnPointsModel" "degree" "[I", .fieldLink RX7 31 "ReturnPointsModel" "number" "[I", .methodLink RX7 120 yX7_isPlace, .static yX7_isPlace, .initialized RX7, .code yX7_isPlace cX7_isPlace 1 (some .boolean), .constantLong RX7 115 (9), .methodLink RX7 90 yX7_in, .static yX7_in, .code yX7_in cX7_in 6 (some .boolean), .methodLink RX7 144 yX7_look, .instanceMethod yX7_look, .selects RX7 yX7_look yX7_look, .code yX7_look cX7_look 2 (some .int), .fieldLink RX7 7 "ReturnPointsModel" "status" "I", .methodLink RX7 109 yX7_found, .instanceMethod yX7_found, .selects RX7 yX7_found yX7_found, .code yX7_found cX7_found 2 (some .int), .constant RX7 10 (-1000010)] ++ wsX70)
def wsX7_kind_r1 : List Cond := [Cond.fieldLink RX7 1 "ReturnPointsModel" "thrown" "I", Cond.constant RX7 108 (-1000001), Cond.methodLink RX7 120 yX7_isPlace, Cond.static yX7_isPlace, Cond.initialized RX7, Cond.code yX7_isPlace cX7_isPlace 1 (some .boolean), Cond.constantLong RX7 115 (9), Cond.methodLink RX7 90 yX7_in, Cond.static yX7_in, Cond.code yX7_in cX7_in 6 (some .boolean), Cond.methodLink RX7 144 yX7_look, Cond.instanceMethod yX7_look, Cond.selects RX7 yX7_look yX7_look, Cond.code yX7_look cX7_look 2 (some .int), Cond.fieldLink RX7 7 "ReturnPointsModel" "status" "I", Cond.fieldLink RX7 28 "ReturnPointsModel" "degree" "[I", Cond.methodLink RX7 109 yX7_found, Cond.instanceMethod yX7_found, Cond.selects RX7 yX7_found yX7_found, Cond.code yX7_found cX7_found 2 (some .int), Cond.constant RX7 10 (-1000010), Cond.methodLink RX7 117 yX7_kindOf, Cond.instanceMethod yX7_kindOf, Cond.selects RX7 yX7_kindOf yX7_kindOf]
def wsX7_kind_r2 : List Cond := [Cond.code yX7_kindOf cX7_kindOf 3 (some .int), Cond.fieldLink RX7 31 "ReturnPointsModel" "number" "[I"]
def wsX7_kind : List Cond := .code yX7_kind cX7_kind 3 (some .int) :: ((wsX7_kind_r1 ++ wsX7_kind_r2) ++ wsX70)
def wsX7_isOf : List Cond := .code yX7_isOf cX7_isOf 2 (some .boolean) :: ([])
def wsX7_is : List Cond := .code yX7_is cX7_is 3 (some .int) :: ([.fieldLink RX7 1 "ReturnPointsModel" "thrown" "I", .constantLong RX7 123 (5), .constant RX7 108 (-1000001), .fieldLink RX7 28 "ReturnPointsModel" "degree" "[I", .methodLink RX7 120 yX7_isPlace, .static yX7_isPlace, .initialized RX7, .code yX7_isPlace cX7_isPlace 1 (some .boolean), .constantLong RX7 115 (9), .methodLink RX7 90 yX7_in, .static yX7_in, .code yX7_in cX7_in 6 (some .boolean), .methodLink RX7 117 yX7_kindOf, .instanceMethod yX7_kindOf, .selects RX7 yX7_kindOf yX7_kindOf, .code yX7_kindOf cX7_kindOf 3 (some .int), .fieldLink RX7 31 "ReturnPointsModel" "number" "[I", .methodLink RX7 147 yX7_isOf, .static yX7_isOf, .code yX7_isOf cX7_isOf 2 (some .boolean)] ++ wsX70)
def wsX7_as_r1 : List Cond := [Cond.fieldLink RX7 1 "ReturnPointsModel" "thrown" "I", Cond.constantLong RX7 123 (5), Cond.constant RX7 108 (-1000001), Cond.fieldLink RX7 28 "ReturnPointsModel" "degree" "[I", Cond.methodLink RX7 120 yX7_isPlace, Cond.static yX7_isPlace, Cond.initialized RX7, Cond.code yX7_isPlace cX7_isPlace 1 (some .boolean), Cond.constantLong RX7 115 (9), Cond.methodLink RX7 90 yX7_in, Cond.static yX7_in, Cond.code yX7_in cX7_in 6 (some .boolean), Cond.methodLink RX7 144 yX7_look, Cond.instanceMethod yX7_look, Cond.selects RX7 yX7_look yX7_look, Cond.code yX7_look cX7_look 2 (some .int), Cond.fieldLink RX7 7 "ReturnPointsModel" "status" "I", Cond.methodLink RX7 109 yX7_found, Cond.instanceMethod yX7_found, Cond.selects RX7 yX7_found yX7_found, Cond.code yX7_found cX7_found 2 (some .int), Cond.constant RX7 10 (-1000010), Cond.methodLink RX7 117 yX7_kindOf, Cond.instanceMethod yX7_kindOf]
def wsX7_as_r2 : List Cond := [Cond.selects RX7 yX7_kindOf yX7_kindOf, Cond.code yX7_kindOf cX7_kindOf 3 (some .int), Cond.fieldLink RX7 31 "ReturnPointsModel" "number" "[I", Cond.methodLink RX7 147 yX7_isOf, Cond.static yX7_isOf, Cond.code yX7_isOf cX7_isOf 2 (some .boolean)]
def wsX7_as : List Cond := .code yX7_as cX7_as 4 (some .int) :: ((wsX7_as_r1 ++ wsX7_as_r2) ++ wsX70)
def wsX7_valueOf : List Cond := .code yX7_valueOf cX7_valueOf 5 (some .int) :: ([.fieldLink RX7 28 "ReturnPointsModel" "degree" "[I", .fieldLink RX7 31 "ReturnPointsModel" "number" "[I", .fieldLink RX7 98 "ReturnPointsModel" "prime" "I"] ++ wsX70)
def wsX7_slopeOf : List Cond := .code yX7_slopeOf cX7_slopeOf 5 (some .int) :: ([.fieldLink RX7 28 "ReturnPointsModel" "degree" "[I", .fieldLink RX7 31 "ReturnPointsModel" "number" "[I", .fieldLink RX7 98 "ReturnPointsModel" "prime" "I"] ++ wsX70)
def wsX7_findWays : List Cond := .code yX7_findWays cX7_findWays 7 none :: ([.fieldLink RX7 98 "ReturnPointsModel" "prime" "I", .fieldLink RX7 43 "ReturnPointsModel" "goes" "[I", .fieldLink RX7 55 "ReturnPointsModel" "comes" "[I", .fieldLink RX7 58 "ReturnPointsModel" "seen" "[I", .fieldLink RX7 46 "ReturnPointsModel" "tail" "[I", .fieldLink RX7 49 "ReturnPointsModel" "period" "[I", .fieldLink RX7 52 "ReturnPointsModel" "least" "[I", .methodLink RX7 151 yX7_valueOf, .instanceMethod yX7_valueOf, .selects RX7 yX7_valueOf yX7_valueOf, .initialized RX7, .code yX7_valueOf cX7_valueOf 5 (some .int), .fieldLink RX7 28 "ReturnPointsModel" "degree" "[I", .fieldLink RX7 31 "ReturnPointsModel" "number" "[I"] ++ wsX70)
def wsX7_valuesOf : List Cond := .code yX7_valuesOf cX7_valuesOf 4 (some .int) :: ([.fieldLink RX7 98 "ReturnPointsModel" "prime" "I", .fieldLink RX7 55 "ReturnPointsModel" "comes" "[I", .methodLink RX7 155 yX7_findWays, .instanceMethod yX7_findWays, .selects RX7 yX7_findWays yX7_findWays, .initialized RX7, .code yX7_findWays cX7_findWays 7 none, .fieldLink RX7 43 "ReturnPointsModel" "goes" "[I", .fieldLink RX7 58 "ReturnPointsModel" "seen" "[I", .fieldLink RX7 46 "ReturnPointsModel" "tail" "[I", .fieldLink RX7 49 "ReturnPointsModel" "period" "[I", .fieldLink RX7 52 "ReturnPointsModel" "least" "[I", .methodLink RX7 151 yX7_valueOf, .instanceMethod yX7_valueOf, .selects RX7 yX7_valueOf yX7_valueOf, .code yX7_valueOf cX7_valueOf 5 (some .int), .fieldLink RX7 28 "ReturnPointsModel" "degree" "[I", .fieldLink RX7 31 "ReturnPointsModel" "number" "[I"] ++ wsX70)
def wsX7_began : List Cond := .code yX7_began cX7_began 2 none :: ([.fieldLink RX7 158 "ReturnPointsModel" "traced" "I", .fieldLink RX7 61 "ReturnPointsModel" "trace" "[I"] ++ wsX70)
def wsX7_plainSize_r1 : List Cond := [Cond.methodLink RX7 161 yX7_began, Cond.instanceMethod yX7_began, Cond.selects RX7 yX7_began yX7_began, Cond.initialized RX7, Cond.code yX7_began cX7_began 2 none, Cond.fieldLink RX7 158 "ReturnPointsModel" "traced" "I", Cond.fieldLink RX7 61 "ReturnPointsModel" "trace" "[I", Cond.methodLink RX7 164 yX7_valuesOf, Cond.instanceMethod yX7_valuesOf, Cond.selects RX7 yX7_valuesOf yX7_valuesOf, Cond.code yX7_valuesOf cX7_valuesOf 4 (some .int), Cond.fieldLink RX7 98 "ReturnPointsModel" "prime" "I", Cond.fieldLink RX7 55 "ReturnPointsModel" "comes" "[I", Cond.methodLink RX7 155 yX7_findWays, Cond.instanceMethod yX7_findWays, Cond.selects RX7 yX7_findWays yX7_findWays, Cond.code yX7_findWays cX7_findWays 7 none, Cond.fieldLink RX7 43 "ReturnPointsModel" "goes" "[I", Cond.fieldLink RX7 58 "ReturnPointsModel" "seen" "[I", Cond.fieldLink RX7 46 "ReturnPointsModel" "tail" "[I", Cond.fieldLink RX7 49 "ReturnPointsModel" "period" "[I", Cond.fieldLink RX7 52 "ReturnPointsModel" "least" "[I", Cond.methodLink RX7 151 yX7_valueOf, Cond.instanceMethod yX7_valueOf]
def wsX7_plainSize_r2 : List Cond := [Cond.selects RX7 yX7_valueOf yX7_valueOf, Cond.code yX7_valueOf cX7_valueOf 5 (some .int), Cond.fieldLink RX7 28 "ReturnPointsModel" "degree" "[I", Cond.fieldLink RX7 31 "ReturnPointsModel" "number" "[I"]
def wsX7_plainSize : List Cond := .code yX7_plainSize cX7_plainSize 2 (some .int) :: ((wsX7_plainSize_r1 ++ wsX7_plainSize_r2) ++ wsX70)
def wsX7_marked_r1 : List Cond := [Cond.fieldLink RX7 31 "ReturnPointsModel" "number" "[I", Cond.fieldLink RX7 98 "ReturnPointsModel" "prime" "I", Cond.fieldLink RX7 49 "ReturnPointsModel" "period" "[I", Cond.methodLink RX7 117 yX7_kindOf, Cond.instanceMethod yX7_kindOf, Cond.selects RX7 yX7_kindOf yX7_kindOf, Cond.initialized RX7, Cond.code yX7_kindOf cX7_kindOf 3 (some .int), Cond.fieldLink RX7 28 "ReturnPointsModel" "degree" "[I", Cond.methodLink RX7 161 yX7_began, Cond.instanceMethod yX7_began, Cond.selects RX7 yX7_began yX7_began, Cond.code yX7_began cX7_began 2 none, Cond.fieldLink RX7 158 "ReturnPointsModel" "traced" "I", Cond.fieldLink RX7 61 "ReturnPointsModel" "trace" "[I", Cond.methodLink RX7 167 yX7_plainSize, Cond.instanceMethod yX7_plainSize, Cond.selects RX7 yX7_plainSize yX7_plainSize, Cond.code yX7_plainSize cX7_plainSize 2 (some .int), Cond.methodLink RX7 164 yX7_valuesOf, Cond.instanceMethod yX7_valuesOf, Cond.selects RX7 yX7_valuesOf yX7_valuesOf, Cond.code yX7_valuesOf cX7_valuesOf 4 (some .int), Cond.fieldLink RX7 55 "ReturnPointsModel" "comes" "[I"]
def wsX7_marked_r2 : List Cond := [Cond.methodLink RX7 155 yX7_findWays, Cond.instanceMethod yX7_findWays, Cond.selects RX7 yX7_findWays yX7_findWays, Cond.code yX7_findWays cX7_findWays 7 none, Cond.fieldLink RX7 43 "ReturnPointsModel" "goes" "[I", Cond.fieldLink RX7 58 "ReturnPointsModel" "seen" "[I", Cond.fieldLink RX7 46 "ReturnPointsModel" "tail" "[I", Cond.fieldLink RX7 52 "ReturnPointsModel" "least" "[I", Cond.methodLink RX7 151 yX7_valueOf, Cond.instanceMethod yX7_valueOf, Cond.selects RX7 yX7_valueOf yX7_valueOf, Cond.code yX7_valueOf cX7_valueOf 5 (some .int), Cond.methodLink RX7 147 yX7_isOf, Cond.static yX7_isOf, Cond.code yX7_isOf cX7_isOf 2 (some .boolean)]
def wsX7_marked : List Cond := .code yX7_marked cX7_marked 4 (some .int) :: ((wsX7_marked_r1 ++ wsX7_marked_r2) ++ wsX70)
def wsX7_sized_r1 : List Cond := [Cond.fieldLink RX7 98 "ReturnPointsModel" "prime" "I", Cond.methodLink RX7 117 yX7_kindOf, Cond.instanceMethod yX7_kindOf, Cond.selects RX7 yX7_kindOf yX7_kindOf, Cond.initialized RX7, Cond.code yX7_kindOf cX7_kindOf 3 (some .int), Cond.fieldLink RX7 28 "ReturnPointsModel" "degree" "[I", Cond.fieldLink RX7 31 "ReturnPointsModel" "number" "[I", Cond.methodLink RX7 161 yX7_began, Cond.instanceMethod yX7_began, Cond.selects RX7 yX7_began yX7_began, Cond.code yX7_began cX7_began 2 none, Cond.fieldLink RX7 158 "ReturnPointsModel" "traced" "I", Cond.fieldLink RX7 61 "ReturnPointsModel" "trace" "[I", Cond.methodLink RX7 147 yX7_isOf, Cond.static yX7_isOf, Cond.code yX7_isOf cX7_isOf 2 (some .boolean), Cond.methodLink RX7 167 yX7_plainSize, Cond.instanceMethod yX7_plainSize, Cond.selects RX7 yX7_plainSize yX7_plainSize, Cond.code yX7_plainSize cX7_plainSize 2 (some .int), Cond.methodLink RX7 164 yX7_valuesOf, Cond.instanceMethod yX7_valuesOf, Cond.selects RX7 yX7_valuesOf yX7_valuesOf]
def wsX7_sized_r2 : List Cond := [Cond.code yX7_valuesOf cX7_valuesOf 4 (some .int), Cond.fieldLink RX7 55 "ReturnPointsModel" "comes" "[I", Cond.methodLink RX7 155 yX7_findWays, Cond.instanceMethod yX7_findWays, Cond.selects RX7 yX7_findWays yX7_findWays, Cond.code yX7_findWays cX7_findWays 7 none, Cond.fieldLink RX7 43 "ReturnPointsModel" "goes" "[I", Cond.fieldLink RX7 58 "ReturnPointsModel" "seen" "[I", Cond.fieldLink RX7 46 "ReturnPointsModel" "tail" "[I", Cond.fieldLink RX7 49 "ReturnPointsModel" "period" "[I", Cond.fieldLink RX7 52 "ReturnPointsModel" "least" "[I", Cond.methodLink RX7 151 yX7_valueOf, Cond.instanceMethod yX7_valueOf, Cond.selects RX7 yX7_valueOf yX7_valueOf, Cond.code yX7_valueOf cX7_valueOf 5 (some .int), Cond.methodLink RX7 170 yX7_marked, Cond.instanceMethod yX7_marked, Cond.selects RX7 yX7_marked yX7_marked, Cond.code yX7_marked cX7_marked 4 (some .int)]
def wsX7_sized : List Cond := .code yX7_sized cX7_sized 4 (some .int) :: ((wsX7_sized_r1 ++ wsX7_sized_r2) ++ wsX70)
def wsX7_ask_r1 : List Cond := [Cond.fieldLink RX7 1 "ReturnPointsModel" "thrown" "I", Cond.constant RX7 108 (-1000001), Cond.fieldLink RX7 158 "ReturnPointsModel" "traced" "I", Cond.methodLink RX7 120 yX7_isPlace, Cond.static yX7_isPlace, Cond.initialized RX7, Cond.code yX7_isPlace cX7_isPlace 1 (some .boolean), Cond.constantLong RX7 115 (9), Cond.methodLink RX7 90 yX7_in, Cond.static yX7_in, Cond.code yX7_in cX7_in 6 (some .boolean), Cond.methodLink RX7 144 yX7_look, Cond.instanceMethod yX7_look, Cond.selects RX7 yX7_look yX7_look, Cond.code yX7_look cX7_look 2 (some .int), Cond.fieldLink RX7 7 "ReturnPointsModel" "status" "I", Cond.fieldLink RX7 28 "ReturnPointsModel" "degree" "[I", Cond.methodLink RX7 109 yX7_found, Cond.instanceMethod yX7_found, Cond.selects RX7 yX7_found yX7_found, Cond.code yX7_found cX7_found 2 (some .int), Cond.constant RX7 10 (-1000010), Cond.methodLink RX7 173 yX7_sized, Cond.instanceMethod yX7_sized]
def wsX7_ask_r2 : List Cond := [Cond.selects RX7 yX7_sized yX7_sized, Cond.code yX7_sized cX7_sized 4 (some .int), Cond.fieldLink RX7 98 "ReturnPointsModel" "prime" "I", Cond.methodLink RX7 117 yX7_kindOf, Cond.instanceMethod yX7_kindOf, Cond.selects RX7 yX7_kindOf yX7_kindOf, Cond.code yX7_kindOf cX7_kindOf 3 (some .int), Cond.fieldLink RX7 31 "ReturnPointsModel" "number" "[I", Cond.methodLink RX7 161 yX7_began, Cond.instanceMethod yX7_began, Cond.selects RX7 yX7_began yX7_began, Cond.code yX7_began cX7_began 2 none, Cond.fieldLink RX7 61 "ReturnPointsModel" "trace" "[I", Cond.methodLink RX7 147 yX7_isOf, Cond.static yX7_isOf, Cond.code yX7_isOf cX7_isOf 2 (some .boolean), Cond.methodLink RX7 167 yX7_plainSize, Cond.instanceMethod yX7_plainSize, Cond.selects RX7 yX7_plainSize yX7_plainSize, Cond.code yX7_plainSize cX7_plainSize 2 (some .int), Cond.methodLink RX7 164 yX7_valuesOf, Cond.instanceMethod yX7_valuesOf, Cond.selects RX7 yX7_valuesOf yX7_valuesOf, Cond.code yX7_valuesOf cX7_valuesOf 4 (some .int)]
def wsX7_ask_r3 : List Cond := [Cond.fieldLink RX7 55 "ReturnPointsModel" "comes" "[I", Cond.methodLink RX7 155 yX7_findWays, Cond.instanceMethod yX7_findWays, Cond.selects RX7 yX7_findWays yX7_findWays, Cond.code yX7_findWays cX7_findWays 7 none, Cond.fieldLink RX7 43 "ReturnPointsModel" "goes" "[I", Cond.fieldLink RX7 58 "ReturnPointsModel" "seen" "[I", Cond.fieldLink RX7 46 "ReturnPointsModel" "tail" "[I", Cond.fieldLink RX7 49 "ReturnPointsModel" "period" "[I", Cond.fieldLink RX7 52 "ReturnPointsModel" "least" "[I", Cond.methodLink RX7 151 yX7_valueOf, Cond.instanceMethod yX7_valueOf, Cond.selects RX7 yX7_valueOf yX7_valueOf, Cond.code yX7_valueOf cX7_valueOf 5 (some .int), Cond.methodLink RX7 170 yX7_marked, Cond.instanceMethod yX7_marked, Cond.selects RX7 yX7_marked yX7_marked, Cond.code yX7_marked cX7_marked 4 (some .int)]
def wsX7_ask : List Cond := .code yX7_ask cX7_ask 4 (some .int) :: ((wsX7_ask_r1 ++ (wsX7_ask_r2 ++ wsX7_ask_r3)) ++ wsX70)
def wsX7_trace : List Cond := .code yX7_trace cX7_trace 2 (some .int) :: ([.fieldLink RX7 1 "ReturnPointsModel" "thrown" "I", .fieldLink RX7 158 "ReturnPointsModel" "traced" "I", .fieldLink RX7 61 "ReturnPointsModel" "trace" "[I", .constant RX7 176 (-1000000), .methodLink RX7 90 yX7_in, .static yX7_in, .initialized RX7, .code yX7_in cX7_in 6 (some .boolean)] ++ wsX70)
def wsX7_step_r1 : List Cond := [Cond.fieldLink RX7 1 "ReturnPointsModel" "thrown" "I", Cond.fieldLink RX7 98 "ReturnPointsModel" "prime" "I", Cond.constantLong RX7 177 (1000000000), Cond.constant RX7 108 (-1000001), Cond.fieldLink RX7 46 "ReturnPointsModel" "tail" "[I", Cond.fieldLink RX7 49 "ReturnPointsModel" "period" "[I", Cond.fieldLink RX7 43 "ReturnPointsModel" "goes" "[I", Cond.methodLink RX7 120 yX7_isPlace, Cond.static yX7_isPlace, Cond.initialized RX7, Cond.code yX7_isPlace cX7_isPlace 1 (some .boolean), Cond.constantLong RX7 115 (9), Cond.methodLink RX7 90 yX7_in, Cond.static yX7_in, Cond.code yX7_in cX7_in 6 (some .boolean), Cond.methodLink RX7 144 yX7_look, Cond.instanceMethod yX7_look, Cond.selects RX7 yX7_look yX7_look, Cond.code yX7_look cX7_look 2 (some .int), Cond.fieldLink RX7 7 "ReturnPointsModel" "status" "I", Cond.fieldLink RX7 28 "ReturnPointsModel" "degree" "[I", Cond.methodLink RX7 109 yX7_found, Cond.instanceMethod yX7_found, Cond.selects RX7 yX7_found yX7_found]
def wsX7_step_r2 : List Cond := [Cond.code yX7_found cX7_found 2 (some .int), Cond.constant RX7 10 (-1000010), Cond.methodLink RX7 155 yX7_findWays, Cond.instanceMethod yX7_findWays, Cond.selects RX7 yX7_findWays yX7_findWays, Cond.code yX7_findWays cX7_findWays 7 none, Cond.fieldLink RX7 55 "ReturnPointsModel" "comes" "[I", Cond.fieldLink RX7 58 "ReturnPointsModel" "seen" "[I", Cond.fieldLink RX7 52 "ReturnPointsModel" "least" "[I", Cond.methodLink RX7 151 yX7_valueOf, Cond.instanceMethod yX7_valueOf, Cond.selects RX7 yX7_valueOf yX7_valueOf, Cond.code yX7_valueOf cX7_valueOf 5 (some .int), Cond.fieldLink RX7 31 "ReturnPointsModel" "number" "[I"]
def wsX7_step : List Cond := .code yX7_step cX7_step 8 (some .int) :: ((wsX7_step_r1 ++ wsX7_step_r2) ++ wsX70)
def wsX7_ringOf : List Cond := .code yX7_ringOf cX7_ringOf 4 (some .int) :: ([.fieldLink RX7 46 "ReturnPointsModel" "tail" "[I", .fieldLink RX7 52 "ReturnPointsModel" "least" "[I"] ++ wsX70)
def wsX7_way_r1 : List Cond := [Cond.fieldLink RX7 1 "ReturnPointsModel" "thrown" "I", Cond.fieldLink RX7 98 "ReturnPointsModel" "prime" "I", Cond.constantLong RX7 86 (3), Cond.constant RX7 108 (-1000001), Cond.fieldLink RX7 46 "ReturnPointsModel" "tail" "[I", Cond.fieldLink RX7 49 "ReturnPointsModel" "period" "[I", Cond.fieldLink RX7 52 "ReturnPointsModel" "least" "[I", Cond.fieldLink RX7 55 "ReturnPointsModel" "comes" "[I", Cond.methodLink RX7 120 yX7_isPlace, Cond.static yX7_isPlace, Cond.initialized RX7, Cond.code yX7_isPlace cX7_isPlace 1 (some .boolean), Cond.constantLong RX7 115 (9), Cond.methodLink RX7 90 yX7_in, Cond.static yX7_in, Cond.code yX7_in cX7_in 6 (some .boolean), Cond.methodLink RX7 144 yX7_look, Cond.instanceMethod yX7_look, Cond.selects RX7 yX7_look yX7_look, Cond.code yX7_look cX7_look 2 (some .int), Cond.fieldLink RX7 7 "ReturnPointsModel" "status" "I", Cond.fieldLink RX7 28 "ReturnPointsModel" "degree" "[I", Cond.methodLink RX7 109 yX7_found, Cond.instanceMethod yX7_found]
def wsX7_way_r2 : List Cond := [Cond.selects RX7 yX7_found yX7_found, Cond.code yX7_found cX7_found 2 (some .int), Cond.constant RX7 10 (-1000010), Cond.methodLink RX7 155 yX7_findWays, Cond.instanceMethod yX7_findWays, Cond.selects RX7 yX7_findWays yX7_findWays, Cond.code yX7_findWays cX7_findWays 7 none, Cond.fieldLink RX7 43 "ReturnPointsModel" "goes" "[I", Cond.fieldLink RX7 58 "ReturnPointsModel" "seen" "[I", Cond.methodLink RX7 151 yX7_valueOf, Cond.instanceMethod yX7_valueOf, Cond.selects RX7 yX7_valueOf yX7_valueOf, Cond.code yX7_valueOf cX7_valueOf 5 (some .int), Cond.fieldLink RX7 31 "ReturnPointsModel" "number" "[I", Cond.methodLink RX7 179 yX7_ringOf, Cond.instanceMethod yX7_ringOf, Cond.selects RX7 yX7_ringOf yX7_ringOf, Cond.code yX7_ringOf cX7_ringOf 4 (some .int)]
def wsX7_way : List Cond := .code yX7_way cX7_way 5 (some .int) :: ((wsX7_way_r1 ++ wsX7_way_r2) ++ wsX70)
def wsX7_times : List Cond := .code yX7_times cX7_times 6 (some .int) :: ([.fieldLink RX7 49 "ReturnPointsModel" "period" "[I", .fieldLink RX7 98 "ReturnPointsModel" "prime" "I", .fieldLink RX7 43 "ReturnPointsModel" "goes" "[I", .methodLink RX7 182 yX7_slopeOf, .instanceMethod yX7_slopeOf, .selects RX7 yX7_slopeOf yX7_slopeOf, .initialized RX7, .code yX7_slopeOf cX7_slopeOf 5 (some .int), .fieldLink RX7 28 "ReturnPointsModel" "degree" "[I", .fieldLink RX7 31 "ReturnPointsModel" "number" "[I"] ++ wsX70)
def wsX7_ring_r1 : List Cond := [Cond.fieldLink RX7 1 "ReturnPointsModel" "thrown" "I", Cond.constantLong RX7 86 (3), Cond.constant RX7 108 (-1000001), Cond.constant RX7 176 (-1000000), Cond.fieldLink RX7 98 "ReturnPointsModel" "prime" "I", Cond.fieldLink RX7 46 "ReturnPointsModel" "tail" "[I", Cond.fieldLink RX7 52 "ReturnPointsModel" "least" "[I", Cond.fieldLink RX7 49 "ReturnPointsModel" "period" "[I", Cond.methodLink RX7 120 yX7_isPlace, Cond.static yX7_isPlace, Cond.initialized RX7, Cond.code yX7_isPlace cX7_isPlace 1 (some .boolean), Cond.constantLong RX7 115 (9), Cond.methodLink RX7 90 yX7_in, Cond.static yX7_in, Cond.code yX7_in cX7_in 6 (some .boolean), Cond.methodLink RX7 144 yX7_look, Cond.instanceMethod yX7_look, Cond.selects RX7 yX7_look yX7_look, Cond.code yX7_look cX7_look 2 (some .int), Cond.fieldLink RX7 7 "ReturnPointsModel" "status" "I", Cond.fieldLink RX7 28 "ReturnPointsModel" "degree" "[I", Cond.methodLink RX7 109 yX7_found, Cond.instanceMethod yX7_found]
def wsX7_ring_r2 : List Cond := [Cond.selects RX7 yX7_found yX7_found, Cond.code yX7_found cX7_found 2 (some .int), Cond.constant RX7 10 (-1000010), Cond.methodLink RX7 155 yX7_findWays, Cond.instanceMethod yX7_findWays, Cond.selects RX7 yX7_findWays yX7_findWays, Cond.code yX7_findWays cX7_findWays 7 none, Cond.fieldLink RX7 43 "ReturnPointsModel" "goes" "[I", Cond.fieldLink RX7 55 "ReturnPointsModel" "comes" "[I", Cond.fieldLink RX7 58 "ReturnPointsModel" "seen" "[I", Cond.methodLink RX7 151 yX7_valueOf, Cond.instanceMethod yX7_valueOf, Cond.selects RX7 yX7_valueOf yX7_valueOf, Cond.code yX7_valueOf cX7_valueOf 5 (some .int), Cond.fieldLink RX7 31 "ReturnPointsModel" "number" "[I", Cond.methodLink RX7 185 yX7_times, Cond.instanceMethod yX7_times, Cond.selects RX7 yX7_times yX7_times, Cond.code yX7_times cX7_times 6 (some .int), Cond.methodLink RX7 182 yX7_slopeOf, Cond.instanceMethod yX7_slopeOf, Cond.selects RX7 yX7_slopeOf yX7_slopeOf, Cond.code yX7_slopeOf cX7_slopeOf 5 (some .int)]
def wsX7_ring : List Cond := .code yX7_ring cX7_ring 9 (some .int) :: ((wsX7_ring_r1 ++ wsX7_ring_r2) ++ wsX70)
def wsX7_all_r1 : List Cond := [Cond.fieldLink RX7 1 "ReturnPointsModel" "thrown" "I", Cond.constantLong RX7 123 (5), Cond.constant RX7 108 (-1000001), Cond.fieldLink RX7 98 "ReturnPointsModel" "prime" "I", Cond.fieldLink RX7 46 "ReturnPointsModel" "tail" "[I", Cond.fieldLink RX7 52 "ReturnPointsModel" "least" "[I", Cond.fieldLink RX7 49 "ReturnPointsModel" "period" "[I", Cond.fieldLink RX7 55 "ReturnPointsModel" "comes" "[I", Cond.methodLink RX7 120 yX7_isPlace, Cond.static yX7_isPlace, Cond.initialized RX7, Cond.code yX7_isPlace cX7_isPlace 1 (some .boolean), Cond.constantLong RX7 115 (9), Cond.methodLink RX7 90 yX7_in, Cond.static yX7_in, Cond.code yX7_in cX7_in 6 (some .boolean), Cond.methodLink RX7 144 yX7_look, Cond.instanceMethod yX7_look, Cond.selects RX7 yX7_look yX7_look, Cond.code yX7_look cX7_look 2 (some .int), Cond.fieldLink RX7 7 "ReturnPointsModel" "status" "I", Cond.fieldLink RX7 28 "ReturnPointsModel" "degree" "[I", Cond.methodLink RX7 109 yX7_found, Cond.instanceMethod yX7_found]
def wsX7_all_r2 : List Cond := [Cond.selects RX7 yX7_found yX7_found, Cond.code yX7_found cX7_found 2 (some .int), Cond.constant RX7 10 (-1000010), Cond.methodLink RX7 155 yX7_findWays, Cond.instanceMethod yX7_findWays, Cond.selects RX7 yX7_findWays yX7_findWays, Cond.code yX7_findWays cX7_findWays 7 none, Cond.fieldLink RX7 43 "ReturnPointsModel" "goes" "[I", Cond.fieldLink RX7 58 "ReturnPointsModel" "seen" "[I", Cond.methodLink RX7 151 yX7_valueOf, Cond.instanceMethod yX7_valueOf, Cond.selects RX7 yX7_valueOf yX7_valueOf, Cond.code yX7_valueOf cX7_valueOf 5 (some .int), Cond.fieldLink RX7 31 "ReturnPointsModel" "number" "[I", Cond.methodLink RX7 185 yX7_times, Cond.instanceMethod yX7_times, Cond.selects RX7 yX7_times yX7_times, Cond.code yX7_times cX7_times 6 (some .int), Cond.methodLink RX7 182 yX7_slopeOf, Cond.instanceMethod yX7_slopeOf, Cond.selects RX7 yX7_slopeOf yX7_slopeOf, Cond.code yX7_slopeOf cX7_slopeOf 5 (some .int)]
def wsX7_all : List Cond := .code yX7_all cX7_all 12 (some .int) :: ((wsX7_all_r1 ++ wsX7_all_r2) ++ wsX70)
def wsX7_alike_r1 : List Cond := [Cond.fieldLink RX7 1 "ReturnPointsModel" "thrown" "I", Cond.constant RX7 108 (-1000001), Cond.fieldLink RX7 7 "ReturnPointsModel" "status" "I", Cond.fieldLink RX7 28 "ReturnPointsModel" "degree" "[I", Cond.constant RX7 64 (40000), Cond.fieldLink RX7 65 "ReturnPointsModel" "counted" "[I", Cond.fieldLink RX7 98 "ReturnPointsModel" "prime" "I", Cond.fieldLink RX7 46 "ReturnPointsModel" "tail" "[I", Cond.fieldLink RX7 49 "ReturnPointsModel" "period" "[I", Cond.methodLink RX7 120 yX7_isPlace, Cond.static yX7_isPlace, Cond.initialized RX7, Cond.code yX7_isPlace cX7_isPlace 1 (some .boolean), Cond.constantLong RX7 115 (9), Cond.methodLink RX7 90 yX7_in, Cond.static yX7_in, Cond.code yX7_in cX7_in 6 (some .boolean), Cond.methodLink RX7 109 yX7_found, Cond.instanceMethod yX7_found, Cond.selects RX7 yX7_found yX7_found, Cond.code yX7_found cX7_found 2 (some .int), Cond.constant RX7 10 (-1000010), Cond.methodLink RX7 155 yX7_findWays, Cond.instanceMethod yX7_findWays]
def wsX7_alike_r2 : List Cond := [Cond.selects RX7 yX7_findWays yX7_findWays, Cond.code yX7_findWays cX7_findWays 7 none, Cond.fieldLink RX7 43 "ReturnPointsModel" "goes" "[I", Cond.fieldLink RX7 55 "ReturnPointsModel" "comes" "[I", Cond.fieldLink RX7 58 "ReturnPointsModel" "seen" "[I", Cond.fieldLink RX7 52 "ReturnPointsModel" "least" "[I", Cond.methodLink RX7 151 yX7_valueOf, Cond.instanceMethod yX7_valueOf, Cond.selects RX7 yX7_valueOf yX7_valueOf, Cond.code yX7_valueOf cX7_valueOf 5 (some .int), Cond.fieldLink RX7 31 "ReturnPointsModel" "number" "[I"]
def wsX7_alike : List Cond := .code yX7_alike cX7_alike 5 (some .int) :: ((wsX7_alike_r1 ++ wsX7_alike_r2) ++ wsX70)
def wsX7_goOn : List Cond := .code yX7_goOn cX7_goOn 5 none :: ([.fieldLink RX7 71 "ReturnPointsModel" "next" "[I", .fieldLink RX7 28 "ReturnPointsModel" "degree" "[I", .fieldLink RX7 74 "ReturnPointsModel" "rest" "[I", .fieldLink RX7 68 "ReturnPointsModel" "done" "[I", .fieldLink RX7 98 "ReturnPointsModel" "prime" "I", .fieldLink RX7 31 "ReturnPointsModel" "number" "[I"] ++ wsX70)
def wsX7_degreeOf : List Cond := .code yX7_degreeOf cX7_degreeOf 4 (some .int) :: ([.fieldLink RX7 80 "ReturnPointsModel" "rounds" "[I"] ++ wsX70)
def wsX7_divide : List Cond := .code yX7_divide cX7_divide 7 none :: ([.fieldLink RX7 80 "ReturnPointsModel" "rounds" "[I", .fieldLink RX7 77 "ReturnPointsModel" "quotient" "[I", .fieldLink RX7 74 "ReturnPointsModel" "rest" "[I", .fieldLink RX7 98 "ReturnPointsModel" "prime" "I", .methodLink RX7 188 yX7_degreeOf, .instanceMethod yX7_degreeOf, .selects RX7 yX7_degreeOf yX7_degreeOf, .initialized RX7, .code yX7_degreeOf cX7_degreeOf 4 (some .int), .methodLink RX7 136 yX7_inverse, .instanceMethod yX7_inverse, .selects RX7 yX7_inverse yX7_inverse, .code yX7_inverse cX7_inverse 4 (some .int)] ++ wsX70)
def wsX7_findRounds_r1 : List Cond := [Cond.fieldLink RX7 68 "ReturnPointsModel" "done" "[I", Cond.fieldLink RX7 74 "ReturnPointsModel" "rest" "[I", Cond.fieldLink RX7 98 "ReturnPointsModel" "prime" "I", Cond.fieldLink RX7 80 "ReturnPointsModel" "rounds" "[I", Cond.methodLink RX7 191 yX7_goOn, Cond.instanceMethod yX7_goOn, Cond.selects RX7 yX7_goOn yX7_goOn, Cond.initialized RX7, Cond.code yX7_goOn cX7_goOn 5 none, Cond.fieldLink RX7 71 "ReturnPointsModel" "next" "[I", Cond.fieldLink RX7 28 "ReturnPointsModel" "degree" "[I", Cond.fieldLink RX7 31 "ReturnPointsModel" "number" "[I", Cond.methodLink RX7 194 yX7_divide, Cond.instanceMethod yX7_divide, Cond.selects RX7 yX7_divide yX7_divide, Cond.code yX7_divide cX7_divide 7 none, Cond.fieldLink RX7 77 "ReturnPointsModel" "quotient" "[I", Cond.methodLink RX7 188 yX7_degreeOf, Cond.instanceMethod yX7_degreeOf, Cond.selects RX7 yX7_degreeOf yX7_degreeOf, Cond.code yX7_degreeOf cX7_degreeOf 4 (some .int), Cond.methodLink RX7 136 yX7_inverse, Cond.instanceMethod yX7_inverse, Cond.selects RX7 yX7_inverse yX7_inverse]
def wsX7_findRounds_r2 : List Cond := [Cond.code yX7_inverse cX7_inverse 4 (some .int)]
def wsX7_findRounds : List Cond := .code yX7_findRounds cX7_findRounds 5 none :: ((wsX7_findRounds_r1 ++ wsX7_findRounds_r2) ++ wsX70)
def wsX7_round_r1 : List Cond := [Cond.fieldLink RX7 1 "ReturnPointsModel" "thrown" "I", Cond.constantLong RX7 197 (6), Cond.constant RX7 108 (-1000001), Cond.fieldLink RX7 7 "ReturnPointsModel" "status" "I", Cond.fieldLink RX7 28 "ReturnPointsModel" "degree" "[I", Cond.constant RX7 139 (-1000003), Cond.fieldLink RX7 80 "ReturnPointsModel" "rounds" "[I", Cond.methodLink RX7 120 yX7_isPlace, Cond.static yX7_isPlace, Cond.initialized RX7, Cond.code yX7_isPlace cX7_isPlace 1 (some .boolean), Cond.constantLong RX7 115 (9), Cond.methodLink RX7 90 yX7_in, Cond.static yX7_in, Cond.code yX7_in cX7_in 6 (some .boolean), Cond.methodLink RX7 144 yX7_look, Cond.instanceMethod yX7_look, Cond.selects RX7 yX7_look yX7_look, Cond.code yX7_look cX7_look 2 (some .int), Cond.methodLink RX7 109 yX7_found, Cond.instanceMethod yX7_found, Cond.selects RX7 yX7_found yX7_found, Cond.code yX7_found cX7_found 2 (some .int), Cond.constant RX7 10 (-1000010)]
def wsX7_round_r2 : List Cond := [Cond.methodLink RX7 199 yX7_findRounds, Cond.instanceMethod yX7_findRounds, Cond.selects RX7 yX7_findRounds yX7_findRounds, Cond.code yX7_findRounds cX7_findRounds 5 none, Cond.fieldLink RX7 68 "ReturnPointsModel" "done" "[I", Cond.fieldLink RX7 74 "ReturnPointsModel" "rest" "[I", Cond.fieldLink RX7 98 "ReturnPointsModel" "prime" "I", Cond.methodLink RX7 191 yX7_goOn, Cond.instanceMethod yX7_goOn, Cond.selects RX7 yX7_goOn yX7_goOn, Cond.code yX7_goOn cX7_goOn 5 none, Cond.fieldLink RX7 71 "ReturnPointsModel" "next" "[I", Cond.fieldLink RX7 31 "ReturnPointsModel" "number" "[I", Cond.methodLink RX7 194 yX7_divide, Cond.instanceMethod yX7_divide, Cond.selects RX7 yX7_divide yX7_divide, Cond.code yX7_divide cX7_divide 7 none, Cond.fieldLink RX7 77 "ReturnPointsModel" "quotient" "[I", Cond.methodLink RX7 188 yX7_degreeOf, Cond.instanceMethod yX7_degreeOf, Cond.selects RX7 yX7_degreeOf yX7_degreeOf, Cond.code yX7_degreeOf cX7_degreeOf 4 (some .int), Cond.methodLink RX7 136 yX7_inverse, Cond.instanceMethod yX7_inverse]
def wsX7_round_r3 : List Cond := [Cond.selects RX7 yX7_inverse yX7_inverse, Cond.code yX7_inverse cX7_inverse 4 (some .int)]
def wsX7_round : List Cond := .code yX7_round cX7_round 8 (some .int) :: ((wsX7_round_r1 ++ (wsX7_round_r2 ++ wsX7_round_r3)) ++ wsX70)
def wsX7_divisor : List Cond := .code yX7_divisor cX7_divisor 5 (some .int) :: ([])
def wsX7_isFraction : List Cond := .code yX7_isFraction cX7_isFraction 2 (some .boolean) :: ([.constantLong RX7 203 (-10000), .constantLong RX7 205 (10000), .constantLong RX7 207 (30), .methodLink RX7 90 yX7_in, .static yX7_in, .initialized RX7, .code yX7_in cX7_in 6 (some .boolean), .methodLink RX7 209 yX7_divisor, .static yX7_divisor, .code yX7_divisor cX7_divisor 5 (some .int)])
def wsX7_nextOf : List Cond := .code yX7_nextOf cX7_nextOf 4 (some .int) :: ([.constant RX7 176 (-1000000), .methodLink RX7 209 yX7_divisor, .static yX7_divisor, .initialized RX7, .code yX7_divisor cX7_divisor 5 (some .int)])
def wsX7_returns : List Cond := .code yX7_returns cX7_returns 6 (some .boolean) :: ([.fieldLink RX7 83 "ReturnPointsModel" "met" "[I", .constantLong RX7 212 (-120), .constantLong RX7 214 (120), .fieldLink RX7 220 "ReturnPointsModel" "fractionTail" "I", .fieldLink RX7 223 "ReturnPointsModel" "fractionPeriod" "I", .methodLink RX7 209 yX7_divisor, .static yX7_divisor, .initialized RX7, .code yX7_divisor cX7_divisor 5 (some .int), .methodLink RX7 90 yX7_in, .static yX7_in, .code yX7_in cX7_in 6 (some .boolean), .methodLink RX7 216 yX7_nextOf, .static yX7_nextOf, .code yX7_nextOf cX7_nextOf 4 (some .int), .constant RX7 176 (-1000000)] ++ wsX70)
def wsX7_fraction_r1 : List Cond := [Cond.fieldLink RX7 1 "ReturnPointsModel" "thrown" "I", Cond.constantLong RX7 106 (2), Cond.constant RX7 108 (-1000001), Cond.fieldLink RX7 220 "ReturnPointsModel" "fractionTail" "I", Cond.fieldLink RX7 223 "ReturnPointsModel" "fractionPeriod" "I", Cond.constant RX7 176 (-1000000), Cond.methodLink RX7 226 yX7_isFraction, Cond.static yX7_isFraction, Cond.initialized RX7, Cond.code yX7_isFraction cX7_isFraction 2 (some .boolean), Cond.constantLong RX7 203 (-10000), Cond.constantLong RX7 205 (10000), Cond.constantLong RX7 207 (30), Cond.methodLink RX7 90 yX7_in, Cond.static yX7_in, Cond.code yX7_in cX7_in 6 (some .boolean), Cond.methodLink RX7 209 yX7_divisor, Cond.static yX7_divisor, Cond.code yX7_divisor cX7_divisor 5 (some .int), Cond.methodLink RX7 229 yX7_returns, Cond.instanceMethod yX7_returns, Cond.selects RX7 yX7_returns yX7_returns, Cond.code yX7_returns cX7_returns 6 (some .boolean), Cond.fieldLink RX7 83 "ReturnPointsModel" "met" "[I"]
def wsX7_fraction_r2 : List Cond := [Cond.constantLong RX7 212 (-120), Cond.constantLong RX7 214 (120), Cond.methodLink RX7 216 yX7_nextOf, Cond.static yX7_nextOf, Cond.code yX7_nextOf cX7_nextOf 4 (some .int)]
def wsX7_fraction : List Cond := .code yX7_fraction cX7_fraction 7 (some .int) :: ((wsX7_fraction_r1 ++ wsX7_fraction_r2) ++ wsX70)
def wsX7_next : List Cond := .code yX7_next cX7_next 4 (some .int) :: ([.fieldLink RX7 1 "ReturnPointsModel" "thrown" "I", .constantLong RX7 233 (-1000), .constantLong RX7 235 (1000), .constant RX7 108 (-1000001), .methodLink RX7 226 yX7_isFraction, .static yX7_isFraction, .initialized RX7, .code yX7_isFraction cX7_isFraction 2 (some .boolean), .constantLong RX7 203 (-10000), .constantLong RX7 205 (10000), .constantLong RX7 207 (30), .methodLink RX7 90 yX7_in, .static yX7_in, .code yX7_in cX7_in 6 (some .boolean), .methodLink RX7 209 yX7_divisor, .static yX7_divisor, .code yX7_divisor cX7_divisor 5 (some .int), .methodLink RX7 216 yX7_nextOf, .static yX7_nextOf, .code yX7_nextOf cX7_nextOf 4 (some .int), .constant RX7 176 (-1000000)] ++ wsX70)
def wsX7_count : List Cond := .code yX7_count cX7_count 4 (some .int) :: ([.fieldLink RX7 1 "ReturnPointsModel" "thrown" "I", .fieldLink RX7 17 "ReturnPointsModel" "lane" "[I", .fieldLink RX7 28 "ReturnPointsModel" "degree" "[I", .fieldLink RX7 98 "ReturnPointsModel" "prime" "I", .constant RX7 108 (-1000001), .methodLink RX7 117 yX7_kindOf, .instanceMethod yX7_kindOf, .selects RX7 yX7_kindOf yX7_kindOf, .initialized RX7, .code yX7_kindOf cX7_kindOf 3 (some .int), .fieldLink RX7 31 "ReturnPointsModel" "number" "[I", .methodLink RX7 147 yX7_isOf, .static yX7_isOf, .code yX7_isOf cX7_isOf 2 (some .boolean)] ++ wsX70)
def wsX7_status : List Cond := .code yX7_status cX7_status 1 (some .int) :: ([.fieldLink RX7 1 "ReturnPointsModel" "thrown" "I", .fieldLink RX7 7 "ReturnPointsModel" "status" "I"] ++ wsX70)
def wsJ9_abs_0f7a4 : List Cond := .code yJ9_abs_0f7a4 cJ9_abs_0f7a4 1 (some .int) :: ([])
def wsJ9_max_7cf53 : List Cond := .code yJ9_max_7cf53 cJ9_max_7cf53 2 (some .int) :: ([])
def wsJ9_min_7cf53 : List Cond := .code yJ9_min_7cf53 cJ9_min_7cf53 2 (some .int) :: ([])
def wsL_cell : List Cond := .code yL_cell cL_cell 2 (some .int) :: ([])
def wsL_law_r1 : List Cond := [Cond.classLink RL 7 RX6, Cond.instantiable RX6 10, Cond.initialized RX6, Cond.classLink RL 18 RX7, Cond.instantiable RX7 28, Cond.initialized RX7, Cond.constantLong RL 26 (4294967295), Cond.methodLink RL 9 yL_cell, Cond.static yL_cell, Cond.initialized RL, Cond.code yL_cell cL_cell 2 (some .int), Cond.methodLink RL 15 yX6_init, Cond.instanceMethod yX6_init, Cond.code yX6_init cX6_init 2 none, Cond.methodLink RX6 1 objectInit, Cond.instanceMethod objectInit, Cond.code objectInit ⟨#[0xb1]⟩ 1 none, Cond.fieldLink RX6 13 "ReturnPoints" "p" "I", Cond.classLink RX6 17 RX5, Cond.fieldLink RX6 19 "ReturnPoints" "sheets" "[LReturnPoints$Sheet;", Cond.classLink RX6 23 RX2, Cond.fieldLink RX6 25 "ReturnPoints" "shelf" "[LReturnPoints$Poly;", Cond.arrayClass .int, Cond.fieldLink RX6 29 "ReturnPoints" "trace" "[I"]
def wsL_law_r2 : List Cond := [Cond.classLink RX6 33 RX3, Cond.instantiable RX3 12, Cond.initialized RX3, Cond.fieldLink RX6 38 "ReturnPoints" "roads" "LReturnPoints$Roads;", Cond.fieldLink RX6 42 "ReturnPoints" "otherRoads" "LReturnPoints$Roads;", Cond.classLink RX6 45 RX4, Cond.instantiable RX4 7, Cond.initialized RX4, Cond.fieldLink RX6 48 "ReturnPoints" "rounds" "LReturnPoints$Rounds;", Cond.classLink RX6 52 RX0, Cond.instantiable RX0 5, Cond.initialized RX0, Cond.fieldLink RX6 55 "ReturnPoints" "fractions" "LReturnPoints$Fractions;", Cond.fieldLink RX6 59 "ReturnPoints" "traced" "I", Cond.fieldLink RX6 62 "ReturnPoints" "status" "I", Cond.methodLink RX6 7 yX6_isPrimeHere, Cond.static yX6_isPrimeHere, Cond.code yX6_isPrimeHere cX6_isPrimeHere 2 (some .boolean), Cond.methodLink RX6 35 yX3_init, Cond.instanceMethod yX3_init, Cond.code yX3_init cX3_init 2 none, Cond.methodLink RX3 3 objectInit, Cond.fieldLink RX3 9 "ReturnPoints$Roads" "p" "I", Cond.classLink RX3 15 RX1]
def wsL_law_r3 : List Cond := [Cond.instantiable RX1 6, Cond.initialized RX1, Cond.fieldLink RX3 20 "ReturnPoints$Roads" "orbits" "LReturnPoints$Orbits;", Cond.fieldLink RX3 24 "ReturnPoints$Roads" "comers" "[I", Cond.fieldLink RX3 28 "ReturnPoints$Roads" "ringOf" "[I", Cond.fieldLink RX3 31 "ReturnPoints$Roads" "length" "[I", Cond.fieldLink RX3 34 "ReturnPoints$Roads" "least" "[I", Cond.fieldLink RX3 37 "ReturnPoints$Roads" "multiplier" "[I", Cond.fieldLink RX3 40 "ReturnPoints$Roads" "basin" "[I", Cond.fieldLink RX3 43 "ReturnPoints$Roads" "byTail" "[I", Cond.fieldLink RX3 46 "ReturnPoints$Roads" "compared" "[I", Cond.fieldLink RX3 49 "ReturnPoints$Roads" "rings" "I", Cond.fieldLink RX3 52 "ReturnPoints$Roads" "surveyed" "LReturnPoints$Poly;", Cond.methodLink RX3 17 yX1_init, Cond.instanceMethod yX1_init, Cond.code yX1_init cX1_init 2 none, Cond.methodLink RX1 1 objectInit, Cond.fieldLink RX1 7 "ReturnPoints$Orbits" "size" "I", Cond.fieldLink RX1 13 "ReturnPoints$Orbits" "next" "[I", Cond.fieldLink RX1 17 "ReturnPoints$Orbits" "tail" "[I", Cond.fieldLink RX1 20 "ReturnPoints$Orbits" "period" "[I", Cond.fieldLink RX1 23 "ReturnPoints$Orbits" "entry" "[I", Cond.fieldLink RX1 26 "ReturnPoints$Orbits" "path" "[I", Cond.methodLink RX6 47 yX4_init]
def wsL_law_r4 : List Cond := [Cond.instanceMethod yX4_init, Cond.code yX4_init cX4_init 2 none, Cond.methodLink RX4 3 objectInit, Cond.fieldLink RX4 9 "ReturnPoints$Rounds" "p" "I", Cond.classLink RX4 15 "[[I", Cond.fieldLink RX4 17 "ReturnPoints$Rounds" "done" "[[I", Cond.fieldLink RX4 20 "ReturnPoints$Rounds" "doneDegree" "[I", Cond.fieldLink RX4 24 "ReturnPoints$Rounds" "rows" "[[I", Cond.fieldLink RX4 27 "ReturnPoints$Rounds" "rowDegree" "[I", Cond.fieldLink RX4 30 "ReturnPoints$Rounds" "map" "LReturnPoints$Poly;", Cond.fieldLink RX4 34 "ReturnPoints$Rounds" "known" "I", Cond.methodLink RX6 54 yX0_init, Cond.instanceMethod yX0_init, Cond.code yX0_init cX0_init 1 none, Cond.methodLink RX0 3 objectInit, Cond.classLink RX0 9 RX1, Cond.fieldLink RX0 16 "ReturnPoints$Fractions" "orbits" "LReturnPoints$Orbits;", Cond.fieldLink RX0 20 "ReturnPoints$Fractions" "list" "[I", Cond.fieldLink RX0 24 "ReturnPoints$Fractions" "listed" "I", Cond.fieldLink RX0 28 "ReturnPoints$Fractions" "upper" "I", Cond.fieldLink RX0 31 "ReturnPoints$Fractions" "lower" "I", Cond.methodLink RX0 13 yX1_init, Cond.methodLink RL 20 yX7_init, Cond.instanceMethod yX7_init]
def wsL_law_r5 : List Cond := [Cond.code yX7_init cX7_init 2 none, Cond.methodLink RX7 11 objectInit, Cond.fieldLink RX7 17 "ReturnPointsModel" "lane" "[I", Cond.fieldLink RX7 21 "ReturnPointsModel" "many" "[I", Cond.arrayClass .long, Cond.fieldLink RX7 24 "ReturnPointsModel" "item" "[J", Cond.fieldLink RX7 28 "ReturnPointsModel" "degree" "[I", Cond.fieldLink RX7 31 "ReturnPointsModel" "number" "[I", Cond.fieldLink RX7 34 "ReturnPointsModel" "made" "[I", Cond.fieldLink RX7 37 "ReturnPointsModel" "inner" "[I", Cond.fieldLink RX7 40 "ReturnPointsModel" "longer" "[I", Cond.fieldLink RX7 43 "ReturnPointsModel" "goes" "[I", Cond.fieldLink RX7 46 "ReturnPointsModel" "tail" "[I", Cond.fieldLink RX7 49 "ReturnPointsModel" "period" "[I", Cond.fieldLink RX7 52 "ReturnPointsModel" "least" "[I", Cond.fieldLink RX7 55 "ReturnPointsModel" "comes" "[I", Cond.fieldLink RX7 58 "ReturnPointsModel" "seen" "[I", Cond.fieldLink RX7 61 "ReturnPointsModel" "trace" "[I", Cond.constant RX7 64 (40000), Cond.fieldLink RX7 65 "ReturnPointsModel" "counted" "[I", Cond.fieldLink RX7 68 "ReturnPointsModel" "done" "[I", Cond.fieldLink RX7 71 "ReturnPointsModel" "next" "[I", Cond.fieldLink RX7 74 "ReturnPointsModel" "rest" "[I", Cond.fieldLink RX7 77 "ReturnPointsModel" "quotient" "[I"]
def wsL_law_r6 : List Cond := [Cond.fieldLink RX7 80 "ReturnPointsModel" "rounds" "[I", Cond.fieldLink RX7 83 "ReturnPointsModel" "met" "[I", Cond.constantLong RX7 86 (3), Cond.constantLong RX7 88 (199), Cond.fieldLink RX7 98 "ReturnPointsModel" "prime" "I", Cond.methodLink RX7 90 yX7_in, Cond.static yX7_in, Cond.code yX7_in cX7_in 6 (some .boolean), Cond.methodLink RX7 94 yX7_isPrime, Cond.static yX7_isPrime, Cond.code yX7_isPrime cX7_isPrime 3 (some .boolean), Cond.methodLink RL 21 yX6_sheet, Cond.instanceMethod yX6_sheet, Cond.selects RX6 yX6_sheet yX6_sheet, Cond.code yX6_sheet cX6_sheet 4 (some .int), Cond.constant RX6 68 (-1000001), Cond.instantiable RX5 2, Cond.initialized RX5, Cond.methodLink RX6 65 yX6_isSheet, Cond.static yX6_isSheet, Cond.code yX6_isSheet cX6_isSheet 1 (some .boolean), Cond.methodLink RX6 69 yX6_found, Cond.instanceMethod yX6_found, Cond.selects RX6 yX6_found yX6_found]
def wsL_law_r7 : List Cond := [Cond.code yX6_found cX6_found 2 (some .int), Cond.constant RX6 222 (-1000010), Cond.methodLink RX6 73 yX5_init, Cond.instanceMethod yX5_init, Cond.code yX5_init cX5_init 3 none, Cond.methodLink RX5 3 objectInit, Cond.fieldLink RX5 9 "ReturnPoints$Sheet" "lane" "I", Cond.methodLink RX5 15 Lib.Math.max.name, Cond.static Lib.Math.max.name, Cond.initialized "java/lang/Math", Cond.code Lib.Math.max.name Lib.Math.max.code 2 (some .int), Cond.fieldLink RX5 21 "ReturnPoints$Sheet" "items" "[J", Cond.methodLink RX6 76 yX6_fine, Cond.instanceMethod yX6_fine, Cond.selects RX6 yX6_fine yX6_fine, Cond.code yX6_fine cX6_fine 2 (some .int), Cond.methodLink RL 25 yX7_sheet, Cond.instanceMethod yX7_sheet, Cond.selects RX7 yX7_sheet yX7_sheet, Cond.code yX7_sheet cX7_sheet 5 (some .int), Cond.fieldLink RX7 1 "ReturnPointsModel" "thrown" "I", Cond.constantLong RX7 106 (2), Cond.constant RX7 108 (-1000001), Cond.fieldLink RX7 7 "ReturnPointsModel" "status" "I"]
def wsL_law_r8 : List Cond := [Cond.methodLink RX7 103 yX7_isSheet, Cond.static yX7_isSheet, Cond.code yX7_isSheet cX7_isSheet 1 (some .boolean), Cond.constantLong RX7 101 (7), Cond.methodLink RX7 109 yX7_found, Cond.instanceMethod yX7_found, Cond.selects RX7 yX7_found yX7_found, Cond.code yX7_found cX7_found 2 (some .int), Cond.constant RX7 10 (-1000010), Cond.methodLink RL 28 yX6_set, Cond.instanceMethod yX6_set, Cond.selects RX6 yX6_set yX6_set, Cond.code yX6_set cX6_set 6 (some .long), Cond.constantLong RX6 79 (-1000001), Cond.fieldLink RX6 85 "ReturnPoints$Sheet" "items" "[J", Cond.methodLink RX6 81 yX5_holds, Cond.instanceMethod yX5_holds, Cond.selects RX5 yX5_holds yX5_holds, Cond.code yX5_holds cX5_holds 3 (some .boolean), Cond.methodLink RX6 89 yX5_cut, Cond.instanceMethod yX5_cut, Cond.selects RX5 yX5_cut yX5_cut, Cond.code yX5_cut cX5_cut 3 (some .long), Cond.methodLink RL 32 yX7_set]
def wsL_law_r9 : List Cond := [Cond.instanceMethod yX7_set, Cond.selects RX7 yX7_set yX7_set, Cond.code yX7_set cX7_set 5 (some .long), Cond.constantLong RX7 113 (-1000001), Cond.methodLink RL 33 yX6_copy, Cond.instanceMethod yX6_copy, Cond.selects RX6 yX6_copy yX6_copy, Cond.code yX6_copy cX6_copy 8 (some .int), Cond.fieldLink RX6 93 "ReturnPoints$Sheet" "lane" "I", Cond.methodLink RX6 96 arraycopyName, Cond.native arraycopyName, Cond.static arraycopyName, Cond.initialized "java/lang/System", Cond.methodLink RL 37 yX7_copy, Cond.instanceMethod yX7_copy, Cond.selects RX7 yX7_copy yX7_copy, Cond.code yX7_copy cX7_copy 9 (some .int), Cond.methodLink RL 38 yX6_drop, Cond.instanceMethod yX6_drop, Cond.selects RX6 yX6_drop yX6_drop, Cond.code yX6_drop cX6_drop 3 (some .int), Cond.methodLink RL 42 yX7_drop, Cond.instanceMethod yX7_drop, Cond.selects RX7 yX7_drop yX7_drop]
def wsL_law_r10 : List Cond := [Cond.code yX7_drop cX7_drop 2 (some .int), Cond.methodLink RL 43 yX6_map, Cond.instanceMethod yX6_map, Cond.selects RX6 yX6_map yX6_map, Cond.code yX6_map cX6_map 8 (some .int), Cond.methodLink RX6 102 yX6_isPlace, Cond.static yX6_isPlace, Cond.code yX6_isPlace cX6_isPlace 1 (some .boolean), Cond.methodLink RX6 105 yJ9_floorMod_f86c9, Cond.static yJ9_floorMod_f86c9, Cond.initialized RJ9, Cond.code yJ9_floorMod_f86c9 cJ9_floorMod_f86c9 6 (some .long), Cond.methodLink RX6 111 yX6_put, Cond.instanceMethod yX6_put, Cond.selects RX6 yX6_put yX6_put, Cond.code yX6_put cX6_put 4 (some .int), Cond.instantiable RX2 4, Cond.initialized RX2, Cond.fieldLink RX6 133 "ReturnPoints$Poly" "told" "I", Cond.methodLink RX6 223 yX2_init, Cond.instanceMethod yX2_init, Cond.code yX2_init cX2_init 3 none, Cond.methodLink RX2 3 objectInit, Cond.fieldLink RX2 9 "ReturnPoints$Poly" "p" "I"]
def wsL_law_r11 : List Cond := [Cond.fieldLink RX2 15 "ReturnPoints$Poly" "c" "[I", Cond.fieldLink RX2 23 "ReturnPoints$Poly" "degree" "I", Cond.fieldLink RX2 30 "ReturnPoints$Poly" "told" "I", Cond.methodLink RX2 19 yX2_degreeOf, Cond.static yX2_degreeOf, Cond.code yX2_degreeOf cX2_degreeOf 2 (some .int), Cond.methodLink RX2 26 yX2_toldOf, Cond.static yX2_toldOf, Cond.code yX2_toldOf cX2_toldOf 2 (some .int), Cond.methodLink RL 47 yX7_map, Cond.instanceMethod yX7_map, Cond.selects RX7 yX7_map yX7_map, Cond.code yX7_map cX7_map 6 (some .int), Cond.constantLong RX7 123 (5), Cond.methodLink RX7 120 yX7_isPlace, Cond.static yX7_isPlace, Cond.code yX7_isPlace cX7_isPlace 1 (some .boolean), Cond.constantLong RX7 115 (9), Cond.methodLink RX7 125 yX7_modulo, Cond.instanceMethod yX7_modulo, Cond.selects RX7 yX7_modulo yX7_modulo, Cond.code yX7_modulo cX7_modulo 5 (some .int), Cond.methodLink RX7 129 yX7_lay, Cond.instanceMethod yX7_lay]
def wsL_law_r12 : List Cond := [Cond.selects RX7 yX7_lay yX7_lay, Cond.code yX7_lay cX7_lay 3 (some .int), Cond.methodLink RX7 117 yX7_kindOf, Cond.instanceMethod yX7_kindOf, Cond.selects RX7 yX7_kindOf yX7_kindOf, Cond.code yX7_kindOf cX7_kindOf 3 (some .int), Cond.methodLink RL 48 yX6_plain, Cond.instanceMethod yX6_plain, Cond.selects RX6 yX6_plain yX6_plain, Cond.code yX6_plain cX6_plain 4 (some .int), Cond.methodLink RX6 115 yJ9_floorMod_7cf53, Cond.static yJ9_floorMod_7cf53, Cond.code yJ9_floorMod_7cf53 cJ9_floorMod_7cf53 3 (some .int), Cond.methodLink RL 52 yX7_plain, Cond.instanceMethod yX7_plain, Cond.selects RX7 yX7_plain yX7_plain, Cond.code yX7_plain cX7_plain 4 (some .int), Cond.methodLink RL 53 yX6_turn, Cond.instanceMethod yX6_turn, Cond.selects RX6 yX6_turn yX6_turn, Cond.code yX6_turn cX6_turn 7 (some .int), Cond.methodLink RX6 118 yX2_turned, Cond.instanceMethod yX2_turned, Cond.selects RX2 yX2_turned yX2_turned]
def wsL_law_r13 : List Cond := [Cond.code yX2_turned cX2_turned 7 (some (.array .int)), Cond.methodLink RX2 33 yX2_putOver, Cond.instanceMethod yX2_putOver, Cond.selects RX2 yX2_putOver yX2_putOver, Cond.code yX2_putOver cX2_putOver 6 none, Cond.methodLink RX2 46 yJ7_fill_53178, Cond.static yJ7_fill_53178, Cond.initialized RJ7, Cond.code yJ7_fill_53178 cJ7_fill_53178 4 none, Cond.methodLink RX2 52 yX2_multiply, Cond.static yX2_multiply, Cond.code yX2_multiply cX2_multiply 8 none, Cond.methodLink RX2 56 Lib.Math.min.name, Cond.static Lib.Math.min.name, Cond.code Lib.Math.min.name Lib.Math.min.code 2 (some .int), Cond.methodLink RX2 59 Lib.Math.max.name, Cond.methodLink RX2 37 yJ9_floorMod_7cf53, Cond.static yX6_inverse, Cond.code yX6_inverse cX6_inverse 3 (some .int), Cond.methodLink RL 56 yX7_turn, Cond.instanceMethod yX7_turn, Cond.selects RX7 yX7_turn yX7_turn, Cond.code yX7_turn cX7_turn 7 (some .int), Cond.methodLink RX7 132 yX7_mix]
def wsL_law_r14 : List Cond := [Cond.instanceMethod yX7_mix, Cond.selects RX7 yX7_mix yX7_mix, Cond.code yX7_mix cX7_mix 5 none, Cond.methodLink RX7 136 yX7_inverse, Cond.instanceMethod yX7_inverse, Cond.selects RX7 yX7_inverse yX7_inverse, Cond.code yX7_inverse cX7_inverse 4 (some .int), Cond.methodLink RL 57 yX6_behind, Cond.instanceMethod yX6_behind, Cond.selects RX6 yX6_behind yX6_behind, Cond.code yX6_behind cX6_behind 7 (some .int), Cond.fieldLink RX6 122 "ReturnPoints$Poly" "degree" "I", Cond.constant RX6 125 (-1000003), Cond.fieldLink RX6 126 "ReturnPoints$Poly" "c" "[I", Cond.methodLink RX6 129 yX2_putOver, Cond.methodLink RL 60 yX7_behind, Cond.instanceMethod yX7_behind, Cond.selects RX7 yX7_behind yX7_behind, Cond.code yX7_behind cX7_behind 5 (some .int), Cond.constant RX7 139 (-1000003), Cond.methodLink RL 61 yX6_clear, Cond.instanceMethod yX6_clear, Cond.selects RX6 yX6_clear yX6_clear, Cond.code yX6_clear cX6_clear 3 (some .int)]
def wsL_law_r15 : List Cond := [Cond.methodLink RL 64 yX7_clear, Cond.instanceMethod yX7_clear, Cond.selects RX7 yX7_clear yX7_clear, Cond.code yX7_clear cX7_clear 3 (some .int), Cond.methodLink RL 65 yX6_number, Cond.instanceMethod yX6_number, Cond.selects RX6 yX6_number yX6_number, Cond.code yX6_number cX6_number 4 (some .int), Cond.methodLink RL 68 yX7_number, Cond.instanceMethod yX7_number, Cond.selects RX7 yX7_number yX7_number, Cond.code yX7_number cX7_number 4 (some .int), Cond.constantLong RX7 140 (-1), Cond.constantLong RX7 142 (4), Cond.methodLink RX7 144 yX7_look, Cond.instanceMethod yX7_look, Cond.selects RX7 yX7_look yX7_look, Cond.code yX7_look cX7_look 2 (some .int), Cond.methodLink RL 69 yX6_kind, Cond.instanceMethod yX6_kind, Cond.selects RX6 yX6_kind yX6_kind, Cond.code yX6_kind cX6_kind 3 (some .int), Cond.methodLink RL 72 yX7_kind, Cond.instanceMethod yX7_kind]
def wsL_law_r16 : List Cond := [Cond.selects RX7 yX7_kind yX7_kind, Cond.code yX7_kind cX7_kind 3 (some .int), Cond.methodLink RL 73 yX6_is, Cond.instanceMethod yX6_is, Cond.selects RX6 yX6_is yX6_is, Cond.code yX6_is cX6_is 4 (some .int), Cond.methodLink RX6 136 yX6_isKind, Cond.static yX6_isKind, Cond.code yX6_isKind cX6_isKind 1 (some .boolean), Cond.methodLink RX6 139 yX2_fits, Cond.instanceMethod yX2_fits, Cond.selects RX2 yX2_fits yX2_fits, Cond.code yX2_fits cX2_fits 2 (some .boolean), Cond.methodLink RL 76 yX7_is, Cond.instanceMethod yX7_is, Cond.selects RX7 yX7_is yX7_is, Cond.code yX7_is cX7_is 3 (some .int), Cond.methodLink RX7 147 yX7_isOf, Cond.static yX7_isOf, Cond.code yX7_isOf cX7_isOf 2 (some .boolean), Cond.methodLink RL 77 yX6_as, Cond.instanceMethod yX6_as, Cond.selects RX6 yX6_as yX6_as, Cond.code yX6_as cX6_as 4 (some .int)]
def wsL_law_r17 : List Cond := [Cond.methodLink RL 80 yX7_as, Cond.instanceMethod yX7_as, Cond.selects RX7 yX7_as yX7_as, Cond.code yX7_as cX7_as 4 (some .int), Cond.methodLink RL 81 yX6_ask, Cond.instanceMethod yX6_ask, Cond.selects RX6 yX6_ask yX6_ask, Cond.code yX6_ask cX6_ask 4 (some .int), Cond.methodLink RX6 142 yX3_survey, Cond.instanceMethod yX3_survey, Cond.selects RX3 yX3_survey yX3_survey, Cond.code yX3_survey cX3_survey 3 none, Cond.fieldLink RX3 56 "ReturnPoints$Orbits" "next" "[I", Cond.methodLink RX3 59 yX2_valueAt, Cond.instanceMethod yX2_valueAt, Cond.selects RX2 yX2_valueAt yX2_valueAt, Cond.code yX2_valueAt cX2_valueAt 4 (some .int), Cond.methodLink RX3 65 yX3_countComers, Cond.instanceMethod yX3_countComers, Cond.selects RX3 yX3_countComers yX3_countComers, Cond.code yX3_countComers cX3_countComers 5 none, Cond.methodLink RX3 78 yJ7_fill_53178, Cond.methodLink RX3 84 yX1_isInside, Cond.instanceMethod yX1_isInside]
def wsL_law_r18 : List Cond := [Cond.selects RX1 yX1_isInside yX1_isInside, Cond.code yX1_isInside cX1_isInside 2 (some .boolean), Cond.methodLink RX3 68 yX1_followAll, Cond.instanceMethod yX1_followAll, Cond.selects RX1 yX1_followAll yX1_followAll, Cond.code yX1_followAll cX1_followAll 2 none, Cond.methodLink RX1 29 yJ7_fill_53178, Cond.methodLink RX1 35 yX1_walkFrom, Cond.instanceMethod yX1_walkFrom, Cond.selects RX1 yX1_walkFrom yX1_walkFrom, Cond.code yX1_walkFrom cX1_walkFrom 6 none, Cond.methodLink RX1 39 yX1_isInside, Cond.methodLink RX1 43 yX1_closeRing, Cond.instanceMethod yX1_closeRing, Cond.selects RX1 yX1_closeRing yX1_closeRing, Cond.code yX1_closeRing cX1_closeRing 5 (some .int), Cond.methodLink RX1 50 Lib.Math.max.name, Cond.methodLink RX1 47 yX1_hang, Cond.instanceMethod yX1_hang, Cond.selects RX1 yX1_hang yX1_hang, Cond.code yX1_hang cX1_hang 3 none, Cond.methodLink RX3 71 yX3_numberRings, Cond.instanceMethod yX3_numberRings, Cond.selects RX3 yX3_numberRings yX3_numberRings]
def wsL_law_r19 : List Cond := [Cond.code yX3_numberRings cX3_numberRings 3 none, Cond.constant RX3 88 (-1000000), Cond.fieldLink RX3 89 "ReturnPoints$Orbits" "tail" "[I", Cond.methodLink RX3 92 yX3_goRound, Cond.instanceMethod yX3_goRound, Cond.selects RX3 yX3_goRound yX3_goRound, Cond.code yX3_goRound cX3_goRound 7 none, Cond.fieldLink RX3 96 "ReturnPoints$Orbits" "period" "[I", Cond.methodLink RX3 99 yX2_slopeAt, Cond.instanceMethod yX2_slopeAt, Cond.selects RX2 yX2_slopeAt yX2_slopeAt, Cond.code yX2_slopeAt cX2_slopeAt 4 (some .int), Cond.methodLink RX3 75 yX3_gatherBasins, Cond.instanceMethod yX3_gatherBasins, Cond.selects RX3 yX3_gatherBasins yX3_gatherBasins, Cond.code yX3_gatherBasins cX3_gatherBasins 4 none, Cond.fieldLink RX3 102 "ReturnPoints$Orbits" "entry" "[I", Cond.methodLink RX6 146 yX6_sizeAsked, Cond.instanceMethod yX6_sizeAsked, Cond.selects RX6 yX6_sizeAsked yX6_sizeAsked, Cond.code yX6_sizeAsked cX6_sizeAsked 2 (some .int), Cond.methodLink RX6 229 yX6_body11, Cond.instanceMethod yX6_body11, Cond.selects RX6 yX6_body11 yX6_body11]
def wsL_law_r20 : List Cond := [Cond.code yX6_body11 cX6_body11 1 (some .int), Cond.methodLink RX6 253 yX6_begin, Cond.instanceMethod yX6_begin, Cond.selects RX6 yX6_begin yX6_begin, Cond.code yX6_begin cX6_begin 2 none, Cond.methodLink RX6 232 yX6_body12, Cond.instanceMethod yX6_body12, Cond.selects RX6 yX6_body12 yX6_body12, Cond.code yX6_body12 cX6_body12 1 (some .int), Cond.methodLink RX6 238 yX6_body10, Cond.instanceMethod yX6_body10, Cond.selects RX6 yX6_body10 yX6_body10, Cond.code yX6_body10 cX6_body10 1 (some .int), Cond.methodLink RX6 256 yX3_pointsWithoutComers, Cond.instanceMethod yX3_pointsWithoutComers, Cond.selects RX3 yX3_pointsWithoutComers yX3_pointsWithoutComers, Cond.code yX3_pointsWithoutComers cX3_pointsWithoutComers 3 (some .int), Cond.methodLink RX6 235 yX6_body13, Cond.instanceMethod yX6_body13, Cond.selects RX6 yX6_body13 yX6_body13, Cond.code yX6_body13 cX6_body13 3 (some .int), Cond.methodLink RX6 244 yX6_body22, Cond.instanceMethod yX6_body22, Cond.selects RX6 yX6_body22 yX6_body22]
def wsL_law_r21 : List Cond := [Cond.code yX6_body22 cX6_body22 3 (some .int), Cond.fieldLink RX6 162 "ReturnPoints$Roads" "orbits" "LReturnPoints$Orbits;", Cond.fieldLink RX6 259 "ReturnPoints$Orbits" "period" "[I", Cond.methodLink RX6 241 yX6_body21, Cond.instanceMethod yX6_body21, Cond.selects RX6 yX6_body21 yX6_body21, Cond.code yX6_body21 cX6_body21 2 (some .int), Cond.methodLink RX6 250 yX6_body20, Cond.instanceMethod yX6_body20, Cond.selects RX6 yX6_body20 yX6_body20, Cond.code yX6_body20 cX6_body20 2 (some .int), Cond.methodLink RX6 150 yX6_markAsked, Cond.instanceMethod yX6_markAsked, Cond.selects RX6 yX6_markAsked yX6_markAsked, Cond.code yX6_markAsked cX6_markAsked 2 (some .int), Cond.methodLink RX6 247 yX6_body23, Cond.instanceMethod yX6_body23, Cond.selects RX6 yX6_body23 yX6_body23, Cond.code yX6_body23 cX6_body23 3 (some .int), Cond.methodLink RL 84 yX7_ask, Cond.instanceMethod yX7_ask, Cond.selects RX7 yX7_ask yX7_ask, Cond.code yX7_ask cX7_ask 4 (some .int), Cond.fieldLink RX7 158 "ReturnPointsModel" "traced" "I"]
def wsL_law_r22 : List Cond := [Cond.methodLink RX7 173 yX7_sized, Cond.instanceMethod yX7_sized, Cond.selects RX7 yX7_sized yX7_sized, Cond.code yX7_sized cX7_sized 4 (some .int), Cond.methodLink RX7 161 yX7_began, Cond.instanceMethod yX7_began, Cond.selects RX7 yX7_began yX7_began, Cond.code yX7_began cX7_began 2 none, Cond.methodLink RX7 167 yX7_plainSize, Cond.instanceMethod yX7_plainSize, Cond.selects RX7 yX7_plainSize yX7_plainSize, Cond.code yX7_plainSize cX7_plainSize 2 (some .int), Cond.methodLink RX7 164 yX7_valuesOf, Cond.instanceMethod yX7_valuesOf, Cond.selects RX7 yX7_valuesOf yX7_valuesOf, Cond.code yX7_valuesOf cX7_valuesOf 4 (some .int), Cond.methodLink RX7 155 yX7_findWays, Cond.instanceMethod yX7_findWays, Cond.selects RX7 yX7_findWays yX7_findWays, Cond.code yX7_findWays cX7_findWays 7 none, Cond.methodLink RX7 151 yX7_valueOf, Cond.instanceMethod yX7_valueOf, Cond.selects RX7 yX7_valueOf yX7_valueOf, Cond.code yX7_valueOf cX7_valueOf 5 (some .int)]
def wsL_law_r23 : List Cond := [Cond.methodLink RX7 170 yX7_marked, Cond.instanceMethod yX7_marked, Cond.selects RX7 yX7_marked yX7_marked, Cond.code yX7_marked cX7_marked 4 (some .int), Cond.methodLink RL 85 yX6_trace, Cond.instanceMethod yX6_trace, Cond.selects RX6 yX6_trace yX6_trace, Cond.code yX6_trace cX6_trace 2 (some .int), Cond.constant RX6 153 (-1000000), Cond.methodLink RL 88 yX7_trace, Cond.instanceMethod yX7_trace, Cond.selects RX7 yX7_trace yX7_trace, Cond.code yX7_trace cX7_trace 2 (some .int), Cond.constant RX7 176 (-1000000), Cond.methodLink RL 89 yX6_step, Cond.instanceMethod yX6_step, Cond.selects RX6 yX6_step yX6_step, Cond.code yX6_step cX6_step 5 (some .int), Cond.constant RX6 157 (1000000000), Cond.methodLink RX6 154 yX6_isPoint, Cond.instanceMethod yX6_isPoint, Cond.selects RX6 yX6_isPoint yX6_isPoint, Cond.code yX6_isPoint cX6_isPoint 2 (some .boolean), Cond.methodLink RX6 158 yX6_roadsOf]
def wsL_law_r24 : List Cond := [Cond.instanceMethod yX6_roadsOf, Cond.selects RX6 yX6_roadsOf yX6_roadsOf, Cond.code yX6_roadsOf cX6_roadsOf 2 (some (.object "ReturnPoints$Roads")), Cond.methodLink RX6 166 yX1_after, Cond.instanceMethod yX1_after, Cond.selects RX1 yX1_after yX1_after, Cond.code yX1_after cX1_after 6 (some .int), Cond.methodLink RL 92 yX7_step, Cond.instanceMethod yX7_step, Cond.selects RX7 yX7_step yX7_step, Cond.code yX7_step cX7_step 8 (some .int), Cond.constantLong RX7 177 (1000000000), Cond.methodLink RL 93 yX6_way, Cond.instanceMethod yX6_way, Cond.selects RX6 yX6_way yX6_way, Cond.code yX6_way cX6_way 5 (some .int), Cond.methodLink RX6 171 yX3_ofPoint, Cond.instanceMethod yX3_ofPoint, Cond.selects RX3 yX3_ofPoint yX3_ofPoint, Cond.code yX3_ofPoint cX3_ofPoint 3 (some .int), Cond.methodLink RL 96 yX7_way, Cond.instanceMethod yX7_way, Cond.selects RX7 yX7_way yX7_way, Cond.code yX7_way cX7_way 5 (some .int)]
def wsL_law_r25 : List Cond := [Cond.methodLink RX7 179 yX7_ringOf, Cond.instanceMethod yX7_ringOf, Cond.selects RX7 yX7_ringOf yX7_ringOf, Cond.code yX7_ringOf cX7_ringOf 4 (some .int), Cond.methodLink RL 97 yX6_ring, Cond.instanceMethod yX6_ring, Cond.selects RX6 yX6_ring yX6_ring, Cond.code yX6_ring cX6_ring 5 (some .int), Cond.methodLink RX6 174 yX3_ofRing, Cond.instanceMethod yX3_ofRing, Cond.selects RX3 yX3_ofRing yX3_ofRing, Cond.code yX3_ofRing cX3_ofRing 3 (some .int), Cond.methodLink RL 100 yX7_ring, Cond.instanceMethod yX7_ring, Cond.selects RX7 yX7_ring yX7_ring, Cond.code yX7_ring cX7_ring 9 (some .int), Cond.methodLink RX7 185 yX7_times, Cond.instanceMethod yX7_times, Cond.selects RX7 yX7_times yX7_times, Cond.code yX7_times cX7_times 6 (some .int), Cond.methodLink RX7 182 yX7_slopeOf, Cond.instanceMethod yX7_slopeOf, Cond.selects RX7 yX7_slopeOf yX7_slopeOf, Cond.code yX7_slopeOf cX7_slopeOf 5 (some .int)]
def wsL_law_r26 : List Cond := [Cond.methodLink RL 101 yX6_all, Cond.instanceMethod yX6_all, Cond.selects RX6 yX6_all yX6_all, Cond.code yX6_all cX6_all 4 (some .int), Cond.methodLink RX6 177 yX3_ofAll, Cond.instanceMethod yX3_ofAll, Cond.selects RX3 yX3_ofAll yX3_ofAll, Cond.code yX3_ofAll cX3_ofAll 2 (some .int), Cond.methodLink RX3 105 yX3_pointsOnRings, Cond.instanceMethod yX3_pointsOnRings, Cond.selects RX3 yX3_pointsOnRings yX3_pointsOnRings, Cond.code yX3_pointsOnRings cX3_pointsOnRings 3 (some .int), Cond.methodLink RX3 109 yX3_longestRing, Cond.instanceMethod yX3_longestRing, Cond.selects RX3 yX3_longestRing yX3_longestRing, Cond.code yX3_longestRing cX3_longestRing 3 (some .int), Cond.methodLink RX3 121 Lib.Math.max.name, Cond.methodLink RX3 112 yX3_longestTail, Cond.instanceMethod yX3_longestTail, Cond.selects RX3 yX3_longestTail yX3_longestTail, Cond.code yX3_longestTail cX3_longestTail 3 (some .int), Cond.methodLink RX3 115 yX3_pointsWithoutComers, Cond.methodLink RX3 118 yX3_stillRings, Cond.instanceMethod yX3_stillRings]
def wsL_law_r27 : List Cond := [Cond.selects RX3 yX3_stillRings yX3_stillRings, Cond.code yX3_stillRings cX3_stillRings 3 (some .int), Cond.methodLink RL 104 yX7_all, Cond.instanceMethod yX7_all, Cond.selects RX7 yX7_all yX7_all, Cond.code yX7_all cX7_all 12 (some .int), Cond.methodLink RL 105 yX6_alike, Cond.instanceMethod yX6_alike, Cond.selects RX6 yX6_alike yX6_alike, Cond.code yX6_alike cX6_alike 5 (some .int), Cond.methodLink RX6 180 yX3_isLike, Cond.instanceMethod yX3_isLike, Cond.selects RX3 yX3_isLike yX3_isLike, Cond.code yX3_isLike cX3_isLike 6 (some .boolean), Cond.methodLink RX3 127 yX3_hasTailsOf, Cond.instanceMethod yX3_hasTailsOf, Cond.selects RX3 yX3_hasTailsOf yX3_hasTailsOf, Cond.code yX3_hasTailsOf cX3_hasTailsOf 7 (some .boolean), Cond.methodLink RX3 131 yX3_tally, Cond.instanceMethod yX3_tally, Cond.selects RX3 yX3_tally yX3_tally, Cond.code yX3_tally cX3_tally 6 none, Cond.fieldLink RX3 135 "ReturnPoints$Orbits" "size" "I", Cond.methodLink RL 108 yX7_alike]
def wsL_law_r28 : List Cond := [Cond.instanceMethod yX7_alike, Cond.selects RX7 yX7_alike yX7_alike, Cond.code yX7_alike cX7_alike 5 (some .int), Cond.methodLink RL 109 yX6_round, Cond.instanceMethod yX6_round, Cond.selects RX6 yX6_round yX6_round, Cond.code yX6_round cX6_round 5 (some .int), Cond.methodLink RX6 184 yX4_power, Cond.static yX4_power, Cond.code yX4_power cX4_power 4 (some .int), Cond.methodLink RX6 187 yX4_prepare, Cond.instanceMethod yX4_prepare, Cond.selects RX4 yX4_prepare yX4_prepare, Cond.code yX4_prepare cX4_prepare 4 none, Cond.fieldLink RX4 43 "ReturnPoints$Poly" "degree" "I", Cond.methodLink RX4 37 yX2_putOver, Cond.methodLink RX4 46 yX4_divideOut, Cond.instanceMethod yX4_divideOut, Cond.selects RX4 yX4_divideOut yX4_divideOut, Cond.code yX4_divideOut cX4_divideOut 4 none, Cond.methodLink RX4 50 arraycopyName, Cond.methodLink RX4 56 yJ9_floorMod_7cf53, Cond.methodLink RX4 62 yX4_divide, Cond.instanceMethod yX4_divide]
def wsL_law_r29 : List Cond := [Cond.selects RX4 yX4_divide yX4_divide, Cond.code yX4_divide cX4_divide 10 none, Cond.methodLink RX6 191 yX4_degreeOf, Cond.instanceMethod yX4_degreeOf, Cond.selects RX4 yX4_degreeOf yX4_degreeOf, Cond.code yX4_degreeOf cX4_degreeOf 2 (some .int), Cond.methodLink RX6 194 yX4_numberOf, Cond.instanceMethod yX4_numberOf, Cond.selects RX4 yX4_numberOf yX4_numberOf, Cond.code yX4_numberOf cX4_numberOf 3 (some .int), Cond.methodLink RL 112 yX7_round, Cond.instanceMethod yX7_round, Cond.selects RX7 yX7_round yX7_round, Cond.code yX7_round cX7_round 8 (some .int), Cond.constantLong RX7 197 (6), Cond.methodLink RX7 199 yX7_findRounds, Cond.instanceMethod yX7_findRounds, Cond.selects RX7 yX7_findRounds yX7_findRounds, Cond.code yX7_findRounds cX7_findRounds 5 none, Cond.methodLink RX7 191 yX7_goOn, Cond.instanceMethod yX7_goOn, Cond.selects RX7 yX7_goOn yX7_goOn, Cond.code yX7_goOn cX7_goOn 5 none, Cond.methodLink RX7 194 yX7_divide]
def wsL_law_r30 : List Cond := [Cond.instanceMethod yX7_divide, Cond.selects RX7 yX7_divide yX7_divide, Cond.code yX7_divide cX7_divide 7 none, Cond.methodLink RX7 188 yX7_degreeOf, Cond.instanceMethod yX7_degreeOf, Cond.selects RX7 yX7_degreeOf yX7_degreeOf, Cond.code yX7_degreeOf cX7_degreeOf 4 (some .int), Cond.methodLink RL 113 yX6_fraction, Cond.instanceMethod yX6_fraction, Cond.selects RX6 yX6_fraction yX6_fraction, Cond.code yX6_fraction cX6_fraction 5 (some .int), Cond.fieldLink RX6 202 "ReturnPoints$Fractions" "listed" "I", Cond.methodLink RX6 197 yX6_isPair, Cond.static yX6_isPair, Cond.code yX6_isPair cX6_isPair 2 (some .boolean), Cond.methodLink RX6 208 yX6_commonDivisor, Cond.static yX6_commonDivisor, Cond.code yX6_commonDivisor cX6_commonDivisor 6 (some .int), Cond.methodLink RX6 226 Lib.Math.abs.name, Cond.static Lib.Math.abs.name, Cond.code Lib.Math.abs.name Lib.Math.abs.code 1 (some .int), Cond.methodLink RX6 200 yX0_prepare, Cond.instanceMethod yX0_prepare, Cond.selects RX0 yX0_prepare yX0_prepare]
def wsL_law_r31 : List Cond := [Cond.code yX0_prepare cX0_prepare 4 none, Cond.fieldLink RX0 34 "ReturnPoints$Orbits" "size" "I", Cond.fieldLink RX0 37 "ReturnPoints$Orbits" "next" "[I", Cond.fieldLink RX0 47 "ReturnPoints$Orbits" "period" "[I", Cond.methodLink RX0 40 yX0_follower, Cond.instanceMethod yX0_follower, Cond.selects RX0 yX0_follower yX0_follower, Cond.code yX0_follower cX0_follower 3 (some .int), Cond.methodLink RX0 54 yX0_image, Cond.static yX0_image, Cond.code yX0_image cX0_image 5 (some .int), Cond.constant RX0 58 (-1000000), Cond.methodLink RX0 44 yX1_followAll, Cond.methodLink RX6 205 yX0_ofListed, Cond.instanceMethod yX0_ofListed, Cond.selects RX0 yX0_ofListed yX0_ofListed, Cond.code yX0_ofListed cX0_ofListed 4 (some .int), Cond.fieldLink RX0 59 "ReturnPoints$Orbits" "tail" "[I", Cond.methodLink RL 116 yX7_fraction, Cond.instanceMethod yX7_fraction, Cond.selects RX7 yX7_fraction yX7_fraction, Cond.code yX7_fraction cX7_fraction 7 (some .int), Cond.fieldLink RX7 220 "ReturnPointsModel" "fractionTail" "I", Cond.fieldLink RX7 223 "ReturnPointsModel" "fractionPeriod" "I"]
def wsL_law_r32 : List Cond := [Cond.methodLink RX7 226 yX7_isFraction, Cond.static yX7_isFraction, Cond.code yX7_isFraction cX7_isFraction 2 (some .boolean), Cond.constantLong RX7 203 (-10000), Cond.constantLong RX7 205 (10000), Cond.constantLong RX7 207 (30), Cond.methodLink RX7 209 yX7_divisor, Cond.static yX7_divisor, Cond.code yX7_divisor cX7_divisor 5 (some .int), Cond.methodLink RX7 229 yX7_returns, Cond.instanceMethod yX7_returns, Cond.selects RX7 yX7_returns yX7_returns, Cond.code yX7_returns cX7_returns 6 (some .boolean), Cond.constantLong RX7 212 (-120), Cond.constantLong RX7 214 (120), Cond.methodLink RX7 216 yX7_nextOf, Cond.static yX7_nextOf, Cond.code yX7_nextOf cX7_nextOf 4 (some .int), Cond.methodLink RL 117 yX6_next, Cond.instanceMethod yX6_next, Cond.selects RX6 yX6_next yX6_next, Cond.code yX6_next cX6_next 4 (some .int), Cond.methodLink RX6 211 yX0_image, Cond.methodLink RL 120 yX7_next]
def wsL_law_r33 : List Cond := [Cond.instanceMethod yX7_next, Cond.selects RX7 yX7_next yX7_next, Cond.code yX7_next cX7_next 4 (some .int), Cond.constantLong RX7 233 (-1000), Cond.constantLong RX7 235 (1000), Cond.methodLink RL 121 yX6_count, Cond.instanceMethod yX6_count, Cond.selects RX6 yX6_count yX6_count, Cond.code yX6_count cX6_count 2 (some .int), Cond.methodLink RX6 215 yX6_sheetsThere, Cond.instanceMethod yX6_sheetsThere, Cond.selects RX6 yX6_sheetsThere yX6_sheetsThere, Cond.code yX6_sheetsThere cX6_sheetsThere 6 (some .int), Cond.methodLink RX6 219 yX6_mapsOf, Cond.instanceMethod yX6_mapsOf, Cond.selects RX6 yX6_mapsOf yX6_mapsOf, Cond.code yX6_mapsOf cX6_mapsOf 7 (some .int), Cond.methodLink RL 124 yX7_count, Cond.instanceMethod yX7_count, Cond.selects RX7 yX7_count yX7_count, Cond.code yX7_count cX7_count 4 (some .int), Cond.methodLink RL 125 yX6_status, Cond.instanceMethod yX6_status, Cond.selects RX6 yX6_status yX6_status]
def wsL_law_r34 : List Cond := [Cond.code yX6_status cX6_status 1 (some .int), Cond.methodLink RL 129 yX7_status, Cond.instanceMethod yX7_status, Cond.selects RX7 yX7_status yX7_status, Cond.code yX7_status cX7_status 1 (some .int)]
def wsL_law : List Cond := (wsL_law_r1 ++ (wsL_law_r2 ++ (wsL_law_r3 ++ (wsL_law_r4 ++ (wsL_law_r5 ++ (wsL_law_r6 ++ (wsL_law_r7 ++ (wsL_law_r8 ++ (wsL_law_r9 ++ (wsL_law_r10 ++ (wsL_law_r11 ++ (wsL_law_r12 ++ (wsL_law_r13 ++ (wsL_law_r14 ++ (wsL_law_r15 ++ (wsL_law_r16 ++ (wsL_law_r17 ++ (wsL_law_r18 ++ (wsL_law_r19 ++ (wsL_law_r20 ++ (wsL_law_r21 ++ (wsL_law_r22 ++ (wsL_law_r23 ++ (wsL_law_r24 ++ (wsL_law_r25 ++ (wsL_law_r26 ++ (wsL_law_r27 ++ (wsL_law_r28 ++ (wsL_law_r29 ++ (wsL_law_r30 ++ (wsL_law_r31 ++ (wsL_law_r32 ++ (wsL_law_r33 ++ wsL_law_r34))))))))))))))))))))))))))))))))) ++ wsX60 ++ wsX70 ++ wsX30 ++ wsX40 ++ wsX00 ++ wsX10 ++ wsX50 ++ wsX20 ++ ([] : List Cond)
theorem inlX0 : ∀ w ∈ wsX00, w ∈ wsL_law := fun _ h => List.mem_append_left _ (List.mem_append_left _ (List.mem_append_left _ (List.mem_append_left _ (List.mem_append_right _ h))))
theorem inlX1 : ∀ w ∈ wsX10, w ∈ wsL_law := fun _ h => List.mem_append_left _ (List.mem_append_left _ (List.mem_append_left _ (List.mem_append_right _ h)))
theorem inlX2 : ∀ w ∈ wsX20, w ∈ wsL_law := fun _ h => List.mem_append_left _ (List.mem_append_right _ h)
theorem inlX3 : ∀ w ∈ wsX30, w ∈ wsL_law := fun _ h => List.mem_append_left _ (List.mem_append_left _ (List.mem_append_left _ (List.mem_append_left _ (List.mem_append_left _ (List.mem_append_left _ (List.mem_append_right _ h))))))
theorem inlX4 : ∀ w ∈ wsX40, w ∈ wsL_law := fun _ h => List.mem_append_left _ (List.mem_append_left _ (List.mem_append_left _ (List.mem_append_left _ (List.mem_append_left _ (List.mem_append_right _ h)))))
theorem inlX5 : ∀ w ∈ wsX50, w ∈ wsL_law := fun _ h => List.mem_append_left _ (List.mem_append_left _ (List.mem_append_right _ h))
theorem inlX6 : ∀ w ∈ wsX60, w ∈ wsL_law := fun _ h => List.mem_append_left _ (List.mem_append_left _ (List.mem_append_left _ (List.mem_append_left _ (List.mem_append_left _ (List.mem_append_left _ (List.mem_append_left _ (List.mem_append_left _ (List.mem_append_right _ h))))))))
theorem inlX7 : ∀ w ∈ wsX70, w ∈ wsL_law := fun _ h => List.mem_append_left _ (List.mem_append_left _ (List.mem_append_left _ (List.mem_append_left _ (List.mem_append_left _ (List.mem_append_left _ (List.mem_append_left _ (List.mem_append_right _ h)))))))
theorem inJ9 : ∀ w ∈ wsJ90, w ∈ lw_tbl := by decide +kernel
theorem inJ10 : ∀ w ∈ wsJ100, w ∈ lw_tbl := by decide +kernel
theorem inJ7 : ∀ w ∈ wsJ70, w ∈ lw_tbl := by decide +kernel
set_option maxRecDepth 20000 in
theorem ggX0_init_X1_init : GoodIn wsX0_init wsX1_init := goodIn_r _ [15, 16, 2, 3, 17, 8, 18, 19, 20, 21, 22, 23, 24, 25, 26, 27, 28] (by decide +kernel) (by decide +kernel)
set_option maxRecDepth 20000 in
theorem gX0_init_X1_init : GoodIn wsX0_init (wsX1_init) := ggX0_init_X1_init
set_option maxRecDepth 20000 in
theorem ggX0_prepare_X0_follower : GoodIn wsX0_prepare wsX0_follower := goodIn_r _ [13, 2, 1, 14, 15, 16, 17, 18, 19, 20, 21, 22, 12, 23, 24, 59, 60, 61, 62, 63] (by decide +kernel) (by decide +kernel)
set_option maxRecDepth 20000 in
theorem gX0_prepare_X0_follower : GoodIn wsX0_prepare (wsV RX0 40 RX0 yX0_follower wsX0_follower) := goodIn_app (goodIn_of _ (by decide +kernel)) ggX0_prepare_X0_follower
set_option maxRecDepth 20000 in
theorem ggX0_prepare_X1_followAll : GoodIn wsX0_prepare wsX1_followAll := goodIn_r _ [29, 30, 31, 32, 33, 34, 35, 36, 37, 38, 28, 39, 40, 41, 42, 43, 44, 45, 46, 47, 48, 49, 50, 51, 19, 52, 53, 54, 55, 56, 57, 58, 64, 65, 66, 67, 68, 69] (by decide +kernel) (by decide +kernel)
set_option maxRecDepth 20000 in
theorem gX0_prepare_X1_followAll : GoodIn wsX0_prepare (wsV RX0 44 RX1 yX1_followAll wsX1_followAll) := goodIn_app (goodIn_of _ (by decide +kernel)) ggX0_prepare_X1_followAll
set_option maxRecDepth 20000 in
theorem ggX0_follower_X6_commonDivisor : GoodIn wsX0_follower wsX6_commonDivisor := goodIn_r _ [5, 6, 7, 8, 9] (by decide +kernel) (by decide +kernel)
set_option maxRecDepth 20000 in
theorem gX0_follower_X6_commonDivisor_n50 : GoodIn wsX0_follower (wsX6_commonDivisor) := ggX0_follower_X6_commonDivisor
set_option maxRecDepth 20000 in
theorem ggX0_follower_X0_image : GoodIn wsX0_follower wsX0_image := goodIn_r _ [13, 14, 3, 4, 5, 6, 7, 8, 9] (by decide +kernel) (by decide +kernel)
set_option maxRecDepth 20000 in
theorem gX0_follower_X0_image : GoodIn wsX0_follower (va_wsS RX0 54 yX0_image wsX0_image) := goodIn_app (goodIn_of _ (by decide +kernel)) ggX0_follower_X0_image
set_option maxRecDepth 20000 in
theorem ggX0_image_X6_commonDivisor : GoodIn wsX0_image wsX6_commonDivisor := goodIn_r _ [4, 5, 6, 7, 8] (by decide +kernel) (by decide +kernel)
set_option maxRecDepth 20000 in
theorem gX0_image_X6_commonDivisor_n50 : GoodIn wsX0_image (wsX6_commonDivisor) := ggX0_image_X6_commonDivisor
set_option maxRecDepth 20000 in
theorem ggX1_followAll_J7_fill_53178 : GoodIn wsX1_followAll wsJ7_fill_53178 := goodIn_r _ [6] (by decide +kernel) (by decide +kernel)
set_option maxRecDepth 20000 in
theorem gX1_followAll_J7_fill_53178 : GoodIn wsX1_followAll (va_wsS RX1 29 yJ7_fill_53178 wsJ7_fill_53178) := goodIn_app (goodIn_of _ (by decide +kernel)) ggX1_followAll_J7_fill_53178
set_option maxRecDepth 20000 in
theorem ggX1_followAll_X1_walkFrom : GoodIn wsX1_followAll wsX1_walkFrom := goodIn_r _ [11, 2, 1, 12, 13, 14, 15, 16, 10, 17, 18, 19, 20, 21, 22, 23, 24, 25, 26, 27, 28, 29, 30, 31, 32, 33, 34, 35, 36, 37] (by decide +kernel) (by decide +kernel)
set_option maxRecDepth 20000 in
theorem gX1_followAll_X1_walkFrom : GoodIn wsX1_followAll (wsV RX1 35 RX1 yX1_walkFrom wsX1_walkFrom) := goodIn_app (goodIn_of _ (by decide +kernel)) ggX1_followAll_X1_walkFrom
set_option maxRecDepth 20000 in
theorem ggX1_walkFrom_X1_isInside : GoodIn wsX1_walkFrom wsX1_isInside := goodIn_r _ [9, 1, 24, 25, 26, 27, 28, 29] (by decide +kernel) (by decide +kernel)
set_option maxRecDepth 20000 in
theorem gX1_walkFrom_X1_isInside : GoodIn wsX1_walkFrom (wsV RX1 39 RX1 yX1_isInside wsX1_isInside) := goodIn_app (goodIn_of _ (by decide +kernel)) ggX1_walkFrom_X1_isInside
set_option maxRecDepth 20000 in
theorem ggX1_walkFrom_X1_closeRing : GoodIn wsX1_walkFrom wsX1_closeRing := goodIn_r _ [13, 14, 15, 16, 17, 3, 18, 2, 19, 24, 25, 26, 27, 28, 29] (by decide +kernel) (by decide +kernel)
set_option maxRecDepth 20000 in
theorem gX1_walkFrom_X1_closeRing : GoodIn wsX1_walkFrom (wsV RX1 43 RX1 yX1_closeRing wsX1_closeRing) := goodIn_app (goodIn_of _ (by decide +kernel)) ggX1_walkFrom_X1_closeRing
set_option maxRecDepth 20000 in
theorem ggX1_walkFrom_X1_hang : GoodIn wsX1_walkFrom wsX1_hang := goodIn_r _ [23, 4, 2, 18, 19, 5, 6, 7, 8, 9, 1, 24, 25, 26, 27, 28, 29] (by decide +kernel) (by decide +kernel)
set_option maxRecDepth 20000 in
theorem gX1_walkFrom_X1_hang : GoodIn wsX1_walkFrom (wsV RX1 47 RX1 yX1_hang wsX1_hang) := goodIn_app (goodIn_of _ (by decide +kernel)) ggX1_walkFrom_X1_hang
set_option maxRecDepth 20000 in
theorem ggX1_hang_X1_isInside : GoodIn wsX1_hang wsX1_isInside := goodIn_r _ [9, 10, 11, 12, 13, 14, 15, 16] (by decide +kernel) (by decide +kernel)
set_option maxRecDepth 20000 in
theorem gX1_hang_X1_isInside : GoodIn wsX1_hang (wsV RX1 39 RX1 yX1_isInside wsX1_isInside) := goodIn_app (goodIn_of _ (by decide +kernel)) ggX1_hang_X1_isInside
set_option maxRecDepth 20000 in
theorem ggX1_after_X1_isInside : GoodIn wsX1_after wsX1_isInside := goodIn_r _ [8, 9, 10, 11, 12, 13, 14, 15] (by decide +kernel) (by decide +kernel)
set_option maxRecDepth 20000 in
theorem gX1_after_X1_isInside : GoodIn wsX1_after (wsV RX1 39 RX1 yX1_isInside wsX1_isInside) := goodIn_app (goodIn_of _ (by decide +kernel)) ggX1_after_X1_isInside
set_option maxRecDepth 20000 in
theorem ggX2_init_X2_degreeOf : GoodIn wsX2_init wsX2_degreeOf := goodIn_r _ [11] (by decide +kernel) (by decide +kernel)
set_option maxRecDepth 20000 in
theorem gX2_init_X2_degreeOf : GoodIn wsX2_init (va_wsS RX2 19 yX2_degreeOf wsX2_degreeOf) := goodIn_app (goodIn_of _ (by decide +kernel)) ggX2_init_X2_degreeOf
set_option maxRecDepth 20000 in
theorem ggX2_init_X2_toldOf : GoodIn wsX2_init wsX2_toldOf := goodIn_r _ [14] (by decide +kernel) (by decide +kernel)
set_option maxRecDepth 20000 in
theorem gX2_init_X2_toldOf : GoodIn wsX2_init (va_wsS RX2 26 yX2_toldOf wsX2_toldOf) := goodIn_app (goodIn_of _ (by decide +kernel)) ggX2_init_X2_toldOf
set_option maxRecDepth 20000 in
theorem ggX2_turned_X2_putOver : GoodIn wsX2_turned wsX2_putOver := goodIn_r _ [7, 8, 9, 2, 10, 11, 12, 13, 14, 15, 6, 16, 17, 18, 19, 20, 21, 22, 23, 31, 32, 33, 34] (by decide +kernel) (by decide +kernel)
set_option maxRecDepth 20000 in
theorem gX2_turned_X2_putOver : GoodIn wsX2_turned (wsV RX2 33 RX2 yX2_putOver wsX2_putOver) := goodIn_app (goodIn_of _ (by decide +kernel)) ggX2_turned_X2_putOver
set_option maxRecDepth 20000 in
theorem ggX2_turned_J9_floorMod_7cf53 : GoodIn wsX2_turned wsJ9_floorMod_7cf53 := goodIn_r _ [27] (by decide +kernel) (by decide +kernel)
set_option maxRecDepth 20000 in
theorem gX2_turned_J9_floorMod_7cf53 : GoodIn wsX2_turned (va_wsS RX2 37 yJ9_floorMod_7cf53 wsJ9_floorMod_7cf53) := goodIn_app (goodIn_of _ (by decide +kernel)) ggX2_turned_J9_floorMod_7cf53
set_option maxRecDepth 20000 in
theorem ggX2_turned_X6_inverse : GoodIn wsX2_turned wsX6_inverse := goodIn_r _ [30] (by decide +kernel) (by decide +kernel)
set_option maxRecDepth 20000 in
theorem gX2_turned_X6_inverse_n43 : GoodIn wsX2_turned (wsX6_inverse) := ggX2_turned_X6_inverse
set_option maxRecDepth 20000 in
theorem ggX2_putOver_J7_fill_53178 : GoodIn wsX2_putOver wsJ7_fill_53178 := goodIn_r _ [7] (by decide +kernel) (by decide +kernel)
set_option maxRecDepth 20000 in
theorem gX2_putOver_J7_fill_53178 : GoodIn wsX2_putOver (va_wsS RX2 46 yJ7_fill_53178 wsJ7_fill_53178) := goodIn_app (goodIn_of _ (by decide +kernel)) ggX2_putOver_J7_fill_53178
set_option maxRecDepth 20000 in
theorem ggX2_putOver_X2_multiply : GoodIn wsX2_putOver wsX2_multiply := goodIn_r _ [11, 12, 13, 14, 15, 16, 17, 18] (by decide +kernel) (by decide +kernel)
set_option maxRecDepth 20000 in
theorem gX2_putOver_X2_multiply : GoodIn wsX2_putOver (va_wsS RX2 52 yX2_multiply wsX2_multiply) := goodIn_app (goodIn_of _ (by decide +kernel)) ggX2_putOver_X2_multiply
set_option maxRecDepth 20000 in
theorem ggX3_init_X1_init : GoodIn wsX3_init wsX1_init := goodIn_r _ [22, 23, 2, 3, 24, 9, 25, 26, 27, 28, 29, 42, 43, 44, 45, 46, 47] (by decide +kernel) (by decide +kernel)
set_option maxRecDepth 20000 in
theorem gX3_init_X1_init : GoodIn wsX3_init (wsX1_init) := ggX3_init_X1_init
set_option maxRecDepth 20000 in
theorem ggX3_survey_X2_valueAt : GoodIn wsX3_survey wsX2_valueAt := goodIn_r _ [9, 10, 11, 12, 100, 101, 102, 103] (by decide +kernel) (by decide +kernel)
set_option maxRecDepth 20000 in
theorem gX3_survey_X2_valueAt : GoodIn wsX3_survey (wsV RX3 59 RX2 yX2_valueAt wsX2_valueAt) := goodIn_app (goodIn_of _ (by decide +kernel)) ggX3_survey_X2_valueAt
set_option maxRecDepth 20000 in
theorem ggX3_survey_X3_countComers : GoodIn wsX3_survey wsX3_countComers := goodIn_r _ [17, 18, 3, 4, 19, 20, 21, 22, 23, 24, 25, 26, 27, 28, 82, 83, 84, 85, 86, 87, 88, 89, 90, 91, 92, 93, 94, 95, 96, 97, 98, 99] (by decide +kernel) (by decide +kernel)
set_option maxRecDepth 20000 in
theorem gX3_survey_X3_countComers : GoodIn wsX3_survey (wsV RX3 65 RX3 yX3_countComers wsX3_countComers) := goodIn_app (goodIn_of _ (by decide +kernel)) ggX3_survey_X3_countComers
set_option maxRecDepth 20000 in
theorem ggX3_survey_X1_followAll : GoodIn wsX3_survey wsX1_followAll := goodIn_r _ [32, 33, 28, 34, 20, 21, 22, 35, 36, 37, 26, 38, 39, 40, 41, 24, 25, 27, 42, 43, 44, 45, 46, 47, 48, 49, 50, 51, 52, 53, 54, 55, 94, 95, 96, 97, 98, 99] (by decide +kernel) (by decide +kernel)
set_option maxRecDepth 20000 in
theorem gX3_survey_X1_followAll : GoodIn wsX3_survey (wsV RX3 68 RX1 yX1_followAll wsX1_followAll) := goodIn_app (goodIn_of _ (by decide +kernel)) ggX3_survey_X1_followAll
set_option maxRecDepth 20000 in
theorem ggX3_survey_X3_numberRings : GoodIn wsX3_survey wsX3_numberRings := goodIn_r _ [59, 60, 61, 62, 2, 3, 63, 19, 20, 21, 22, 64, 65, 66, 16, 67, 68, 4, 69, 70, 71, 72, 23, 24, 25, 26, 27, 28, 73, 74, 75, 8, 76, 10, 11, 12, 82, 83, 84, 85, 86, 87, 88, 89, 90, 91, 92, 93, 94, 95, 96, 97, 98, 99, 100, 101, 102, 103] (by decide +kernel) (by decide +kernel)
set_option maxRecDepth 20000 in
theorem gX3_survey_X3_numberRings : GoodIn wsX3_survey (wsV RX3 71 RX3 yX3_numberRings wsX3_numberRings) := goodIn_app (goodIn_of _ (by decide +kernel)) ggX3_survey_X3_numberRings
set_option maxRecDepth 20000 in
theorem ggX3_survey_X3_gatherBasins : GoodIn wsX3_survey wsX3_gatherBasins := goodIn_r _ [80, 2, 3, 81, 61, 62, 60, 72, 23, 24, 25, 26, 27, 28, 82, 83, 84, 85, 86, 87, 88, 89, 90, 91, 92, 93, 94, 95, 96, 97, 98, 99] (by decide +kernel) (by decide +kernel)
set_option maxRecDepth 20000 in
theorem gX3_survey_X3_gatherBasins : GoodIn wsX3_survey (wsV RX3 75 RX3 yX3_gatherBasins wsX3_gatherBasins) := goodIn_app (goodIn_of _ (by decide +kernel)) ggX3_survey_X3_gatherBasins
set_option maxRecDepth 20000 in
theorem ggX3_countComers_J7_fill_53178 : GoodIn wsX3_countComers wsJ7_fill_53178 := goodIn_r _ [7] (by decide +kernel) (by decide +kernel)
set_option maxRecDepth 20000 in
theorem gX3_countComers_J7_fill_53178 : GoodIn wsX3_countComers (va_wsS RX3 78 yJ7_fill_53178 wsJ7_fill_53178) := goodIn_app (goodIn_of _ (by decide +kernel)) ggX3_countComers_J7_fill_53178
set_option maxRecDepth 20000 in
theorem ggX3_countComers_X1_isInside : GoodIn wsX3_countComers wsX1_isInside := goodIn_r _ [12, 13, 26, 27, 28, 29, 30, 31] (by decide +kernel) (by decide +kernel)
set_option maxRecDepth 20000 in
theorem gX3_countComers_X1_isInside : GoodIn wsX3_countComers (wsV RX3 84 RX1 yX1_isInside wsX1_isInside) := goodIn_app (goodIn_of _ (by decide +kernel)) ggX3_countComers_X1_isInside
set_option maxRecDepth 20000 in
theorem ggX3_numberRings_J7_fill_53178 : GoodIn wsX3_numberRings wsJ7_fill_53178 := goodIn_r _ [10] (by decide +kernel) (by decide +kernel)
set_option maxRecDepth 20000 in
theorem gX3_numberRings_J7_fill_53178 : GoodIn wsX3_numberRings (va_wsS RX3 78 yJ7_fill_53178 wsJ7_fill_53178) := goodIn_app (goodIn_of _ (by decide +kernel)) ggX3_numberRings_J7_fill_53178
set_option maxRecDepth 20000 in
theorem ggX3_numberRings_X3_goRound : GoodIn wsX3_numberRings wsX3_goRound := goodIn_r _ [15, 5, 16, 2, 4, 17, 18, 19, 20, 21, 22, 23, 24, 25, 26, 27, 28, 29, 30, 31, 32, 33, 34, 35, 36, 37, 38, 39, 40, 41, 42, 43, 44, 45, 46, 47, 48, 49, 50, 51, 52, 53, 54, 55, 56, 57] (by decide +kernel) (by decide +kernel)
set_option maxRecDepth 20000 in
theorem gX3_numberRings_X3_goRound : GoodIn wsX3_numberRings (wsV RX3 92 RX3 yX3_goRound wsX3_goRound) := goodIn_app (goodIn_of _ (by decide +kernel)) ggX3_numberRings_X3_goRound
set_option maxRecDepth 20000 in
theorem ggX3_goRound_X1_isInside : GoodIn wsX3_goRound wsX1_isInside := goodIn_r _ [14, 15, 36, 37, 38, 39, 40, 41] (by decide +kernel) (by decide +kernel)
set_option maxRecDepth 20000 in
theorem gX3_goRound_X1_isInside : GoodIn wsX3_goRound (wsV RX3 84 RX1 yX1_isInside wsX1_isInside) := goodIn_app (goodIn_of _ (by decide +kernel)) ggX3_goRound_X1_isInside
set_option maxRecDepth 20000 in
theorem ggX3_goRound_X2_slopeAt : GoodIn wsX3_goRound wsX2_slopeAt := goodIn_r _ [20, 21, 22, 23, 42, 43, 44, 45] (by decide +kernel) (by decide +kernel)
set_option maxRecDepth 20000 in
theorem gX3_goRound_X2_slopeAt : GoodIn wsX3_goRound (wsV RX3 99 RX2 yX2_slopeAt wsX2_slopeAt) := goodIn_app (goodIn_of _ (by decide +kernel)) ggX3_goRound_X2_slopeAt
set_option maxRecDepth 20000 in
theorem ggX3_gatherBasins_X1_isInside : GoodIn wsX3_gatherBasins wsX1_isInside := goodIn_r _ [12, 13, 26, 27, 28, 29, 30, 31] (by decide +kernel) (by decide +kernel)
set_option maxRecDepth 20000 in
theorem gX3_gatherBasins_X1_isInside : GoodIn wsX3_gatherBasins (wsV RX3 84 RX1 yX1_isInside wsX1_isInside) := goodIn_app (goodIn_of _ (by decide +kernel)) ggX3_gatherBasins_X1_isInside
set_option maxRecDepth 20000 in
theorem ggX3_ofAll_X3_pointsOnRings : GoodIn wsX3_ofAll wsX3_pointsOnRings := goodIn_r _ [6, 1, 7, 33, 34, 35, 36, 37, 38, 39, 40, 41, 42, 43, 44] (by decide +kernel) (by decide +kernel)
set_option maxRecDepth 20000 in
theorem gX3_ofAll_X3_pointsOnRings : GoodIn wsX3_ofAll (wsV RX3 105 RX3 yX3_pointsOnRings wsX3_pointsOnRings) := goodIn_app (goodIn_of _ (by decide +kernel)) ggX3_ofAll_X3_pointsOnRings
set_option maxRecDepth 20000 in
theorem ggX3_ofAll_X3_longestRing : GoodIn wsX3_ofAll wsX3_longestRing := goodIn_r _ [11, 1, 7, 12, 13, 14, 15, 33, 34, 35, 36, 37, 38, 39, 40, 41, 42, 43, 44] (by decide +kernel) (by decide +kernel)
set_option maxRecDepth 20000 in
theorem gX3_ofAll_X3_longestRing : GoodIn wsX3_ofAll (wsV RX3 109 RX3 yX3_longestRing wsX3_longestRing) := goodIn_app (goodIn_of _ (by decide +kernel)) ggX3_ofAll_X3_longestRing
set_option maxRecDepth 20000 in
theorem ggX3_ofAll_X3_longestTail : GoodIn wsX3_ofAll wsX3_longestTail := goodIn_r _ [19, 20, 21, 22, 12, 13, 14, 15, 33, 34, 35, 36, 37, 38, 39, 40, 41, 42, 43, 44, 45, 46, 47, 48, 49, 50] (by decide +kernel) (by decide +kernel)
set_option maxRecDepth 20000 in
theorem gX3_ofAll_X3_longestTail : GoodIn wsX3_ofAll (wsV RX3 112 RX3 yX3_longestTail wsX3_longestTail) := goodIn_app (goodIn_of _ (by decide +kernel)) ggX3_ofAll_X3_longestTail
set_option maxRecDepth 20000 in
theorem ggX3_ofAll_X3_pointsWithoutComers : GoodIn wsX3_ofAll wsX3_pointsWithoutComers := goodIn_r _ [26, 20, 27, 33, 34, 35, 36, 37, 38, 39, 40, 41, 42, 43, 44] (by decide +kernel) (by decide +kernel)
set_option maxRecDepth 20000 in
theorem gX3_ofAll_X3_pointsWithoutComers : GoodIn wsX3_ofAll (wsV RX3 115 RX3 yX3_pointsWithoutComers wsX3_pointsWithoutComers) := goodIn_app (goodIn_of _ (by decide +kernel)) ggX3_ofAll_X3_pointsWithoutComers
set_option maxRecDepth 20000 in
theorem ggX3_ofAll_X3_stillRings : GoodIn wsX3_ofAll wsX3_stillRings := goodIn_r _ [31, 1, 32, 33, 34, 35, 36, 37, 38, 39, 40, 41, 42, 43, 44] (by decide +kernel) (by decide +kernel)
set_option maxRecDepth 20000 in
theorem gX3_ofAll_X3_stillRings : GoodIn wsX3_ofAll (wsV RX3 118 RX3 yX3_stillRings wsX3_stillRings) := goodIn_app (goodIn_of _ (by decide +kernel)) ggX3_ofAll_X3_stillRings
set_option maxRecDepth 20000 in
theorem ggX3_isLike_J7_fill_53178 : GoodIn wsX3_isLike wsJ7_fill_53178 := goodIn_r _ [7] (by decide +kernel) (by decide +kernel)
set_option maxRecDepth 20000 in
theorem gX3_isLike_J7_fill_53178 : GoodIn wsX3_isLike (va_wsS RX3 78 yJ7_fill_53178 wsJ7_fill_53178) := goodIn_app (goodIn_of _ (by decide +kernel)) ggX3_isLike_J7_fill_53178
set_option maxRecDepth 20000 in
theorem ggX3_isLike_X3_hasTailsOf : GoodIn wsX3_isLike wsX3_hasTailsOf := goodIn_r _ [12, 13, 2, 4, 5, 6, 7, 14, 15, 16, 11, 17, 18, 19, 3, 20, 21, 22, 23, 24, 25, 26, 27, 28, 29, 30, 31, 32, 33, 34, 35, 36, 37] (by decide +kernel) (by decide +kernel)
set_option maxRecDepth 20000 in
theorem gX3_isLike_X3_hasTailsOf : GoodIn wsX3_isLike (wsV RX3 127 RX3 yX3_hasTailsOf wsX3_hasTailsOf) := goodIn_app (goodIn_of _ (by decide +kernel)) ggX3_isLike_X3_hasTailsOf
set_option maxRecDepth 20000 in
theorem ggX3_hasTailsOf_J7_fill_53178 : GoodIn wsX3_hasTailsOf wsJ7_fill_53178 := goodIn_r _ [6] (by decide +kernel) (by decide +kernel)
set_option maxRecDepth 20000 in
theorem gX3_hasTailsOf_J7_fill_53178 : GoodIn wsX3_hasTailsOf (va_wsS RX3 78 yJ7_fill_53178 wsJ7_fill_53178) := goodIn_app (goodIn_of _ (by decide +kernel)) ggX3_hasTailsOf_J7_fill_53178
set_option maxRecDepth 20000 in
theorem ggX3_hasTailsOf_X3_tally : GoodIn wsX3_hasTailsOf wsX3_tally := goodIn_r _ [11, 12, 13, 14, 1, 27, 28, 29, 30, 31, 32, 15, 16, 17, 18, 19, 20, 21, 22, 23, 24, 25, 26] (by decide +kernel) (by decide +kernel)
set_option maxRecDepth 20000 in
theorem gX3_hasTailsOf_X3_tally : GoodIn wsX3_hasTailsOf (wsV RX3 131 RX3 yX3_tally wsX3_tally) := goodIn_app (goodIn_of _ (by decide +kernel)) ggX3_hasTailsOf_X3_tally
set_option maxRecDepth 20000 in
theorem ggX4_prepare_X2_putOver : GoodIn wsX4_prepare wsX2_putOver := goodIn_r _ [10, 11, 12, 13, 14, 15, 16, 17, 18, 19, 9, 20, 21, 22, 23, 24, 25, 26, 27, 58, 59, 60, 61] (by decide +kernel) (by decide +kernel)
set_option maxRecDepth 20000 in
theorem gX4_prepare_X2_putOver : GoodIn wsX4_prepare (wsV RX4 37 RX2 yX2_putOver wsX2_putOver) := goodIn_app (goodIn_of _ (by decide +kernel)) ggX4_prepare_X2_putOver
set_option maxRecDepth 20000 in
theorem ggX4_prepare_X4_divideOut : GoodIn wsX4_prepare wsX4_divideOut := goodIn_r _ [32, 33, 3, 34, 35, 36, 37, 38, 39, 4, 40, 41, 42, 43, 44, 45, 46, 31, 47, 48, 49, 50, 51, 52, 53, 54, 55, 56, 57] (by decide +kernel) (by decide +kernel)
set_option maxRecDepth 20000 in
theorem gX4_prepare_X4_divideOut : GoodIn wsX4_prepare (wsV RX4 46 RX4 yX4_divideOut wsX4_divideOut) := goodIn_app (goodIn_of _ (by decide +kernel)) ggX4_prepare_X4_divideOut
set_option maxRecDepth 20000 in
theorem ggX4_divideOut_J9_floorMod_7cf53 : GoodIn wsX4_divideOut wsJ9_floorMod_7cf53 := goodIn_r _ [13] (by decide +kernel) (by decide +kernel)
set_option maxRecDepth 20000 in
theorem gX4_divideOut_J9_floorMod_7cf53 : GoodIn wsX4_divideOut (va_wsS RX4 56 yJ9_floorMod_7cf53 wsJ9_floorMod_7cf53) := goodIn_app (goodIn_of _ (by decide +kernel)) ggX4_divideOut_J9_floorMod_7cf53
set_option maxRecDepth 20000 in
theorem ggX4_divideOut_X4_divide : GoodIn wsX4_divideOut wsX4_divide := goodIn_r _ [18, 7, 19, 20, 21, 10, 11, 12, 13, 22, 23, 24, 25, 26, 27, 28] (by decide +kernel) (by decide +kernel)
set_option maxRecDepth 20000 in
theorem gX4_divideOut_X4_divide : GoodIn wsX4_divideOut (wsV RX4 62 RX4 yX4_divide wsX4_divide) := goodIn_app (goodIn_of _ (by decide +kernel)) ggX4_divideOut_X4_divide
set_option maxRecDepth 20000 in
theorem ggX4_divide_X6_inverse : GoodIn wsX4_divide wsX6_inverse := goodIn_r _ [4] (by decide +kernel) (by decide +kernel)
set_option maxRecDepth 20000 in
theorem gX4_divide_X6_inverse_n66 : GoodIn wsX4_divide (wsX6_inverse) := ggX4_divide_X6_inverse
set_option maxRecDepth 20000 in
theorem ggX4_divide_J9_floorMod_7cf53 : GoodIn wsX4_divide wsJ9_floorMod_7cf53 := goodIn_r _ [8] (by decide +kernel) (by decide +kernel)
set_option maxRecDepth 20000 in
theorem gX4_divide_J9_floorMod_7cf53 : GoodIn wsX4_divide (va_wsS RX4 56 yJ9_floorMod_7cf53 wsJ9_floorMod_7cf53) := goodIn_app (goodIn_of _ (by decide +kernel)) ggX4_divide_J9_floorMod_7cf53
set_option maxRecDepth 20000 in
theorem ggX6_init_X6_isPrimeHere : GoodIn wsX6_init wsX6_isPrimeHere := goodIn_r _ [29] (by decide +kernel) (by decide +kernel)
set_option maxRecDepth 20000 in
theorem gX6_init_X6_isPrimeHere : GoodIn wsX6_init (va_wsS RX6 7 yX6_isPrimeHere wsX6_isPrimeHere) := goodIn_app (goodIn_of _ (by decide +kernel)) ggX6_init_X6_isPrimeHere
set_option maxRecDepth 20000 in
theorem ggX6_init_X3_init : GoodIn wsX6_init wsX3_init := goodIn_r _ [32, 33, 2, 3, 34, 35, 36, 37, 38, 9, 39, 40, 41, 42, 43, 44, 45, 46, 47, 48, 49, 50, 51, 52, 53, 54, 55, 56, 57, 58, 92, 93, 94, 95, 96, 97, 98, 99, 100, 101, 102, 103, 116, 117, 118, 119, 120, 121] (by decide +kernel) (by decide +kernel)
set_option maxRecDepth 20000 in
theorem gX6_init_X3_init : GoodIn wsX6_init (wsX3_init) := ggX6_init_X3_init
set_option maxRecDepth 20000 in
theorem ggX6_init_X4_init : GoodIn wsX6_init wsX4_init := goodIn_r _ [61, 62, 2, 3, 63, 64, 9, 65, 66, 67, 68, 69, 70, 104, 105, 106, 107, 108, 109, 110] (by decide +kernel) (by decide +kernel)
set_option maxRecDepth 20000 in
theorem gX6_init_X4_init : GoodIn wsX6_init (wsX4_init) := ggX6_init_X4_init
set_option maxRecDepth 20000 in
theorem ggX6_init_X0_init : GoodIn wsX6_init wsX0_init := goodIn_r _ [73, 74, 2, 3, 75, 36, 37, 76, 9, 77, 78, 79, 80, 81, 50, 51, 52, 53, 54, 55, 56, 57, 58, 116, 117, 118, 119, 120, 121, 111, 112, 113, 114, 115] (by decide +kernel) (by decide +kernel)
set_option maxRecDepth 20000 in
theorem gX6_init_X0_init : GoodIn wsX6_init (wsX0_init) := ggX6_init_X0_init
set_option maxRecDepth 20000 in
theorem ggX6_sheet_X6_isSheet : GoodIn wsX6_sheet wsX6_isSheet := goodIn_r _ [9] (by decide +kernel) (by decide +kernel)
set_option maxRecDepth 20000 in
theorem gX6_sheet_X6_isSheet : GoodIn wsX6_sheet (va_wsS RX6 65 yX6_isSheet wsX6_isSheet) := goodIn_app (goodIn_of _ (by decide +kernel)) ggX6_sheet_X6_isSheet
set_option maxRecDepth 20000 in
theorem ggX6_sheet_X6_found : GoodIn wsX6_sheet wsX6_found := goodIn_r _ [13, 14, 15, 33, 34, 35, 36, 37, 38, 39, 40, 41, 42] (by decide +kernel) (by decide +kernel)
set_option maxRecDepth 20000 in
theorem gX6_sheet_X6_found : GoodIn wsX6_sheet (wsV RX6 69 RX6 yX6_found wsX6_found) := goodIn_app (goodIn_of _ (by decide +kernel)) ggX6_sheet_X6_found
set_option maxRecDepth 20000 in
theorem ggX6_sheet_X5_init : GoodIn wsX6_sheet wsX5_init := goodIn_r _ [18, 19, 20, 21, 22, 23, 24, 25, 26, 27, 28, 43, 44] (by decide +kernel) (by decide +kernel)
set_option maxRecDepth 20000 in
theorem gX6_sheet_X5_init : GoodIn wsX6_sheet (wsX5_init) := ggX6_sheet_X5_init
set_option maxRecDepth 20000 in
theorem ggX6_sheet_X6_fine : GoodIn wsX6_sheet wsX6_fine := goodIn_r _ [32, 14, 33, 34, 35, 36, 37, 38, 39, 40, 41, 42] (by decide +kernel) (by decide +kernel)
set_option maxRecDepth 20000 in
theorem gX6_sheet_X6_fine : GoodIn wsX6_sheet (wsV RX6 76 RX6 yX6_fine wsX6_fine) := goodIn_app (goodIn_of _ (by decide +kernel)) ggX6_sheet_X6_fine
set_option maxRecDepth 20000 in
theorem ggX6_set_X6_isSheet : GoodIn wsX6_set wsX6_isSheet := goodIn_r _ [8] (by decide +kernel) (by decide +kernel)
set_option maxRecDepth 20000 in
theorem gX6_set_X6_isSheet : GoodIn wsX6_set (va_wsS RX6 65 yX6_isSheet wsX6_isSheet) := goodIn_app (goodIn_of _ (by decide +kernel)) ggX6_set_X6_isSheet
set_option maxRecDepth 20000 in
theorem ggX6_set_X6_found : GoodIn wsX6_set wsX6_found := goodIn_r _ [12, 4, 13, 25, 26, 27, 28, 29, 30, 31, 32, 33, 34] (by decide +kernel) (by decide +kernel)
set_option maxRecDepth 20000 in
theorem gX6_set_X6_found : GoodIn wsX6_set (wsV RX6 69 RX6 yX6_found wsX6_found) := goodIn_app (goodIn_of _ (by decide +kernel)) ggX6_set_X6_found
set_option maxRecDepth 20000 in
theorem ggX6_set_X5_holds : GoodIn wsX6_set wsX5_holds := goodIn_r _ [18, 19, 35, 36] (by decide +kernel) (by decide +kernel)
set_option maxRecDepth 20000 in
theorem gX6_set_X5_holds : GoodIn wsX6_set (wsV RX6 81 RX5 yX5_holds wsX5_holds) := goodIn_app (goodIn_of _ (by decide +kernel)) ggX6_set_X5_holds
set_option maxRecDepth 20000 in
theorem ggX6_set_X5_cut : GoodIn wsX6_set wsX5_cut := goodIn_r _ [23, 24, 35, 36] (by decide +kernel) (by decide +kernel)
set_option maxRecDepth 20000 in
theorem gX6_set_X5_cut : GoodIn wsX6_set (wsV RX6 89 RX5 yX5_cut wsX5_cut) := goodIn_app (goodIn_of _ (by decide +kernel)) ggX6_set_X5_cut
set_option maxRecDepth 20000 in
theorem ggX6_copy_X6_isSheet : GoodIn wsX6_copy wsX6_isSheet := goodIn_r _ [12] (by decide +kernel) (by decide +kernel)
set_option maxRecDepth 20000 in
theorem gX6_copy_X6_isSheet : GoodIn wsX6_copy (va_wsS RX6 65 yX6_isSheet wsX6_isSheet) := goodIn_app (goodIn_of _ (by decide +kernel)) ggX6_copy_X6_isSheet
set_option maxRecDepth 20000 in
theorem ggX6_copy_X6_found : GoodIn wsX6_copy wsX6_found := goodIn_r _ [16, 17, 18, 29, 30, 31, 32, 33, 34, 35, 36, 37, 38] (by decide +kernel) (by decide +kernel)
set_option maxRecDepth 20000 in
theorem gX6_copy_X6_found : GoodIn wsX6_copy (wsV RX6 69 RX6 yX6_found wsX6_found) := goodIn_app (goodIn_of _ (by decide +kernel)) ggX6_copy_X6_found
set_option maxRecDepth 20000 in
theorem ggX6_copy_X5_holds : GoodIn wsX6_copy wsX5_holds := goodIn_r _ [23, 24, 39, 40] (by decide +kernel) (by decide +kernel)
set_option maxRecDepth 20000 in
theorem gX6_copy_X5_holds : GoodIn wsX6_copy (wsV RX6 81 RX5 yX5_holds wsX5_holds) := goodIn_app (goodIn_of _ (by decide +kernel)) ggX6_copy_X5_holds
set_option maxRecDepth 20000 in
theorem ggX6_copy_X6_fine : GoodIn wsX6_copy wsX6_fine := goodIn_r _ [28, 17, 29, 30, 31, 32, 33, 34, 35, 36, 37, 38] (by decide +kernel) (by decide +kernel)
set_option maxRecDepth 20000 in
theorem gX6_copy_X6_fine : GoodIn wsX6_copy (wsV RX6 76 RX6 yX6_fine wsX6_fine) := goodIn_app (goodIn_of _ (by decide +kernel)) ggX6_copy_X6_fine
set_option maxRecDepth 20000 in
theorem ggX6_drop_X6_isSheet : GoodIn wsX6_drop wsX6_isSheet := goodIn_r _ [7] (by decide +kernel) (by decide +kernel)
set_option maxRecDepth 20000 in
theorem gX6_drop_X6_isSheet : GoodIn wsX6_drop (va_wsS RX6 65 yX6_isSheet wsX6_isSheet) := goodIn_app (goodIn_of _ (by decide +kernel)) ggX6_drop_X6_isSheet
set_option maxRecDepth 20000 in
theorem ggX6_drop_X6_found : GoodIn wsX6_drop wsX6_found := goodIn_r _ [11, 12, 13, 18, 19, 20, 21, 22, 23, 24, 25, 26, 27] (by decide +kernel) (by decide +kernel)
set_option maxRecDepth 20000 in
theorem gX6_drop_X6_found : GoodIn wsX6_drop (wsV RX6 69 RX6 yX6_found wsX6_found) := goodIn_app (goodIn_of _ (by decide +kernel)) ggX6_drop_X6_found
set_option maxRecDepth 20000 in
theorem ggX6_drop_X6_fine : GoodIn wsX6_drop wsX6_fine := goodIn_r _ [17, 12, 18, 19, 20, 21, 22, 23, 24, 25, 26, 27] (by decide +kernel) (by decide +kernel)
set_option maxRecDepth 20000 in
theorem gX6_drop_X6_fine : GoodIn wsX6_drop (wsV RX6 76 RX6 yX6_fine wsX6_fine) := goodIn_app (goodIn_of _ (by decide +kernel)) ggX6_drop_X6_fine
set_option maxRecDepth 20000 in
theorem ggX6_map_X6_isPlace : GoodIn wsX6_map wsX6_isPlace := goodIn_r _ [9] (by decide +kernel) (by decide +kernel)
set_option maxRecDepth 20000 in
theorem gX6_map_X6_isPlace : GoodIn wsX6_map (va_wsS RX6 102 yX6_isPlace wsX6_isPlace) := goodIn_app (goodIn_of _ (by decide +kernel)) ggX6_map_X6_isPlace
set_option maxRecDepth 20000 in
theorem ggX6_map_X6_isSheet : GoodIn wsX6_map wsX6_isSheet := goodIn_r _ [12] (by decide +kernel) (by decide +kernel)
set_option maxRecDepth 20000 in
theorem gX6_map_X6_isSheet : GoodIn wsX6_map (va_wsS RX6 65 yX6_isSheet wsX6_isSheet) := goodIn_app (goodIn_of _ (by decide +kernel)) ggX6_map_X6_isSheet
set_option maxRecDepth 20000 in
theorem ggX6_map_X6_found : GoodIn wsX6_map wsX6_found := goodIn_r _ [16, 17, 18, 58, 59, 60, 61, 62, 63, 64, 65, 66, 67] (by decide +kernel) (by decide +kernel)
set_option maxRecDepth 20000 in
theorem gX6_map_X6_found : GoodIn wsX6_map (wsV RX6 69 RX6 yX6_found wsX6_found) := goodIn_app (goodIn_of _ (by decide +kernel)) ggX6_map_X6_found
set_option maxRecDepth 20000 in
theorem ggX6_map_X5_holds : GoodIn wsX6_map wsX5_holds := goodIn_r _ [23, 24, 68, 69] (by decide +kernel) (by decide +kernel)
set_option maxRecDepth 20000 in
theorem gX6_map_X5_holds : GoodIn wsX6_map (wsV RX6 81 RX5 yX5_holds wsX5_holds) := goodIn_app (goodIn_of _ (by decide +kernel)) ggX6_map_X5_holds
set_option maxRecDepth 20000 in
theorem ggX6_map_J9_floorMod_f86c9 : GoodIn wsX6_map wsJ9_floorMod_f86c9 := goodIn_r _ [28] (by decide +kernel) (by decide +kernel)
set_option maxRecDepth 20000 in
theorem gX6_map_J9_floorMod_f86c9 : GoodIn wsX6_map (va_wsS RX6 105 yJ9_floorMod_f86c9 wsJ9_floorMod_f86c9) := goodIn_app (goodIn_of _ (by decide +kernel)) ggX6_map_J9_floorMod_f86c9
set_option maxRecDepth 20000 in
theorem ggX6_map_X6_put : GoodIn wsX6_map wsX6_put := goodIn_r _ [32, 33, 34, 35, 5, 36, 37, 38, 39, 40, 41, 42, 43, 44, 45, 46, 47, 48, 49, 50, 51, 52, 53, 54, 55, 56, 8, 57, 17, 70, 71, 72, 73, 58, 59, 60, 61, 62, 63, 64, 65, 66, 67] (by decide +kernel) (by decide +kernel)
set_option maxRecDepth 20000 in
theorem gX6_map_X6_put : GoodIn wsX6_map (wsV RX6 111 RX6 yX6_put wsX6_put) := goodIn_app (goodIn_of _ (by decide +kernel)) ggX6_map_X6_put
set_option maxRecDepth 20000 in
theorem ggX6_plain_X6_isPlace : GoodIn wsX6_plain wsX6_isPlace := goodIn_r _ [7] (by decide +kernel) (by decide +kernel)
set_option maxRecDepth 20000 in
theorem gX6_plain_X6_isPlace : GoodIn wsX6_plain (va_wsS RX6 102 yX6_isPlace wsX6_isPlace) := goodIn_app (goodIn_of _ (by decide +kernel)) ggX6_plain_X6_isPlace
set_option maxRecDepth 20000 in
theorem ggX6_plain_J9_floorMod_7cf53 : GoodIn wsX6_plain wsJ9_floorMod_7cf53 := goodIn_r _ [11] (by decide +kernel) (by decide +kernel)
set_option maxRecDepth 20000 in
theorem gX6_plain_J9_floorMod_7cf53 : GoodIn wsX6_plain (va_wsS RX6 115 yJ9_floorMod_7cf53 wsJ9_floorMod_7cf53) := goodIn_app (goodIn_of _ (by decide +kernel)) ggX6_plain_J9_floorMod_7cf53
set_option maxRecDepth 20000 in
theorem ggX6_plain_X6_put : GoodIn wsX6_plain wsX6_put := goodIn_r _ [15, 16, 17, 18, 3, 19, 20, 21, 22, 23, 24, 25, 26, 27, 28, 29, 30, 31, 32, 33, 34, 35, 36, 37, 38, 39, 6, 40, 41, 52, 53, 54, 55, 42, 43, 44, 45, 46, 47, 48, 49, 50, 51] (by decide +kernel) (by decide +kernel)
set_option maxRecDepth 20000 in
theorem gX6_plain_X6_put : GoodIn wsX6_plain (wsV RX6 111 RX6 yX6_put wsX6_put) := goodIn_app (goodIn_of _ (by decide +kernel)) ggX6_plain_X6_put
set_option maxRecDepth 20000 in
theorem ggX6_turn_J9_floorMod_7cf53 : GoodIn wsX6_turn wsJ9_floorMod_7cf53 := goodIn_r _ [7] (by decide +kernel) (by decide +kernel)
set_option maxRecDepth 20000 in
theorem gX6_turn_J9_floorMod_7cf53 : GoodIn wsX6_turn (va_wsS RX6 115 yJ9_floorMod_7cf53 wsJ9_floorMod_7cf53) := goodIn_app (goodIn_of _ (by decide +kernel)) ggX6_turn_J9_floorMod_7cf53
set_option maxRecDepth 20000 in
theorem ggX6_turn_X6_isPlace : GoodIn wsX6_turn wsX6_isPlace := goodIn_r _ [11] (by decide +kernel) (by decide +kernel)
set_option maxRecDepth 20000 in
theorem gX6_turn_X6_isPlace : GoodIn wsX6_turn (va_wsS RX6 102 yX6_isPlace wsX6_isPlace) := goodIn_app (goodIn_of _ (by decide +kernel)) ggX6_turn_X6_isPlace
set_option maxRecDepth 20000 in
theorem ggX6_turn_X6_found : GoodIn wsX6_turn wsX6_found := goodIn_r _ [15, 16, 17, 72, 73, 74, 75, 76, 77, 78, 79, 80, 81] (by decide +kernel) (by decide +kernel)
set_option maxRecDepth 20000 in
theorem gX6_turn_X6_found : GoodIn wsX6_turn (wsV RX6 69 RX6 yX6_found wsX6_found) := goodIn_app (goodIn_of _ (by decide +kernel)) ggX6_turn_X6_found
set_option maxRecDepth 20000 in
theorem ggX6_turn_X2_turned : GoodIn wsX6_turn wsX2_turned := goodIn_r _ [22, 23, 24, 25, 26, 27, 21, 28, 29, 30, 31, 32, 33, 34, 35, 36, 37, 38, 39, 40, 41, 42, 43, 44, 45, 5, 6, 7, 46, 10, 47, 82, 83, 84, 85] (by decide +kernel) (by decide +kernel)
set_option maxRecDepth 20000 in
theorem gX6_turn_X2_turned : GoodIn wsX6_turn (wsV RX6 118 RX2 yX2_turned wsX2_turned) := goodIn_app (goodIn_of _ (by decide +kernel)) ggX6_turn_X2_turned
set_option maxRecDepth 20000 in
theorem ggX6_turn_X6_put : GoodIn wsX6_turn wsX6_put := goodIn_r _ [51, 52, 53, 21, 1, 3, 54, 55, 56, 57, 58, 59, 60, 24, 29, 30, 61, 62, 63, 64, 65, 66, 67, 68, 69, 70, 10, 71, 16, 82, 83, 84, 85, 72, 73, 74, 75, 76, 77, 78, 79, 80, 81] (by decide +kernel) (by decide +kernel)
set_option maxRecDepth 20000 in
theorem gX6_turn_X6_put : GoodIn wsX6_turn (wsV RX6 111 RX6 yX6_put wsX6_put) := goodIn_app (goodIn_of _ (by decide +kernel)) ggX6_turn_X6_put
set_option maxRecDepth 20000 in
theorem ggX6_behind_X6_isPlace : GoodIn wsX6_behind wsX6_isPlace := goodIn_r _ [10] (by decide +kernel) (by decide +kernel)
set_option maxRecDepth 20000 in
theorem gX6_behind_X6_isPlace : GoodIn wsX6_behind (va_wsS RX6 102 yX6_isPlace wsX6_isPlace) := goodIn_app (goodIn_of _ (by decide +kernel)) ggX6_behind_X6_isPlace
set_option maxRecDepth 20000 in
theorem ggX6_behind_X6_found : GoodIn wsX6_behind wsX6_found := goodIn_r _ [14, 15, 16, 64, 65, 66, 67, 68, 69, 70, 71, 72, 73] (by decide +kernel) (by decide +kernel)
set_option maxRecDepth 20000 in
theorem gX6_behind_X6_found : GoodIn wsX6_behind (wsV RX6 69 RX6 yX6_found wsX6_found) := goodIn_app (goodIn_of _ (by decide +kernel)) ggX6_behind_X6_found
set_option maxRecDepth 20000 in
theorem ggX6_behind_X2_putOver : GoodIn wsX6_behind wsX2_putOver := goodIn_r _ [21, 22, 23, 24, 25, 26, 27, 28, 29, 30, 20, 31, 32, 33, 34, 35, 36, 37, 38, 74, 75, 76, 77] (by decide +kernel) (by decide +kernel)
set_option maxRecDepth 20000 in
theorem gX6_behind_X2_putOver : GoodIn wsX6_behind (wsV RX6 129 RX2 yX2_putOver wsX2_putOver) := goodIn_app (goodIn_of _ (by decide +kernel)) ggX6_behind_X2_putOver
set_option maxRecDepth 20000 in
theorem ggX6_behind_X6_put : GoodIn wsX6_behind wsX6_put := goodIn_r _ [42, 43, 44, 20, 45, 2, 46, 47, 48, 49, 50, 51, 52, 24, 22, 23, 53, 54, 55, 56, 57, 58, 59, 60, 61, 62, 9, 63, 15, 74, 75, 76, 77, 64, 65, 66, 67, 68, 69, 70, 71, 72, 73] (by decide +kernel) (by decide +kernel)
set_option maxRecDepth 20000 in
theorem gX6_behind_X6_put : GoodIn wsX6_behind (wsV RX6 111 RX6 yX6_put wsX6_put) := goodIn_app (goodIn_of _ (by decide +kernel)) ggX6_behind_X6_put
set_option maxRecDepth 20000 in
theorem ggX6_clear_X6_isPlace : GoodIn wsX6_clear wsX6_isPlace := goodIn_r _ [6] (by decide +kernel) (by decide +kernel)
set_option maxRecDepth 20000 in
theorem gX6_clear_X6_isPlace : GoodIn wsX6_clear (va_wsS RX6 102 yX6_isPlace wsX6_isPlace) := goodIn_app (goodIn_of _ (by decide +kernel)) ggX6_clear_X6_isPlace
set_option maxRecDepth 20000 in
theorem ggX6_number_X6_isPlace : GoodIn wsX6_number wsX6_isPlace := goodIn_r _ [8] (by decide +kernel) (by decide +kernel)
set_option maxRecDepth 20000 in
theorem gX6_number_X6_isPlace : GoodIn wsX6_number (va_wsS RX6 102 yX6_isPlace wsX6_isPlace) := goodIn_app (goodIn_of _ (by decide +kernel)) ggX6_number_X6_isPlace
set_option maxRecDepth 20000 in
theorem ggX6_number_X6_found : GoodIn wsX6_number wsX6_found := goodIn_r _ [12, 13, 14, 19, 20, 21, 22, 23, 24, 25, 26, 27, 28] (by decide +kernel) (by decide +kernel)
set_option maxRecDepth 20000 in
theorem gX6_number_X6_found : GoodIn wsX6_number (wsV RX6 69 RX6 yX6_found wsX6_found) := goodIn_app (goodIn_of _ (by decide +kernel)) ggX6_number_X6_found
set_option maxRecDepth 20000 in
theorem ggX6_number_X6_fine : GoodIn wsX6_number wsX6_fine := goodIn_r _ [18, 13, 19, 20, 21, 22, 23, 24, 25, 26, 27, 28] (by decide +kernel) (by decide +kernel)
set_option maxRecDepth 20000 in
theorem gX6_number_X6_fine : GoodIn wsX6_number (wsV RX6 76 RX6 yX6_fine wsX6_fine) := goodIn_app (goodIn_of _ (by decide +kernel)) ggX6_number_X6_fine
set_option maxRecDepth 20000 in
theorem ggX6_kind_X6_isPlace : GoodIn wsX6_kind wsX6_isPlace := goodIn_r _ [7] (by decide +kernel) (by decide +kernel)
set_option maxRecDepth 20000 in
theorem gX6_kind_X6_isPlace : GoodIn wsX6_kind (va_wsS RX6 102 yX6_isPlace wsX6_isPlace) := goodIn_app (goodIn_of _ (by decide +kernel)) ggX6_kind_X6_isPlace
set_option maxRecDepth 20000 in
theorem ggX6_kind_X6_found : GoodIn wsX6_kind wsX6_found := goodIn_r _ [11, 12, 13, 18, 19, 20, 21, 22, 23, 24, 25, 26, 27] (by decide +kernel) (by decide +kernel)
set_option maxRecDepth 20000 in
theorem gX6_kind_X6_found : GoodIn wsX6_kind (wsV RX6 69 RX6 yX6_found wsX6_found) := goodIn_app (goodIn_of _ (by decide +kernel)) ggX6_kind_X6_found
set_option maxRecDepth 20000 in
theorem ggX6_kind_X6_fine : GoodIn wsX6_kind wsX6_fine := goodIn_r _ [17, 12, 18, 19, 20, 21, 22, 23, 24, 25, 26, 27] (by decide +kernel) (by decide +kernel)
set_option maxRecDepth 20000 in
theorem gX6_kind_X6_fine : GoodIn wsX6_kind (wsV RX6 76 RX6 yX6_fine wsX6_fine) := goodIn_app (goodIn_of _ (by decide +kernel)) ggX6_kind_X6_fine
set_option maxRecDepth 20000 in
theorem ggX6_is_X6_isPlace : GoodIn wsX6_is wsX6_isPlace := goodIn_r _ [6] (by decide +kernel) (by decide +kernel)
set_option maxRecDepth 20000 in
theorem gX6_is_X6_isPlace : GoodIn wsX6_is (va_wsS RX6 102 yX6_isPlace wsX6_isPlace) := goodIn_app (goodIn_of _ (by decide +kernel)) ggX6_is_X6_isPlace
set_option maxRecDepth 20000 in
theorem ggX6_is_X6_isKind : GoodIn wsX6_is wsX6_isKind := goodIn_r _ [9] (by decide +kernel) (by decide +kernel)
set_option maxRecDepth 20000 in
theorem gX6_is_X6_isKind : GoodIn wsX6_is (va_wsS RX6 136 yX6_isKind wsX6_isKind) := goodIn_app (goodIn_of _ (by decide +kernel)) ggX6_is_X6_isKind
set_option maxRecDepth 20000 in
theorem ggX6_is_X2_fits : GoodIn wsX6_is wsX2_fits := goodIn_r _ [14, 15, 26, 27, 28, 29] (by decide +kernel) (by decide +kernel)
set_option maxRecDepth 20000 in
theorem gX6_is_X2_fits : GoodIn wsX6_is (wsV RX6 139 RX2 yX2_fits wsX2_fits) := goodIn_app (goodIn_of _ (by decide +kernel)) ggX6_is_X2_fits
set_option maxRecDepth 20000 in
theorem ggX6_as_X6_isPlace : GoodIn wsX6_as wsX6_isPlace := goodIn_r _ [7] (by decide +kernel) (by decide +kernel)
set_option maxRecDepth 20000 in
theorem gX6_as_X6_isPlace : GoodIn wsX6_as (va_wsS RX6 102 yX6_isPlace wsX6_isPlace) := goodIn_app (goodIn_of _ (by decide +kernel)) ggX6_as_X6_isPlace
set_option maxRecDepth 20000 in
theorem ggX6_as_X6_isKind : GoodIn wsX6_as wsX6_isKind := goodIn_r _ [10] (by decide +kernel) (by decide +kernel)
set_option maxRecDepth 20000 in
theorem gX6_as_X6_isKind : GoodIn wsX6_as (va_wsS RX6 136 yX6_isKind wsX6_isKind) := goodIn_app (goodIn_of _ (by decide +kernel)) ggX6_as_X6_isKind
set_option maxRecDepth 20000 in
theorem ggX6_as_X6_found : GoodIn wsX6_as wsX6_found := goodIn_r _ [14, 15, 16, 27, 28, 29, 30, 31, 32, 33, 34, 35, 36] (by decide +kernel) (by decide +kernel)
set_option maxRecDepth 20000 in
theorem gX6_as_X6_found : GoodIn wsX6_as (wsV RX6 69 RX6 yX6_found wsX6_found) := goodIn_app (goodIn_of _ (by decide +kernel)) ggX6_as_X6_found
set_option maxRecDepth 20000 in
theorem ggX6_as_X2_fits : GoodIn wsX6_as wsX2_fits := goodIn_r _ [21, 22, 37, 38, 39, 40] (by decide +kernel) (by decide +kernel)
set_option maxRecDepth 20000 in
theorem gX6_as_X2_fits : GoodIn wsX6_as (wsV RX6 139 RX2 yX2_fits wsX2_fits) := goodIn_app (goodIn_of _ (by decide +kernel)) ggX6_as_X2_fits
set_option maxRecDepth 20000 in
theorem ggX6_as_X6_fine : GoodIn wsX6_as wsX6_fine := goodIn_r _ [26, 15, 27, 28, 29, 30, 31, 32, 33, 34, 35, 36] (by decide +kernel) (by decide +kernel)
set_option maxRecDepth 20000 in
theorem gX6_as_X6_fine : GoodIn wsX6_as (wsV RX6 76 RX6 yX6_fine wsX6_fine) := goodIn_app (goodIn_of _ (by decide +kernel)) ggX6_as_X6_fine
set_option maxRecDepth 20000 in
theorem ggX6_ask_X6_isPlace : GoodIn wsX6_ask wsX6_isPlace := goodIn_r _ [8] (by decide +kernel) (by decide +kernel)
set_option maxRecDepth 20000 in
theorem gX6_ask_X6_isPlace : GoodIn wsX6_ask (va_wsS RX6 102 yX6_isPlace wsX6_isPlace) := goodIn_app (goodIn_of _ (by decide +kernel)) ggX6_ask_X6_isPlace
set_option maxRecDepth 20000 in
theorem ggX6_ask_X6_found : GoodIn wsX6_ask wsX6_found := goodIn_r _ [12, 13, 14, 158, 159, 160, 161, 162, 163, 164, 165, 166, 167] (by decide +kernel) (by decide +kernel)
set_option maxRecDepth 20000 in
theorem gX6_ask_X6_found : GoodIn wsX6_ask (wsV RX6 69 RX6 yX6_found wsX6_found) := goodIn_app (goodIn_of _ (by decide +kernel)) ggX6_ask_X6_found
set_option maxRecDepth 20000 in
theorem ggX6_ask_X3_survey : GoodIn wsX6_ask wsX3_survey := goodIn_r _ [19, 20, 21, 22, 23, 24, 25, 26, 27, 28, 29, 30, 31, 32, 33, 34, 18, 35, 36, 37, 38, 39, 40, 41, 42, 43, 44, 45, 46, 47, 48, 49, 50, 51, 52, 53, 54, 55, 56, 57, 58, 59, 60, 61, 62, 63, 64, 65, 66, 67, 68, 69, 70, 71, 72, 73, 74, 75, 76, 77, 78, 79, 80, 81, 82, 83, 84, 85, 86, 87, 88, 89, 90, 91, 92, 93, 94, 95, 96, 97, 98, 99, 168, 169, 170, 171, 172, 173, 174, 175, 176, 177, 178, 179, 180, 181, 182, 183, 184, 185, 186, 187, 188, 189] (by decide +kernel) (by decide +kernel)
set_option maxRecDepth 20000 in
theorem gX6_ask_X3_survey : GoodIn wsX6_ask (wsV RX6 142 RX3 yX3_survey wsX3_survey) := goodIn_app (goodIn_of _ (by decide +kernel)) ggX6_ask_X3_survey
set_option maxRecDepth 20000 in
theorem ggX6_ask_X6_sizeAsked : GoodIn wsX6_ask wsX6_sizeAsked := goodIn_r _ [103, 104, 105, 106, 107, 7, 108, 109, 110, 111, 112, 113, 2, 114, 115, 116, 117, 118, 119, 120, 121, 122, 4, 123, 124, 125, 18, 126, 21, 36, 127, 128, 129, 130, 131, 132, 133, 134, 135, 136, 137, 138, 139, 140, 141, 142, 143, 144, 145, 186, 187, 188, 189, 158, 159, 160, 161, 162, 163, 164, 165, 166, 167, 168, 169, 170, 171, 172, 173, 174, 175, 176, 177, 178, 179, 180, 181, 182, 183, 184, 185] (by decide +kernel) (by decide +kernel)
set_option maxRecDepth 20000 in
theorem gX6_ask_X6_sizeAsked : GoodIn wsX6_ask (wsV RX6 146 RX6 yX6_sizeAsked wsX6_sizeAsked) := goodIn_app (goodIn_of _ (by decide +kernel)) ggX6_ask_X6_sizeAsked
set_option maxRecDepth 20000 in
theorem ggX6_ask_X6_markAsked : GoodIn wsX6_ask wsX6_markAsked := goodIn_r _ [149, 104, 137, 138, 139, 7, 140, 109, 110, 111, 112, 113, 2, 114, 141, 142, 143, 144, 145, 131, 132, 133, 134, 4, 135, 136, 150, 151, 152, 153, 119, 120, 121, 122, 123, 124, 125, 18, 126, 21, 36, 186, 187, 188, 189, 158, 159, 160, 161, 162, 163, 164, 165, 166, 167, 168, 169, 170, 171, 172, 173, 174, 175, 176, 177, 178, 179, 180, 181, 182, 183, 184, 185] (by decide +kernel) (by decide +kernel)
set_option maxRecDepth 20000 in
theorem gX6_ask_X6_markAsked : GoodIn wsX6_ask (wsV RX6 150 RX6 yX6_markAsked wsX6_markAsked) := goodIn_app (goodIn_of _ (by decide +kernel)) ggX6_ask_X6_markAsked
set_option maxRecDepth 20000 in
theorem ggX6_ask_X6_fine : GoodIn wsX6_ask wsX6_fine := goodIn_r _ [157, 13, 158, 159, 160, 161, 162, 163, 164, 165, 166, 167] (by decide +kernel) (by decide +kernel)
set_option maxRecDepth 20000 in
theorem gX6_ask_X6_fine : GoodIn wsX6_ask (wsV RX6 76 RX6 yX6_fine wsX6_fine) := goodIn_app (goodIn_of _ (by decide +kernel)) ggX6_ask_X6_fine
set_option maxRecDepth 20000 in
theorem ggX6_step_X6_isPlace : GoodIn wsX6_step wsX6_isPlace := goodIn_r _ [8] (by decide +kernel) (by decide +kernel)
set_option maxRecDepth 20000 in
theorem gX6_step_X6_isPlace : GoodIn wsX6_step (va_wsS RX6 102 yX6_isPlace wsX6_isPlace) := goodIn_app (goodIn_of _ (by decide +kernel)) ggX6_step_X6_isPlace
set_option maxRecDepth 20000 in
theorem ggX6_step_X6_isPoint : GoodIn wsX6_step wsX6_isPoint := goodIn_r _ [12, 13, 118, 119, 120, 121, 122, 123, 124, 125, 126, 127] (by decide +kernel) (by decide +kernel)
set_option maxRecDepth 20000 in
theorem gX6_step_X6_isPoint : GoodIn wsX6_step (wsV RX6 154 RX6 yX6_isPoint wsX6_isPoint) := goodIn_app (goodIn_of _ (by decide +kernel)) ggX6_step_X6_isPoint
set_option maxRecDepth 20000 in
theorem ggX6_step_X6_found : GoodIn wsX6_step wsX6_found := goodIn_r _ [17, 18, 19, 118, 119, 120, 121, 122, 123, 124, 125, 126, 127] (by decide +kernel) (by decide +kernel)
set_option maxRecDepth 20000 in
theorem gX6_step_X6_found : GoodIn wsX6_step (wsV RX6 69 RX6 yX6_found wsX6_found) := goodIn_app (goodIn_of _ (by decide +kernel)) ggX6_step_X6_found
set_option maxRecDepth 20000 in
theorem ggX6_step_X6_roadsOf : GoodIn wsX6_step wsX6_roadsOf := goodIn_r _ [23, 24, 25, 26, 27, 28, 29, 30, 31, 32, 33, 34, 35, 36, 37, 38, 39, 40, 41, 42, 43, 44, 45, 46, 47, 48, 49, 50, 51, 52, 53, 54, 55, 56, 57, 58, 59, 60, 61, 62, 63, 64, 65, 66, 67, 68, 69, 70, 71, 72, 73, 74, 75, 76, 77, 78, 79, 80, 81, 82, 83, 84, 85, 86, 87, 88, 89, 90, 91, 92, 93, 94, 95, 96, 97, 98, 99, 100, 101, 102, 103, 104, 105, 106, 107, 108, 109, 118, 119, 120, 121, 122, 123, 124, 125, 126, 127, 128, 129, 130, 131, 132, 133, 134, 135, 136, 137, 138, 139, 140, 141, 142, 143, 144, 145, 146, 147, 148, 149] (by decide +kernel) (by decide +kernel)
set_option maxRecDepth 20000 in
theorem gX6_step_X6_roadsOf : GoodIn wsX6_step (wsV RX6 158 RX6 yX6_roadsOf wsX6_roadsOf) := goodIn_app (goodIn_of _ (by decide +kernel)) ggX6_step_X6_roadsOf
set_option maxRecDepth 20000 in
theorem ggX6_step_X1_after : GoodIn wsX6_step wsX1_after := goodIn_r _ [113, 78, 61, 68, 69, 52, 53, 54, 55, 56, 140, 141, 142, 143, 144, 145] (by decide +kernel) (by decide +kernel)
set_option maxRecDepth 20000 in
theorem gX6_step_X1_after : GoodIn wsX6_step (wsV RX6 166 RX1 yX1_after wsX1_after) := goodIn_app (goodIn_of _ (by decide +kernel)) ggX6_step_X1_after
set_option maxRecDepth 20000 in
theorem ggX6_step_X6_fine : GoodIn wsX6_step wsX6_fine := goodIn_r _ [117, 18, 118, 119, 120, 121, 122, 123, 124, 125, 126, 127] (by decide +kernel) (by decide +kernel)
set_option maxRecDepth 20000 in
theorem gX6_step_X6_fine : GoodIn wsX6_step (wsV RX6 76 RX6 yX6_fine wsX6_fine) := goodIn_app (goodIn_of _ (by decide +kernel)) ggX6_step_X6_fine
set_option maxRecDepth 20000 in
theorem ggX6_way_X6_isPlace : GoodIn wsX6_way wsX6_isPlace := goodIn_r _ [6] (by decide +kernel) (by decide +kernel)
set_option maxRecDepth 20000 in
theorem gX6_way_X6_isPlace : GoodIn wsX6_way (va_wsS RX6 102 yX6_isPlace wsX6_isPlace) := goodIn_app (goodIn_of _ (by decide +kernel)) ggX6_way_X6_isPlace
set_option maxRecDepth 20000 in
theorem ggX6_way_X6_isPoint : GoodIn wsX6_way wsX6_isPoint := goodIn_r _ [10, 11, 116, 117, 118, 119, 120, 121, 122, 123, 124, 125] (by decide +kernel) (by decide +kernel)
set_option maxRecDepth 20000 in
theorem gX6_way_X6_isPoint : GoodIn wsX6_way (wsV RX6 154 RX6 yX6_isPoint wsX6_isPoint) := goodIn_app (goodIn_of _ (by decide +kernel)) ggX6_way_X6_isPoint
set_option maxRecDepth 20000 in
theorem ggX6_way_X6_found : GoodIn wsX6_way wsX6_found := goodIn_r _ [15, 16, 17, 116, 117, 118, 119, 120, 121, 122, 123, 124, 125] (by decide +kernel) (by decide +kernel)
set_option maxRecDepth 20000 in
theorem gX6_way_X6_found : GoodIn wsX6_way (wsV RX6 69 RX6 yX6_found wsX6_found) := goodIn_app (goodIn_of _ (by decide +kernel)) ggX6_way_X6_found
set_option maxRecDepth 20000 in
theorem ggX6_way_X6_roadsOf : GoodIn wsX6_way wsX6_roadsOf := goodIn_r _ [21, 22, 23, 24, 25, 26, 27, 28, 29, 30, 31, 32, 33, 34, 35, 36, 37, 38, 39, 40, 41, 42, 43, 44, 45, 46, 47, 48, 49, 50, 51, 52, 53, 54, 55, 56, 57, 58, 59, 60, 61, 62, 63, 64, 65, 66, 67, 68, 69, 70, 71, 72, 73, 74, 75, 76, 77, 78, 79, 80, 81, 82, 83, 84, 85, 86, 87, 88, 89, 90, 91, 92, 93, 94, 95, 96, 97, 98, 99, 100, 101, 102, 103, 104, 105, 106, 107, 116, 117, 118, 119, 120, 121, 122, 123, 124, 125, 126, 127, 128, 129, 130, 131, 132, 133, 134, 135, 136, 137, 138, 139, 140, 141, 142, 143, 144, 145, 146, 147] (by decide +kernel) (by decide +kernel)
set_option maxRecDepth 20000 in
theorem gX6_way_X6_roadsOf : GoodIn wsX6_way (wsV RX6 158 RX6 yX6_roadsOf wsX6_roadsOf) := goodIn_app (goodIn_of _ (by decide +kernel)) ggX6_way_X6_roadsOf
set_option maxRecDepth 20000 in
theorem ggX6_way_X3_ofPoint : GoodIn wsX6_way wsX3_ofPoint := goodIn_r _ [111, 30, 89, 94, 87, 44, 126, 127, 128, 129, 130, 131, 132, 133, 134, 135, 136, 137, 138, 139, 140, 141, 142, 143] (by decide +kernel) (by decide +kernel)
set_option maxRecDepth 20000 in
theorem gX6_way_X3_ofPoint : GoodIn wsX6_way (wsV RX6 171 RX3 yX3_ofPoint wsX3_ofPoint) := goodIn_app (goodIn_of _ (by decide +kernel)) ggX6_way_X3_ofPoint
set_option maxRecDepth 20000 in
theorem ggX6_way_X6_fine : GoodIn wsX6_way wsX6_fine := goodIn_r _ [115, 16, 116, 117, 118, 119, 120, 121, 122, 123, 124, 125] (by decide +kernel) (by decide +kernel)
set_option maxRecDepth 20000 in
theorem gX6_way_X6_fine : GoodIn wsX6_way (wsV RX6 76 RX6 yX6_fine wsX6_fine) := goodIn_app (goodIn_of _ (by decide +kernel)) ggX6_way_X6_fine
set_option maxRecDepth 20000 in
theorem ggX6_ring_X6_isPlace : GoodIn wsX6_ring wsX6_isPlace := goodIn_r _ [6] (by decide +kernel) (by decide +kernel)
set_option maxRecDepth 20000 in
theorem gX6_ring_X6_isPlace : GoodIn wsX6_ring (va_wsS RX6 102 yX6_isPlace wsX6_isPlace) := goodIn_app (goodIn_of _ (by decide +kernel)) ggX6_ring_X6_isPlace
set_option maxRecDepth 20000 in
theorem ggX6_ring_X6_found : GoodIn wsX6_ring wsX6_found := goodIn_r _ [10, 11, 12, 111, 112, 113, 114, 115, 116, 117, 118, 119, 120] (by decide +kernel) (by decide +kernel)
set_option maxRecDepth 20000 in
theorem gX6_ring_X6_found : GoodIn wsX6_ring (wsV RX6 69 RX6 yX6_found wsX6_found) := goodIn_app (goodIn_of _ (by decide +kernel)) ggX6_ring_X6_found
set_option maxRecDepth 20000 in
theorem ggX6_ring_X6_roadsOf : GoodIn wsX6_ring wsX6_roadsOf := goodIn_r _ [16, 17, 18, 19, 20, 21, 22, 23, 24, 25, 26, 27, 28, 29, 30, 31, 32, 33, 34, 35, 36, 37, 38, 39, 40, 41, 42, 43, 44, 45, 46, 47, 48, 49, 50, 51, 52, 53, 54, 55, 56, 57, 58, 59, 60, 61, 62, 63, 64, 65, 66, 67, 68, 69, 70, 71, 72, 73, 74, 75, 76, 77, 78, 79, 80, 81, 82, 83, 84, 85, 86, 87, 88, 89, 90, 91, 92, 93, 94, 95, 96, 97, 98, 99, 100, 101, 102, 111, 112, 113, 114, 115, 116, 117, 118, 119, 120, 121, 122, 123, 124, 125, 126, 127, 128, 129, 130, 131, 132, 133, 134, 135, 136, 137, 138, 139, 140, 141, 142] (by decide +kernel) (by decide +kernel)
set_option maxRecDepth 20000 in
theorem gX6_ring_X6_roadsOf : GoodIn wsX6_ring (wsV RX6 158 RX6 yX6_roadsOf wsX6_roadsOf) := goodIn_app (goodIn_of _ (by decide +kernel)) ggX6_ring_X6_roadsOf
set_option maxRecDepth 20000 in
theorem ggX6_ring_X3_ofRing : GoodIn wsX6_ring wsX3_ofRing := goodIn_r _ [106, 81, 83, 90, 91, 92, 93, 121, 122, 123, 124, 125, 126, 127, 128, 129, 130, 131, 132] (by decide +kernel) (by decide +kernel)
set_option maxRecDepth 20000 in
theorem gX6_ring_X3_ofRing : GoodIn wsX6_ring (wsV RX6 174 RX3 yX3_ofRing wsX3_ofRing) := goodIn_app (goodIn_of _ (by decide +kernel)) ggX6_ring_X3_ofRing
set_option maxRecDepth 20000 in
theorem ggX6_ring_X6_fine : GoodIn wsX6_ring wsX6_fine := goodIn_r _ [110, 11, 111, 112, 113, 114, 115, 116, 117, 118, 119, 120] (by decide +kernel) (by decide +kernel)
set_option maxRecDepth 20000 in
theorem gX6_ring_X6_fine : GoodIn wsX6_ring (wsV RX6 76 RX6 yX6_fine wsX6_fine) := goodIn_app (goodIn_of _ (by decide +kernel)) ggX6_ring_X6_fine
set_option maxRecDepth 20000 in
theorem ggX6_all_X6_isPlace : GoodIn wsX6_all wsX6_isPlace := goodIn_r _ [6] (by decide +kernel) (by decide +kernel)
set_option maxRecDepth 20000 in
theorem gX6_all_X6_isPlace : GoodIn wsX6_all (va_wsS RX6 102 yX6_isPlace wsX6_isPlace) := goodIn_app (goodIn_of _ (by decide +kernel)) ggX6_all_X6_isPlace
set_option maxRecDepth 20000 in
theorem ggX6_all_X6_found : GoodIn wsX6_all wsX6_found := goodIn_r _ [10, 11, 12, 132, 133, 134, 135, 136, 137, 138, 139, 140, 141] (by decide +kernel) (by decide +kernel)
set_option maxRecDepth 20000 in
theorem gX6_all_X6_found : GoodIn wsX6_all (wsV RX6 69 RX6 yX6_found wsX6_found) := goodIn_app (goodIn_of _ (by decide +kernel)) ggX6_all_X6_found
set_option maxRecDepth 20000 in
theorem ggX6_all_X6_roadsOf : GoodIn wsX6_all wsX6_roadsOf := goodIn_r _ [16, 17, 18, 19, 20, 21, 22, 23, 24, 25, 26, 27, 28, 29, 30, 31, 32, 33, 34, 35, 36, 37, 38, 39, 40, 41, 42, 43, 44, 45, 46, 47, 48, 49, 50, 51, 52, 53, 54, 55, 56, 57, 58, 59, 60, 61, 62, 63, 64, 65, 66, 67, 68, 69, 70, 71, 72, 73, 74, 75, 76, 77, 78, 79, 80, 81, 82, 83, 84, 85, 86, 87, 88, 89, 90, 91, 92, 93, 94, 95, 96, 97, 98, 99, 100, 101, 102, 132, 133, 134, 135, 136, 137, 138, 139, 140, 141, 142, 143, 144, 145, 146, 147, 148, 149, 150, 151, 152, 153, 154, 155, 156, 157, 158, 159, 160, 161, 162, 163] (by decide +kernel) (by decide +kernel)
set_option maxRecDepth 20000 in
theorem gX6_all_X6_roadsOf : GoodIn wsX6_all (wsV RX6 158 RX6 yX6_roadsOf wsX6_roadsOf) := goodIn_app (goodIn_of _ (by decide +kernel)) ggX6_all_X6_roadsOf
set_option maxRecDepth 20000 in
theorem ggX6_all_X3_ofAll : GoodIn wsX6_all wsX3_ofAll := goodIn_r _ [106, 81, 107, 108, 109, 21, 110, 90, 111, 112, 113, 114, 115, 68, 69, 70, 116, 117, 118, 119, 24, 25, 84, 120, 121, 122, 123, 39, 124, 125, 126, 127, 92, 142, 143, 144, 145, 146, 147, 148, 149, 150, 151, 152, 153, 154, 155, 156, 157, 158, 159] (by decide +kernel) (by decide +kernel)
set_option maxRecDepth 20000 in
theorem gX6_all_X3_ofAll : GoodIn wsX6_all (wsV RX6 177 RX3 yX3_ofAll wsX3_ofAll) := goodIn_app (goodIn_of _ (by decide +kernel)) ggX6_all_X3_ofAll
set_option maxRecDepth 20000 in
theorem ggX6_all_X6_fine : GoodIn wsX6_all wsX6_fine := goodIn_r _ [131, 11, 132, 133, 134, 135, 136, 137, 138, 139, 140, 141] (by decide +kernel) (by decide +kernel)
set_option maxRecDepth 20000 in
theorem gX6_all_X6_fine : GoodIn wsX6_all (wsV RX6 76 RX6 yX6_fine wsX6_fine) := goodIn_app (goodIn_of _ (by decide +kernel)) ggX6_all_X6_fine
set_option maxRecDepth 20000 in
theorem ggX6_alike_X6_isPlace : GoodIn wsX6_alike wsX6_isPlace := goodIn_r _ [9] (by decide +kernel) (by decide +kernel)
set_option maxRecDepth 20000 in
theorem gX6_alike_X6_isPlace : GoodIn wsX6_alike (va_wsS RX6 102 yX6_isPlace wsX6_isPlace) := goodIn_app (goodIn_of _ (by decide +kernel)) ggX6_alike_X6_isPlace
set_option maxRecDepth 20000 in
theorem ggX6_alike_X6_found : GoodIn wsX6_alike wsX6_found := goodIn_r _ [13, 14, 15, 120, 121, 122, 123, 124, 125, 126, 127, 128, 129] (by decide +kernel) (by decide +kernel)
set_option maxRecDepth 20000 in
theorem gX6_alike_X6_found : GoodIn wsX6_alike (wsV RX6 69 RX6 yX6_found wsX6_found) := goodIn_app (goodIn_of _ (by decide +kernel)) ggX6_alike_X6_found
set_option maxRecDepth 20000 in
theorem ggX6_alike_X3_survey : GoodIn wsX6_alike wsX3_survey := goodIn_r _ [20, 21, 22, 23, 24, 25, 26, 27, 28, 29, 30, 31, 32, 33, 34, 35, 19, 36, 37, 38, 39, 40, 41, 42, 43, 44, 45, 46, 47, 48, 49, 50, 51, 52, 53, 54, 55, 56, 57, 58, 59, 60, 61, 62, 63, 64, 65, 66, 67, 68, 69, 70, 71, 72, 73, 74, 75, 76, 77, 78, 79, 80, 81, 82, 83, 84, 85, 86, 87, 88, 89, 90, 91, 92, 93, 94, 95, 96, 97, 98, 99, 100, 130, 131, 132, 133, 134, 135, 136, 137, 138, 139, 140, 141, 142, 143, 144, 145, 146, 147, 148, 149, 150, 151] (by decide +kernel) (by decide +kernel)
set_option maxRecDepth 20000 in
theorem gX6_alike_X3_survey : GoodIn wsX6_alike (wsV RX6 142 RX3 yX3_survey wsX3_survey) := goodIn_app (goodIn_of _ (by decide +kernel)) ggX6_alike_X3_survey
set_option maxRecDepth 20000 in
theorem ggX6_alike_X3_isLike : GoodIn wsX6_alike wsX3_isLike := goodIn_r _ [104, 105, 23, 87, 38, 39, 40, 41, 106, 107, 108, 19, 109, 110, 111, 112, 113, 114, 115, 82, 130, 131, 132, 133, 134, 135, 136, 137, 138, 139, 140, 141, 142, 143, 144, 145, 146, 147] (by decide +kernel) (by decide +kernel)
set_option maxRecDepth 20000 in
theorem gX6_alike_X3_isLike : GoodIn wsX6_alike (wsV RX6 180 RX3 yX3_isLike wsX3_isLike) := goodIn_app (goodIn_of _ (by decide +kernel)) ggX6_alike_X3_isLike
set_option maxRecDepth 20000 in
theorem ggX6_alike_X6_fine : GoodIn wsX6_alike wsX6_fine := goodIn_r _ [119, 14, 120, 121, 122, 123, 124, 125, 126, 127, 128, 129] (by decide +kernel) (by decide +kernel)
set_option maxRecDepth 20000 in
theorem gX6_alike_X6_fine : GoodIn wsX6_alike (wsV RX6 76 RX6 yX6_fine wsX6_fine) := goodIn_app (goodIn_of _ (by decide +kernel)) ggX6_alike_X6_fine
set_option maxRecDepth 20000 in
theorem ggX6_round_X6_isPlace : GoodIn wsX6_round wsX6_isPlace := goodIn_r _ [9] (by decide +kernel) (by decide +kernel)
set_option maxRecDepth 20000 in
theorem gX6_round_X6_isPlace : GoodIn wsX6_round (va_wsS RX6 102 yX6_isPlace wsX6_isPlace) := goodIn_app (goodIn_of _ (by decide +kernel)) ggX6_round_X6_isPlace
set_option maxRecDepth 20000 in
theorem ggX6_round_X6_found : GoodIn wsX6_round wsX6_found := goodIn_r _ [13, 14, 15, 84, 85, 86, 87, 88, 89, 90, 91, 92, 93] (by decide +kernel) (by decide +kernel)
set_option maxRecDepth 20000 in
theorem gX6_round_X6_found : GoodIn wsX6_round (wsV RX6 69 RX6 yX6_found wsX6_found) := goodIn_app (goodIn_of _ (by decide +kernel)) ggX6_round_X6_found
set_option maxRecDepth 20000 in
theorem ggX6_round_X4_power : GoodIn wsX6_round wsX4_power := goodIn_r _ [19] (by decide +kernel) (by decide +kernel)
set_option maxRecDepth 20000 in
theorem gX6_round_X4_power : GoodIn wsX6_round (va_wsS RX6 184 yX4_power wsX4_power) := goodIn_app (goodIn_of _ (by decide +kernel)) ggX6_round_X4_power
set_option maxRecDepth 20000 in
theorem ggX6_round_X4_prepare : GoodIn wsX6_round wsX4_prepare := goodIn_r _ [23, 24, 25, 26, 27, 28, 29, 30, 31, 32, 33, 34, 35, 36, 37, 38, 39, 40, 41, 42, 43, 44, 45, 46, 47, 48, 49, 50, 51, 52, 53, 18, 54, 55, 56, 57, 58, 59, 60, 61, 62, 63, 64, 65, 66, 67, 68, 69, 70, 8, 71, 98, 99, 100, 101, 102, 103, 104, 94, 95, 96, 97] (by decide +kernel) (by decide +kernel)
set_option maxRecDepth 20000 in
theorem gX6_round_X4_prepare : GoodIn wsX6_round (wsV RX6 187 RX4 yX4_prepare wsX4_prepare) := goodIn_app (goodIn_of _ (by decide +kernel)) ggX6_round_X4_prepare
set_option maxRecDepth 20000 in
theorem ggX6_round_X4_degreeOf : GoodIn wsX6_round wsX4_degreeOf := goodIn_r _ [75, 61, 98, 99, 100, 101, 102, 103, 104] (by decide +kernel) (by decide +kernel)
set_option maxRecDepth 20000 in
theorem gX6_round_X4_degreeOf : GoodIn wsX6_round (wsV RX6 191 RX4 yX4_degreeOf wsX4_degreeOf) := goodIn_app (goodIn_of _ (by decide +kernel)) ggX6_round_X4_degreeOf
set_option maxRecDepth 20000 in
theorem ggX6_round_X4_numberOf : GoodIn wsX6_round wsX4_numberOf := goodIn_r _ [79, 61, 55, 98, 99, 100, 101, 102, 103, 104] (by decide +kernel) (by decide +kernel)
set_option maxRecDepth 20000 in
theorem gX6_round_X4_numberOf : GoodIn wsX6_round (wsV RX6 194 RX4 yX4_numberOf wsX4_numberOf) := goodIn_app (goodIn_of _ (by decide +kernel)) ggX6_round_X4_numberOf
set_option maxRecDepth 20000 in
theorem ggX6_round_X6_fine : GoodIn wsX6_round wsX6_fine := goodIn_r _ [83, 14, 84, 85, 86, 87, 88, 89, 90, 91, 92, 93] (by decide +kernel) (by decide +kernel)
set_option maxRecDepth 20000 in
theorem gX6_round_X6_fine : GoodIn wsX6_round (wsV RX6 76 RX6 yX6_fine wsX6_fine) := goodIn_app (goodIn_of _ (by decide +kernel)) ggX6_round_X6_fine
set_option maxRecDepth 20000 in
theorem ggX6_fraction_X6_isPair : GoodIn wsX6_fraction wsX6_isPair := goodIn_r _ [8, 9, 10, 7, 11, 12, 13, 14, 15] (by decide +kernel) (by decide +kernel)
set_option maxRecDepth 20000 in
theorem gX6_fraction_X6_isPair : GoodIn wsX6_fraction (va_wsS RX6 197 yX6_isPair wsX6_isPair) := goodIn_app (goodIn_of _ (by decide +kernel)) ggX6_fraction_X6_isPair
set_option maxRecDepth 20000 in
theorem ggX6_fraction_X0_prepare : GoodIn wsX6_fraction wsX0_prepare := goodIn_r _ [20, 21, 22, 23, 24, 25, 26, 27, 28, 29, 30, 31, 19, 32, 10, 7, 11, 12, 13, 14, 15, 33, 34, 35, 36, 37, 38, 39, 40, 41, 42, 43, 44, 45, 46, 47, 48, 49, 50, 51, 52, 53, 54, 55, 56, 57, 58, 59, 60, 61, 62, 63, 64, 65, 66, 67, 68, 69, 70, 86, 87, 88, 89, 90, 91, 92, 93, 94, 95, 96] (by decide +kernel) (by decide +kernel)
set_option maxRecDepth 20000 in
theorem gX6_fraction_X0_prepare : GoodIn wsX6_fraction (wsV RX6 200 RX0 yX0_prepare wsX0_prepare) := goodIn_app (goodIn_of _ (by decide +kernel)) ggX6_fraction_X0_prepare
set_option maxRecDepth 20000 in
theorem ggX6_fraction_X0_ofListed : GoodIn wsX6_fraction wsX0_ofListed := goodIn_r _ [74, 26, 36, 27, 23, 75, 28, 86, 87, 88, 89, 90, 91, 92, 93, 94, 95, 96] (by decide +kernel) (by decide +kernel)
set_option maxRecDepth 20000 in
theorem gX6_fraction_X0_ofListed : GoodIn wsX6_fraction (wsV RX6 205 RX0 yX0_ofListed wsX0_ofListed) := goodIn_app (goodIn_of _ (by decide +kernel)) ggX6_fraction_X0_ofListed
set_option maxRecDepth 20000 in
theorem ggX6_next_X6_isPair : GoodIn wsX6_next wsX6_isPair := goodIn_r _ [5, 6, 7, 4, 8, 9, 10, 11, 12] (by decide +kernel) (by decide +kernel)
set_option maxRecDepth 20000 in
theorem gX6_next_X6_isPair : GoodIn wsX6_next (va_wsS RX6 197 yX6_isPair wsX6_isPair) := goodIn_app (goodIn_of _ (by decide +kernel)) ggX6_next_X6_isPair
set_option maxRecDepth 20000 in
theorem ggX6_next_X6_commonDivisor : GoodIn wsX6_next wsX6_commonDivisor := goodIn_r _ [8, 9, 10, 11, 12] (by decide +kernel) (by decide +kernel)
set_option maxRecDepth 20000 in
theorem gX6_next_X6_commonDivisor : GoodIn wsX6_next (va_wsS RX6 208 yX6_commonDivisor wsX6_commonDivisor) := goodIn_app (goodIn_of _ (by decide +kernel)) ggX6_next_X6_commonDivisor
set_option maxRecDepth 20000 in
theorem ggX6_next_X0_image : GoodIn wsX6_next wsX0_image := goodIn_r _ [16, 17, 7, 4, 8, 9, 10, 11, 12] (by decide +kernel) (by decide +kernel)
set_option maxRecDepth 20000 in
theorem gX6_next_X0_image : GoodIn wsX6_next (va_wsS RX6 211 yX0_image wsX0_image) := goodIn_app (goodIn_of _ (by decide +kernel)) ggX6_next_X0_image
set_option maxRecDepth 20000 in
theorem ggX6_count_X6_sheetsThere : GoodIn wsX6_count wsX6_sheetsThere := goodIn_r _ [7, 8, 20, 21, 22, 23, 24, 25, 26, 27, 28, 29] (by decide +kernel) (by decide +kernel)
set_option maxRecDepth 20000 in
theorem gX6_count_X6_sheetsThere : GoodIn wsX6_count (wsV RX6 215 RX6 yX6_sheetsThere wsX6_sheetsThere) := goodIn_app (goodIn_of _ (by decide +kernel)) ggX6_count_X6_sheetsThere
set_option maxRecDepth 20000 in
theorem ggX6_count_X6_mapsOf : GoodIn wsX6_count wsX6_mapsOf := goodIn_r _ [12, 13, 14, 15, 16, 17, 18, 19, 20, 21, 22, 23, 24, 25, 26, 27, 28, 29, 30, 31, 32, 33] (by decide +kernel) (by decide +kernel)
set_option maxRecDepth 20000 in
theorem gX6_count_X6_mapsOf : GoodIn wsX6_count (wsV RX6 219 RX6 yX6_mapsOf wsX6_mapsOf) := goodIn_app (goodIn_of _ (by decide +kernel)) ggX6_count_X6_mapsOf
set_option maxRecDepth 20000 in
theorem ggX6_put_X2_init : GoodIn wsX6_put wsX2_init := goodIn_r _ [9, 10, 11, 12, 13, 14, 15, 16, 17, 18, 3, 19, 20, 21, 22, 29, 30, 31, 32] (by decide +kernel) (by decide +kernel)
set_option maxRecDepth 20000 in
theorem gX6_put_X2_init : GoodIn wsX6_put (wsX2_init) := ggX6_put_X2_init
set_option maxRecDepth 20000 in
theorem ggX6_put_X6_fine : GoodIn wsX6_put wsX6_fine := goodIn_r _ [27, 28, 33, 34, 35, 36, 37, 38, 39, 40, 41, 42] (by decide +kernel) (by decide +kernel)
set_option maxRecDepth 20000 in
theorem gX6_put_X6_fine : GoodIn wsX6_put (wsV RX6 76 RX6 yX6_fine wsX6_fine) := goodIn_app (goodIn_of _ (by decide +kernel)) ggX6_put_X6_fine
set_option maxRecDepth 20000 in
theorem ggX6_roadsOf_X3_survey : GoodIn wsX6_roadsOf wsX3_survey := goodIn_r _ [6, 7, 8, 9, 10, 11, 12, 13, 14, 15, 16, 17, 18, 19, 20, 21, 5, 22, 23, 24, 25, 26, 27, 28, 29, 30, 31, 32, 33, 34, 35, 36, 37, 38, 39, 40, 41, 42, 43, 44, 45, 46, 47, 48, 49, 50, 51, 52, 53, 54, 55, 56, 57, 58, 59, 60, 61, 62, 63, 64, 65, 66, 67, 68, 69, 70, 71, 72, 73, 74, 75, 76, 77, 78, 79, 80, 81, 82, 83, 84, 85, 86, 97, 98, 99, 100, 101, 102, 103, 104, 105, 106, 107, 108, 109, 110, 111, 112, 113, 114, 115, 116, 117, 118] (by decide +kernel) (by decide +kernel)
set_option maxRecDepth 20000 in
theorem gX6_roadsOf_X3_survey : GoodIn wsX6_roadsOf (wsV RX6 142 RX3 yX3_survey wsX3_survey) := goodIn_app (goodIn_of _ (by decide +kernel)) ggX6_roadsOf_X3_survey
set_option maxRecDepth 20000 in
theorem ggX6_mapsOf_X2_fits : GoodIn wsX6_mapsOf wsX2_fits := goodIn_r _ [6, 7, 18, 19, 20, 21] (by decide +kernel) (by decide +kernel)
set_option maxRecDepth 20000 in
theorem gX6_mapsOf_X2_fits : GoodIn wsX6_mapsOf (wsV RX6 139 RX2 yX2_fits wsX2_fits) := goodIn_app (goodIn_of _ (by decide +kernel)) ggX6_mapsOf_X2_fits
set_option maxRecDepth 20000 in
theorem ggX6_isPair_X6_commonDivisor : GoodIn wsX6_isPair wsX6_commonDivisor := goodIn_r _ [4, 5, 6, 7, 8] (by decide +kernel) (by decide +kernel)
set_option maxRecDepth 20000 in
theorem gX6_isPair_X6_commonDivisor : GoodIn wsX6_isPair (va_wsS RX6 208 yX6_commonDivisor wsX6_commonDivisor) := goodIn_app (goodIn_of _ (by decide +kernel)) ggX6_isPair_X6_commonDivisor
set_option maxRecDepth 20000 in
theorem ggX6_sizeAsked_X6_body11 : GoodIn wsX6_sizeAsked wsX6_body11 := goodIn_r _ [6, 7, 8, 9, 10, 5, 11, 12, 13, 53, 54, 55, 56, 57, 58, 59, 60, 61, 62] (by decide +kernel) (by decide +kernel)
set_option maxRecDepth 20000 in
theorem gX6_sizeAsked_X6_body11 : GoodIn wsX6_sizeAsked (wsV RX6 229 RX6 yX6_body11 wsX6_body11) := goodIn_app (goodIn_of _ (by decide +kernel)) ggX6_sizeAsked_X6_body11
set_option maxRecDepth 20000 in
theorem ggX6_sizeAsked_X6_body12 : GoodIn wsX6_sizeAsked wsX6_body12 := goodIn_r _ [17, 8, 9, 10, 5, 11, 12, 13, 18, 19, 20, 21, 7, 22, 23, 24, 25, 26, 27, 28, 29, 53, 54, 55, 56, 57, 58, 59, 60, 61, 62, 63, 64, 65, 66, 67, 68, 69, 70, 71, 72, 73, 74] (by decide +kernel) (by decide +kernel)
set_option maxRecDepth 20000 in
theorem gX6_sizeAsked_X6_body12 : GoodIn wsX6_sizeAsked (wsV RX6 232 RX6 yX6_body12 wsX6_body12) := goodIn_app (goodIn_of _ (by decide +kernel)) ggX6_sizeAsked_X6_body12
set_option maxRecDepth 20000 in
theorem ggX6_sizeAsked_X6_body13 : GoodIn wsX6_sizeAsked wsX6_body13 := goodIn_r _ [33, 8, 9, 10, 5, 11, 12, 13, 14, 15, 16, 17, 18, 19, 20, 21, 7, 22, 23, 24, 25, 26, 27, 28, 29, 34, 35, 36, 37, 38, 39, 40, 41, 42, 43, 44, 45, 46, 47, 48, 53, 54, 55, 56, 57, 58, 59, 60, 61, 62, 63, 64, 65, 66, 67, 68, 69, 70, 71, 72, 73, 74, 75, 76, 77, 78, 79, 80, 49, 50, 51, 52] (by decide +kernel) (by decide +kernel)
set_option maxRecDepth 20000 in
theorem gX6_sizeAsked_X6_body13 : GoodIn wsX6_sizeAsked (wsV RX6 235 RX6 yX6_body13 wsX6_body13) := goodIn_app (goodIn_of _ (by decide +kernel)) ggX6_sizeAsked_X6_body13
set_option maxRecDepth 20000 in
theorem ggX6_sizeAsked_X6_body10 : GoodIn wsX6_sizeAsked wsX6_body10 := goodIn_r _ [21, 7, 22, 8, 9, 10, 5, 11, 12, 13, 23, 24, 25, 26, 27, 28, 29, 53, 54, 55, 56, 57, 58, 59, 60, 61, 62, 63, 64, 65, 66, 67, 68, 69, 70, 71, 72, 73, 74] (by decide +kernel) (by decide +kernel)
set_option maxRecDepth 20000 in
theorem gX6_sizeAsked_X6_body10 : GoodIn wsX6_sizeAsked (wsV RX6 238 RX6 yX6_body10 wsX6_body10) := goodIn_app (goodIn_of _ (by decide +kernel)) ggX6_sizeAsked_X6_body10
set_option maxRecDepth 20000 in
theorem ggX6_markAsked_X6_body21 : GoodIn wsX6_markAsked wsX6_body21 := goodIn_r _ [6, 7, 8, 9, 10, 5, 11, 12, 13, 14, 15, 16, 17, 18, 45, 46, 47, 48, 49, 50, 51, 52, 53, 54, 41, 42, 43, 44] (by decide +kernel) (by decide +kernel)
set_option maxRecDepth 20000 in
theorem gX6_markAsked_X6_body21 : GoodIn wsX6_markAsked (wsV RX6 241 RX6 yX6_body21 wsX6_body21) := goodIn_app (goodIn_of _ (by decide +kernel)) ggX6_markAsked_X6_body21
set_option maxRecDepth 20000 in
theorem ggX6_markAsked_X6_body22 : GoodIn wsX6_markAsked wsX6_body22 := goodIn_r _ [22, 23, 24, 25, 8, 9, 10, 5, 11, 12, 13, 2, 3, 4, 6, 7, 14, 15, 16, 17, 18, 45, 46, 47, 48, 49, 50, 51, 52, 53, 54, 55, 56, 57, 58, 59, 60, 61, 62, 63, 64, 65, 66, 67, 68, 69, 70, 71, 72, 41, 42, 43, 44] (by decide +kernel) (by decide +kernel)
set_option maxRecDepth 20000 in
theorem gX6_markAsked_X6_body22 : GoodIn wsX6_markAsked (wsV RX6 244 RX6 yX6_body22 wsX6_body22) := goodIn_app (goodIn_of _ (by decide +kernel)) ggX6_markAsked_X6_body22
set_option maxRecDepth 20000 in
theorem ggX6_markAsked_X6_body23 : GoodIn wsX6_markAsked wsX6_body23 := goodIn_r _ [29, 8, 9, 10, 5, 11, 12, 13, 14, 15, 16, 17, 18, 30, 31, 32, 33, 7, 23, 34, 35, 36, 37, 38, 39, 40, 45, 46, 47, 48, 49, 50, 51, 52, 53, 54, 41, 42, 43, 44, 55, 56, 57, 58, 59, 60, 61, 62, 63, 64, 65, 66] (by decide +kernel) (by decide +kernel)
set_option maxRecDepth 20000 in
theorem gX6_markAsked_X6_body23 : GoodIn wsX6_markAsked (wsV RX6 247 RX6 yX6_body23 wsX6_body23) := goodIn_app (goodIn_of _ (by decide +kernel)) ggX6_markAsked_X6_body23
set_option maxRecDepth 20000 in
theorem ggX6_markAsked_X6_body20 : GoodIn wsX6_markAsked wsX6_body20 := goodIn_r _ [17, 18, 8, 9, 10, 5, 11, 12, 13, 41, 42, 43, 44, 45, 46, 47, 48, 49, 50, 51, 52, 53, 54] (by decide +kernel) (by decide +kernel)
set_option maxRecDepth 20000 in
theorem gX6_markAsked_X6_body20 : GoodIn wsX6_markAsked (wsV RX6 250 RX6 yX6_body20 wsX6_body20) := goodIn_app (goodIn_of _ (by decide +kernel)) ggX6_markAsked_X6_body20
set_option maxRecDepth 20000 in
theorem ggX6_body10_X6_begin : GoodIn wsX6_body10 wsX6_begin := goodIn_r _ [7, 8, 9, 17, 18, 19, 20, 21, 22, 23, 24, 25, 26] (by decide +kernel) (by decide +kernel)
set_option maxRecDepth 20000 in
theorem gX6_body10_X6_begin : GoodIn wsX6_body10 (wsV RX6 253 RX6 yX6_begin wsX6_begin) := goodIn_app (goodIn_of _ (by decide +kernel)) ggX6_body10_X6_begin
set_option maxRecDepth 20000 in
theorem ggX6_body10_X3_pointsWithoutComers : GoodIn wsX6_body10 wsX3_pointsWithoutComers := goodIn_r _ [14, 15, 16, 27, 28, 29, 30, 31, 32, 33, 34, 35, 36, 37, 38] (by decide +kernel) (by decide +kernel)
set_option maxRecDepth 20000 in
theorem gX6_body10_X3_pointsWithoutComers : GoodIn wsX6_body10 (wsV RX6 256 RX3 yX3_pointsWithoutComers wsX3_pointsWithoutComers) := goodIn_app (goodIn_of _ (by decide +kernel)) ggX6_body10_X3_pointsWithoutComers
set_option maxRecDepth 20000 in
theorem ggX6_body11_X6_begin : GoodIn wsX6_body11 wsX6_begin := goodIn_r _ [6, 7, 8, 9, 10, 11, 12, 13, 14, 15, 16, 17, 18] (by decide +kernel) (by decide +kernel)
set_option maxRecDepth 20000 in
theorem gX6_body11_X6_begin : GoodIn wsX6_body11 (wsV RX6 253 RX6 yX6_begin wsX6_begin) := goodIn_app (goodIn_of _ (by decide +kernel)) ggX6_body11_X6_begin
set_option maxRecDepth 20000 in
theorem ggX6_body12_X6_begin : GoodIn wsX6_body12 wsX6_begin := goodIn_r _ [5, 6, 7, 21, 22, 23, 24, 25, 26, 27, 28, 29, 30] (by decide +kernel) (by decide +kernel)
set_option maxRecDepth 20000 in
theorem gX6_body12_X6_begin : GoodIn wsX6_body12 (wsV RX6 253 RX6 yX6_begin wsX6_begin) := goodIn_app (goodIn_of _ (by decide +kernel)) ggX6_body12_X6_begin
set_option maxRecDepth 20000 in
theorem ggX6_body12_X6_body10 : GoodIn wsX6_body12 wsX6_body10 := goodIn_r _ [11, 12, 13, 1, 2, 3, 4, 5, 6, 7, 14, 15, 16, 17, 18, 19, 20, 21, 22, 23, 24, 25, 26, 27, 28, 29, 30, 31, 32, 33, 34, 35, 36, 37, 38, 39, 40, 41, 42] (by decide +kernel) (by decide +kernel)
set_option maxRecDepth 20000 in
theorem gX6_body12_X6_body10 : GoodIn wsX6_body12 (wsV RX6 238 RX6 yX6_body10 wsX6_body10) := goodIn_app (goodIn_of _ (by decide +kernel)) ggX6_body12_X6_body10
set_option maxRecDepth 20000 in
theorem ggX6_body13_X6_begin : GoodIn wsX6_body13 wsX6_begin := goodIn_r _ [5, 6, 7, 40, 41, 42, 43, 44, 45, 46, 47, 48, 49] (by decide +kernel) (by decide +kernel)
set_option maxRecDepth 20000 in
theorem gX6_body13_X6_begin : GoodIn wsX6_body13 (wsV RX6 253 RX6 yX6_begin wsX6_begin) := goodIn_app (goodIn_of _ (by decide +kernel)) ggX6_body13_X6_begin
set_option maxRecDepth 20000 in
theorem ggX6_body13_X6_body12 : GoodIn wsX6_body13 wsX6_body12 := goodIn_r _ [11, 1, 2, 3, 4, 5, 6, 7, 12, 13, 14, 15, 16, 17, 18, 19, 20, 21, 22, 23, 24, 40, 41, 42, 43, 44, 45, 46, 47, 48, 49, 50, 51, 52, 53, 54, 55, 56, 57, 58, 59, 60, 61] (by decide +kernel) (by decide +kernel)
set_option maxRecDepth 20000 in
theorem gX6_body13_X6_body12 : GoodIn wsX6_body13 (wsV RX6 232 RX6 yX6_body12 wsX6_body12) := goodIn_app (goodIn_of _ (by decide +kernel)) ggX6_body13_X6_body12
set_option maxRecDepth 20000 in
theorem ggX6_body13_X6_body22 : GoodIn wsX6_body13 wsX6_body22 := goodIn_r _ [28, 17, 29, 30, 1, 2, 3, 4, 5, 6, 7, 31, 32, 33, 34, 16, 35, 36, 37, 38, 39, 40, 41, 42, 43, 44, 45, 46, 47, 48, 49, 50, 51, 52, 53, 54, 55, 56, 57, 58, 59, 60, 61, 62, 63, 64, 65, 66, 67, 68, 69, 70, 71] (by decide +kernel) (by decide +kernel)
set_option maxRecDepth 20000 in
theorem gX6_body13_X6_body22 : GoodIn wsX6_body13 (wsV RX6 244 RX6 yX6_body22 wsX6_body22) := goodIn_app (goodIn_of _ (by decide +kernel)) ggX6_body13_X6_body22
set_option maxRecDepth 20000 in
theorem ggX6_body20_X6_begin : GoodIn wsX6_body20 wsX6_begin := goodIn_r _ [6, 7, 8, 13, 14, 15, 16, 17, 18, 19, 20, 21, 22] (by decide +kernel) (by decide +kernel)
set_option maxRecDepth 20000 in
theorem gX6_body20_X6_begin : GoodIn wsX6_body20 (wsV RX6 253 RX6 yX6_begin wsX6_begin) := goodIn_app (goodIn_of _ (by decide +kernel)) ggX6_body20_X6_begin
set_option maxRecDepth 20000 in
theorem ggX6_body21_X6_begin : GoodIn wsX6_body21 wsX6_begin := goodIn_r _ [6, 7, 8, 14, 15, 16, 17, 18, 19, 20, 21, 22, 23] (by decide +kernel) (by decide +kernel)
set_option maxRecDepth 20000 in
theorem gX6_body21_X6_begin : GoodIn wsX6_body21 (wsV RX6 253 RX6 yX6_begin wsX6_begin) := goodIn_app (goodIn_of _ (by decide +kernel)) ggX6_body21_X6_begin
set_option maxRecDepth 20000 in
theorem ggX6_body21_X6_body20 : GoodIn wsX6_body21 wsX6_body20 := goodIn_r _ [12, 13, 2, 3, 4, 5, 6, 7, 8, 24, 25, 26, 27, 14, 15, 16, 17, 18, 19, 20, 21, 22, 23] (by decide +kernel) (by decide +kernel)
set_option maxRecDepth 20000 in
theorem gX6_body21_X6_body20 : GoodIn wsX6_body21 (wsV RX6 250 RX6 yX6_body20 wsX6_body20) := goodIn_app (goodIn_of _ (by decide +kernel)) ggX6_body21_X6_body20
set_option maxRecDepth 20000 in
theorem ggX6_body22_X6_begin : GoodIn wsX6_body22 wsX6_begin := goodIn_r _ [8, 9, 10, 21, 22, 23, 24, 25, 26, 27, 28, 29, 30] (by decide +kernel) (by decide +kernel)
set_option maxRecDepth 20000 in
theorem gX6_body22_X6_begin : GoodIn wsX6_body22 (wsV RX6 253 RX6 yX6_begin wsX6_begin) := goodIn_app (goodIn_of _ (by decide +kernel)) ggX6_body22_X6_begin
set_option maxRecDepth 20000 in
theorem ggX6_body22_X6_body21 : GoodIn wsX6_body22 wsX6_body21 := goodIn_r _ [14, 15, 4, 5, 6, 7, 8, 9, 10, 16, 17, 18, 19, 20, 21, 22, 23, 24, 25, 26, 27, 28, 29, 30, 49, 50, 51, 52] (by decide +kernel) (by decide +kernel)
set_option maxRecDepth 20000 in
theorem gX6_body22_X6_body21 : GoodIn wsX6_body22 (wsV RX6 241 RX6 yX6_body21 wsX6_body21) := goodIn_app (goodIn_of _ (by decide +kernel)) ggX6_body22_X6_body21
set_option maxRecDepth 20000 in
theorem ggX6_body23_X6_begin : GoodIn wsX6_body23 wsX6_begin := goodIn_r _ [5, 6, 7, 26, 27, 28, 29, 30, 31, 32, 33, 34, 35] (by decide +kernel) (by decide +kernel)
set_option maxRecDepth 20000 in
theorem gX6_body23_X6_begin : GoodIn wsX6_body23 (wsV RX6 253 RX6 yX6_begin wsX6_begin) := goodIn_app (goodIn_of _ (by decide +kernel)) ggX6_body23_X6_begin
set_option maxRecDepth 20000 in
theorem ggX6_body23_X6_body20 : GoodIn wsX6_body23 wsX6_body20 := goodIn_r _ [11, 12, 1, 2, 3, 4, 5, 6, 7, 36, 37, 38, 39, 26, 27, 28, 29, 30, 31, 32, 33, 34, 35] (by decide +kernel) (by decide +kernel)
set_option maxRecDepth 20000 in
theorem gX6_body23_X6_body20 : GoodIn wsX6_body23 (wsV RX6 250 RX6 yX6_body20 wsX6_body20) := goodIn_app (goodIn_of _ (by decide +kernel)) ggX6_body23_X6_body20
set_option maxRecDepth 20000 in
theorem ggX6_body23_X6_body10 : GoodIn wsX6_body23 wsX6_body10 := goodIn_r _ [16, 17, 18, 1, 2, 3, 4, 5, 6, 7, 19, 20, 21, 22, 23, 24, 25, 26, 27, 28, 29, 30, 31, 32, 33, 34, 35, 40, 41, 42, 43, 44, 45, 46, 47, 48, 49, 50, 51] (by decide +kernel) (by decide +kernel)
set_option maxRecDepth 20000 in
theorem gX6_body23_X6_body10 : GoodIn wsX6_body23 (wsV RX6 238 RX6 yX6_body10 wsX6_body10) := goodIn_app (goodIn_of _ (by decide +kernel)) ggX6_body23_X6_body10
set_option maxRecDepth 20000 in
theorem ggX7_init_X7_in : GoodIn wsX7_init wsX7_in := goodIn_r _ [35] (by decide +kernel) (by decide +kernel)
set_option maxRecDepth 20000 in
theorem gX7_init_X7_in : GoodIn wsX7_init (va_wsS RX7 90 yX7_in wsX7_in) := goodIn_app (goodIn_of _ (by decide +kernel)) ggX7_init_X7_in
set_option maxRecDepth 20000 in
theorem ggX7_init_X7_isPrime : GoodIn wsX7_init wsX7_isPrime := goodIn_r _ [38] (by decide +kernel) (by decide +kernel)
set_option maxRecDepth 20000 in
theorem gX7_init_X7_isPrime : GoodIn wsX7_init (va_wsS RX7 94 yX7_isPrime wsX7_isPrime) := goodIn_app (goodIn_of _ (by decide +kernel)) ggX7_init_X7_isPrime
set_option maxRecDepth 20000 in
theorem ggX7_isSheet_X7_in : GoodIn wsX7_isSheet wsX7_in := goodIn_r _ [5] (by decide +kernel) (by decide +kernel)
set_option maxRecDepth 20000 in
theorem gX7_isSheet_X7_in : GoodIn wsX7_isSheet (va_wsS RX7 90 yX7_in wsX7_in) := goodIn_app (goodIn_of _ (by decide +kernel)) ggX7_isSheet_X7_in
set_option maxRecDepth 20000 in
theorem ggX7_sheet_X7_isSheet : GoodIn wsX7_sheet wsX7_isSheet := goodIn_r _ [11, 12, 13, 14, 10, 15] (by decide +kernel) (by decide +kernel)
set_option maxRecDepth 20000 in
theorem gX7_sheet_X7_isSheet : GoodIn wsX7_sheet (va_wsS RX7 103 yX7_isSheet wsX7_isSheet) := goodIn_app (goodIn_of _ (by decide +kernel)) ggX7_sheet_X7_isSheet
set_option maxRecDepth 20000 in
theorem ggX7_sheet_X7_in : GoodIn wsX7_sheet wsX7_in := goodIn_r _ [15] (by decide +kernel) (by decide +kernel)
set_option maxRecDepth 20000 in
theorem gX7_sheet_X7_in : GoodIn wsX7_sheet (va_wsS RX7 90 yX7_in wsX7_in) := goodIn_app (goodIn_of _ (by decide +kernel)) ggX7_sheet_X7_in
set_option maxRecDepth 20000 in
theorem ggX7_sheet_X7_found : GoodIn wsX7_sheet wsX7_found := goodIn_r _ [19, 4, 20, 21, 22, 23, 24, 25, 26, 27, 28, 29, 30, 31, 32, 33, 34, 35, 36, 37, 38, 39, 40, 41, 42, 43, 44, 45, 46, 47, 48] (by decide +kernel) (by decide +kernel)
set_option maxRecDepth 20000 in
theorem gX7_sheet_X7_found : GoodIn wsX7_sheet (wsV RX7 109 RX7 yX7_found wsX7_found) := goodIn_app (goodIn_of _ (by decide +kernel)) ggX7_sheet_X7_found
set_option maxRecDepth 20000 in
theorem ggX7_set_X7_isSheet : GoodIn wsX7_set wsX7_isSheet := goodIn_r _ [10, 11, 12, 13, 9, 14] (by decide +kernel) (by decide +kernel)
set_option maxRecDepth 20000 in
theorem gX7_set_X7_isSheet : GoodIn wsX7_set (va_wsS RX7 103 yX7_isSheet wsX7_isSheet) := goodIn_app (goodIn_of _ (by decide +kernel)) ggX7_set_X7_isSheet
set_option maxRecDepth 20000 in
theorem ggX7_set_X7_found : GoodIn wsX7_set wsX7_found := goodIn_r _ [18, 3, 19, 20, 21, 22, 23, 24, 25, 26, 27, 28, 29, 30, 31, 32, 33, 34, 35, 36, 37, 38, 39, 40, 41, 42, 43, 44, 45, 46, 47] (by decide +kernel) (by decide +kernel)
set_option maxRecDepth 20000 in
theorem gX7_set_X7_found : GoodIn wsX7_set (wsV RX7 109 RX7 yX7_found wsX7_found) := goodIn_app (goodIn_of _ (by decide +kernel)) ggX7_set_X7_found
set_option maxRecDepth 20000 in
theorem ggX7_set_X7_in : GoodIn wsX7_set wsX7_in := goodIn_r _ [14] (by decide +kernel) (by decide +kernel)
set_option maxRecDepth 20000 in
theorem gX7_set_X7_in : GoodIn wsX7_set (va_wsS RX7 90 yX7_in wsX7_in) := goodIn_app (goodIn_of _ (by decide +kernel)) ggX7_set_X7_in
set_option maxRecDepth 20000 in
theorem ggX7_copy_X7_isSheet : GoodIn wsX7_copy wsX7_isSheet := goodIn_r _ [10, 11, 12, 13, 9, 14] (by decide +kernel) (by decide +kernel)
set_option maxRecDepth 20000 in
theorem gX7_copy_X7_isSheet : GoodIn wsX7_copy (va_wsS RX7 103 yX7_isSheet wsX7_isSheet) := goodIn_app (goodIn_of _ (by decide +kernel)) ggX7_copy_X7_isSheet
set_option maxRecDepth 20000 in
theorem ggX7_copy_X7_found : GoodIn wsX7_copy wsX7_found := goodIn_r _ [18, 3, 19, 20, 21, 22, 23, 24, 25, 26, 27, 28, 29, 30, 31, 32, 33, 34, 35, 36, 37, 38, 39, 40, 41, 42, 43, 44, 45, 46, 47] (by decide +kernel) (by decide +kernel)
set_option maxRecDepth 20000 in
theorem gX7_copy_X7_found : GoodIn wsX7_copy (wsV RX7 109 RX7 yX7_found wsX7_found) := goodIn_app (goodIn_of _ (by decide +kernel)) ggX7_copy_X7_found
set_option maxRecDepth 20000 in
theorem ggX7_drop_X7_isSheet : GoodIn wsX7_drop wsX7_isSheet := goodIn_r _ [9, 10, 11, 12, 8, 13] (by decide +kernel) (by decide +kernel)
set_option maxRecDepth 20000 in
theorem gX7_drop_X7_isSheet : GoodIn wsX7_drop (va_wsS RX7 103 yX7_isSheet wsX7_isSheet) := goodIn_app (goodIn_of _ (by decide +kernel)) ggX7_drop_X7_isSheet
set_option maxRecDepth 20000 in
theorem ggX7_drop_X7_found : GoodIn wsX7_drop wsX7_found := goodIn_r _ [17, 3, 18, 19, 20, 21, 22, 23, 24, 25, 26, 27, 28, 29, 30, 31, 32, 33, 34, 35, 36, 37, 38, 39, 40, 41, 42, 43, 44, 45, 46] (by decide +kernel) (by decide +kernel)
set_option maxRecDepth 20000 in
theorem gX7_drop_X7_found : GoodIn wsX7_drop (wsV RX7 109 RX7 yX7_found wsX7_found) := goodIn_app (goodIn_of _ (by decide +kernel)) ggX7_drop_X7_found
set_option maxRecDepth 20000 in
theorem ggX7_isPlace_X7_in : GoodIn wsX7_isPlace wsX7_in := goodIn_r _ [5] (by decide +kernel) (by decide +kernel)
set_option maxRecDepth 20000 in
theorem gX7_isPlace_X7_in : GoodIn wsX7_isPlace (va_wsS RX7 90 yX7_in wsX7_in) := goodIn_app (goodIn_of _ (by decide +kernel)) ggX7_isPlace_X7_in
set_option maxRecDepth 20000 in
theorem ggX7_lay_X7_kindOf : GoodIn wsX7_lay wsX7_kindOf := goodIn_r _ [9, 2, 3, 10, 11, 12, 13, 14, 15, 16, 17, 18, 19, 20, 21, 22, 23, 24, 25, 26, 27, 28, 29, 30, 31, 32, 33, 34, 35, 36, 37] (by decide +kernel) (by decide +kernel)
set_option maxRecDepth 20000 in
theorem gX7_lay_X7_kindOf : GoodIn wsX7_lay (wsV RX7 117 RX7 yX7_kindOf wsX7_kindOf) := goodIn_app (goodIn_of _ (by decide +kernel)) ggX7_lay_X7_kindOf
set_option maxRecDepth 20000 in
theorem ggX7_map_X7_isPlace : GoodIn wsX7_map wsX7_isPlace := goodIn_r _ [11, 12, 13, 14, 10, 15] (by decide +kernel) (by decide +kernel)
set_option maxRecDepth 20000 in
theorem gX7_map_X7_isPlace : GoodIn wsX7_map (va_wsS RX7 120 yX7_isPlace wsX7_isPlace) := goodIn_app (goodIn_of _ (by decide +kernel)) ggX7_map_X7_isPlace
set_option maxRecDepth 20000 in
theorem ggX7_map_X7_isSheet : GoodIn wsX7_map wsX7_isSheet := goodIn_r _ [18, 19, 13, 14, 10, 15] (by decide +kernel) (by decide +kernel)
set_option maxRecDepth 20000 in
theorem gX7_map_X7_isSheet : GoodIn wsX7_map (va_wsS RX7 103 yX7_isSheet wsX7_isSheet) := goodIn_app (goodIn_of _ (by decide +kernel)) ggX7_map_X7_isSheet
set_option maxRecDepth 20000 in
theorem ggX7_map_X7_in : GoodIn wsX7_map wsX7_in := goodIn_r _ [15] (by decide +kernel) (by decide +kernel)
set_option maxRecDepth 20000 in
theorem gX7_map_X7_in : GoodIn wsX7_map (va_wsS RX7 90 yX7_in wsX7_in) := goodIn_app (goodIn_of _ (by decide +kernel)) ggX7_map_X7_in
set_option maxRecDepth 20000 in
theorem ggX7_map_X7_found : GoodIn wsX7_map wsX7_found := goodIn_r _ [23, 24, 25, 41, 42, 43, 44, 45, 46, 47, 48, 49, 50, 51, 52, 53, 54, 55, 56, 57, 58, 59, 60, 61, 62, 63, 64, 65, 66, 67, 68] (by decide +kernel) (by decide +kernel)
set_option maxRecDepth 20000 in
theorem gX7_map_X7_found : GoodIn wsX7_map (wsV RX7 109 RX7 yX7_found wsX7_found) := goodIn_app (goodIn_of _ (by decide +kernel)) ggX7_map_X7_found
set_option maxRecDepth 20000 in
theorem ggX7_map_X7_modulo : GoodIn wsX7_map wsX7_modulo := goodIn_r _ [29, 30, 41, 42, 43, 44, 45, 46, 47, 48, 49, 50, 51, 52, 53, 54, 55, 56, 57, 58, 59, 60, 61, 62, 63, 64, 65, 66, 67, 68] (by decide +kernel) (by decide +kernel)
set_option maxRecDepth 20000 in
theorem gX7_map_X7_modulo : GoodIn wsX7_map (wsV RX7 125 RX7 yX7_modulo wsX7_modulo) := goodIn_app (goodIn_of _ (by decide +kernel)) ggX7_map_X7_modulo
set_option maxRecDepth 20000 in
theorem ggX7_map_X7_lay : GoodIn wsX7_map wsX7_lay := goodIn_r _ [34, 24, 35, 36, 6, 37, 38, 39, 10, 40, 41, 42, 43, 44, 45, 46, 47, 48, 49, 50, 51, 52, 53, 54, 55, 56, 57, 58, 59, 60, 61, 62, 63, 64, 65, 66, 67, 68] (by decide +kernel) (by decide +kernel)
set_option maxRecDepth 20000 in
theorem gX7_map_X7_lay : GoodIn wsX7_map (wsV RX7 129 RX7 yX7_lay wsX7_lay) := goodIn_app (goodIn_of _ (by decide +kernel)) ggX7_map_X7_lay
set_option maxRecDepth 20000 in
theorem ggX7_plain_X7_isPlace : GoodIn wsX7_plain wsX7_isPlace := goodIn_r _ [7, 8, 9, 10, 6, 11] (by decide +kernel) (by decide +kernel)
set_option maxRecDepth 20000 in
theorem gX7_plain_X7_isPlace : GoodIn wsX7_plain (va_wsS RX7 120 yX7_isPlace wsX7_isPlace) := goodIn_app (goodIn_of _ (by decide +kernel)) ggX7_plain_X7_isPlace
set_option maxRecDepth 20000 in
theorem ggX7_plain_X7_modulo : GoodIn wsX7_plain wsX7_modulo := goodIn_r _ [15, 16, 28, 29, 30, 31, 32, 33, 34, 35, 36, 37, 38, 39, 40, 41, 42, 43, 44, 45, 46, 47, 48, 49, 50, 51, 52, 53, 54, 55] (by decide +kernel) (by decide +kernel)
set_option maxRecDepth 20000 in
theorem gX7_plain_X7_modulo : GoodIn wsX7_plain (wsV RX7 125 RX7 yX7_modulo wsX7_modulo) := goodIn_app (goodIn_of _ (by decide +kernel)) ggX7_plain_X7_modulo
set_option maxRecDepth 20000 in
theorem ggX7_plain_X7_lay : GoodIn wsX7_plain wsX7_lay := goodIn_r _ [20, 21, 22, 23, 3, 24, 25, 26, 6, 27, 28, 29, 30, 31, 32, 33, 34, 35, 36, 37, 38, 39, 40, 41, 42, 43, 44, 45, 46, 47, 48, 49, 50, 51, 52, 53, 54, 55] (by decide +kernel) (by decide +kernel)
set_option maxRecDepth 20000 in
theorem gX7_plain_X7_lay : GoodIn wsX7_plain (wsV RX7 129 RX7 yX7_lay wsX7_lay) := goodIn_app (goodIn_of _ (by decide +kernel)) ggX7_plain_X7_lay
set_option maxRecDepth 20000 in
theorem ggX7_turn_X7_isPlace : GoodIn wsX7_turn wsX7_isPlace := goodIn_r _ [10, 11, 12, 13, 9, 14] (by decide +kernel) (by decide +kernel)
set_option maxRecDepth 20000 in
theorem gX7_turn_X7_isPlace : GoodIn wsX7_turn (va_wsS RX7 120 yX7_isPlace wsX7_isPlace) := goodIn_app (goodIn_of _ (by decide +kernel)) ggX7_turn_X7_isPlace
set_option maxRecDepth 20000 in
theorem ggX7_turn_X7_modulo : GoodIn wsX7_turn wsX7_modulo := goodIn_r _ [18, 6, 43, 44, 45, 46, 47, 48, 49, 50, 51, 52, 53, 54, 55, 56, 57, 58, 59, 60, 61, 62, 63, 64, 65, 66, 67, 68, 69, 70] (by decide +kernel) (by decide +kernel)
set_option maxRecDepth 20000 in
theorem gX7_turn_X7_modulo : GoodIn wsX7_turn (wsV RX7 125 RX7 yX7_modulo wsX7_modulo) := goodIn_app (goodIn_of _ (by decide +kernel)) ggX7_turn_X7_modulo
set_option maxRecDepth 20000 in
theorem ggX7_turn_X7_found : GoodIn wsX7_turn wsX7_found := goodIn_r _ [22, 23, 24, 43, 44, 45, 46, 47, 48, 49, 50, 51, 52, 53, 54, 55, 56, 57, 58, 59, 60, 61, 62, 63, 64, 65, 66, 67, 68, 69, 70] (by decide +kernel) (by decide +kernel)
set_option maxRecDepth 20000 in
theorem gX7_turn_X7_found : GoodIn wsX7_turn (wsV RX7 109 RX7 yX7_found wsX7_found) := goodIn_app (goodIn_of _ (by decide +kernel)) ggX7_turn_X7_found
set_option maxRecDepth 20000 in
theorem ggX7_turn_X7_mix : GoodIn wsX7_turn wsX7_mix := goodIn_r _ [28, 5, 3, 29, 4, 6, 30, 43, 44, 45, 46, 47, 48, 49, 50, 51, 52, 53, 54, 55, 56, 57, 58, 59, 60, 61, 62, 63, 64, 65, 66, 67, 68, 69, 70] (by decide +kernel) (by decide +kernel)
set_option maxRecDepth 20000 in
theorem gX7_turn_X7_mix : GoodIn wsX7_turn (wsV RX7 132 RX7 yX7_mix wsX7_mix) := goodIn_app (goodIn_of _ (by decide +kernel)) ggX7_turn_X7_mix
set_option maxRecDepth 20000 in
theorem ggX7_turn_X7_inverse : GoodIn wsX7_turn wsX7_inverse := goodIn_r _ [34, 6, 43, 44, 45, 46, 47, 48, 49, 50, 51, 52, 53, 54, 55, 56, 57, 58, 59, 60, 61, 62, 63, 64, 65, 66, 67, 68, 69, 70] (by decide +kernel) (by decide +kernel)
set_option maxRecDepth 20000 in
theorem gX7_turn_X7_inverse : GoodIn wsX7_turn (wsV RX7 136 RX7 yX7_inverse wsX7_inverse) := goodIn_app (goodIn_of _ (by decide +kernel)) ggX7_turn_X7_inverse
set_option maxRecDepth 20000 in
theorem ggX7_turn_X7_lay : GoodIn wsX7_turn wsX7_lay := goodIn_r _ [38, 23, 3, 30, 5, 39, 40, 41, 9, 42, 43, 44, 45, 46, 47, 48, 49, 50, 51, 52, 53, 54, 55, 56, 57, 58, 59, 60, 61, 62, 63, 64, 65, 66, 67, 68, 69, 70] (by decide +kernel) (by decide +kernel)
set_option maxRecDepth 20000 in
theorem gX7_turn_X7_lay : GoodIn wsX7_turn (wsV RX7 129 RX7 yX7_lay wsX7_lay) := goodIn_app (goodIn_of _ (by decide +kernel)) ggX7_turn_X7_lay
set_option maxRecDepth 20000 in
theorem ggX7_behind_X7_isPlace : GoodIn wsX7_behind wsX7_isPlace := goodIn_r _ [10, 11, 12, 13, 9, 14] (by decide +kernel) (by decide +kernel)
set_option maxRecDepth 20000 in
theorem gX7_behind_X7_isPlace : GoodIn wsX7_behind (va_wsS RX7 120 yX7_isPlace wsX7_isPlace) := goodIn_app (goodIn_of _ (by decide +kernel)) ggX7_behind_X7_isPlace
set_option maxRecDepth 20000 in
theorem ggX7_behind_X7_found : GoodIn wsX7_behind wsX7_found := goodIn_r _ [18, 19, 20, 36, 37, 38, 39, 40, 41, 42, 43, 44, 45, 46, 47, 48, 49, 50, 51, 52, 53, 54, 55, 56, 57, 58, 59, 60, 61, 62, 63] (by decide +kernel) (by decide +kernel)
set_option maxRecDepth 20000 in
theorem gX7_behind_X7_found : GoodIn wsX7_behind (wsV RX7 109 RX7 yX7_found wsX7_found) := goodIn_app (goodIn_of _ (by decide +kernel)) ggX7_behind_X7_found
set_option maxRecDepth 20000 in
theorem ggX7_behind_X7_mix : GoodIn wsX7_behind wsX7_mix := goodIn_r _ [24, 25, 3, 26, 5, 27, 6, 36, 37, 38, 39, 40, 41, 42, 43, 44, 45, 46, 47, 48, 49, 50, 51, 52, 53, 54, 55, 56, 57, 58, 59, 60, 61, 62, 63] (by decide +kernel) (by decide +kernel)
set_option maxRecDepth 20000 in
theorem gX7_behind_X7_mix : GoodIn wsX7_behind (wsV RX7 132 RX7 yX7_mix wsX7_mix) := goodIn_app (goodIn_of _ (by decide +kernel)) ggX7_behind_X7_mix
set_option maxRecDepth 20000 in
theorem ggX7_behind_X7_lay : GoodIn wsX7_behind wsX7_lay := goodIn_r _ [31, 19, 3, 6, 25, 32, 33, 34, 9, 35, 36, 37, 38, 39, 40, 41, 42, 43, 44, 45, 46, 47, 48, 49, 50, 51, 52, 53, 54, 55, 56, 57, 58, 59, 60, 61, 62, 63] (by decide +kernel) (by decide +kernel)
set_option maxRecDepth 20000 in
theorem gX7_behind_X7_lay : GoodIn wsX7_behind (wsV RX7 129 RX7 yX7_lay wsX7_lay) := goodIn_app (goodIn_of _ (by decide +kernel)) ggX7_behind_X7_lay
set_option maxRecDepth 20000 in
theorem ggX7_clear_X7_isPlace : GoodIn wsX7_clear wsX7_isPlace := goodIn_r _ [7, 8, 9, 10, 6, 11] (by decide +kernel) (by decide +kernel)
set_option maxRecDepth 20000 in
theorem gX7_clear_X7_isPlace : GoodIn wsX7_clear (va_wsS RX7 120 yX7_isPlace wsX7_isPlace) := goodIn_app (goodIn_of _ (by decide +kernel)) ggX7_clear_X7_isPlace
set_option maxRecDepth 20000 in
theorem ggX7_look_X7_found : GoodIn wsX7_look wsX7_found := goodIn_r _ [7, 1, 8, 9, 10, 11, 12, 13, 14, 15, 16, 17, 18, 19, 20, 21, 22, 23, 24, 25, 26, 27, 28, 29, 30, 31, 32, 33, 34, 35, 36] (by decide +kernel) (by decide +kernel)
set_option maxRecDepth 20000 in
theorem gX7_look_X7_found : GoodIn wsX7_look (wsV RX7 109 RX7 yX7_found wsX7_found) := goodIn_app (goodIn_of _ (by decide +kernel)) ggX7_look_X7_found
set_option maxRecDepth 20000 in
theorem ggX7_number_X7_isPlace : GoodIn wsX7_number wsX7_isPlace := goodIn_r _ [10, 11, 12, 13, 9, 14] (by decide +kernel) (by decide +kernel)
set_option maxRecDepth 20000 in
theorem gX7_number_X7_isPlace : GoodIn wsX7_number (va_wsS RX7 120 yX7_isPlace wsX7_isPlace) := goodIn_app (goodIn_of _ (by decide +kernel)) ggX7_number_X7_isPlace
set_option maxRecDepth 20000 in
theorem ggX7_number_X7_in : GoodIn wsX7_number wsX7_in := goodIn_r _ [14] (by decide +kernel) (by decide +kernel)
set_option maxRecDepth 20000 in
theorem gX7_number_X7_in : GoodIn wsX7_number (va_wsS RX7 90 yX7_in wsX7_in) := goodIn_app (goodIn_of _ (by decide +kernel)) ggX7_number_X7_in
set_option maxRecDepth 20000 in
theorem ggX7_number_X7_look : GoodIn wsX7_number wsX7_look := goodIn_r _ [18, 19, 5, 20, 21, 22, 9, 23, 24, 25, 26, 27, 28, 29, 30, 31, 32, 33, 34, 35, 36, 37, 38, 39, 40, 41, 42, 43, 44, 45, 46, 47, 48, 49, 50, 51, 52] (by decide +kernel) (by decide +kernel)
set_option maxRecDepth 20000 in
theorem gX7_number_X7_look : GoodIn wsX7_number (wsV RX7 144 RX7 yX7_look wsX7_look) := goodIn_app (goodIn_of _ (by decide +kernel)) ggX7_number_X7_look
set_option maxRecDepth 20000 in
theorem ggX7_kind_X7_isPlace : GoodIn wsX7_kind wsX7_isPlace := goodIn_r _ [6, 7, 8, 9, 5, 10] (by decide +kernel) (by decide +kernel)
set_option maxRecDepth 20000 in
theorem gX7_kind_X7_isPlace : GoodIn wsX7_kind (va_wsS RX7 120 yX7_isPlace wsX7_isPlace) := goodIn_app (goodIn_of _ (by decide +kernel)) ggX7_kind_X7_isPlace
set_option maxRecDepth 20000 in
theorem ggX7_kind_X7_look : GoodIn wsX7_kind wsX7_look := goodIn_r _ [14, 15, 16, 17, 18, 19, 5, 20, 21, 27, 28, 29, 30, 31, 32, 33, 34, 35, 36, 37, 38, 39, 40, 41, 42, 43, 44, 45, 46, 47, 48, 49, 50, 51, 52, 53, 54] (by decide +kernel) (by decide +kernel)
set_option maxRecDepth 20000 in
theorem gX7_kind_X7_look : GoodIn wsX7_kind (wsV RX7 144 RX7 yX7_look wsX7_look) := goodIn_app (goodIn_of _ (by decide +kernel)) ggX7_kind_X7_look
set_option maxRecDepth 20000 in
theorem ggX7_kind_X7_kindOf : GoodIn wsX7_kind wsX7_kindOf := goodIn_r _ [25, 16, 26, 27, 28, 29, 30, 31, 32, 33, 34, 35, 36, 37, 38, 39, 40, 41, 42, 43, 44, 45, 46, 47, 48, 49, 50, 51, 52, 53, 54] (by decide +kernel) (by decide +kernel)
set_option maxRecDepth 20000 in
theorem gX7_kind_X7_kindOf : GoodIn wsX7_kind (wsV RX7 117 RX7 yX7_kindOf wsX7_kindOf) := goodIn_app (goodIn_of _ (by decide +kernel)) ggX7_kind_X7_kindOf
set_option maxRecDepth 20000 in
theorem ggX7_is_X7_isPlace : GoodIn wsX7_is wsX7_isPlace := goodIn_r _ [8, 9, 10, 11, 7, 12] (by decide +kernel) (by decide +kernel)
set_option maxRecDepth 20000 in
theorem gX7_is_X7_isPlace : GoodIn wsX7_is (va_wsS RX7 120 yX7_isPlace wsX7_isPlace) := goodIn_app (goodIn_of _ (by decide +kernel)) ggX7_is_X7_isPlace
set_option maxRecDepth 20000 in
theorem ggX7_is_X7_in : GoodIn wsX7_is wsX7_in := goodIn_r _ [12] (by decide +kernel) (by decide +kernel)
set_option maxRecDepth 20000 in
theorem gX7_is_X7_in : GoodIn wsX7_is (va_wsS RX7 90 yX7_in wsX7_in) := goodIn_app (goodIn_of _ (by decide +kernel)) ggX7_is_X7_in
set_option maxRecDepth 20000 in
theorem ggX7_is_X7_kindOf : GoodIn wsX7_is wsX7_kindOf := goodIn_r _ [16, 4, 17, 21, 22, 23, 24, 25, 26, 27, 28, 29, 30, 31, 32, 33, 34, 35, 36, 37, 38, 39, 40, 41, 42, 43, 44, 45, 46, 47, 48] (by decide +kernel) (by decide +kernel)
set_option maxRecDepth 20000 in
theorem gX7_is_X7_kindOf : GoodIn wsX7_is (wsV RX7 117 RX7 yX7_kindOf wsX7_kindOf) := goodIn_app (goodIn_of _ (by decide +kernel)) ggX7_is_X7_kindOf
set_option maxRecDepth 20000 in
theorem ggX7_is_X7_isOf : GoodIn wsX7_is wsX7_isOf := goodIn_r _ [20] (by decide +kernel) (by decide +kernel)
set_option maxRecDepth 20000 in
theorem gX7_is_X7_isOf : GoodIn wsX7_is (va_wsS RX7 147 yX7_isOf wsX7_isOf) := goodIn_app (goodIn_of _ (by decide +kernel)) ggX7_is_X7_isOf
set_option maxRecDepth 20000 in
theorem ggX7_as_X7_isPlace : GoodIn wsX7_as wsX7_isPlace := goodIn_r _ [8, 9, 10, 11, 7, 12] (by decide +kernel) (by decide +kernel)
set_option maxRecDepth 20000 in
theorem gX7_as_X7_isPlace : GoodIn wsX7_as (va_wsS RX7 120 yX7_isPlace wsX7_isPlace) := goodIn_app (goodIn_of _ (by decide +kernel)) ggX7_as_X7_isPlace
set_option maxRecDepth 20000 in
theorem ggX7_as_X7_in : GoodIn wsX7_as wsX7_in := goodIn_r _ [12] (by decide +kernel) (by decide +kernel)
set_option maxRecDepth 20000 in
theorem gX7_as_X7_in : GoodIn wsX7_as (va_wsS RX7 90 yX7_in wsX7_in) := goodIn_app (goodIn_of _ (by decide +kernel)) ggX7_as_X7_in
set_option maxRecDepth 20000 in
theorem ggX7_as_X7_look : GoodIn wsX7_as wsX7_look := goodIn_r _ [16, 17, 4, 18, 19, 20, 7, 21, 22, 31, 32, 33, 34, 35, 36, 37, 38, 39, 40, 41, 42, 43, 44, 45, 46, 47, 48, 49, 50, 51, 52, 53, 54, 55, 56, 57, 58] (by decide +kernel) (by decide +kernel)
set_option maxRecDepth 20000 in
theorem gX7_as_X7_look : GoodIn wsX7_as (wsV RX7 144 RX7 yX7_look wsX7_look) := goodIn_app (goodIn_of _ (by decide +kernel)) ggX7_as_X7_look
set_option maxRecDepth 20000 in
theorem ggX7_as_X7_kindOf : GoodIn wsX7_as wsX7_kindOf := goodIn_r _ [26, 4, 27, 31, 32, 33, 34, 35, 36, 37, 38, 39, 40, 41, 42, 43, 44, 45, 46, 47, 48, 49, 50, 51, 52, 53, 54, 55, 56, 57, 58] (by decide +kernel) (by decide +kernel)
set_option maxRecDepth 20000 in
theorem gX7_as_X7_kindOf : GoodIn wsX7_as (wsV RX7 117 RX7 yX7_kindOf wsX7_kindOf) := goodIn_app (goodIn_of _ (by decide +kernel)) ggX7_as_X7_kindOf
set_option maxRecDepth 20000 in
theorem ggX7_as_X7_isOf : GoodIn wsX7_as wsX7_isOf := goodIn_r _ [30] (by decide +kernel) (by decide +kernel)
set_option maxRecDepth 20000 in
theorem gX7_as_X7_isOf : GoodIn wsX7_as (va_wsS RX7 147 yX7_isOf wsX7_isOf) := goodIn_app (goodIn_of _ (by decide +kernel)) ggX7_as_X7_isOf
set_option maxRecDepth 20000 in
theorem ggX7_as_X7_found : GoodIn wsX7_as wsX7_found := goodIn_r _ [21, 17, 22, 31, 32, 33, 34, 35, 36, 37, 38, 39, 40, 41, 42, 43, 44, 45, 46, 47, 48, 49, 50, 51, 52, 53, 54, 55, 56, 57, 58] (by decide +kernel) (by decide +kernel)
set_option maxRecDepth 20000 in
theorem gX7_as_X7_found : GoodIn wsX7_as (wsV RX7 109 RX7 yX7_found wsX7_found) := goodIn_app (goodIn_of _ (by decide +kernel)) ggX7_as_X7_found
set_option maxRecDepth 20000 in
theorem ggX7_findWays_X7_valueOf : GoodIn wsX7_findWays wsX7_valueOf := goodIn_r _ [12, 13, 14, 1, 15, 16, 17, 18, 19, 20, 21, 22, 23, 24, 25, 26, 27, 28, 29, 30, 31, 32, 33, 34, 35, 36, 37, 38, 39, 40, 41, 42] (by decide +kernel) (by decide +kernel)
set_option maxRecDepth 20000 in
theorem gX7_findWays_X7_valueOf : GoodIn wsX7_findWays (wsV RX7 151 RX7 yX7_valueOf wsX7_valueOf) := goodIn_app (goodIn_of _ (by decide +kernel)) ggX7_findWays_X7_valueOf
set_option maxRecDepth 20000 in
theorem ggX7_valuesOf_X7_findWays : GoodIn wsX7_valuesOf wsX7_findWays := goodIn_r _ [7, 1, 8, 2, 9, 10, 11, 12, 13, 14, 15, 6, 16, 17, 18, 19, 20, 21, 22, 23, 24, 25, 26, 27, 28, 29, 30, 31, 32, 33, 34, 35, 36, 37, 38, 39, 40, 41, 42, 43, 44, 45, 46] (by decide +kernel) (by decide +kernel)
set_option maxRecDepth 20000 in
theorem gX7_valuesOf_X7_findWays : GoodIn wsX7_valuesOf (wsV RX7 155 RX7 yX7_findWays wsX7_findWays) := goodIn_app (goodIn_of _ (by decide +kernel)) ggX7_valuesOf_X7_findWays
set_option maxRecDepth 20000 in
theorem ggX7_plainSize_X7_began : GoodIn wsX7_plainSize wsX7_began := goodIn_r _ [5, 6, 7, 29, 30, 31, 32, 33, 34, 35, 36, 37, 38, 39, 40, 41, 42, 43, 44, 45, 46, 47, 48, 49, 50, 51, 52, 53, 54, 55, 56] (by decide +kernel) (by decide +kernel)
set_option maxRecDepth 20000 in
theorem gX7_plainSize_X7_began : GoodIn wsX7_plainSize (wsV RX7 161 RX7 yX7_began wsX7_began) := goodIn_app (goodIn_of _ (by decide +kernel)) ggX7_plainSize_X7_began
set_option maxRecDepth 20000 in
theorem ggX7_plainSize_X7_valuesOf : GoodIn wsX7_plainSize wsX7_valuesOf := goodIn_r _ [11, 12, 13, 14, 15, 16, 4, 17, 18, 19, 20, 21, 22, 23, 24, 25, 26, 27, 28, 29, 30, 31, 32, 33, 34, 35, 36, 37, 38, 39, 40, 41, 42, 43, 44, 45, 46, 47, 48, 49, 50, 51, 52, 53, 54, 55, 56] (by decide +kernel) (by decide +kernel)
set_option maxRecDepth 20000 in
theorem gX7_plainSize_X7_valuesOf : GoodIn wsX7_plainSize (wsV RX7 164 RX7 yX7_valuesOf wsX7_valuesOf) := goodIn_app (goodIn_of _ (by decide +kernel)) ggX7_plainSize_X7_valuesOf
set_option maxRecDepth 20000 in
theorem ggX7_marked_X7_kindOf : GoodIn wsX7_marked wsX7_kindOf := goodIn_r _ [8, 9, 1, 40, 41, 42, 43, 44, 45, 46, 47, 48, 49, 50, 51, 52, 53, 54, 55, 56, 57, 58, 59, 60, 61, 62, 63, 64, 65, 66, 67] (by decide +kernel) (by decide +kernel)
set_option maxRecDepth 20000 in
theorem gX7_marked_X7_kindOf : GoodIn wsX7_marked (wsV RX7 117 RX7 yX7_kindOf wsX7_kindOf) := goodIn_app (goodIn_of _ (by decide +kernel)) ggX7_marked_X7_kindOf
set_option maxRecDepth 20000 in
theorem ggX7_marked_X7_began : GoodIn wsX7_marked wsX7_began := goodIn_r _ [13, 14, 15, 40, 41, 42, 43, 44, 45, 46, 47, 48, 49, 50, 51, 52, 53, 54, 55, 56, 57, 58, 59, 60, 61, 62, 63, 64, 65, 66, 67] (by decide +kernel) (by decide +kernel)
set_option maxRecDepth 20000 in
theorem gX7_marked_X7_began : GoodIn wsX7_marked (wsV RX7 161 RX7 yX7_began wsX7_began) := goodIn_app (goodIn_of _ (by decide +kernel)) ggX7_marked_X7_began
set_option maxRecDepth 20000 in
theorem ggX7_marked_X7_plainSize : GoodIn wsX7_marked wsX7_plainSize := goodIn_r _ [19, 10, 11, 12, 7, 13, 14, 15, 20, 21, 22, 23, 2, 24, 25, 26, 27, 28, 29, 30, 31, 3, 32, 33, 34, 35, 36, 9, 1, 40, 41, 42, 43, 44, 45, 46, 47, 48, 49, 50, 51, 52, 53, 54, 55, 56, 57, 58, 59, 60, 61, 62, 63, 64, 65, 66, 67] (by decide +kernel) (by decide +kernel)
set_option maxRecDepth 20000 in
theorem gX7_marked_X7_plainSize : GoodIn wsX7_marked (wsV RX7 167 RX7 yX7_plainSize wsX7_plainSize) := goodIn_app (goodIn_of _ (by decide +kernel)) ggX7_marked_X7_plainSize
set_option maxRecDepth 20000 in
theorem ggX7_marked_X7_isOf : GoodIn wsX7_marked wsX7_isOf := goodIn_r _ [39] (by decide +kernel) (by decide +kernel)
set_option maxRecDepth 20000 in
theorem gX7_marked_X7_isOf : GoodIn wsX7_marked (va_wsS RX7 147 yX7_isOf wsX7_isOf) := goodIn_app (goodIn_of _ (by decide +kernel)) ggX7_marked_X7_isOf
set_option maxRecDepth 20000 in
theorem ggX7_marked_X7_findWays : GoodIn wsX7_marked wsX7_findWays := goodIn_r _ [28, 2, 29, 24, 30, 31, 3, 32, 33, 34, 35, 7, 36, 9, 1, 40, 41, 42, 43, 44, 45, 46, 47, 48, 49, 50, 51, 52, 53, 54, 55, 56, 57, 58, 59, 60, 61, 62, 63, 64, 65, 66, 67] (by decide +kernel) (by decide +kernel)
set_option maxRecDepth 20000 in
theorem gX7_marked_X7_findWays : GoodIn wsX7_marked (wsV RX7 155 RX7 yX7_findWays wsX7_findWays) := goodIn_app (goodIn_of _ (by decide +kernel)) ggX7_marked_X7_findWays
set_option maxRecDepth 20000 in
theorem ggX7_sized_X7_kindOf : GoodIn wsX7_sized wsX7_kindOf := goodIn_r _ [6, 7, 8, 44, 45, 46, 47, 48, 49, 50, 51, 52, 53, 54, 55, 56, 57, 58, 59, 60, 61, 62, 63, 64, 65, 66, 67, 68, 69, 70, 71] (by decide +kernel) (by decide +kernel)
set_option maxRecDepth 20000 in
theorem gX7_sized_X7_kindOf : GoodIn wsX7_sized (wsV RX7 117 RX7 yX7_kindOf wsX7_kindOf) := goodIn_app (goodIn_of _ (by decide +kernel)) ggX7_sized_X7_kindOf
set_option maxRecDepth 20000 in
theorem ggX7_sized_X7_began : GoodIn wsX7_sized wsX7_began := goodIn_r _ [12, 13, 14, 44, 45, 46, 47, 48, 49, 50, 51, 52, 53, 54, 55, 56, 57, 58, 59, 60, 61, 62, 63, 64, 65, 66, 67, 68, 69, 70, 71] (by decide +kernel) (by decide +kernel)
set_option maxRecDepth 20000 in
theorem gX7_sized_X7_began : GoodIn wsX7_sized (wsV RX7 161 RX7 yX7_began wsX7_began) := goodIn_app (goodIn_of _ (by decide +kernel)) ggX7_sized_X7_began
set_option maxRecDepth 20000 in
theorem ggX7_sized_X7_isOf : GoodIn wsX7_sized wsX7_isOf := goodIn_r _ [17] (by decide +kernel) (by decide +kernel)
set_option maxRecDepth 20000 in
theorem gX7_sized_X7_isOf : GoodIn wsX7_sized (va_wsS RX7 147 yX7_isOf wsX7_isOf) := goodIn_app (goodIn_of _ (by decide +kernel)) ggX7_sized_X7_isOf
set_option maxRecDepth 20000 in
theorem ggX7_sized_X7_plainSize : GoodIn wsX7_sized wsX7_plainSize := goodIn_r _ [21, 9, 10, 11, 5, 12, 13, 14, 22, 23, 24, 25, 1, 26, 27, 28, 29, 30, 31, 32, 33, 34, 35, 36, 37, 38, 39, 7, 8, 44, 45, 46, 47, 48, 49, 50, 51, 52, 53, 54, 55, 56, 57, 58, 59, 60, 61, 62, 63, 64, 65, 66, 67, 68, 69, 70, 71] (by decide +kernel) (by decide +kernel)
set_option maxRecDepth 20000 in
theorem gX7_sized_X7_plainSize : GoodIn wsX7_sized (wsV RX7 167 RX7 yX7_plainSize wsX7_plainSize) := goodIn_app (goodIn_of _ (by decide +kernel)) ggX7_sized_X7_plainSize
set_option maxRecDepth 20000 in
theorem ggX7_sized_X7_marked : GoodIn wsX7_sized wsX7_marked := goodIn_r _ [43, 8, 1, 34, 2, 3, 4, 5, 6, 7, 9, 10, 11, 12, 13, 14, 18, 19, 20, 21, 22, 23, 24, 25, 26, 27, 28, 29, 30, 31, 32, 33, 35, 36, 37, 38, 39, 15, 16, 17, 44, 45, 46, 47, 48, 49, 50, 51, 52, 53, 54, 55, 56, 57, 58, 59, 60, 61, 62, 63, 64, 65, 66, 67, 68, 69, 70, 71] (by decide +kernel) (by decide +kernel)
set_option maxRecDepth 20000 in
theorem gX7_sized_X7_marked : GoodIn wsX7_sized (wsV RX7 170 RX7 yX7_marked wsX7_marked) := goodIn_app (goodIn_of _ (by decide +kernel)) ggX7_sized_X7_marked
set_option maxRecDepth 20000 in
theorem ggX7_ask_X7_isPlace : GoodIn wsX7_ask wsX7_isPlace := goodIn_r _ [7, 8, 9, 10, 6, 11] (by decide +kernel) (by decide +kernel)
set_option maxRecDepth 20000 in
theorem gX7_ask_X7_isPlace : GoodIn wsX7_ask (va_wsS RX7 120 yX7_isPlace wsX7_isPlace) := goodIn_app (goodIn_of _ (by decide +kernel)) ggX7_ask_X7_isPlace
set_option maxRecDepth 20000 in
theorem ggX7_ask_X7_in : GoodIn wsX7_ask wsX7_in := goodIn_r _ [11] (by decide +kernel) (by decide +kernel)
set_option maxRecDepth 20000 in
theorem gX7_ask_X7_in : GoodIn wsX7_ask (va_wsS RX7 90 yX7_in wsX7_in) := goodIn_app (goodIn_of _ (by decide +kernel)) ggX7_ask_X7_in
set_option maxRecDepth 20000 in
theorem ggX7_ask_X7_look : GoodIn wsX7_ask wsX7_look := goodIn_r _ [15, 16, 17, 18, 19, 20, 6, 21, 22, 67, 68, 69, 70, 71, 72, 73, 74, 75, 76, 77, 78, 79, 80, 81, 82, 83, 84, 85, 86, 87, 88, 89, 90, 91, 92, 93, 94] (by decide +kernel) (by decide +kernel)
set_option maxRecDepth 20000 in
theorem gX7_ask_X7_look : GoodIn wsX7_ask (wsV RX7 144 RX7 yX7_look wsX7_look) := goodIn_app (goodIn_of _ (by decide +kernel)) ggX7_ask_X7_look
set_option maxRecDepth 20000 in
theorem ggX7_ask_X7_sized : GoodIn wsX7_ask wsX7_sized := goodIn_r _ [26, 27, 28, 29, 30, 6, 31, 17, 32, 33, 34, 35, 36, 3, 37, 38, 39, 40, 41, 42, 43, 44, 45, 46, 47, 48, 49, 50, 51, 52, 53, 54, 55, 56, 57, 58, 59, 60, 61, 62, 63, 64, 65, 66, 67, 68, 69, 70, 71, 72, 73, 74, 75, 76, 77, 78, 79, 80, 81, 82, 83, 84, 85, 86, 87, 88, 89, 90, 91, 92, 93, 94] (by decide +kernel) (by decide +kernel)
set_option maxRecDepth 20000 in
theorem gX7_ask_X7_sized : GoodIn wsX7_ask (wsV RX7 173 RX7 yX7_sized wsX7_sized) := goodIn_app (goodIn_of _ (by decide +kernel)) ggX7_ask_X7_sized
set_option maxRecDepth 20000 in
theorem ggX7_ask_X7_marked : GoodIn wsX7_ask wsX7_marked := goodIn_r _ [66, 32, 27, 57, 28, 29, 30, 6, 31, 17, 33, 34, 35, 36, 3, 37, 41, 42, 43, 44, 45, 46, 47, 48, 49, 50, 51, 52, 53, 54, 55, 56, 58, 59, 60, 61, 62, 38, 39, 40, 67, 68, 69, 70, 71, 72, 73, 74, 75, 76, 77, 78, 79, 80, 81, 82, 83, 84, 85, 86, 87, 88, 89, 90, 91, 92, 93, 94] (by decide +kernel) (by decide +kernel)
set_option maxRecDepth 20000 in
theorem gX7_ask_X7_marked : GoodIn wsX7_ask (wsV RX7 170 RX7 yX7_marked wsX7_marked) := goodIn_app (goodIn_of _ (by decide +kernel)) ggX7_ask_X7_marked
set_option maxRecDepth 20000 in
theorem ggX7_trace_X7_in : GoodIn wsX7_trace wsX7_in := goodIn_r _ [8] (by decide +kernel) (by decide +kernel)
set_option maxRecDepth 20000 in
theorem gX7_trace_X7_in : GoodIn wsX7_trace (va_wsS RX7 90 yX7_in wsX7_in) := goodIn_app (goodIn_of _ (by decide +kernel)) ggX7_trace_X7_in
set_option maxRecDepth 20000 in
theorem ggX7_step_X7_isPlace : GoodIn wsX7_step wsX7_isPlace := goodIn_r _ [11, 12, 13, 14, 10, 15] (by decide +kernel) (by decide +kernel)
set_option maxRecDepth 20000 in
theorem gX7_step_X7_isPlace : GoodIn wsX7_step (va_wsS RX7 120 yX7_isPlace wsX7_isPlace) := goodIn_app (goodIn_of _ (by decide +kernel)) ggX7_step_X7_isPlace
set_option maxRecDepth 20000 in
theorem ggX7_step_X7_in : GoodIn wsX7_step wsX7_in := goodIn_r _ [15] (by decide +kernel) (by decide +kernel)
set_option maxRecDepth 20000 in
theorem gX7_step_X7_in : GoodIn wsX7_step (va_wsS RX7 90 yX7_in wsX7_in) := goodIn_app (goodIn_of _ (by decide +kernel)) ggX7_step_X7_in
set_option maxRecDepth 20000 in
theorem ggX7_step_X7_look : GoodIn wsX7_step wsX7_look := goodIn_r _ [19, 20, 21, 22, 23, 24, 10, 25, 26, 39, 40, 41, 42, 43, 44, 45, 46, 47, 48, 49, 50, 51, 52, 53, 54, 55, 56, 57, 58, 59, 60, 61, 62, 63, 64, 65, 66] (by decide +kernel) (by decide +kernel)
set_option maxRecDepth 20000 in
theorem gX7_step_X7_look : GoodIn wsX7_step (wsV RX7 144 RX7 yX7_look wsX7_look) := goodIn_app (goodIn_of _ (by decide +kernel)) ggX7_step_X7_look
set_option maxRecDepth 20000 in
theorem ggX7_step_X7_findWays : GoodIn wsX7_step wsX7_findWays := goodIn_r _ [30, 2, 7, 31, 32, 5, 6, 33, 34, 35, 36, 10, 37, 21, 38, 39, 40, 41, 42, 43, 44, 45, 46, 47, 48, 49, 50, 51, 52, 53, 54, 55, 56, 57, 58, 59, 60, 61, 62, 63, 64, 65, 66] (by decide +kernel) (by decide +kernel)
set_option maxRecDepth 20000 in
theorem gX7_step_X7_findWays : GoodIn wsX7_step (wsV RX7 155 RX7 yX7_findWays wsX7_findWays) := goodIn_app (goodIn_of _ (by decide +kernel)) ggX7_step_X7_findWays
set_option maxRecDepth 20000 in
theorem ggX7_way_X7_isPlace : GoodIn wsX7_way wsX7_isPlace := goodIn_r _ [12, 13, 14, 15, 11, 16] (by decide +kernel) (by decide +kernel)
set_option maxRecDepth 20000 in
theorem gX7_way_X7_isPlace : GoodIn wsX7_way (va_wsS RX7 120 yX7_isPlace wsX7_isPlace) := goodIn_app (goodIn_of _ (by decide +kernel)) ggX7_way_X7_isPlace
set_option maxRecDepth 20000 in
theorem ggX7_way_X7_in : GoodIn wsX7_way wsX7_in := goodIn_r _ [16] (by decide +kernel) (by decide +kernel)
set_option maxRecDepth 20000 in
theorem gX7_way_X7_in : GoodIn wsX7_way (va_wsS RX7 90 yX7_in wsX7_in) := goodIn_app (goodIn_of _ (by decide +kernel)) ggX7_way_X7_in
set_option maxRecDepth 20000 in
theorem ggX7_way_X7_look : GoodIn wsX7_way wsX7_look := goodIn_r _ [20, 21, 22, 23, 24, 25, 11, 26, 27, 43, 44, 45, 46, 47, 48, 49, 50, 51, 52, 53, 54, 55, 56, 57, 58, 59, 60, 61, 62, 63, 64, 65, 66, 67, 68, 69, 70] (by decide +kernel) (by decide +kernel)
set_option maxRecDepth 20000 in
theorem gX7_way_X7_look : GoodIn wsX7_way (wsV RX7 144 RX7 yX7_look wsX7_look) := goodIn_app (goodIn_of _ (by decide +kernel)) ggX7_way_X7_look
set_option maxRecDepth 20000 in
theorem ggX7_way_X7_findWays : GoodIn wsX7_way wsX7_findWays := goodIn_r _ [31, 2, 32, 8, 33, 5, 6, 7, 34, 35, 36, 11, 37, 22, 38, 43, 44, 45, 46, 47, 48, 49, 50, 51, 52, 53, 54, 55, 56, 57, 58, 59, 60, 61, 62, 63, 64, 65, 66, 67, 68, 69, 70] (by decide +kernel) (by decide +kernel)
set_option maxRecDepth 20000 in
theorem gX7_way_X7_findWays : GoodIn wsX7_way (wsV RX7 155 RX7 yX7_findWays wsX7_findWays) := goodIn_app (goodIn_of _ (by decide +kernel)) ggX7_way_X7_findWays
set_option maxRecDepth 20000 in
theorem ggX7_way_X7_ringOf : GoodIn wsX7_way wsX7_ringOf := goodIn_r _ [42, 5, 7, 43, 44, 45, 46, 47, 48, 49, 50, 51, 52, 53, 54, 55, 56, 57, 58, 59, 60, 61, 62, 63, 64, 65, 66, 67, 68, 69, 70] (by decide +kernel) (by decide +kernel)
set_option maxRecDepth 20000 in
theorem gX7_way_X7_ringOf : GoodIn wsX7_way (wsV RX7 179 RX7 yX7_ringOf wsX7_ringOf) := goodIn_app (goodIn_of _ (by decide +kernel)) ggX7_way_X7_ringOf
set_option maxRecDepth 20000 in
theorem ggX7_times_X7_slopeOf : GoodIn wsX7_times wsX7_slopeOf := goodIn_r _ [8, 9, 10, 2, 11, 12, 13, 14, 15, 16, 17, 18, 19, 20, 21, 22, 23, 24, 25, 26, 27, 28, 29, 30, 31, 32, 33, 34, 35, 36, 37, 38] (by decide +kernel) (by decide +kernel)
set_option maxRecDepth 20000 in
theorem gX7_times_X7_slopeOf : GoodIn wsX7_times (wsV RX7 182 RX7 yX7_slopeOf wsX7_slopeOf) := goodIn_app (goodIn_of _ (by decide +kernel)) ggX7_times_X7_slopeOf
set_option maxRecDepth 20000 in
theorem ggX7_ring_X7_isPlace : GoodIn wsX7_ring wsX7_isPlace := goodIn_r _ [12, 13, 14, 15, 11, 16] (by decide +kernel) (by decide +kernel)
set_option maxRecDepth 20000 in
theorem gX7_ring_X7_isPlace : GoodIn wsX7_ring (va_wsS RX7 120 yX7_isPlace wsX7_isPlace) := goodIn_app (goodIn_of _ (by decide +kernel)) ggX7_ring_X7_isPlace
set_option maxRecDepth 20000 in
theorem ggX7_ring_X7_in : GoodIn wsX7_ring wsX7_in := goodIn_r _ [16] (by decide +kernel) (by decide +kernel)
set_option maxRecDepth 20000 in
theorem gX7_ring_X7_in : GoodIn wsX7_ring (va_wsS RX7 90 yX7_in wsX7_in) := goodIn_app (goodIn_of _ (by decide +kernel)) ggX7_ring_X7_in
set_option maxRecDepth 20000 in
theorem ggX7_ring_X7_look : GoodIn wsX7_ring wsX7_look := goodIn_r _ [20, 21, 22, 23, 24, 25, 11, 26, 27, 48, 49, 50, 51, 52, 53, 54, 55, 56, 57, 58, 59, 60, 61, 62, 63, 64, 65, 66, 67, 68, 69, 70, 71, 72, 73, 74, 75] (by decide +kernel) (by decide +kernel)
set_option maxRecDepth 20000 in
theorem gX7_ring_X7_look : GoodIn wsX7_ring (wsV RX7 144 RX7 yX7_look wsX7_look) := goodIn_app (goodIn_of _ (by decide +kernel)) ggX7_ring_X7_look
set_option maxRecDepth 20000 in
theorem ggX7_ring_X7_findWays : GoodIn wsX7_ring wsX7_findWays := goodIn_r _ [31, 5, 32, 33, 34, 6, 8, 7, 35, 36, 37, 11, 38, 22, 39, 48, 49, 50, 51, 52, 53, 54, 55, 56, 57, 58, 59, 60, 61, 62, 63, 64, 65, 66, 67, 68, 69, 70, 71, 72, 73, 74, 75] (by decide +kernel) (by decide +kernel)
set_option maxRecDepth 20000 in
theorem gX7_ring_X7_findWays : GoodIn wsX7_ring (wsV RX7 155 RX7 yX7_findWays wsX7_findWays) := goodIn_app (goodIn_of _ (by decide +kernel)) ggX7_ring_X7_findWays
set_option maxRecDepth 20000 in
theorem ggX7_ring_X7_times : GoodIn wsX7_ring wsX7_times := goodIn_r _ [43, 8, 5, 32, 44, 45, 46, 11, 47, 22, 39, 48, 49, 50, 51, 52, 53, 54, 55, 56, 57, 58, 59, 60, 61, 62, 63, 64, 65, 66, 67, 68, 69, 70, 71, 72, 73, 74, 75] (by decide +kernel) (by decide +kernel)
set_option maxRecDepth 20000 in
theorem gX7_ring_X7_times : GoodIn wsX7_ring (wsV RX7 185 RX7 yX7_times wsX7_times) := goodIn_app (goodIn_of _ (by decide +kernel)) ggX7_ring_X7_times
set_option maxRecDepth 20000 in
theorem ggX7_all_X7_isPlace : GoodIn wsX7_all wsX7_isPlace := goodIn_r _ [12, 13, 14, 15, 11, 16] (by decide +kernel) (by decide +kernel)
set_option maxRecDepth 20000 in
theorem gX7_all_X7_isPlace : GoodIn wsX7_all (va_wsS RX7 120 yX7_isPlace wsX7_isPlace) := goodIn_app (goodIn_of _ (by decide +kernel)) ggX7_all_X7_isPlace
set_option maxRecDepth 20000 in
theorem ggX7_all_X7_in : GoodIn wsX7_all wsX7_in := goodIn_r _ [16] (by decide +kernel) (by decide +kernel)
set_option maxRecDepth 20000 in
theorem gX7_all_X7_in : GoodIn wsX7_all (va_wsS RX7 90 yX7_in wsX7_in) := goodIn_app (goodIn_of _ (by decide +kernel)) ggX7_all_X7_in
set_option maxRecDepth 20000 in
theorem ggX7_all_X7_look : GoodIn wsX7_all wsX7_look := goodIn_r _ [20, 21, 22, 23, 24, 25, 11, 26, 27, 47, 48, 49, 50, 51, 52, 53, 54, 55, 56, 57, 58, 59, 60, 61, 62, 63, 64, 65, 66, 67, 68, 69, 70, 71, 72, 73, 74] (by decide +kernel) (by decide +kernel)
set_option maxRecDepth 20000 in
theorem gX7_all_X7_look : GoodIn wsX7_all (wsV RX7 144 RX7 yX7_look wsX7_look) := goodIn_app (goodIn_of _ (by decide +kernel)) ggX7_all_X7_look
set_option maxRecDepth 20000 in
theorem ggX7_all_X7_findWays : GoodIn wsX7_all wsX7_findWays := goodIn_r _ [31, 4, 32, 8, 33, 5, 7, 6, 34, 35, 36, 11, 37, 22, 38, 47, 48, 49, 50, 51, 52, 53, 54, 55, 56, 57, 58, 59, 60, 61, 62, 63, 64, 65, 66, 67, 68, 69, 70, 71, 72, 73, 74] (by decide +kernel) (by decide +kernel)
set_option maxRecDepth 20000 in
theorem gX7_all_X7_findWays : GoodIn wsX7_all (wsV RX7 155 RX7 yX7_findWays wsX7_findWays) := goodIn_app (goodIn_of _ (by decide +kernel)) ggX7_all_X7_findWays
set_option maxRecDepth 20000 in
theorem ggX7_all_X7_times : GoodIn wsX7_all wsX7_times := goodIn_r _ [42, 7, 4, 32, 43, 44, 45, 11, 46, 22, 38, 47, 48, 49, 50, 51, 52, 53, 54, 55, 56, 57, 58, 59, 60, 61, 62, 63, 64, 65, 66, 67, 68, 69, 70, 71, 72, 73, 74] (by decide +kernel) (by decide +kernel)
set_option maxRecDepth 20000 in
theorem gX7_all_X7_times : GoodIn wsX7_all (wsV RX7 185 RX7 yX7_times wsX7_times) := goodIn_app (goodIn_of _ (by decide +kernel)) ggX7_all_X7_times
set_option maxRecDepth 20000 in
theorem ggX7_alike_X7_isPlace : GoodIn wsX7_alike wsX7_isPlace := goodIn_r _ [13, 14, 15, 16, 12, 17] (by decide +kernel) (by decide +kernel)
set_option maxRecDepth 20000 in
theorem gX7_alike_X7_isPlace : GoodIn wsX7_alike (va_wsS RX7 120 yX7_isPlace wsX7_isPlace) := goodIn_app (goodIn_of _ (by decide +kernel)) ggX7_alike_X7_isPlace
set_option maxRecDepth 20000 in
theorem ggX7_alike_X7_found : GoodIn wsX7_alike wsX7_found := goodIn_r _ [21, 3, 22, 36, 37, 38, 39, 40, 41, 42, 43, 44, 45, 46, 47, 48, 49, 50, 51, 52, 53, 54, 55, 56, 57, 58, 59, 60, 61, 62, 63] (by decide +kernel) (by decide +kernel)
set_option maxRecDepth 20000 in
theorem gX7_alike_X7_found : GoodIn wsX7_alike (wsV RX7 109 RX7 yX7_found wsX7_found) := goodIn_app (goodIn_of _ (by decide +kernel)) ggX7_alike_X7_found
set_option maxRecDepth 20000 in
theorem ggX7_alike_X7_findWays : GoodIn wsX7_alike wsX7_findWays := goodIn_r _ [26, 7, 27, 28, 29, 8, 9, 30, 31, 32, 33, 12, 34, 4, 35, 36, 37, 38, 39, 40, 41, 42, 43, 44, 45, 46, 47, 48, 49, 50, 51, 52, 53, 54, 55, 56, 57, 58, 59, 60, 61, 62, 63] (by decide +kernel) (by decide +kernel)
set_option maxRecDepth 20000 in
theorem gX7_alike_X7_findWays : GoodIn wsX7_alike (wsV RX7 155 RX7 yX7_findWays wsX7_findWays) := goodIn_app (goodIn_of _ (by decide +kernel)) ggX7_alike_X7_findWays
set_option maxRecDepth 20000 in
theorem ggX7_divide_X7_degreeOf : GoodIn wsX7_divide wsX7_degreeOf := goodIn_r _ [9, 1, 14, 15, 16, 17, 18, 19, 20, 21, 22, 23, 24, 25, 26, 27, 28, 29, 30, 31, 32, 33, 34, 35, 36, 37, 38, 39, 40, 41] (by decide +kernel) (by decide +kernel)
set_option maxRecDepth 20000 in
theorem gX7_divide_X7_degreeOf : GoodIn wsX7_divide (wsV RX7 188 RX7 yX7_degreeOf wsX7_degreeOf) := goodIn_app (goodIn_of _ (by decide +kernel)) ggX7_divide_X7_degreeOf
set_option maxRecDepth 20000 in
theorem ggX7_divide_X7_inverse : GoodIn wsX7_divide wsX7_inverse := goodIn_r _ [13, 4, 14, 15, 16, 17, 18, 19, 20, 21, 22, 23, 24, 25, 26, 27, 28, 29, 30, 31, 32, 33, 34, 35, 36, 37, 38, 39, 40, 41] (by decide +kernel) (by decide +kernel)
set_option maxRecDepth 20000 in
theorem gX7_divide_X7_inverse : GoodIn wsX7_divide (wsV RX7 136 RX7 yX7_inverse wsX7_inverse) := goodIn_app (goodIn_of _ (by decide +kernel)) ggX7_divide_X7_inverse
set_option maxRecDepth 20000 in
theorem ggX7_findRounds_X7_goOn : GoodIn wsX7_findRounds wsX7_goOn := goodIn_r _ [9, 10, 11, 2, 1, 3, 12, 26, 27, 28, 29, 30, 31, 32, 33, 34, 35, 36, 37, 38, 39, 40, 41, 42, 43, 44, 45, 46, 47, 48, 49, 50, 51, 52, 53] (by decide +kernel) (by decide +kernel)
set_option maxRecDepth 20000 in
theorem gX7_findRounds_X7_goOn : GoodIn wsX7_findRounds (wsV RX7 191 RX7 yX7_goOn wsX7_goOn) := goodIn_app (goodIn_of _ (by decide +kernel)) ggX7_findRounds_X7_goOn
set_option maxRecDepth 20000 in
theorem ggX7_findRounds_X7_divide : GoodIn wsX7_findRounds wsX7_divide := goodIn_r _ [16, 4, 17, 2, 3, 18, 19, 20, 8, 21, 22, 23, 24, 25, 26, 27, 28, 29, 30, 31, 32, 33, 34, 35, 36, 37, 38, 39, 40, 41, 42, 43, 44, 45, 46, 47, 48, 49, 50, 51, 52, 53] (by decide +kernel) (by decide +kernel)
set_option maxRecDepth 20000 in
theorem gX7_findRounds_X7_divide : GoodIn wsX7_findRounds (wsV RX7 194 RX7 yX7_divide wsX7_divide) := goodIn_app (goodIn_of _ (by decide +kernel)) ggX7_findRounds_X7_divide
set_option maxRecDepth 20000 in
theorem ggX7_round_X7_isPlace : GoodIn wsX7_round wsX7_isPlace := goodIn_r _ [11, 12, 13, 14, 10, 15] (by decide +kernel) (by decide +kernel)
set_option maxRecDepth 20000 in
theorem gX7_round_X7_isPlace : GoodIn wsX7_round (va_wsS RX7 120 yX7_isPlace wsX7_isPlace) := goodIn_app (goodIn_of _ (by decide +kernel)) ggX7_round_X7_isPlace
set_option maxRecDepth 20000 in
theorem ggX7_round_X7_in : GoodIn wsX7_round wsX7_in := goodIn_r _ [15] (by decide +kernel) (by decide +kernel)
set_option maxRecDepth 20000 in
theorem gX7_round_X7_in : GoodIn wsX7_round (va_wsS RX7 90 yX7_in wsX7_in) := goodIn_app (goodIn_of _ (by decide +kernel)) ggX7_round_X7_in
set_option maxRecDepth 20000 in
theorem ggX7_round_X7_look : GoodIn wsX7_round wsX7_look := goodIn_r _ [19, 4, 5, 20, 21, 22, 10, 23, 24, 51, 52, 53, 54, 55, 56, 57, 58, 59, 60, 61, 62, 63, 64, 65, 66, 67, 68, 69, 70, 71, 72, 73, 74, 75, 76, 77, 78] (by decide +kernel) (by decide +kernel)
set_option maxRecDepth 20000 in
theorem gX7_round_X7_look : GoodIn wsX7_round (wsV RX7 144 RX7 yX7_look wsX7_look) := goodIn_app (goodIn_of _ (by decide +kernel)) ggX7_round_X7_look
set_option maxRecDepth 20000 in
theorem ggX7_round_X7_found : GoodIn wsX7_round wsX7_found := goodIn_r _ [23, 4, 24, 51, 52, 53, 54, 55, 56, 57, 58, 59, 60, 61, 62, 63, 64, 65, 66, 67, 68, 69, 70, 71, 72, 73, 74, 75, 76, 77, 78] (by decide +kernel) (by decide +kernel)
set_option maxRecDepth 20000 in
theorem gX7_round_X7_found : GoodIn wsX7_round (wsV RX7 109 RX7 yX7_found wsX7_found) := goodIn_app (goodIn_of _ (by decide +kernel)) ggX7_round_X7_found
set_option maxRecDepth 20000 in
theorem ggX7_round_X7_findRounds : GoodIn wsX7_round wsX7_findRounds := goodIn_r _ [28, 29, 30, 31, 7, 32, 33, 34, 10, 35, 36, 5, 37, 38, 39, 40, 41, 42, 43, 44, 45, 46, 47, 48, 49, 50, 51, 52, 53, 54, 55, 56, 57, 58, 59, 60, 61, 62, 63, 64, 65, 66, 67, 68, 69, 70, 71, 72, 73, 74, 75, 76, 77, 78] (by decide +kernel) (by decide +kernel)
set_option maxRecDepth 20000 in
theorem gX7_round_X7_findRounds : GoodIn wsX7_round (wsV RX7 199 RX7 yX7_findRounds wsX7_findRounds) := goodIn_app (goodIn_of _ (by decide +kernel)) ggX7_round_X7_findRounds
set_option maxRecDepth 20000 in
theorem ggX7_round_X7_degreeOf : GoodIn wsX7_round wsX7_degreeOf := goodIn_r _ [46, 7, 51, 52, 53, 54, 55, 56, 57, 58, 59, 60, 61, 62, 63, 64, 65, 66, 67, 68, 69, 70, 71, 72, 73, 74, 75, 76, 77, 78] (by decide +kernel) (by decide +kernel)
set_option maxRecDepth 20000 in
theorem gX7_round_X7_degreeOf : GoodIn wsX7_round (wsV RX7 188 RX7 yX7_degreeOf wsX7_degreeOf) := goodIn_app (goodIn_of _ (by decide +kernel)) ggX7_round_X7_degreeOf
set_option maxRecDepth 20000 in
theorem ggX7_isFraction_X7_in : GoodIn wsX7_isFraction wsX7_in := goodIn_r _ [7] (by decide +kernel) (by decide +kernel)
set_option maxRecDepth 20000 in
theorem gX7_isFraction_X7_in : GoodIn wsX7_isFraction (va_wsS RX7 90 yX7_in wsX7_in) := goodIn_app (goodIn_of _ (by decide +kernel)) ggX7_isFraction_X7_in
set_option maxRecDepth 20000 in
theorem ggX7_isFraction_X7_divisor : GoodIn wsX7_isFraction wsX7_divisor := goodIn_r _ [10] (by decide +kernel) (by decide +kernel)
set_option maxRecDepth 20000 in
theorem gX7_isFraction_X7_divisor : GoodIn wsX7_isFraction (va_wsS RX7 209 yX7_divisor wsX7_divisor) := goodIn_app (goodIn_of _ (by decide +kernel)) ggX7_isFraction_X7_divisor
set_option maxRecDepth 20000 in
theorem ggX7_nextOf_X7_divisor : GoodIn wsX7_nextOf wsX7_divisor := goodIn_r _ [5] (by decide +kernel) (by decide +kernel)
set_option maxRecDepth 20000 in
theorem gX7_nextOf_X7_divisor : GoodIn wsX7_nextOf (va_wsS RX7 209 yX7_divisor wsX7_divisor) := goodIn_app (goodIn_of _ (by decide +kernel)) ggX7_nextOf_X7_divisor
set_option maxRecDepth 20000 in
theorem ggX7_returns_X7_divisor : GoodIn wsX7_returns wsX7_divisor := goodIn_r _ [9] (by decide +kernel) (by decide +kernel)
set_option maxRecDepth 20000 in
theorem gX7_returns_X7_divisor : GoodIn wsX7_returns (va_wsS RX7 209 yX7_divisor wsX7_divisor) := goodIn_app (goodIn_of _ (by decide +kernel)) ggX7_returns_X7_divisor
set_option maxRecDepth 20000 in
theorem ggX7_returns_X7_in : GoodIn wsX7_returns wsX7_in := goodIn_r _ [12] (by decide +kernel) (by decide +kernel)
set_option maxRecDepth 20000 in
theorem gX7_returns_X7_in : GoodIn wsX7_returns (va_wsS RX7 90 yX7_in wsX7_in) := goodIn_app (goodIn_of _ (by decide +kernel)) ggX7_returns_X7_in
set_option maxRecDepth 20000 in
theorem ggX7_returns_X7_nextOf : GoodIn wsX7_returns wsX7_nextOf := goodIn_r _ [15, 16, 6, 7, 8, 9] (by decide +kernel) (by decide +kernel)
set_option maxRecDepth 20000 in
theorem gX7_returns_X7_nextOf : GoodIn wsX7_returns (va_wsS RX7 216 yX7_nextOf wsX7_nextOf) := goodIn_app (goodIn_of _ (by decide +kernel)) ggX7_returns_X7_nextOf
set_option maxRecDepth 20000 in
theorem ggX7_fraction_X7_isFraction : GoodIn wsX7_fraction wsX7_isFraction := goodIn_r _ [10, 11, 12, 13, 14, 15, 9, 16, 17, 18, 19] (by decide +kernel) (by decide +kernel)
set_option maxRecDepth 20000 in
theorem gX7_fraction_X7_isFraction : GoodIn wsX7_fraction (va_wsS RX7 226 yX7_isFraction wsX7_isFraction) := goodIn_app (goodIn_of _ (by decide +kernel)) ggX7_fraction_X7_isFraction
set_option maxRecDepth 20000 in
theorem ggX7_fraction_X7_in : GoodIn wsX7_fraction wsX7_in := goodIn_r _ [16] (by decide +kernel) (by decide +kernel)
set_option maxRecDepth 20000 in
theorem gX7_fraction_X7_in : GoodIn wsX7_fraction (va_wsS RX7 90 yX7_in wsX7_in) := goodIn_app (goodIn_of _ (by decide +kernel)) ggX7_fraction_X7_in
set_option maxRecDepth 20000 in
theorem ggX7_fraction_X7_returns : GoodIn wsX7_fraction wsX7_returns := goodIn_r _ [23, 24, 25, 26, 4, 5, 17, 18, 9, 19, 14, 15, 16, 27, 28, 29, 6, 30, 31, 32, 33, 34, 35, 36, 37, 38, 39, 40, 41, 42, 43, 44, 45, 46, 47, 48, 49, 50, 51, 52, 53, 54, 55, 56, 57] (by decide +kernel) (by decide +kernel)
set_option maxRecDepth 20000 in
theorem gX7_fraction_X7_returns : GoodIn wsX7_fraction (wsV RX7 229 RX7 yX7_returns wsX7_returns) := goodIn_app (goodIn_of _ (by decide +kernel)) ggX7_fraction_X7_returns
set_option maxRecDepth 20000 in
theorem ggX7_next_X7_isFraction : GoodIn wsX7_next wsX7_isFraction := goodIn_r _ [8, 9, 10, 11, 12, 13, 7, 14, 15, 16, 17] (by decide +kernel) (by decide +kernel)
set_option maxRecDepth 20000 in
theorem gX7_next_X7_isFraction : GoodIn wsX7_next (va_wsS RX7 226 yX7_isFraction wsX7_isFraction) := goodIn_app (goodIn_of _ (by decide +kernel)) ggX7_next_X7_isFraction
set_option maxRecDepth 20000 in
theorem ggX7_next_X7_in : GoodIn wsX7_next wsX7_in := goodIn_r _ [14] (by decide +kernel) (by decide +kernel)
set_option maxRecDepth 20000 in
theorem gX7_next_X7_in : GoodIn wsX7_next (va_wsS RX7 90 yX7_in wsX7_in) := goodIn_app (goodIn_of _ (by decide +kernel)) ggX7_next_X7_in
set_option maxRecDepth 20000 in
theorem ggX7_next_X7_divisor : GoodIn wsX7_next wsX7_divisor := goodIn_r _ [17] (by decide +kernel) (by decide +kernel)
set_option maxRecDepth 20000 in
theorem gX7_next_X7_divisor : GoodIn wsX7_next (va_wsS RX7 209 yX7_divisor wsX7_divisor) := goodIn_app (goodIn_of _ (by decide +kernel)) ggX7_next_X7_divisor
set_option maxRecDepth 20000 in
theorem ggX7_next_X7_nextOf : GoodIn wsX7_next wsX7_nextOf := goodIn_r _ [20, 21, 15, 16, 7, 17] (by decide +kernel) (by decide +kernel)
set_option maxRecDepth 20000 in
theorem gX7_next_X7_nextOf : GoodIn wsX7_next (va_wsS RX7 216 yX7_nextOf wsX7_nextOf) := goodIn_app (goodIn_of _ (by decide +kernel)) ggX7_next_X7_nextOf
set_option maxRecDepth 20000 in
theorem ggX7_count_X7_kindOf : GoodIn wsX7_count wsX7_kindOf := goodIn_r _ [10, 3, 11, 15, 16, 17, 18, 19, 20, 21, 22, 23, 24, 25, 26, 27, 28, 29, 30, 31, 32, 33, 34, 35, 36, 37, 38, 39, 40, 41, 42] (by decide +kernel) (by decide +kernel)
set_option maxRecDepth 20000 in
theorem gX7_count_X7_kindOf : GoodIn wsX7_count (wsV RX7 117 RX7 yX7_kindOf wsX7_kindOf) := goodIn_app (goodIn_of _ (by decide +kernel)) ggX7_count_X7_kindOf
set_option maxRecDepth 20000 in
theorem ggX7_count_X7_isOf : GoodIn wsX7_count wsX7_isOf := goodIn_r _ [14] (by decide +kernel) (by decide +kernel)
set_option maxRecDepth 20000 in
theorem gX7_count_X7_isOf : GoodIn wsX7_count (va_wsS RX7 147 yX7_isOf wsX7_isOf) := goodIn_app (goodIn_of _ (by decide +kernel)) ggX7_count_X7_isOf
abbrev vwCl : List vw_C := [(RX0, TX0, 5), (RX1, TX1, 6), (RX2, TX2, 4), (RX3, TX3, 12), (RX4, TX4, 7), (RX5, TX5, 2), (RX6, TX6, 10), (RX7, TX7, 28)]
