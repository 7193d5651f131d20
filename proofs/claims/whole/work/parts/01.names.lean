-- ===== PART A: goes FIRST, ahead of the names: the tables' words, and 'selects' of the private methods out of them =====
/-- a private method of a class that the tables say can be made, by its rows of tables_1 -/
def lw_okq (q : MethodName × Nat) : Prop := (q.1.cls ≠ "java/lang/invoke/MethodHandle" ∧ q.1.cls ≠ "java/lang/invoke/VarHandle") ∧ Cond.instantiable q.1.cls q.2 ∈ tables_1 ∧ Cond.privateMethod q.1 ∈ tables_1 ∧ Cond.instanceMethod q.1 ∈ tables_1
theorem lw_p0 : lw_okq (⟨"KeptSummaries", "comes", "(II)Z"⟩, 18) := ⟨⟨by decide +kernel, by decide +kernel⟩, List.mem_of_getElem? (i := 19) (by decide +kernel), List.mem_of_getElem? (i := 368) (by decide +kernel), List.mem_of_getElem? (i := 369) (by decide +kernel)⟩
theorem lw_p1 : lw_okq (⟨"KeptSummaries", "nextX", "()I"⟩, 18) := ⟨⟨by decide +kernel, by decide +kernel⟩, List.mem_of_getElem? (i := 19) (by decide +kernel), List.mem_of_getElem? (i := 372) (by decide +kernel), List.mem_of_getElem? (i := 373) (by decide +kernel)⟩
theorem lw_p2 : lw_okq (⟨"KeptSummaries$Law", "firstHolding", "(I)I"⟩, 12) := ⟨⟨by decide +kernel, by decide +kernel⟩, List.mem_of_getElem? (i := 62) (by decide +kernel), List.mem_of_getElem? (i := 388) (by decide +kernel), List.mem_of_getElem? (i := 389) (by decide +kernel)⟩
theorem lw_p3 : lw_okq (⟨"KeptSummaries$Law", "run", "(II)I"⟩, 12) := ⟨⟨by decide +kernel, by decide +kernel⟩, List.mem_of_getElem? (i := 62) (by decide +kernel), List.mem_of_getElem? (i := 392) (by decide +kernel), List.mem_of_getElem? (i := 393) (by decide +kernel)⟩
theorem lw_p4 : lw_okq (⟨"KeptSummaries$Law", "push", "(I)V"⟩, 12) := ⟨⟨by decide +kernel, by decide +kernel⟩, List.mem_of_getElem? (i := 62) (by decide +kernel), List.mem_of_getElem? (i := 399) (by decide +kernel), List.mem_of_getElem? (i := 400) (by decide +kernel)⟩
theorem lw_p5 : lw_okq (⟨"KeptSummaries$Law", "letterAt", "(I)I"⟩, 12) := ⟨⟨by decide +kernel, by decide +kernel⟩, List.mem_of_getElem? (i := 62) (by decide +kernel), List.mem_of_getElem? (i := 403) (by decide +kernel), List.mem_of_getElem? (i := 404) (by decide +kernel)⟩
theorem lw_p6 : lw_okq (⟨"KeptSummaries$Law", "pop", "()I"⟩, 12) := ⟨⟨by decide +kernel, by decide +kernel⟩, List.mem_of_getElem? (i := 62) (by decide +kernel), List.mem_of_getElem? (i := 407) (by decide +kernel), List.mem_of_getElem? (i := 408) (by decide +kernel)⟩
theorem lw_p7 : lw_okq (⟨"KeptSummaries$Law", "afterTest", "(II)I"⟩, 12) := ⟨⟨by decide +kernel, by decide +kernel⟩, List.mem_of_getElem? (i := 62) (by decide +kernel), List.mem_of_getElem? (i := 411) (by decide +kernel), List.mem_of_getElem? (i := 412) (by decide +kernel)⟩
theorem lw_p8 : lw_okq (⟨"KeptSummaries$Law", "reckon", "(III)I"⟩, 12) := ⟨⟨by decide +kernel, by decide +kernel⟩, List.mem_of_getElem? (i := 62) (by decide +kernel), List.mem_of_getElem? (i := 415) (by decide +kernel), List.mem_of_getElem? (i := 416) (by decide +kernel)⟩
theorem lw_p9 : lw_okq (⟨"KeptSummaries$Law", "result", "(I)I"⟩, 12) := ⟨⟨by decide +kernel, by decide +kernel⟩, List.mem_of_getElem? (i := 62) (by decide +kernel), List.mem_of_getElem? (i := 423) (by decide +kernel), List.mem_of_getElem? (i := 424) (by decide +kernel)⟩
theorem lw_p10 : lw_okq (⟨"KeptSummaries", "makeAnew", "(LKeptSummaries$Summary;)V"⟩, 18) := ⟨⟨by decide +kernel, by decide +kernel⟩, List.mem_of_getElem? (i := 19) (by decide +kernel), List.mem_of_getElem? (i := 442) (by decide +kernel), List.mem_of_getElem? (i := 443) (by decide +kernel)⟩
theorem lw_p11 : lw_okq (⟨"KeptSummaries$Table", "addParts", "(IIIII)V"⟩, 6) := ⟨⟨by decide +kernel, by decide +kernel⟩, List.mem_of_getElem? (i := 236) (by decide +kernel), List.mem_of_getElem? (i := 493) (by decide +kernel), List.mem_of_getElem? (i := 494) (by decide +kernel)⟩
theorem lw_p12 : lw_okq (⟨"KeptSummaries$LawReader", "readHead", "()I"⟩, 2) := ⟨⟨by decide +kernel, by decide +kernel⟩, List.mem_of_getElem? (i := 56) (by decide +kernel), List.mem_of_getElem? (i := 543) (by decide +kernel), List.mem_of_getElem? (i := 544) (by decide +kernel)⟩
theorem lw_p13 : lw_okq (⟨"KeptSummaries$LawReader", "readSum", "(I)V"⟩, 2) := ⟨⟨by decide +kernel, by decide +kernel⟩, List.mem_of_getElem? (i := 56) (by decide +kernel), List.mem_of_getElem? (i := 559) (by decide +kernel), List.mem_of_getElem? (i := 560) (by decide +kernel)⟩
theorem lw_p14 : lw_okq (⟨"KeptSummaries$LawReader", "readFactor", "(I)V"⟩, 2) := ⟨⟨by decide +kernel, by decide +kernel⟩, List.mem_of_getElem? (i := 56) (by decide +kernel), List.mem_of_getElem? (i := 563) (by decide +kernel), List.mem_of_getElem? (i := 564) (by decide +kernel)⟩
theorem lw_p15 : lw_okq (⟨"KeptSummaries$LawReader", "readNumber", "()I"⟩, 2) := ⟨⟨by decide +kernel, by decide +kernel⟩, List.mem_of_getElem? (i := 56) (by decide +kernel), List.mem_of_getElem? (i := 583) (by decide +kernel), List.mem_of_getElem? (i := 584) (by decide +kernel)⟩
def lw_privs_1 : List (MethodName × Nat) := [(⟨"KeptSummaries", "comes", "(II)Z"⟩, 18), (⟨"KeptSummaries", "nextX", "()I"⟩, 18), (⟨"KeptSummaries$Law", "firstHolding", "(I)I"⟩, 12), (⟨"KeptSummaries$Law", "run", "(II)I"⟩, 12), (⟨"KeptSummaries$Law", "push", "(I)V"⟩, 12), (⟨"KeptSummaries$Law", "letterAt", "(I)I"⟩, 12), (⟨"KeptSummaries$Law", "pop", "()I"⟩, 12), (⟨"KeptSummaries$Law", "afterTest", "(II)I"⟩, 12), (⟨"KeptSummaries$Law", "reckon", "(III)I"⟩, 12), (⟨"KeptSummaries$Law", "result", "(I)I"⟩, 12), (⟨"KeptSummaries", "makeAnew", "(LKeptSummaries$Summary;)V"⟩, 18), (⟨"KeptSummaries$Table", "addParts", "(IIIII)V"⟩, 6), (⟨"KeptSummaries$LawReader", "readHead", "()I"⟩, 2), (⟨"KeptSummaries$LawReader", "readSum", "(I)V"⟩, 2), (⟨"KeptSummaries$LawReader", "readFactor", "(I)V"⟩, 2), (⟨"KeptSummaries$LawReader", "readNumber", "()I"⟩, 2)]
theorem lw_r1 : ∀ q ∈ lw_privs_1, lw_okq q := List.forall_mem_cons.mpr ⟨lw_p0, List.forall_mem_cons.mpr ⟨lw_p1, List.forall_mem_cons.mpr ⟨lw_p2, List.forall_mem_cons.mpr ⟨lw_p3, List.forall_mem_cons.mpr ⟨lw_p4, List.forall_mem_cons.mpr ⟨lw_p5, List.forall_mem_cons.mpr ⟨lw_p6, List.forall_mem_cons.mpr ⟨lw_p7, List.forall_mem_cons.mpr ⟨lw_p8, List.forall_mem_cons.mpr ⟨lw_p9, List.forall_mem_cons.mpr ⟨lw_p10, List.forall_mem_cons.mpr ⟨lw_p11, List.forall_mem_cons.mpr ⟨lw_p12, List.forall_mem_cons.mpr ⟨lw_p13, List.forall_mem_cons.mpr ⟨lw_p14, List.forall_mem_cons.mpr ⟨lw_p15, fun _ h => absurd h List.not_mem_nil⟩⟩⟩⟩⟩⟩⟩⟩⟩⟩⟩⟩⟩⟩⟩⟩
theorem lw_p16 : lw_okq (⟨"KeptSummaries$LawReader", "addWaiting", "(I)V"⟩, 2) := ⟨⟨by decide +kernel, by decide +kernel⟩, List.mem_of_getElem? (i := 56) (by decide +kernel), List.mem_of_getElem? (i := 587) (by decide +kernel), List.mem_of_getElem? (i := 588) (by decide +kernel)⟩
theorem lw_p17 : lw_okq (⟨"KeptSummaries$LawReader", "readCondition", "(I)V"⟩, 2) := ⟨⟨by decide +kernel, by decide +kernel⟩, List.mem_of_getElem? (i := 56) (by decide +kernel), List.mem_of_getElem? (i := 591) (by decide +kernel), List.mem_of_getElem? (i := 592) (by decide +kernel)⟩
theorem lw_p18 : lw_okq (⟨"KeptSummaries$LawReader", "readTest", "(I)V"⟩, 2) := ⟨⟨by decide +kernel, by decide +kernel⟩, List.mem_of_getElem? (i := 56) (by decide +kernel), List.mem_of_getElem? (i := 595) (by decide +kernel), List.mem_of_getElem? (i := 596) (by decide +kernel)⟩
theorem lw_p19 : lw_okq (⟨"KeptSummaries$FormReader", "readLine", "(I)I"⟩, 3) := ⟨⟨by decide +kernel, by decide +kernel⟩, List.mem_of_getElem? (i := 115) (by decide +kernel), List.mem_of_getElem? (i := 638) (by decide +kernel), List.mem_of_getElem? (i := 639) (by decide +kernel)⟩
theorem lw_p20 : lw_okq (⟨"KeptSummaries$FormReader", "readSide", "()I"⟩, 3) := ⟨⟨by decide +kernel, by decide +kernel⟩, List.mem_of_getElem? (i := 115) (by decide +kernel), List.mem_of_getElem? (i := 642) (by decide +kernel), List.mem_of_getElem? (i := 643) (by decide +kernel)⟩
theorem lw_p21 : lw_okq (⟨"KeptSummaries$FormReader", "readDigit", "(I)I"⟩, 3) := ⟨⟨by decide +kernel, by decide +kernel⟩, List.mem_of_getElem? (i := 115) (by decide +kernel), List.mem_of_getElem? (i := 650) (by decide +kernel), List.mem_of_getElem? (i := 651) (by decide +kernel)⟩
theorem lw_p22 : lw_okq (⟨"KeptSummaries$FormReader", "readLevels", "()V"⟩, 3) := ⟨⟨by decide +kernel, by decide +kernel⟩, List.mem_of_getElem? (i := 115) (by decide +kernel), List.mem_of_getElem? (i := 678) (by decide +kernel), List.mem_of_getElem? (i := 679) (by decide +kernel)⟩
theorem lw_p23 : lw_okq (⟨"KeptSummaries$FormReader", "readLevel", "(I)I"⟩, 3) := ⟨⟨by decide +kernel, by decide +kernel⟩, List.mem_of_getElem? (i := 115) (by decide +kernel), List.mem_of_getElem? (i := 682) (by decide +kernel), List.mem_of_getElem? (i := 683) (by decide +kernel)⟩
theorem lw_p24 : lw_okq (⟨"KeptSummaries$FormReader", "readParts", "()V"⟩, 3) := ⟨⟨by decide +kernel, by decide +kernel⟩, List.mem_of_getElem? (i := 115) (by decide +kernel), List.mem_of_getElem? (i := 691) (by decide +kernel), List.mem_of_getElem? (i := 692) (by decide +kernel)⟩
theorem lw_p25 : lw_okq (⟨"KeptSummaries$FormReader", "readSpans", "(LKeptSummaries$Shape;)V"⟩, 3) := ⟨⟨by decide +kernel, by decide +kernel⟩, List.mem_of_getElem? (i := 115) (by decide +kernel), List.mem_of_getElem? (i := 702) (by decide +kernel), List.mem_of_getElem? (i := 703) (by decide +kernel)⟩
theorem lw_p26 : lw_okq (⟨"KeptSummaries$FormReader", "readSpan", "(ILKeptSummaries$Shape;)I"⟩, 3) := ⟨⟨by decide +kernel, by decide +kernel⟩, List.mem_of_getElem? (i := 115) (by decide +kernel), List.mem_of_getElem? (i := 706) (by decide +kernel), List.mem_of_getElem? (i := 707) (by decide +kernel)⟩
theorem lw_p27 : lw_okq (⟨"KeptSummaries", "tallyAnswer", "(LKeptSummaries$Summary;)LKeptSummaries$Table;"⟩, 18) := ⟨⟨by decide +kernel, by decide +kernel⟩, List.mem_of_getElem? (i := 19) (by decide +kernel), List.mem_of_getElem? (i := 736) (by decide +kernel), List.mem_of_getElem? (i := 737) (by decide +kernel)⟩
theorem lw_p28 : lw_okq (⟨"KeptSummaries$Facts", "sortByMeasure", "()V"⟩, 6) := ⟨⟨by decide +kernel, by decide +kernel⟩, List.mem_of_getElem? (i := 171) (by decide +kernel), List.mem_of_getElem? (i := 744) (by decide +kernel), List.mem_of_getElem? (i := 745) (by decide +kernel)⟩
theorem lw_p29 : lw_okq (⟨"KeptSummaries$Facts", "countMeasure", "(I)V"⟩, 6) := ⟨⟨by decide +kernel, by decide +kernel⟩, List.mem_of_getElem? (i := 171) (by decide +kernel), List.mem_of_getElem? (i := 749) (by decide +kernel), List.mem_of_getElem? (i := 750) (by decide +kernel)⟩
theorem lw_p30 : lw_okq (⟨"KeptSummaries$Facts", "nextRank", "(I)I"⟩, 6) := ⟨⟨by decide +kernel, by decide +kernel⟩, List.mem_of_getElem? (i := 171) (by decide +kernel), List.mem_of_getElem? (i := 753) (by decide +kernel), List.mem_of_getElem? (i := 754) (by decide +kernel)⟩
theorem lw_p31 : lw_okq (⟨"KeptSummaries$Facts", "meetUnlike", "(LKeptSummaries$Table;II)V"⟩, 6) := ⟨⟨by decide +kernel, by decide +kernel⟩, List.mem_of_getElem? (i := 171) (by decide +kernel), List.mem_of_getElem? (i := 757) (by decide +kernel), List.mem_of_getElem? (i := 758) (by decide +kernel)⟩
def lw_privs_2 : List (MethodName × Nat) := [(⟨"KeptSummaries$LawReader", "addWaiting", "(I)V"⟩, 2), (⟨"KeptSummaries$LawReader", "readCondition", "(I)V"⟩, 2), (⟨"KeptSummaries$LawReader", "readTest", "(I)V"⟩, 2), (⟨"KeptSummaries$FormReader", "readLine", "(I)I"⟩, 3), (⟨"KeptSummaries$FormReader", "readSide", "()I"⟩, 3), (⟨"KeptSummaries$FormReader", "readDigit", "(I)I"⟩, 3), (⟨"KeptSummaries$FormReader", "readLevels", "()V"⟩, 3), (⟨"KeptSummaries$FormReader", "readLevel", "(I)I"⟩, 3), (⟨"KeptSummaries$FormReader", "readParts", "()V"⟩, 3), (⟨"KeptSummaries$FormReader", "readSpans", "(LKeptSummaries$Shape;)V"⟩, 3), (⟨"KeptSummaries$FormReader", "readSpan", "(ILKeptSummaries$Shape;)I"⟩, 3), (⟨"KeptSummaries", "tallyAnswer", "(LKeptSummaries$Summary;)LKeptSummaries$Table;"⟩, 18), (⟨"KeptSummaries$Facts", "sortByMeasure", "()V"⟩, 6), (⟨"KeptSummaries$Facts", "countMeasure", "(I)V"⟩, 6), (⟨"KeptSummaries$Facts", "nextRank", "(I)I"⟩, 6), (⟨"KeptSummaries$Facts", "meetUnlike", "(LKeptSummaries$Table;II)V"⟩, 6)]
theorem lw_r2 : ∀ q ∈ lw_privs_2, lw_okq q := List.forall_mem_cons.mpr ⟨lw_p16, List.forall_mem_cons.mpr ⟨lw_p17, List.forall_mem_cons.mpr ⟨lw_p18, List.forall_mem_cons.mpr ⟨lw_p19, List.forall_mem_cons.mpr ⟨lw_p20, List.forall_mem_cons.mpr ⟨lw_p21, List.forall_mem_cons.mpr ⟨lw_p22, List.forall_mem_cons.mpr ⟨lw_p23, List.forall_mem_cons.mpr ⟨lw_p24, List.forall_mem_cons.mpr ⟨lw_p25, List.forall_mem_cons.mpr ⟨lw_p26, List.forall_mem_cons.mpr ⟨lw_p27, List.forall_mem_cons.mpr ⟨lw_p28, List.forall_mem_cons.mpr ⟨lw_p29, List.forall_mem_cons.mpr ⟨lw_p30, List.forall_mem_cons.mpr ⟨lw_p31, fun _ h => absurd h List.not_mem_nil⟩⟩⟩⟩⟩⟩⟩⟩⟩⟩⟩⟩⟩⟩⟩⟩
theorem lw_p32 : lw_okq (⟨"KeptSummaries$Facts", "meetMiddle", "(LKeptSummaries$Table;II)V"⟩, 6) := ⟨⟨by decide +kernel, by decide +kernel⟩, List.mem_of_getElem? (i := 171) (by decide +kernel), List.mem_of_getElem? (i := 769) (by decide +kernel), List.mem_of_getElem? (i := 770) (by decide +kernel)⟩
theorem lw_p33 : lw_okq (⟨"KeptSummaries", "tallyGroups", "(LKeptSummaries$Summary;)V"⟩, 18) := ⟨⟨by decide +kernel, by decide +kernel⟩, List.mem_of_getElem? (i := 19) (by decide +kernel), List.mem_of_getElem? (i := 777) (by decide +kernel), List.mem_of_getElem? (i := 778) (by decide +kernel)⟩
theorem lw_p34 : lw_okq (⟨"KeptSummaries$Cut", "rolledNumber", "(IILKeptSummaries$Cut;LKeptSummaries$Shape;)I"⟩, 4) := ⟨⟨by decide +kernel, by decide +kernel⟩, List.mem_of_getElem? (i := 131) (by decide +kernel), List.mem_of_getElem? (i := 799) (by decide +kernel), List.mem_of_getElem? (i := 800) (by decide +kernel)⟩
theorem lw_p35 : lw_okq (⟨"KeptSummaries", "costOf", "(LKeptSummaries$Summary;)I"⟩, 18) := ⟨⟨by decide +kernel, by decide +kernel⟩, List.mem_of_getElem? (i := 19) (by decide +kernel), List.mem_of_getElem? (i := 840) (by decide +kernel), List.mem_of_getElem? (i := 841) (by decide +kernel)⟩
theorem lw_p36 : lw_okq (⟨"KeptSummaries$Cut", "coversSide", "(ILKeptSummaries$Cut;LKeptSummaries$Shape;)Z"⟩, 4) := ⟨⟨by decide +kernel, by decide +kernel⟩, List.mem_of_getElem? (i := 131) (by decide +kernel), List.mem_of_getElem? (i := 869) (by decide +kernel), List.mem_of_getElem? (i := 870) (by decide +kernel)⟩
theorem lw_p37 : lw_okq (⟨"KeptSummaries", "isCovering", "(LKeptSummaries$Summary;)Z"⟩, 18) := ⟨⟨by decide +kernel, by decide +kernel⟩, List.mem_of_getElem? (i := 19) (by decide +kernel), List.mem_of_getElem? (i := 884) (by decide +kernel), List.mem_of_getElem? (i := 885) (by decide +kernel)⟩
theorem lw_p38 : lw_okq (⟨"KeptSummaries", "groupsInside", "(LKeptSummaries$Cut;)I"⟩, 18) := ⟨⟨by decide +kernel, by decide +kernel⟩, List.mem_of_getElem? (i := 19) (by decide +kernel), List.mem_of_getElem? (i := 908) (by decide +kernel), List.mem_of_getElem? (i := 909) (by decide +kernel)⟩
theorem lw_p39 : lw_okq (⟨"KeptSummaries", "cheapestWay", "()I"⟩, 18) := ⟨⟨by decide +kernel, by decide +kernel⟩, List.mem_of_getElem? (i := 19) (by decide +kernel), List.mem_of_getElem? (i := 916) (by decide +kernel), List.mem_of_getElem? (i := 917) (by decide +kernel)⟩
theorem lw_p40 : lw_okq (⟨"KeptSummaries", "answerAt", "(LKeptSummaries$Table;II)I"⟩, 18) := ⟨⟨by decide +kernel, by decide +kernel⟩, List.mem_of_getElem? (i := 19) (by decide +kernel), List.mem_of_getElem? (i := 927) (by decide +kernel), List.mem_of_getElem? (i := 928) (by decide +kernel)⟩
theorem lw_p41 : lw_okq (⟨"KeptSummaries$Table", "groupsFrom", "(II)I"⟩, 6) := ⟨⟨by decide +kernel, by decide +kernel⟩, List.mem_of_getElem? (i := 236) (by decide +kernel), List.mem_of_getElem? (i := 939) (by decide +kernel), List.mem_of_getElem? (i := 940) (by decide +kernel)⟩
theorem lw_p42 : lw_okq (⟨"KeptSummaries$Table", "keyOfLike", "(III)I"⟩, 6) := ⟨⟨by decide +kernel, by decide +kernel⟩, List.mem_of_getElem? (i := 236) (by decide +kernel), List.mem_of_getElem? (i := 944) (by decide +kernel), List.mem_of_getElem? (i := 945) (by decide +kernel)⟩
theorem lw_p43 : lw_okq (⟨"KeptSummaries$Lattice", "mergedGroups", "(ILKeptSummaries$Shape;)I"⟩, 9) := ⟨⟨by decide +kernel, by decide +kernel⟩, List.mem_of_getElem? (i := 262) (by decide +kernel), List.mem_of_getElem? (i := 977) (by decide +kernel), List.mem_of_getElem? (i := 978) (by decide +kernel)⟩
theorem lw_p44 : lw_okq (⟨"KeptSummaries$Lattice", "tellNone", "()V"⟩, 9) := ⟨⟨by decide +kernel, by decide +kernel⟩, List.mem_of_getElem? (i := 262) (by decide +kernel), List.mem_of_getElem? (i := 1010) (by decide +kernel), List.mem_of_getElem? (i := 1011) (by decide +kernel)⟩
theorem lw_p45 : lw_okq (⟨"KeptSummaries$Lattice", "tell", "(I)V"⟩, 9) := ⟨⟨by decide +kernel, by decide +kernel⟩, List.mem_of_getElem? (i := 262) (by decide +kernel), List.mem_of_getElem? (i := 1014) (by decide +kernel), List.mem_of_getElem? (i := 1015) (by decide +kernel)⟩
theorem lw_p46 : lw_okq (⟨"KeptSummaries$Lattice", "pickNext", "(II)V"⟩, 9) := ⟨⟨by decide +kernel, by decide +kernel⟩, List.mem_of_getElem? (i := 262) (by decide +kernel), List.mem_of_getElem? (i := 1029) (by decide +kernel), List.mem_of_getElem? (i := 1030) (by decide +kernel)⟩
theorem lw_p47 : lw_okq (⟨"KeptSummaries$Lattice", "priceWith", "(I)I"⟩, 9) := ⟨⟨by decide +kernel, by decide +kernel⟩, List.mem_of_getElem? (i := 262) (by decide +kernel), List.mem_of_getElem? (i := 1033) (by decide +kernel), List.mem_of_getElem? (i := 1034) (by decide +kernel)⟩
def lw_privs_3 : List (MethodName × Nat) := [(⟨"KeptSummaries$Facts", "meetMiddle", "(LKeptSummaries$Table;II)V"⟩, 6), (⟨"KeptSummaries", "tallyGroups", "(LKeptSummaries$Summary;)V"⟩, 18), (⟨"KeptSummaries$Cut", "rolledNumber", "(IILKeptSummaries$Cut;LKeptSummaries$Shape;)I"⟩, 4), (⟨"KeptSummaries", "costOf", "(LKeptSummaries$Summary;)I"⟩, 18), (⟨"KeptSummaries$Cut", "coversSide", "(ILKeptSummaries$Cut;LKeptSummaries$Shape;)Z"⟩, 4), (⟨"KeptSummaries", "isCovering", "(LKeptSummaries$Summary;)Z"⟩, 18), (⟨"KeptSummaries", "groupsInside", "(LKeptSummaries$Cut;)I"⟩, 18), (⟨"KeptSummaries", "cheapestWay", "()I"⟩, 18), (⟨"KeptSummaries", "answerAt", "(LKeptSummaries$Table;II)I"⟩, 18), (⟨"KeptSummaries$Table", "groupsFrom", "(II)I"⟩, 6), (⟨"KeptSummaries$Table", "keyOfLike", "(III)I"⟩, 6), (⟨"KeptSummaries$Lattice", "mergedGroups", "(ILKeptSummaries$Shape;)I"⟩, 9), (⟨"KeptSummaries$Lattice", "tellNone", "()V"⟩, 9), (⟨"KeptSummaries$Lattice", "tell", "(I)V"⟩, 9), (⟨"KeptSummaries$Lattice", "pickNext", "(II)V"⟩, 9), (⟨"KeptSummaries$Lattice", "priceWith", "(I)I"⟩, 9)]
theorem lw_r3 : ∀ q ∈ lw_privs_3, lw_okq q := List.forall_mem_cons.mpr ⟨lw_p32, List.forall_mem_cons.mpr ⟨lw_p33, List.forall_mem_cons.mpr ⟨lw_p34, List.forall_mem_cons.mpr ⟨lw_p35, List.forall_mem_cons.mpr ⟨lw_p36, List.forall_mem_cons.mpr ⟨lw_p37, List.forall_mem_cons.mpr ⟨lw_p38, List.forall_mem_cons.mpr ⟨lw_p39, List.forall_mem_cons.mpr ⟨lw_p40, List.forall_mem_cons.mpr ⟨lw_p41, List.forall_mem_cons.mpr ⟨lw_p42, List.forall_mem_cons.mpr ⟨lw_p43, List.forall_mem_cons.mpr ⟨lw_p44, List.forall_mem_cons.mpr ⟨lw_p45, List.forall_mem_cons.mpr ⟨lw_p46, List.forall_mem_cons.mpr ⟨lw_p47, fun _ h => absurd h List.not_mem_nil⟩⟩⟩⟩⟩⟩⟩⟩⟩⟩⟩⟩⟩⟩⟩⟩
theorem lw_p48 : lw_okq (⟨"KeptSummariesModel", "numberAt", "(III)I"⟩, 60) := ⟨⟨by decide +kernel, by decide +kernel⟩, List.mem_of_getElem? (i := 1074) (by decide +kernel), List.mem_of_getElem? (i := 1275) (by decide +kernel), List.mem_of_getElem? (i := 1276) (by decide +kernel)⟩
theorem lw_p49 : lw_okq (⟨"KeptSummariesModel", "ofFact", "(II)I"⟩, 60) := ⟨⟨by decide +kernel, by decide +kernel⟩, List.mem_of_getElem? (i := 1074) (by decide +kernel), List.mem_of_getElem? (i := 1283) (by decide +kernel), List.mem_of_getElem? (i := 1284) (by decide +kernel)⟩
theorem lw_p50 : lw_okq (⟨"KeptSummariesModel", "types", "(I)V"⟩, 60) := ⟨⟨by decide +kernel, by decide +kernel⟩, List.mem_of_getElem? (i := 1074) (by decide +kernel), List.mem_of_getElem? (i := 1291) (by decide +kernel), List.mem_of_getElem? (i := 1292) (by decide +kernel)⟩
theorem lw_p51 : lw_okq (⟨"KeptSummariesModel", "beginsText", "(I)V"⟩, 60) := ⟨⟨by decide +kernel, by decide +kernel⟩, List.mem_of_getElem? (i := 1074) (by decide +kernel), List.mem_of_getElem? (i := 1299) (by decide +kernel), List.mem_of_getElem? (i := 1300) (by decide +kernel)⟩
theorem lw_p52 : lw_okq (⟨"KeptSummariesModel", "readsRule", "()Z"⟩, 60) := ⟨⟨by decide +kernel, by decide +kernel⟩, List.mem_of_getElem? (i := 1074) (by decide +kernel), List.mem_of_getElem? (i := 1303) (by decide +kernel), List.mem_of_getElem? (i := 1304) (by decide +kernel)⟩
theorem lw_p53 : lw_okq (⟨"KeptSummariesModel", "here", "()I"⟩, 60) := ⟨⟨by decide +kernel, by decide +kernel⟩, List.mem_of_getElem? (i := 1074) (by decide +kernel), List.mem_of_getElem? (i := 1307) (by decide +kernel), List.mem_of_getElem? (i := 1308) (by decide +kernel)⟩
theorem lw_p54 : lw_okq (⟨"KeptSummariesModel", "wrongAt", "(II)Z"⟩, 60) := ⟨⟨by decide +kernel, by decide +kernel⟩, List.mem_of_getElem? (i := 1074) (by decide +kernel), List.mem_of_getElem? (i := 1311) (by decide +kernel), List.mem_of_getElem? (i := 1312) (by decide +kernel)⟩
theorem lw_p55 : lw_okq (⟨"KeptSummariesModel", "readsSum", "()Z"⟩, 60) := ⟨⟨by decide +kernel, by decide +kernel⟩, List.mem_of_getElem? (i := 1074) (by decide +kernel), List.mem_of_getElem? (i := 1315) (by decide +kernel), List.mem_of_getElem? (i := 1316) (by decide +kernel)⟩
theorem lw_p56 : lw_okq (⟨"KeptSummariesModel", "readsFactor", "()Z"⟩, 60) := ⟨⟨by decide +kernel, by decide +kernel⟩, List.mem_of_getElem? (i := 1074) (by decide +kernel), List.mem_of_getElem? (i := 1319) (by decide +kernel), List.mem_of_getElem? (i := 1320) (by decide +kernel)⟩
theorem lw_p57 : lw_okq (⟨"KeptSummariesModel", "opens", "(I)Z"⟩, 60) := ⟨⟨by decide +kernel, by decide +kernel⟩, List.mem_of_getElem? (i := 1074) (by decide +kernel), List.mem_of_getElem? (i := 1323) (by decide +kernel), List.mem_of_getElem? (i := 1324) (by decide +kernel)⟩
theorem lw_p58 : lw_okq (⟨"KeptSummariesModel", "isDigit", "()Z"⟩, 60) := ⟨⟨by decide +kernel, by decide +kernel⟩, List.mem_of_getElem? (i := 1074) (by decide +kernel), List.mem_of_getElem? (i := 1328) (by decide +kernel), List.mem_of_getElem? (i := 1329) (by decide +kernel)⟩
theorem lw_p59 : lw_okq (⟨"KeptSummariesModel", "readsNumber", "()Z"⟩, 60) := ⟨⟨by decide +kernel, by decide +kernel⟩, List.mem_of_getElem? (i := 1074) (by decide +kernel), List.mem_of_getElem? (i := 1332) (by decide +kernel), List.mem_of_getElem? (i := 1333) (by decide +kernel)⟩
theorem lw_p60 : lw_okq (⟨"KeptSummariesModel", "notes", "(II)V"⟩, 60) := ⟨⟨by decide +kernel, by decide +kernel⟩, List.mem_of_getElem? (i := 1074) (by decide +kernel), List.mem_of_getElem? (i := 1336) (by decide +kernel), List.mem_of_getElem? (i := 1337) (by decide +kernel)⟩
theorem lw_p61 : lw_okq (⟨"KeptSummariesModel", "closesSums", "(Z)V"⟩, 60) := ⟨⟨by decide +kernel, by decide +kernel⟩, List.mem_of_getElem? (i := 1074) (by decide +kernel), List.mem_of_getElem? (i := 1346) (by decide +kernel), List.mem_of_getElem? (i := 1347) (by decide +kernel)⟩
theorem lw_p62 : lw_okq (⟨"KeptSummariesModel", "waitTop", "()I"⟩, 60) := ⟨⟨by decide +kernel, by decide +kernel⟩, List.mem_of_getElem? (i := 1074) (by decide +kernel), List.mem_of_getElem? (i := 1350) (by decide +kernel), List.mem_of_getElem? (i := 1351) (by decide +kernel)⟩
theorem lw_p63 : lw_okq (⟨"KeptSummariesModel", "hasOpenSum", "(I)Z"⟩, 60) := ⟨⟨by decide +kernel, by decide +kernel⟩, List.mem_of_getElem? (i := 1074) (by decide +kernel), List.mem_of_getElem? (i := 1354) (by decide +kernel), List.mem_of_getElem? (i := 1355) (by decide +kernel)⟩
def lw_privs_4 : List (MethodName × Nat) := [(⟨"KeptSummariesModel", "numberAt", "(III)I"⟩, 60), (⟨"KeptSummariesModel", "ofFact", "(II)I"⟩, 60), (⟨"KeptSummariesModel", "types", "(I)V"⟩, 60), (⟨"KeptSummariesModel", "beginsText", "(I)V"⟩, 60), (⟨"KeptSummariesModel", "readsRule", "()Z"⟩, 60), (⟨"KeptSummariesModel", "here", "()I"⟩, 60), (⟨"KeptSummariesModel", "wrongAt", "(II)Z"⟩, 60), (⟨"KeptSummariesModel", "readsSum", "()Z"⟩, 60), (⟨"KeptSummariesModel", "readsFactor", "()Z"⟩, 60), (⟨"KeptSummariesModel", "opens", "(I)Z"⟩, 60), (⟨"KeptSummariesModel", "isDigit", "()Z"⟩, 60), (⟨"KeptSummariesModel", "readsNumber", "()Z"⟩, 60), (⟨"KeptSummariesModel", "notes", "(II)V"⟩, 60), (⟨"KeptSummariesModel", "closesSums", "(Z)V"⟩, 60), (⟨"KeptSummariesModel", "waitTop", "()I"⟩, 60), (⟨"KeptSummariesModel", "hasOpenSum", "(I)Z"⟩, 60)]
theorem lw_r4 : ∀ q ∈ lw_privs_4, lw_okq q := List.forall_mem_cons.mpr ⟨lw_p48, List.forall_mem_cons.mpr ⟨lw_p49, List.forall_mem_cons.mpr ⟨lw_p50, List.forall_mem_cons.mpr ⟨lw_p51, List.forall_mem_cons.mpr ⟨lw_p52, List.forall_mem_cons.mpr ⟨lw_p53, List.forall_mem_cons.mpr ⟨lw_p54, List.forall_mem_cons.mpr ⟨lw_p55, List.forall_mem_cons.mpr ⟨lw_p56, List.forall_mem_cons.mpr ⟨lw_p57, List.forall_mem_cons.mpr ⟨lw_p58, List.forall_mem_cons.mpr ⟨lw_p59, List.forall_mem_cons.mpr ⟨lw_p60, List.forall_mem_cons.mpr ⟨lw_p61, List.forall_mem_cons.mpr ⟨lw_p62, List.forall_mem_cons.mpr ⟨lw_p63, fun _ h => absurd h List.not_mem_nil⟩⟩⟩⟩⟩⟩⟩⟩⟩⟩⟩⟩⟩⟩⟩⟩
theorem lw_p64 : lw_okq (⟨"KeptSummariesModel", "readsCondition", "()Z"⟩, 60) := ⟨⟨by decide +kernel, by decide +kernel⟩, List.mem_of_getElem? (i := 1074) (by decide +kernel), List.mem_of_getElem? (i := 1358) (by decide +kernel), List.mem_of_getElem? (i := 1359) (by decide +kernel)⟩
theorem lw_p65 : lw_okq (⟨"KeptSummariesModel", "readsCompared", "()Z"⟩, 60) := ⟨⟨by decide +kernel, by decide +kernel⟩, List.mem_of_getElem? (i := 1074) (by decide +kernel), List.mem_of_getElem? (i := 1362) (by decide +kernel), List.mem_of_getElem? (i := 1363) (by decide +kernel)⟩
theorem lw_p66 : lw_okq (⟨"KeptSummariesModel", "endsPiece", "()V"⟩, 60) := ⟨⟨by decide +kernel, by decide +kernel⟩, List.mem_of_getElem? (i := 1074) (by decide +kernel), List.mem_of_getElem? (i := 1366) (by decide +kernel), List.mem_of_getElem? (i := 1367) (by decide +kernel)⟩
theorem lw_p67 : lw_okq (⟨"KeptSummariesModel", "lands", "(Z)V"⟩, 60) := ⟨⟨by decide +kernel, by decide +kernel⟩, List.mem_of_getElem? (i := 1074) (by decide +kernel), List.mem_of_getElem? (i := 1370) (by decide +kernel), List.mem_of_getElem? (i := 1371) (by decide +kernel)⟩
theorem lw_p68 : lw_okq (⟨"KeptSummariesModel", "jumps", "(I)V"⟩, 60) := ⟨⟨by decide +kernel, by decide +kernel⟩, List.mem_of_getElem? (i := 1074) (by decide +kernel), List.mem_of_getElem? (i := 1374) (by decide +kernel), List.mem_of_getElem? (i := 1375) (by decide +kernel)⟩
theorem lw_p69 : lw_okq (⟨"KeptSummariesModel", "takes", "(I)Z"⟩, 60) := ⟨⟨by decide +kernel, by decide +kernel⟩, List.mem_of_getElem? (i := 1074) (by decide +kernel), List.mem_of_getElem? (i := 1378) (by decide +kernel), List.mem_of_getElem? (i := 1379) (by decide +kernel)⟩
theorem lw_p70 : lw_okq (⟨"KeptSummariesModel", "comes", "(IIII)I"⟩, 60) := ⟨⟨by decide +kernel, by decide +kernel⟩, List.mem_of_getElem? (i := 1074) (by decide +kernel), List.mem_of_getElem? (i := 1386) (by decide +kernel), List.mem_of_getElem? (i := 1387) (by decide +kernel)⟩
theorem lw_p71 : lw_okq (⟨"KeptSummariesModel", "lotGoes", "()I"⟩, 60) := ⟨⟨by decide +kernel, by decide +kernel⟩, List.mem_of_getElem? (i := 1074) (by decide +kernel), List.mem_of_getElem? (i := 1390) (by decide +kernel), List.mem_of_getElem? (i := 1391) (by decide +kernel)⟩
theorem lw_p72 : lw_okq (⟨"KeptSummariesModel", "isRefused", "()Z"⟩, 60) := ⟨⟨by decide +kernel, by decide +kernel⟩, List.mem_of_getElem? (i := 1074) (by decide +kernel), List.mem_of_getElem? (i := 1395) (by decide +kernel), List.mem_of_getElem? (i := 1396) (by decide +kernel)⟩
theorem lw_p73 : lw_okq (⟨"KeptSummariesModel", "reckonsTo", "(II)I"⟩, 60) := ⟨⟨by decide +kernel, by decide +kernel⟩, List.mem_of_getElem? (i := 1074) (by decide +kernel), List.mem_of_getElem? (i := 1399) (by decide +kernel), List.mem_of_getElem? (i := 1400) (by decide +kernel)⟩
theorem lw_p74 : lw_okq (⟨"KeptSummariesModel", "byLaw", "(II)I"⟩, 60) := ⟨⟨by decide +kernel, by decide +kernel⟩, List.mem_of_getElem? (i := 1074) (by decide +kernel), List.mem_of_getElem? (i := 1406) (by decide +kernel), List.mem_of_getElem? (i := 1407) (by decide +kernel)⟩
theorem lw_p75 : lw_okq (⟨"KeptSummariesModel", "isSummary", "(I)Z"⟩, 60) := ⟨⟨by decide +kernel, by decide +kernel⟩, List.mem_of_getElem? (i := 1074) (by decide +kernel), List.mem_of_getElem? (i := 1416) (by decide +kernel), List.mem_of_getElem? (i := 1417) (by decide +kernel)⟩
theorem lw_p76 : lw_okq (⟨"KeptSummariesModel", "readsCoarse", "()Z"⟩, 60) := ⟨⟨by decide +kernel, by decide +kernel⟩, List.mem_of_getElem? (i := 1074) (by decide +kernel), List.mem_of_getElem? (i := 1428) (by decide +kernel), List.mem_of_getElem? (i := 1429) (by decide +kernel)⟩
theorem lw_p77 : lw_okq (⟨"KeptSummariesModel", "readsDigit", "(I)Z"⟩, 60) := ⟨⟨by decide +kernel, by decide +kernel⟩, List.mem_of_getElem? (i := 1074) (by decide +kernel), List.mem_of_getElem? (i := 1432) (by decide +kernel), List.mem_of_getElem? (i := 1433) (by decide +kernel)⟩
theorem lw_p78 : lw_okq (⟨"KeptSummariesModel", "readsSummary", "()Z"⟩, 60) := ⟨⟨by decide +kernel, by decide +kernel⟩, List.mem_of_getElem? (i := 1074) (by decide +kernel), List.mem_of_getElem? (i := 1443) (by decide +kernel), List.mem_of_getElem? (i := 1444) (by decide +kernel)⟩
theorem lw_p79 : lw_okq (⟨"KeptSummariesModel", "readsLevels", "()Z"⟩, 60) := ⟨⟨by decide +kernel, by decide +kernel⟩, List.mem_of_getElem? (i := 1074) (by decide +kernel), List.mem_of_getElem? (i := 1447) (by decide +kernel), List.mem_of_getElem? (i := 1448) (by decide +kernel)⟩
def lw_privs_5 : List (MethodName × Nat) := [(⟨"KeptSummariesModel", "readsCondition", "()Z"⟩, 60), (⟨"KeptSummariesModel", "readsCompared", "()Z"⟩, 60), (⟨"KeptSummariesModel", "endsPiece", "()V"⟩, 60), (⟨"KeptSummariesModel", "lands", "(Z)V"⟩, 60), (⟨"KeptSummariesModel", "jumps", "(I)V"⟩, 60), (⟨"KeptSummariesModel", "takes", "(I)Z"⟩, 60), (⟨"KeptSummariesModel", "comes", "(IIII)I"⟩, 60), (⟨"KeptSummariesModel", "lotGoes", "()I"⟩, 60), (⟨"KeptSummariesModel", "isRefused", "()Z"⟩, 60), (⟨"KeptSummariesModel", "reckonsTo", "(II)I"⟩, 60), (⟨"KeptSummariesModel", "byLaw", "(II)I"⟩, 60), (⟨"KeptSummariesModel", "isSummary", "(I)Z"⟩, 60), (⟨"KeptSummariesModel", "readsCoarse", "()Z"⟩, 60), (⟨"KeptSummariesModel", "readsDigit", "(I)Z"⟩, 60), (⟨"KeptSummariesModel", "readsSummary", "()Z"⟩, 60), (⟨"KeptSummariesModel", "readsLevels", "()Z"⟩, 60)]
theorem lw_r5 : ∀ q ∈ lw_privs_5, lw_okq q := List.forall_mem_cons.mpr ⟨lw_p64, List.forall_mem_cons.mpr ⟨lw_p65, List.forall_mem_cons.mpr ⟨lw_p66, List.forall_mem_cons.mpr ⟨lw_p67, List.forall_mem_cons.mpr ⟨lw_p68, List.forall_mem_cons.mpr ⟨lw_p69, List.forall_mem_cons.mpr ⟨lw_p70, List.forall_mem_cons.mpr ⟨lw_p71, List.forall_mem_cons.mpr ⟨lw_p72, List.forall_mem_cons.mpr ⟨lw_p73, List.forall_mem_cons.mpr ⟨lw_p74, List.forall_mem_cons.mpr ⟨lw_p75, List.forall_mem_cons.mpr ⟨lw_p76, List.forall_mem_cons.mpr ⟨lw_p77, List.forall_mem_cons.mpr ⟨lw_p78, List.forall_mem_cons.mpr ⟨lw_p79, fun _ h => absurd h List.not_mem_nil⟩⟩⟩⟩⟩⟩⟩⟩⟩⟩⟩⟩⟩⟩⟩⟩
theorem lw_p80 : lw_okq (⟨"KeptSummariesModel", "readsLevel", "(I)Z"⟩, 60) := ⟨⟨by decide +kernel, by decide +kernel⟩, List.mem_of_getElem? (i := 1074) (by decide +kernel), List.mem_of_getElem? (i := 1451) (by decide +kernel), List.mem_of_getElem? (i := 1452) (by decide +kernel)⟩
theorem lw_p81 : lw_okq (⟨"KeptSummariesModel", "readsParts", "()Z"⟩, 60) := ⟨⟨by decide +kernel, by decide +kernel⟩, List.mem_of_getElem? (i := 1074) (by decide +kernel), List.mem_of_getElem? (i := 1455) (by decide +kernel), List.mem_of_getElem? (i := 1456) (by decide +kernel)⟩
theorem lw_p82 : lw_okq (⟨"KeptSummariesModel", "readsSpans", "()Z"⟩, 60) := ⟨⟨by decide +kernel, by decide +kernel⟩, List.mem_of_getElem? (i := 1074) (by decide +kernel), List.mem_of_getElem? (i := 1462) (by decide +kernel), List.mem_of_getElem? (i := 1463) (by decide +kernel)⟩
theorem lw_p83 : lw_okq (⟨"KeptSummariesModel", "readsSpan", "()Z"⟩, 60) := ⟨⟨by decide +kernel, by decide +kernel⟩, List.mem_of_getElem? (i := 1074) (by decide +kernel), List.mem_of_getElem? (i := 1466) (by decide +kernel), List.mem_of_getElem? (i := 1467) (by decide +kernel)⟩
theorem lw_p84 : lw_okq (⟨"KeptSummariesModel", "spanBy", "(IIII)I"⟩, 60) := ⟨⟨by decide +kernel, by decide +kernel⟩, List.mem_of_getElem? (i := 1074) (by decide +kernel), List.mem_of_getElem? (i := 1470) (by decide +kernel), List.mem_of_getElem? (i := 1471) (by decide +kernel)⟩
theorem lw_p85 : lw_okq (⟨"KeptSummariesModel", "readsQuestion", "()Z"⟩, 60) := ⟨⟨by decide +kernel, by decide +kernel⟩, List.mem_of_getElem? (i := 1074) (by decide +kernel), List.mem_of_getElem? (i := 1478) (by decide +kernel), List.mem_of_getElem? (i := 1479) (by decide +kernel)⟩
theorem lw_p86 : lw_okq (⟨"KeptSummariesModel", "answersByFacts", "()V"⟩, 60) := ⟨⟨by decide +kernel, by decide +kernel⟩, List.mem_of_getElem? (i := 1074) (by decide +kernel), List.mem_of_getElem? (i := 1485) (by decide +kernel), List.mem_of_getElem? (i := 1486) (by decide +kernel)⟩
theorem lw_p87 : lw_okq (⟨"KeptSummariesModel", "clears", "()V"⟩, 60) := ⟨⟨by decide +kernel, by decide +kernel⟩, List.mem_of_getElem? (i := 1074) (by decide +kernel), List.mem_of_getElem? (i := 1489) (by decide +kernel), List.mem_of_getElem? (i := 1490) (by decide +kernel)⟩
theorem lw_p88 : lw_okq (⟨"KeptSummariesModel", "addsFacts", "([IIII)V"⟩, 60) := ⟨⟨by decide +kernel, by decide +kernel⟩, List.mem_of_getElem? (i := 1074) (by decide +kernel), List.mem_of_getElem? (i := 1494) (by decide +kernel), List.mem_of_getElem? (i := 1495) (by decide +kernel)⟩
theorem lw_p89 : lw_okq (⟨"KeptSummariesModel", "isLet", "([III)Z"⟩, 60) := ⟨⟨by decide +kernel, by decide +kernel⟩, List.mem_of_getElem? (i := 1074) (by decide +kernel), List.mem_of_getElem? (i := 1498) (by decide +kernel), List.mem_of_getElem? (i := 1499) (by decide +kernel)⟩
theorem lw_p90 : lw_okq (⟨"KeptSummariesModel", "tripleOf", "([III)I"⟩, 60) := ⟨⟨by decide +kernel, by decide +kernel⟩, List.mem_of_getElem? (i := 1074) (by decide +kernel), List.mem_of_getElem? (i := 1502) (by decide +kernel), List.mem_of_getElem? (i := 1503) (by decide +kernel)⟩
theorem lw_p91 : lw_okq (⟨"KeptSummariesModel", "adds", "(IIIII)V"⟩, 60) := ⟨⟨by decide +kernel, by decide +kernel⟩, List.mem_of_getElem? (i := 1074) (by decide +kernel), List.mem_of_getElem? (i := 1506) (by decide +kernel), List.mem_of_getElem? (i := 1507) (by decide +kernel)⟩
theorem lw_p92 : lw_okq (⟨"KeptSummariesModel", "putsDown", "()V"⟩, 60) := ⟨⟨by decide +kernel, by decide +kernel⟩, List.mem_of_getElem? (i := 1074) (by decide +kernel), List.mem_of_getElem? (i := 1510) (by decide +kernel), List.mem_of_getElem? (i := 1511) (by decide +kernel)⟩
theorem lw_p93 : lw_okq (⟨"KeptSummariesModel", "whatAt", "(I)I"⟩, 60) := ⟨⟨by decide +kernel, by decide +kernel⟩, List.mem_of_getElem? (i := 1074) (by decide +kernel), List.mem_of_getElem? (i := 1514) (by decide +kernel), List.mem_of_getElem? (i := 1515) (by decide +kernel)⟩
theorem lw_p94 : lw_okq (⟨"KeptSummariesModel", "unlikeIn", "(I)I"⟩, 60) := ⟨⟨by decide +kernel, by decide +kernel⟩, List.mem_of_getElem? (i := 1074) (by decide +kernel), List.mem_of_getElem? (i := 1518) (by decide +kernel), List.mem_of_getElem? (i := 1519) (by decide +kernel)⟩
theorem lw_p95 : lw_okq (⟨"KeptSummariesModel", "timesOf", "(I)V"⟩, 60) := ⟨⟨by decide +kernel, by decide +kernel⟩, List.mem_of_getElem? (i := 1074) (by decide +kernel), List.mem_of_getElem? (i := 1522) (by decide +kernel), List.mem_of_getElem? (i := 1523) (by decide +kernel)⟩
def lw_privs_6 : List (MethodName × Nat) := [(⟨"KeptSummariesModel", "readsLevel", "(I)Z"⟩, 60), (⟨"KeptSummariesModel", "readsParts", "()Z"⟩, 60), (⟨"KeptSummariesModel", "readsSpans", "()Z"⟩, 60), (⟨"KeptSummariesModel", "readsSpan", "()Z"⟩, 60), (⟨"KeptSummariesModel", "spanBy", "(IIII)I"⟩, 60), (⟨"KeptSummariesModel", "readsQuestion", "()Z"⟩, 60), (⟨"KeptSummariesModel", "answersByFacts", "()V"⟩, 60), (⟨"KeptSummariesModel", "clears", "()V"⟩, 60), (⟨"KeptSummariesModel", "addsFacts", "([IIII)V"⟩, 60), (⟨"KeptSummariesModel", "isLet", "([III)Z"⟩, 60), (⟨"KeptSummariesModel", "tripleOf", "([III)I"⟩, 60), (⟨"KeptSummariesModel", "adds", "(IIIII)V"⟩, 60), (⟨"KeptSummariesModel", "putsDown", "()V"⟩, 60), (⟨"KeptSummariesModel", "whatAt", "(I)I"⟩, 60), (⟨"KeptSummariesModel", "unlikeIn", "(I)I"⟩, 60), (⟨"KeptSummariesModel", "timesOf", "(I)V"⟩, 60)]
theorem lw_r6 : ∀ q ∈ lw_privs_6, lw_okq q := List.forall_mem_cons.mpr ⟨lw_p80, List.forall_mem_cons.mpr ⟨lw_p81, List.forall_mem_cons.mpr ⟨lw_p82, List.forall_mem_cons.mpr ⟨lw_p83, List.forall_mem_cons.mpr ⟨lw_p84, List.forall_mem_cons.mpr ⟨lw_p85, List.forall_mem_cons.mpr ⟨lw_p86, List.forall_mem_cons.mpr ⟨lw_p87, List.forall_mem_cons.mpr ⟨lw_p88, List.forall_mem_cons.mpr ⟨lw_p89, List.forall_mem_cons.mpr ⟨lw_p90, List.forall_mem_cons.mpr ⟨lw_p91, List.forall_mem_cons.mpr ⟨lw_p92, List.forall_mem_cons.mpr ⟨lw_p93, List.forall_mem_cons.mpr ⟨lw_p94, List.forall_mem_cons.mpr ⟨lw_p95, fun _ h => absurd h List.not_mem_nil⟩⟩⟩⟩⟩⟩⟩⟩⟩⟩⟩⟩⟩⟩⟩⟩
theorem lw_p96 : lw_okq (⟨"KeptSummariesModel", "middleOf", "(I)I"⟩, 60) := ⟨⟨by decide +kernel, by decide +kernel⟩, List.mem_of_getElem? (i := 1074) (by decide +kernel), List.mem_of_getElem? (i := 1526) (by decide +kernel), List.mem_of_getElem? (i := 1527) (by decide +kernel)⟩
theorem lw_p97 : lw_okq (⟨"KeptSummariesModel", "partAt", "(II)I"⟩, 60) := ⟨⟨by decide +kernel, by decide +kernel⟩, List.mem_of_getElem? (i := 1074) (by decide +kernel), List.mem_of_getElem? (i := 1530) (by decide +kernel), List.mem_of_getElem? (i := 1531) (by decide +kernel)⟩
theorem lw_p98 : lw_okq (⟨"KeptSummariesModel", "freshOf", "(I)I"⟩, 60) := ⟨⟨by decide +kernel, by decide +kernel⟩, List.mem_of_getElem? (i := 1074) (by decide +kernel), List.mem_of_getElem? (i := 1538) (by decide +kernel), List.mem_of_getElem? (i := 1539) (by decide +kernel)⟩
theorem lw_p99 : lw_okq (⟨"KeptSummariesModel", "upTo", "(I)I"⟩, 60) := ⟨⟨by decide +kernel, by decide +kernel⟩, List.mem_of_getElem? (i := 1074) (by decide +kernel), List.mem_of_getElem? (i := 1542) (by decide +kernel), List.mem_of_getElem? (i := 1543) (by decide +kernel)⟩
theorem lw_p100 : lw_okq (⟨"KeptSummariesModel", "groupsOf", "(I)I"⟩, 60) := ⟨⟨by decide +kernel, by decide +kernel⟩, List.mem_of_getElem? (i := 1074) (by decide +kernel), List.mem_of_getElem? (i := 1554) (by decide +kernel), List.mem_of_getElem? (i := 1555) (by decide +kernel)⟩
theorem lw_p101 : lw_okq (⟨"KeptSummariesModel", "laysSummary", "(I)V"⟩, 60) := ⟨⟨by decide +kernel, by decide +kernel⟩, List.mem_of_getElem? (i := 1074) (by decide +kernel), List.mem_of_getElem? (i := 1558) (by decide +kernel), List.mem_of_getElem? (i := 1559) (by decide +kernel)⟩
theorem lw_p102 : lw_okq (⟨"KeptSummariesModel", "groupsThere", "()I"⟩, 60) := ⟨⟨by decide +kernel, by decide +kernel⟩, List.mem_of_getElem? (i := 1074) (by decide +kernel), List.mem_of_getElem? (i := 1562) (by decide +kernel), List.mem_of_getElem? (i := 1563) (by decide +kernel)⟩
theorem lw_p103 : lw_okq (⟨"KeptSummariesModel", "costOf", "(I)I"⟩, 60) := ⟨⟨by decide +kernel, by decide +kernel⟩, List.mem_of_getElem? (i := 1074) (by decide +kernel), List.mem_of_getElem? (i := 1566) (by decide +kernel), List.mem_of_getElem? (i := 1567) (by decide +kernel)⟩
theorem lw_p104 : lw_okq (⟨"KeptSummariesModel", "tripleBehind", "(I)I"⟩, 60) := ⟨⟨by decide +kernel, by decide +kernel⟩, List.mem_of_getElem? (i := 1074) (by decide +kernel), List.mem_of_getElem? (i := 1574) (by decide +kernel), List.mem_of_getElem? (i := 1575) (by decide +kernel)⟩
theorem lw_p105 : lw_okq (⟨"KeptSummariesModel", "coversNow", "(I)Z"⟩, 60) := ⟨⟨by decide +kernel, by decide +kernel⟩, List.mem_of_getElem? (i := 1074) (by decide +kernel), List.mem_of_getElem? (i := 1589) (by decide +kernel), List.mem_of_getElem? (i := 1590) (by decide +kernel)⟩
theorem lw_p106 : lw_okq (⟨"KeptSummariesModel", "coversAll", "(I[II)Z"⟩, 60) := ⟨⟨by decide +kernel, by decide +kernel⟩, List.mem_of_getElem? (i := 1074) (by decide +kernel), List.mem_of_getElem? (i := 1596) (by decide +kernel), List.mem_of_getElem? (i := 1597) (by decide +kernel)⟩
theorem lw_p107 : lw_okq (⟨"KeptSummariesModel", "coversSide", "(III[II)Z"⟩, 60) := ⟨⟨by decide +kernel, by decide +kernel⟩, List.mem_of_getElem? (i := 1074) (by decide +kernel), List.mem_of_getElem? (i := 1600) (by decide +kernel), List.mem_of_getElem? (i := 1601) (by decide +kernel)⟩
theorem lw_p108 : lw_okq (⟨"KeptSummariesModel", "valuesOf", "(IIII)I"⟩, 60) := ⟨⟨by decide +kernel, by decide +kernel⟩, List.mem_of_getElem? (i := 1074) (by decide +kernel), List.mem_of_getElem? (i := 1604) (by decide +kernel), List.mem_of_getElem? (i := 1605) (by decide +kernel)⟩
theorem lw_p109 : lw_okq (⟨"KeptSummariesModel", "leftOut", "(I)I"⟩, 60) := ⟨⟨by decide +kernel, by decide +kernel⟩, List.mem_of_getElem? (i := 1074) (by decide +kernel), List.mem_of_getElem? (i := 1612) (by decide +kernel), List.mem_of_getElem? (i := 1613) (by decide +kernel)⟩
theorem lw_p110 : lw_okq (⟨"KeptSummariesModel", "leavesOut", "(II)Z"⟩, 60) := ⟨⟨by decide +kernel, by decide +kernel⟩, List.mem_of_getElem? (i := 1074) (by decide +kernel), List.mem_of_getElem? (i := 1616) (by decide +kernel), List.mem_of_getElem? (i := 1617) (by decide +kernel)⟩
theorem lw_p111 : lw_okq (⟨"KeptSummariesModel", "rolledUp", "(I)I"⟩, 60) := ⟨⟨by decide +kernel, by decide +kernel⟩, List.mem_of_getElem? (i := 1074) (by decide +kernel), List.mem_of_getElem? (i := 1620) (by decide +kernel), List.mem_of_getElem? (i := 1621) (by decide +kernel)⟩
def lw_privs_7 : List (MethodName × Nat) := [(⟨"KeptSummariesModel", "middleOf", "(I)I"⟩, 60), (⟨"KeptSummariesModel", "partAt", "(II)I"⟩, 60), (⟨"KeptSummariesModel", "freshOf", "(I)I"⟩, 60), (⟨"KeptSummariesModel", "upTo", "(I)I"⟩, 60), (⟨"KeptSummariesModel", "groupsOf", "(I)I"⟩, 60), (⟨"KeptSummariesModel", "laysSummary", "(I)V"⟩, 60), (⟨"KeptSummariesModel", "groupsThere", "()I"⟩, 60), (⟨"KeptSummariesModel", "costOf", "(I)I"⟩, 60), (⟨"KeptSummariesModel", "tripleBehind", "(I)I"⟩, 60), (⟨"KeptSummariesModel", "coversNow", "(I)Z"⟩, 60), (⟨"KeptSummariesModel", "coversAll", "(I[II)Z"⟩, 60), (⟨"KeptSummariesModel", "coversSide", "(III[II)Z"⟩, 60), (⟨"KeptSummariesModel", "valuesOf", "(IIII)I"⟩, 60), (⟨"KeptSummariesModel", "leftOut", "(I)I"⟩, 60), (⟨"KeptSummariesModel", "leavesOut", "(II)Z"⟩, 60), (⟨"KeptSummariesModel", "rolledUp", "(I)I"⟩, 60)]
theorem lw_r7 : ∀ q ∈ lw_privs_7, lw_okq q := List.forall_mem_cons.mpr ⟨lw_p96, List.forall_mem_cons.mpr ⟨lw_p97, List.forall_mem_cons.mpr ⟨lw_p98, List.forall_mem_cons.mpr ⟨lw_p99, List.forall_mem_cons.mpr ⟨lw_p100, List.forall_mem_cons.mpr ⟨lw_p101, List.forall_mem_cons.mpr ⟨lw_p102, List.forall_mem_cons.mpr ⟨lw_p103, List.forall_mem_cons.mpr ⟨lw_p104, List.forall_mem_cons.mpr ⟨lw_p105, List.forall_mem_cons.mpr ⟨lw_p106, List.forall_mem_cons.mpr ⟨lw_p107, List.forall_mem_cons.mpr ⟨lw_p108, List.forall_mem_cons.mpr ⟨lw_p109, List.forall_mem_cons.mpr ⟨lw_p110, List.forall_mem_cons.mpr ⟨lw_p111, fun _ h => absurd h List.not_mem_nil⟩⟩⟩⟩⟩⟩⟩⟩⟩⟩⟩⟩⟩⟩⟩⟩
theorem lw_p112 : lw_okq (⟨"KeptSummariesModel", "compensation", "(I)I"⟩, 60) := ⟨⟨by decide +kernel, by decide +kernel⟩, List.mem_of_getElem? (i := 1074) (by decide +kernel), List.mem_of_getElem? (i := 1624) (by decide +kernel), List.mem_of_getElem? (i := 1625) (by decide +kernel)⟩
theorem lw_p113 : lw_okq (⟨"KeptSummariesModel", "takenOf", "(I)I"⟩, 60) := ⟨⟨by decide +kernel, by decide +kernel⟩, List.mem_of_getElem? (i := 1074) (by decide +kernel), List.mem_of_getElem? (i := 1628) (by decide +kernel), List.mem_of_getElem? (i := 1629) (by decide +kernel)⟩
theorem lw_p114 : lw_okq (⟨"KeptSummariesModel", "goesInto", "(II)I"⟩, 60) := ⟨⟨by decide +kernel, by decide +kernel⟩, List.mem_of_getElem? (i := 1074) (by decide +kernel), List.mem_of_getElem? (i := 1632) (by decide +kernel), List.mem_of_getElem? (i := 1633) (by decide +kernel)⟩
theorem lw_p115 : lw_okq (⟨"KeptSummariesModel", "standsFor", "(III)I"⟩, 60) := ⟨⟨by decide +kernel, by decide +kernel⟩, List.mem_of_getElem? (i := 1074) (by decide +kernel), List.mem_of_getElem? (i := 1636) (by decide +kernel), List.mem_of_getElem? (i := 1637) (by decide +kernel)⟩
theorem lw_p116 : lw_okq (⟨"KeptSummariesModel", "wayNow", "()I"⟩, 60) := ⟨⟨by decide +kernel, by decide +kernel⟩, List.mem_of_getElem? (i := 1074) (by decide +kernel), List.mem_of_getElem? (i := 1648) (by decide +kernel), List.mem_of_getElem? (i := 1649) (by decide +kernel)⟩
theorem lw_p117 : lw_okq (⟨"KeptSummariesModel", "answersByWay", "(I)V"⟩, 60) := ⟨⟨by decide +kernel, by decide +kernel⟩, List.mem_of_getElem? (i := 1074) (by decide +kernel), List.mem_of_getElem? (i := 1656) (by decide +kernel), List.mem_of_getElem? (i := 1657) (by decide +kernel)⟩
theorem lw_p118 : lw_okq (⟨"KeptSummariesModel", "answersBy", "(I)V"⟩, 60) := ⟨⟨by decide +kernel, by decide +kernel⟩, List.mem_of_getElem? (i := 1074) (by decide +kernel), List.mem_of_getElem? (i := 1660) (by decide +kernel), List.mem_of_getElem? (i := 1661) (by decide +kernel)⟩
theorem lw_p119 : lw_okq (⟨"KeptSummariesModel", "toldOf", "(II)I"⟩, 60) := ⟨⟨by decide +kernel, by decide +kernel⟩, List.mem_of_getElem? (i := 1074) (by decide +kernel), List.mem_of_getElem? (i := 1664) (by decide +kernel), List.mem_of_getElem? (i := 1665) (by decide +kernel)⟩
theorem lw_p120 : lw_okq (⟨"KeptSummariesModel", "aheadOf", "(I)I"⟩, 60) := ⟨⟨by decide +kernel, by decide +kernel⟩, List.mem_of_getElem? (i := 1074) (by decide +kernel), List.mem_of_getElem? (i := 1672) (by decide +kernel), List.mem_of_getElem? (i := 1673) (by decide +kernel)⟩
theorem lw_p121 : lw_okq (⟨"KeptSummariesModel", "differs", "(I)I"⟩, 60) := ⟨⟨by decide +kernel, by decide +kernel⟩, List.mem_of_getElem? (i := 1074) (by decide +kernel), List.mem_of_getElem? (i := 1684) (by decide +kernel), List.mem_of_getElem? (i := 1685) (by decide +kernel)⟩
theorem lw_p122 : lw_okq (⟨"KeptSummariesModel", "groupsBy", "(I)I"⟩, 60) := ⟨⟨by decide +kernel, by decide +kernel⟩, List.mem_of_getElem? (i := 1074) (by decide +kernel), List.mem_of_getElem? (i := 1695) (by decide +kernel), List.mem_of_getElem? (i := 1696) (by decide +kernel)⟩
theorem lw_p123 : lw_okq (⟨"KeptSummariesModel", "laysLattice", "()V"⟩, 60) := ⟨⟨by decide +kernel, by decide +kernel⟩, List.mem_of_getElem? (i := 1074) (by decide +kernel), List.mem_of_getElem? (i := 1714) (by decide +kernel), List.mem_of_getElem? (i := 1715) (by decide +kernel)⟩
theorem lw_p124 : lw_okq (⟨"KeptSummariesModel", "priceBy", "(I)I"⟩, 60) := ⟨⟨by decide +kernel, by decide +kernel⟩, List.mem_of_getElem? (i := 1074) (by decide +kernel), List.mem_of_getElem? (i := 1718) (by decide +kernel), List.mem_of_getElem? (i := 1719) (by decide +kernel)⟩
theorem lw_p125 : lw_okq (⟨"KeptSummariesModel", "octet", "(I)I"⟩, 60) := ⟨⟨by decide +kernel, by decide +kernel⟩, List.mem_of_getElem? (i := 1074) (by decide +kernel), List.mem_of_getElem? (i := 1747) (by decide +kernel), List.mem_of_getElem? (i := 1748) (by decide +kernel)⟩
theorem lw_p126 : lw_okq (⟨"KeptSummariesModel", "measures", "()I"⟩, 60) := ⟨⟨by decide +kernel, by decide +kernel⟩, List.mem_of_getElem? (i := 1074) (by decide +kernel), List.mem_of_getElem? (i := 1755) (by decide +kernel), List.mem_of_getElem? (i := 1756) (by decide +kernel)⟩
def lw_privs_8 : List (MethodName × Nat) := [(⟨"KeptSummariesModel", "compensation", "(I)I"⟩, 60), (⟨"KeptSummariesModel", "takenOf", "(I)I"⟩, 60), (⟨"KeptSummariesModel", "goesInto", "(II)I"⟩, 60), (⟨"KeptSummariesModel", "standsFor", "(III)I"⟩, 60), (⟨"KeptSummariesModel", "wayNow", "()I"⟩, 60), (⟨"KeptSummariesModel", "answersByWay", "(I)V"⟩, 60), (⟨"KeptSummariesModel", "answersBy", "(I)V"⟩, 60), (⟨"KeptSummariesModel", "toldOf", "(II)I"⟩, 60), (⟨"KeptSummariesModel", "aheadOf", "(I)I"⟩, 60), (⟨"KeptSummariesModel", "differs", "(I)I"⟩, 60), (⟨"KeptSummariesModel", "groupsBy", "(I)I"⟩, 60), (⟨"KeptSummariesModel", "laysLattice", "()V"⟩, 60), (⟨"KeptSummariesModel", "priceBy", "(I)I"⟩, 60), (⟨"KeptSummariesModel", "octet", "(I)I"⟩, 60), (⟨"KeptSummariesModel", "measures", "()I"⟩, 60)]
theorem lw_r8 : ∀ q ∈ lw_privs_8, lw_okq q := List.forall_mem_cons.mpr ⟨lw_p112, List.forall_mem_cons.mpr ⟨lw_p113, List.forall_mem_cons.mpr ⟨lw_p114, List.forall_mem_cons.mpr ⟨lw_p115, List.forall_mem_cons.mpr ⟨lw_p116, List.forall_mem_cons.mpr ⟨lw_p117, List.forall_mem_cons.mpr ⟨lw_p118, List.forall_mem_cons.mpr ⟨lw_p119, List.forall_mem_cons.mpr ⟨lw_p120, List.forall_mem_cons.mpr ⟨lw_p121, List.forall_mem_cons.mpr ⟨lw_p122, List.forall_mem_cons.mpr ⟨lw_p123, List.forall_mem_cons.mpr ⟨lw_p124, List.forall_mem_cons.mpr ⟨lw_p125, List.forall_mem_cons.mpr ⟨lw_p126, fun _ h => absurd h List.not_mem_nil⟩⟩⟩⟩⟩⟩⟩⟩⟩⟩⟩⟩⟩⟩⟩
def lw_privs : List (MethodName × Nat) := lw_privs_1 ++ (lw_privs_2 ++ (lw_privs_3 ++ (lw_privs_4 ++ (lw_privs_5 ++ (lw_privs_6 ++ (lw_privs_7 ++ (lw_privs_8)))))))
def lw_tbl : List Cond := k2_sels lw_privs ++ tables_1
theorem lw_privs_ok : ∀ q ∈ lw_privs, lw_okq q := by
  show ∀ q ∈ lw_privs_1 ++ (lw_privs_2 ++ (lw_privs_3 ++ (lw_privs_4 ++ (lw_privs_5 ++ (lw_privs_6 ++ (lw_privs_7 ++ (lw_privs_8))))))), lw_okq q
  exact List.forall_mem_append.mpr ⟨lw_r1, List.forall_mem_append.mpr ⟨lw_r2, List.forall_mem_append.mpr ⟨lw_r3, List.forall_mem_append.mpr ⟨lw_r4, List.forall_mem_append.mpr ⟨lw_r5, List.forall_mem_append.mpr ⟨lw_r6, List.forall_mem_append.mpr ⟨lw_r7, lw_r8⟩⟩⟩⟩⟩⟩⟩
-- ===== names of classes, fields, methods =====
def RX0 : String := "KeptSummaries$Cut"
def TX0 : u_T := fun k => match k with
  | 0 => ("KeptSummaries$Cut", "levels", "[I", true)
  | 1 => ("KeptSummaries$Cut", "lets", "[I", true)
  | 2 => ("KeptSummaries$Cut", "keeps", "I", false)
  | _ => ("KeptSummaries$Cut", "what", "I", false)
def tyX0 : Nat → FieldType := fun k => match k with
  | 0 => .array .int
  | 1 => .array .int
  | 2 => .int
  | _ => .int
theorem nmX0 : ∀ a, a < 4 → ∀ b, b < 4 → a ≠ b → (TX0 a).2.1 ≠ (TX0 b).2.1 := by decide +kernel
theorem tyX0_ok : ∀ k, k < 4 → parseFieldDescriptor (TX0 k).2.2.1 = some (tyX0 k) := by decide +kernel
abbrev cX0_init : ByteArray := prog_2_method_1_code
def yX0_init : MethodName := ⟨RX0, "<init>", "()V"⟩
abbrev cX0_clear : ByteArray := prog_2_method_2_code
def yX0_clear : MethodName := ⟨RX0, "clear", "()V"⟩
abbrev cX0_copyFrom : ByteArray := prog_2_method_3_code
def yX0_copyFrom : MethodName := ⟨RX0, "copyFrom", "(LKeptSummaries$Cut;)V"⟩
abbrev cX0_levelOf : ByteArray := prog_2_method_4_code
def yX0_levelOf : MethodName := ⟨RX0, "levelOf", "(I)I"⟩
abbrev cX0_letsOf : ByteArray := prog_2_method_5_code
def yX0_letsOf : MethodName := ⟨RX0, "letsOf", "(I)I"⟩
abbrev cX0_tellLevel : ByteArray := prog_2_method_6_code
def yX0_tellLevel : MethodName := ⟨RX0, "tellLevel", "(II)V"⟩
abbrev cX0_tellLets : ByteArray := prog_2_method_7_code
def yX0_tellLets : MethodName := ⟨RX0, "tellLets", "(II)V"⟩
abbrev cX0_levelOrLets : ByteArray := prog_2_method_8_code
def yX0_levelOrLets : MethodName := ⟨RX0, "levelOrLets", "(I)I"⟩
abbrev cX0_letsTriple : ByteArray := prog_2_method_9_code
def yX0_letsTriple : MethodName := ⟨RX0, "letsTriple", "(I)Z"⟩
abbrev cX0_keepsAll : ByteArray := prog_2_method_10_code
def yX0_keepsAll : MethodName := ⟨RX0, "keepsAll", "(I)Z"⟩
abbrev cX0_coversSides : ByteArray := prog_2_method_11_code
def yX0_coversSides : MethodName := ⟨RX0, "coversSides", "(LKeptSummaries$Cut;LKeptSummaries$Shape;)Z"⟩
abbrev cX0_coversSide : ByteArray := prog_2_method_12_code
def yX0_coversSide : MethodName := ⟨RX0, "coversSide", "(ILKeptSummaries$Cut;LKeptSummaries$Shape;)Z"⟩
abbrev cX0_leftOutFor : ByteArray := prog_2_method_13_code
def yX0_leftOutFor : MethodName := ⟨RX0, "leftOutFor", "(LKeptSummaries$Cut;)I"⟩
abbrev cX0_rolledUpFor : ByteArray := prog_2_method_14_code
def yX0_rolledUpFor : MethodName := ⟨RX0, "rolledUpFor", "(LKeptSummaries$Cut;)I"⟩
abbrev cX0_liesIn : ByteArray := prog_2_method_15_code
def yX0_liesIn : MethodName := ⟨RX0, "liesIn", "(ILKeptSummaries$Cut;LKeptSummaries$Shape;)Z"⟩
abbrev cX0_rolledKey : ByteArray := prog_2_method_16_code
def yX0_rolledKey : MethodName := ⟨RX0, "rolledKey", "(ILKeptSummaries$Cut;LKeptSummaries$Shape;)I"⟩
abbrev cX0_rolledNumber : ByteArray := prog_2_method_17_code
def yX0_rolledNumber : MethodName := ⟨RX0, "rolledNumber", "(IILKeptSummaries$Cut;LKeptSummaries$Shape;)I"⟩
def RX1 : String := "KeptSummaries$Facts"
def TX1 : u_T := fun k => match k with
  | 0 => ("KeptSummaries$Facts", "triples", "[I", true)
  | 1 => ("KeptSummaries$Facts", "measures", "[I", true)
  | 2 => ("KeptSummaries$Facts", "size", "I", false)
  | 3 => ("KeptSummaries$Facts", "byMeasure", "[I", true)
  | 4 => ("KeptSummaries$Facts", "ranksOf", "[I", true)
  | _ => ("KeptSummaries$Facts", "met", "[I", true)
def tyX1 : Nat → FieldType := fun k => match k with
  | 0 => .array .int
  | 1 => .array .int
  | 2 => .int
  | 3 => .array .int
  | 4 => .array .int
  | _ => .array .int
theorem nmX1 : ∀ a, a < 6 → ∀ b, b < 6 → a ≠ b → (TX1 a).2.1 ≠ (TX1 b).2.1 := by decide +kernel
theorem tyX1_ok : ∀ k, k < 6 → parseFieldDescriptor (TX1 k).2.2.1 = some (tyX1 k) := by decide +kernel
abbrev cX1_init : ByteArray := prog_3_method_1_code
def yX1_init : MethodName := ⟨RX1, "<init>", "()V"⟩
abbrev cX1_add : ByteArray := prog_3_method_2_code
def yX1_add : MethodName := ⟨RX1, "add", "(II)V"⟩
abbrev cX1_tripleAt : ByteArray := prog_3_method_3_code
def yX1_tripleAt : MethodName := ⟨RX1, "tripleAt", "(I)I"⟩
abbrev cX1_measureAt : ByteArray := prog_3_method_4_code
def yX1_measureAt : MethodName := ⟨RX1, "measureAt", "(I)I"⟩
abbrev cX1_measuresAdded : ByteArray := prog_3_method_5_code
def yX1_measuresAdded : MethodName := ⟨RX1, "measuresAdded", "()I"⟩
abbrev cX1_letBy : ByteArray := prog_3_method_6_code
def yX1_letBy : MethodName := ⟨RX1, "letBy", "(LKeptSummaries$Cut;I)I"⟩
abbrev cX1_tally : ByteArray := prog_3_method_7_code
def yX1_tally : MethodName := ⟨RX1, "tally", "(LKeptSummaries$Table;LKeptSummaries$Cut;LKeptSummaries$Shape;II)V"⟩
abbrev cX1_tallySingled : ByteArray := prog_3_method_8_code
def yX1_tallySingled : MethodName := ⟨RX1, "tallySingled", "(LKeptSummaries$Table;LKeptSummaries$Cut;LKeptSummaries$Shape;)V"⟩
abbrev cX1_meetUnlike : ByteArray := prog_3_method_9_code
def yX1_meetUnlike : MethodName := ⟨RX1, "meetUnlike", "(LKeptSummaries$Table;II)V"⟩
abbrev cX1_meetMiddle : ByteArray := prog_3_method_10_code
def yX1_meetMiddle : MethodName := ⟨RX1, "meetMiddle", "(LKeptSummaries$Table;II)V"⟩
abbrev cX1_sortByMeasure : ByteArray := prog_3_method_11_code
def yX1_sortByMeasure : MethodName := ⟨RX1, "sortByMeasure", "()V"⟩
abbrev cX1_countMeasure : ByteArray := prog_3_method_12_code
def yX1_countMeasure : MethodName := ⟨RX1, "countMeasure", "(I)V"⟩
abbrev cX1_nextRank : ByteArray := prog_3_method_13_code
def yX1_nextRank : MethodName := ⟨RX1, "nextRank", "(I)I"⟩
def RX2 : String := "KeptSummaries$FormReader"
def TX2 : u_T := fun k => match k with
  | 0 => ("KeptSummaries$FormReader", "tape", "LKeptSummaries$Tape;", true)
  | 1 => ("KeptSummaries$FormReader", "shape", "LKeptSummaries$Shape;", true)
  | _ => ("KeptSummaries$FormReader", "cut", "LKeptSummaries$Cut;", true)
def tyX2 : Nat → FieldType := fun k => match k with
  | 0 => .object "KeptSummaries$Tape"
  | 1 => .object "KeptSummaries$Shape"
  | _ => .object "KeptSummaries$Cut"
theorem nmX2 : ∀ a, a < 3 → ∀ b, b < 3 → a ≠ b → (TX2 a).2.1 ≠ (TX2 b).2.1 := by decide +kernel
theorem tyX2_ok : ∀ k, k < 3 → parseFieldDescriptor (TX2 k).2.2.1 = some (tyX2 k) := by decide +kernel
abbrev cX2_init : ByteArray := prog_4_method_1_code
def yX2_init : MethodName := ⟨RX2, "<init>", "(LKeptSummaries$Tape;)V"⟩
abbrev cX2_readShape : ByteArray := prog_4_method_2_code
def yX2_readShape : MethodName := ⟨RX2, "readShape", "(LKeptSummaries$Shape;)I"⟩
abbrev cX2_readLine : ByteArray := prog_4_method_3_code
def yX2_readLine : MethodName := ⟨RX2, "readLine", "(I)I"⟩
abbrev cX2_readSummary : ByteArray := prog_4_method_4_code
def yX2_readSummary : MethodName := ⟨RX2, "readSummary", "(LKeptSummaries$Shape;)V"⟩
abbrev cX2_readQuestion : ByteArray := prog_4_method_5_code
def yX2_readQuestion : MethodName := ⟨RX2, "readQuestion", "(LKeptSummaries$Shape;)V"⟩
abbrev cX2_readLevels : ByteArray := prog_4_method_6_code
def yX2_readLevels : MethodName := ⟨RX2, "readLevels", "()V"⟩
abbrev cX2_readParts : ByteArray := prog_4_method_7_code
def yX2_readParts : MethodName := ⟨RX2, "readParts", "()V"⟩
abbrev cX2_readSpans : ByteArray := prog_4_method_8_code
def yX2_readSpans : MethodName := ⟨RX2, "readSpans", "(LKeptSummaries$Shape;)V"⟩
abbrev cX2_readSpan : ByteArray := prog_4_method_9_code
def yX2_readSpan : MethodName := ⟨RX2, "readSpan", "(ILKeptSummaries$Shape;)I"⟩
abbrev cX2_readSide : ByteArray := prog_4_method_10_code
def yX2_readSide : MethodName := ⟨RX2, "readSide", "()I"⟩
abbrev cX2_readDigit : ByteArray := prog_4_method_11_code
def yX2_readDigit : MethodName := ⟨RX2, "readDigit", "(I)I"⟩
abbrev cX2_readLevel : ByteArray := prog_4_method_12_code
def yX2_readLevel : MethodName := ⟨RX2, "readLevel", "(I)I"⟩
abbrev cX2_whatOf : ByteArray := prog_4_method_13_code
def yX2_whatOf : MethodName := ⟨RX2, "whatOf", "(I)I"⟩
def RX3 : String := "KeptSummaries$Lattice"
def TX3 : u_T := fun k => match k with
  | 0 => ("KeptSummaries$Lattice", "groupCounts", "[I", true)
  | 1 => ("KeptSummaries$Lattice", "nodesBelow", "[I", true)
  | 2 => ("KeptSummaries$Lattice", "least", "[I", true)
  | 3 => ("KeptSummaries$Lattice", "picks", "[I", true)
  | 4 => ("KeptSummaries$Lattice", "pickedPrice", "I", false)
  | 5 => ("KeptSummaries$Lattice", "rows", "[I", true)
  | 6 => ("KeptSummaries$Lattice", "rowsAtLevel", "[I", true)
  | 7 => ("KeptSummaries$Lattice", "merged", "[I", true)
  | _ => ("KeptSummaries$Lattice", "facts", "I", false)
def tyX3 : Nat → FieldType := fun k => match k with
  | 0 => .array .int
  | 1 => .array .int
  | 2 => .array .int
  | 3 => .array .int
  | 4 => .int
  | 5 => .array .int
  | 6 => .array .int
  | 7 => .array .int
  | _ => .int
theorem nmX3 : ∀ a, a < 9 → ∀ b, b < 9 → a ≠ b → (TX3 a).2.1 ≠ (TX3 b).2.1 := by decide +kernel
theorem tyX3_ok : ∀ k, k < 9 → parseFieldDescriptor (TX3 k).2.2.1 = some (tyX3 k) := by decide +kernel
abbrev cX3_init : ByteArray := prog_5_method_1_code
def yX3_init : MethodName := ⟨RX3, "<init>", "()V"⟩
abbrev cX3_isNoFiner : ByteArray := prog_5_method_2_code
def yX3_isNoFiner : MethodName := ⟨RX3, "isNoFiner", "(II)Z"⟩
abbrev cX3_isBelow : ByteArray := prog_5_method_3_code
def yX3_isBelow : MethodName := ⟨RX3, "isBelow", "(II)Z"⟩
abbrev cX3_groupsOf : ByteArray := prog_5_method_4_code
def yX3_groupsOf : MethodName := ⟨RX3, "groupsOf", "(I)I"⟩
abbrev cX3_pickAt : ByteArray := prog_5_method_5_code
def yX3_pickAt : MethodName := ⟨RX3, "pickAt", "(I)I"⟩
abbrev cX3_recount : ByteArray := prog_5_method_6_code
def yX3_recount : MethodName := ⟨RX3, "recount", "(LKeptSummaries$Facts;LKeptSummaries$Shape;)V"⟩
abbrev cX3_mergedGroups : ByteArray := prog_5_method_7_code
def yX3_mergedGroups : MethodName := ⟨RX3, "mergedGroups", "(ILKeptSummaries$Shape;)I"⟩
abbrev cX3_priceOf : ByteArray := prog_5_method_8_code
def yX3_priceOf : MethodName := ⟨RX3, "priceOf", "(I)I"⟩
abbrev cX3_pickGreedily : ByteArray := prog_5_method_9_code
def yX3_pickGreedily : MethodName := ⟨RX3, "pickGreedily", "(I)V"⟩
abbrev cX3_pickNext : ByteArray := prog_5_method_10_code
def yX3_pickNext : MethodName := ⟨RX3, "pickNext", "(II)V"⟩
abbrev cX3_pickBestTwo : ByteArray := prog_5_method_11_code
def yX3_pickBestTwo : MethodName := ⟨RX3, "pickBestTwo", "()V"⟩
abbrev cX3_tellNone : ByteArray := prog_5_method_12_code
def yX3_tellNone : MethodName := ⟨RX3, "tellNone", "()V"⟩
abbrev cX3_tell : ByteArray := prog_5_method_13_code
def yX3_tell : MethodName := ⟨RX3, "tell", "(I)V"⟩
abbrev cX3_priceWith : ByteArray := prog_5_method_14_code
def yX3_priceWith : MethodName := ⟨RX3, "priceWith", "(I)I"⟩
def RX4 : String := "KeptSummaries$Law"
def TX4 : u_T := fun k => match k with
  | 0 => ("KeptSummaries$Law", "steps", "[I", true)
  | 1 => ("KeptSummaries$Law", "operands", "[I", true)
  | 2 => ("KeptSummaries$Law", "size", "I", false)
  | 3 => ("KeptSummaries$Law", "heads", "[I", true)
  | 4 => ("KeptSummaries$Law", "starts", "[I", true)
  | 5 => ("KeptSummaries$Law", "conditions", "[I", true)
  | 6 => ("KeptSummaries$Law", "ends", "[I", true)
  | 7 => ("KeptSummaries$Law", "rules", "I", false)
  | 8 => ("KeptSummaries$Law", "stack", "[I", true)
  | 9 => ("KeptSummaries$Law", "top", "I", false)
  | 10 => ("KeptSummaries$Law", "refused", "Z", false)
  | _ => ("KeptSummaries$Law", "letters", "[I", true)
def tyX4 : Nat → FieldType := fun k => match k with
  | 0 => .array .int
  | 1 => .array .int
  | 2 => .int
  | 3 => .array .int
  | 4 => .array .int
  | 5 => .array .int
  | 6 => .array .int
  | 7 => .int
  | 8 => .array .int
  | 9 => .int
  | 10 => .boolean
  | _ => .array .int
theorem nmX4 : ∀ a, a < 12 → ∀ b, b < 12 → a ≠ b → (TX4 a).2.1 ≠ (TX4 b).2.1 := by decide +kernel
theorem tyX4_ok : ∀ k, k < 12 → parseFieldDescriptor (TX4 k).2.2.1 = some (tyX4 k) := by decide +kernel
abbrev cX4_init : ByteArray := prog_6_method_1_code
def yX4_init : MethodName := ⟨RX4, "<init>", "()V"⟩
abbrev cX4_clear : ByteArray := prog_6_method_2_code
def yX4_clear : MethodName := ⟨RX4, "clear", "()V"⟩
abbrev cX4_addStep : ByteArray := prog_6_method_3_code
def yX4_addStep : MethodName := ⟨RX4, "addStep", "(II)I"⟩
abbrev cX4_leadHere : ByteArray := prog_6_method_4_code
def yX4_leadHere : MethodName := ⟨RX4, "leadHere", "(I)V"⟩
abbrev cX4_addRule : ByteArray := prog_6_method_5_code
def yX4_addRule : MethodName := ⟨RX4, "addRule", "(III)V"⟩
abbrev cX4_letterOf : ByteArray := prog_6_method_6_code
def yX4_letterOf : MethodName := ⟨RX4, "letterOf", "(I)I"⟩
abbrev cX4_tell : ByteArray := prog_6_method_7_code
def yX4_tell : MethodName := ⟨RX4, "tell", "(IIIII)V"⟩
abbrev cX4_refuses : ByteArray := prog_6_method_8_code
def yX4_refuses : MethodName := ⟨RX4, "refuses", "()Z"⟩
abbrev cX4_measureFor : ByteArray := prog_6_method_9_code
def yX4_measureFor : MethodName := ⟨RX4, "measureFor", "(I)I"⟩
abbrev cX4_summaryToRenew : ByteArray := prog_6_method_10_code
def yX4_summaryToRenew : MethodName := ⟨RX4, "summaryToRenew", "()I"⟩
abbrev cX4_firstHolding : ByteArray := prog_6_method_11_code
def yX4_firstHolding : MethodName := ⟨RX4, "firstHolding", "(I)I"⟩
abbrev cX4_result : ByteArray := prog_6_method_12_code
def yX4_result : MethodName := ⟨RX4, "result", "(I)I"⟩
abbrev cX4_run : ByteArray := prog_6_method_13_code
def yX4_run : MethodName := ⟨RX4, "run", "(II)I"⟩
abbrev cX4_afterTest : ByteArray := prog_6_method_14_code
def yX4_afterTest : MethodName := ⟨RX4, "afterTest", "(II)I"⟩
abbrev cX4_reckon : ByteArray := prog_6_method_15_code
def yX4_reckon : MethodName := ⟨RX4, "reckon", "(III)I"⟩
abbrev cX4_letterAt : ByteArray := prog_6_method_16_code
def yX4_letterAt : MethodName := ⟨RX4, "letterAt", "(I)I"⟩
abbrev cX4_push : ByteArray := prog_6_method_17_code
def yX4_push : MethodName := ⟨RX4, "push", "(I)V"⟩
abbrev cX4_pop : ByteArray := prog_6_method_18_code
def yX4_pop : MethodName := ⟨RX4, "pop", "()I"⟩
def RX5 : String := "KeptSummaries$LawReader"
def TX5 : u_T := fun k => match k with
  | 0 => ("KeptSummaries$LawReader", "tape", "LKeptSummaries$Tape;", true)
  | _ => ("KeptSummaries$LawReader", "spare", "LKeptSummaries$Law;", false)
def tyX5 : Nat → FieldType := fun k => match k with
  | 0 => .object "KeptSummaries$Tape"
  | _ => .object "KeptSummaries$Law"
theorem nmX5 : ∀ a, a < 2 → ∀ b, b < 2 → a ≠ b → (TX5 a).2.1 ≠ (TX5 b).2.1 := by decide +kernel
theorem tyX5_ok : ∀ k, k < 2 → parseFieldDescriptor (TX5 k).2.2.1 = some (tyX5 k) := by decide +kernel
abbrev cX5_init : ByteArray := prog_7_method_1_code
def yX5_init : MethodName := ⟨RX5, "<init>", "(LKeptSummaries$Tape;)V"⟩
abbrev cX5_exchange : ByteArray := prog_7_method_2_code
def yX5_exchange : MethodName := ⟨RX5, "exchange", "(LKeptSummaries$Law;)LKeptSummaries$Law;"⟩
abbrev cX5_readRules : ByteArray := prog_7_method_3_code
def yX5_readRules : MethodName := ⟨RX5, "readRules", "()V"⟩
abbrev cX5_readHead : ByteArray := prog_7_method_4_code
def yX5_readHead : MethodName := ⟨RX5, "readHead", "()I"⟩
abbrev cX5_readCondition : ByteArray := prog_7_method_5_code
def yX5_readCondition : MethodName := ⟨RX5, "readCondition", "(I)V"⟩
abbrev cX5_readTest : ByteArray := prog_7_method_6_code
def yX5_readTest : MethodName := ⟨RX5, "readTest", "(I)V"⟩
abbrev cX5_readSum : ByteArray := prog_7_method_7_code
def yX5_readSum : MethodName := ⟨RX5, "readSum", "(I)V"⟩
abbrev cX5_addWaiting : ByteArray := prog_7_method_8_code
def yX5_addWaiting : MethodName := ⟨RX5, "addWaiting", "(I)V"⟩
abbrev cX5_readFactor : ByteArray := prog_7_method_9_code
def yX5_readFactor : MethodName := ⟨RX5, "readFactor", "(I)V"⟩
abbrev cX5_readNumber : ByteArray := prog_7_method_10_code
def yX5_readNumber : MethodName := ⟨RX5, "readNumber", "()I"⟩
def RX6 : String := "KeptSummaries$Shape"
def TX6 : u_T := fun k => match k with
  | _ => ("KeptSummaries$Shape", "coarseOnes", "[I", true)
def tyX6 : Nat → FieldType := fun k => match k with
  | _ => .array .int
theorem nmX6 : ∀ a, a < 1 → ∀ b, b < 1 → a ≠ b → (TX6 a).2.1 ≠ (TX6 b).2.1 := by decide +kernel
theorem tyX6_ok : ∀ k, k < 1 → parseFieldDescriptor (TX6 k).2.2.1 = some (tyX6 k) := by decide +kernel
abbrev cX6_init : ByteArray := prog_8_method_1_code
def yX6_init : MethodName := ⟨RX6, "<init>", "()V"⟩
abbrev cX6_copyFrom : ByteArray := prog_8_method_2_code
def yX6_copyFrom : MethodName := ⟨RX6, "copyFrom", "(LKeptSummaries$Shape;)V"⟩
abbrev cX6_tell : ByteArray := prog_8_method_3_code
def yX6_tell : MethodName := ⟨RX6, "tell", "(III)V"⟩
abbrev cX6_numberOf : ByteArray := prog_8_method_4_code
def yX6_numberOf : MethodName := ⟨RX6, "numberOf", "(III)I"⟩
abbrev cX6_keyOf : ByteArray := prog_8_method_5_code
def yX6_keyOf : MethodName := ⟨RX6, "keyOf", "(ILKeptSummaries$Cut;)I"⟩
abbrev cX6_valuesWithin : ByteArray := prog_8_method_6_code
def yX6_valuesWithin : MethodName := ⟨RX6, "valuesWithin", "(IIII)I"⟩
abbrev cX6_numbersOf : ByteArray := prog_8_method_7_code
def yX6_numbersOf : MethodName := ⟨RX6, "numbersOf", "(III)I"⟩
def RX7 : String := "KeptSummaries$Shelf"
def TX7 : u_T := fun k => match k with
  | 0 => ("KeptSummaries$Shelf", "rows", "[LKeptSummaries$Summary;", true)
  | _ => ("KeptSummaries$Shelf", "size", "I", false)
def tyX7 : Nat → FieldType := fun k => match k with
  | 0 => .array (.object "KeptSummaries$Summary")
  | _ => .int
theorem nmX7 : ∀ a, a < 2 → ∀ b, b < 2 → a ≠ b → (TX7 a).2.1 ≠ (TX7 b).2.1 := by decide +kernel
theorem tyX7_ok : ∀ k, k < 2 → parseFieldDescriptor (TX7 k).2.2.1 = some (tyX7 k) := by decide +kernel
abbrev cX7_init : ByteArray := prog_9_method_1_code
def yX7_init : MethodName := ⟨RX7, "<init>", "()V"⟩
abbrev cX7_at : ByteArray := prog_9_method_2_code
def yX7_at : MethodName := ⟨RX7, "at", "(I)LKeptSummaries$Summary;"⟩
abbrev cX7_addOne : ByteArray := prog_9_method_3_code
def yX7_addOne : MethodName := ⟨RX7, "addOne", "()LKeptSummaries$Summary;"⟩
abbrev cX7_remove : ByteArray := prog_9_method_4_code
def yX7_remove : MethodName := ⟨RX7, "remove", "(I)V"⟩
abbrev cX7_copyFrom : ByteArray := prog_9_method_5_code
def yX7_copyFrom : MethodName := ⟨RX7, "copyFrom", "(LKeptSummaries$Shelf;)V"⟩
def RX8 : String := "KeptSummaries$Summary"
def TX8 : u_T := fun k => match k with
  | 0 => ("KeptSummaries$Summary", "cut", "LKeptSummaries$Cut;", true)
  | 1 => ("KeptSummaries$Summary", "upto", "I", false)
  | _ => ("KeptSummaries$Summary", "groups", "I", false)
def tyX8 : Nat → FieldType := fun k => match k with
  | 0 => .object "KeptSummaries$Cut"
  | 1 => .int
  | _ => .int
theorem nmX8 : ∀ a, a < 3 → ∀ b, b < 3 → a ≠ b → (TX8 a).2.1 ≠ (TX8 b).2.1 := by decide +kernel
theorem tyX8_ok : ∀ k, k < 3 → parseFieldDescriptor (TX8 k).2.2.1 = some (tyX8 k) := by decide +kernel
abbrev cX8_init : ByteArray := prog_10_method_1_code
def yX8_init : MethodName := ⟨RX8, "<init>", "()V"⟩
abbrev cX8_copyFrom : ByteArray := prog_10_method_2_code
def yX8_copyFrom : MethodName := ⟨RX8, "copyFrom", "(LKeptSummaries$Summary;)V"⟩
def RX9 : String := "KeptSummaries$Table"
def TX9 : u_T := fun k => match k with
  | 0 => ("KeptSummaries$Table", "counts", "[I", true)
  | 1 => ("KeptSummaries$Table", "sums", "[I", true)
  | 2 => ("KeptSummaries$Table", "leasts", "[I", true)
  | 3 => ("KeptSummaries$Table", "greatests", "[I", true)
  | 4 => ("KeptSummaries$Table", "singled", "[I", true)
  | _ => ("KeptSummaries$Table", "size", "I", false)
def tyX9 : Nat → FieldType := fun k => match k with
  | 0 => .array .int
  | 1 => .array .int
  | 2 => .array .int
  | 3 => .array .int
  | 4 => .array .int
  | _ => .int
theorem nmX9 : ∀ a, a < 6 → ∀ b, b < 6 → a ≠ b → (TX9 a).2.1 ≠ (TX9 b).2.1 := by decide +kernel
theorem tyX9_ok : ∀ k, k < 6 → parseFieldDescriptor (TX9 k).2.2.1 = some (tyX9 k) := by decide +kernel
abbrev cX9_init : ByteArray := prog_11_method_1_code
def yX9_init : MethodName := ⟨RX9, "<init>", "()V"⟩
abbrev cX9_clear : ByteArray := prog_11_method_2_code
def yX9_clear : MethodName := ⟨RX9, "clear", "()V"⟩
abbrev cX9_hasKey : ByteArray := prog_11_method_3_code
def yX9_hasKey : MethodName := ⟨RX9, "hasKey", "(I)Z"⟩
abbrev cX9_countAt : ByteArray := prog_11_method_4_code
def yX9_countAt : MethodName := ⟨RX9, "countAt", "(I)I"⟩
abbrev cX9_singledAt : ByteArray := prog_11_method_5_code
def yX9_singledAt : MethodName := ⟨RX9, "singledAt", "(I)I"⟩
abbrev cX9_single : ByteArray := prog_11_method_6_code
def yX9_single : MethodName := ⟨RX9, "single", "(II)V"⟩
abbrev cX9_addFact : ByteArray := prog_11_method_7_code
def yX9_addFact : MethodName := ⟨RX9, "addFact", "(II)V"⟩
abbrev cX9_addGroup : ByteArray := prog_11_method_8_code
def yX9_addGroup : MethodName := ⟨RX9, "addGroup", "(ILKeptSummaries$Table;I)V"⟩
abbrev cX9_addParts : ByteArray := prog_11_method_9_code
def yX9_addParts : MethodName := ⟨RX9, "addParts", "(IIIII)V"⟩
abbrev cX9_keyAt : ByteArray := prog_11_method_10_code
def yX9_keyAt : MethodName := ⟨RX9, "keyAt", "(I)I"⟩
abbrev cX9_valueAt : ByteArray := prog_11_method_11_code
def yX9_valueAt : MethodName := ⟨RX9, "valueAt", "(II)I"⟩
abbrev cX9_rankedKeyAt : ByteArray := prog_11_method_12_code
def yX9_rankedKeyAt : MethodName := ⟨RX9, "rankedKeyAt", "(II)I"⟩
abbrev cX9_groupsFrom : ByteArray := prog_11_method_13_code
def yX9_groupsFrom : MethodName := ⟨RX9, "groupsFrom", "(II)I"⟩
abbrev cX9_keyOfLike : ByteArray := prog_11_method_14_code
def yX9_keyOfLike : MethodName := ⟨RX9, "keyOfLike", "(III)I"⟩
abbrev cX9_unlikeGroups : ByteArray := prog_11_method_15_code
def yX9_unlikeGroups : MethodName := ⟨RX9, "unlikeGroups", "(LKeptSummaries$Table;I)I"⟩
def RX10 : String := "KeptSummaries$Tape"
def TX10 : u_T := fun k => match k with
  | 0 => ("KeptSummaries$Tape", "bytes", "[I", true)
  | 1 => ("KeptSummaries$Tape", "size", "I", false)
  | 2 => ("KeptSummaries$Tape", "length", "I", false)
  | 3 => ("KeptSummaries$Tape", "place", "I", false)
  | 4 => ("KeptSummaries$Tape", "fault", "I", false)
  | _ => ("KeptSummaries$Tape", "faultPlace", "I", false)
def tyX10 : Nat → FieldType := fun k => match k with
  | 0 => .array .int
  | 1 => .int
  | 2 => .int
  | 3 => .int
  | 4 => .int
  | _ => .int
theorem nmX10 : ∀ a, a < 6 → ∀ b, b < 6 → a ≠ b → (TX10 a).2.1 ≠ (TX10 b).2.1 := by decide +kernel
theorem tyX10_ok : ∀ k, k < 6 → parseFieldDescriptor (TX10 k).2.2.1 = some (tyX10 k) := by decide +kernel
abbrev cX10_init : ByteArray := prog_12_method_1_code
def yX10_init : MethodName := ⟨RX10, "<init>", "()V"⟩
abbrev cX10_append : ByteArray := prog_12_method_2_code
def yX10_append : MethodName := ⟨RX10, "append", "(I)V"⟩
abbrev cX10_has : ByteArray := prog_12_method_3_code
def yX10_has : MethodName := ⟨RX10, "has", "(III)Z"⟩
abbrev cX10_byteAt : ByteArray := prog_12_method_4_code
def yX10_byteAt : MethodName := ⟨RX10, "byteAt", "(I)I"⟩
abbrev cX10_clear : ByteArray := prog_12_method_5_code
def yX10_clear : MethodName := ⟨RX10, "clear", "()V"⟩
abbrev cX10_begin : ByteArray := prog_12_method_6_code
def yX10_begin : MethodName := ⟨RX10, "begin", "(I)V"⟩
abbrev cX10_peek : ByteArray := prog_12_method_7_code
def yX10_peek : MethodName := ⟨RX10, "peek", "()I"⟩
abbrev cX10_step : ByteArray := prog_12_method_8_code
def yX10_step : MethodName := ⟨RX10, "step", "()V"⟩
abbrev cX10_take : ByteArray := prog_12_method_9_code
def yX10_take : MethodName := ⟨RX10, "take", "(I)V"⟩
abbrev cX10_takeEnd : ByteArray := prog_12_method_10_code
def yX10_takeEnd : MethodName := ⟨RX10, "takeEnd", "()V"⟩
abbrev cX10_fail : ByteArray := prog_12_method_11_code
def yX10_fail : MethodName := ⟨RX10, "fail", "(I)V"⟩
abbrev cX10_failAt : ByteArray := prog_12_method_12_code
def yX10_failAt : MethodName := ⟨RX10, "failAt", "(II)V"⟩
abbrev cX10_faultAnswer : ByteArray := prog_12_method_13_code
def yX10_faultAnswer : MethodName := ⟨RX10, "faultAnswer", "()I"⟩
def RX11 : String := "KeptSummaries"
def TX11 : u_T := fun k => match k with
  | 0 => ("KeptSummaries", "tape", "LKeptSummaries$Tape;", true)
  | 1 => ("KeptSummaries", "lawReader", "LKeptSummaries$LawReader;", true)
  | 2 => ("KeptSummaries", "formReader", "LKeptSummaries$FormReader;", true)
  | 3 => ("KeptSummaries", "law", "LKeptSummaries$Law;", false)
  | 4 => ("KeptSummaries", "shape", "LKeptSummaries$Shape;", true)
  | 5 => ("KeptSummaries", "facts", "LKeptSummaries$Facts;", true)
  | 6 => ("KeptSummaries", "shelf", "LKeptSummaries$Shelf;", true)
  | 7 => ("KeptSummaries", "question", "LKeptSummaries$Cut;", true)
  | 8 => ("KeptSummaries", "asked", "Z", false)
  | 9 => ("KeptSummaries", "groups", "LKeptSummaries$Table;", true)
  | 10 => ("KeptSummaries", "byFacts", "LKeptSummaries$Table;", true)
  | 11 => ("KeptSummaries", "bySummary", "LKeptSummaries$Table;", true)
  | 12 => ("KeptSummaries", "lattice", "LKeptSummaries$Lattice;", true)
  | 13 => ("KeptSummaries", "x", "I", false)
  | 14 => ("KeptSummaries", "keptShelf", "LKeptSummaries$Shelf;", true)
  | 15 => ("KeptSummaries", "keptFacts", "I", false)
  | 16 => ("KeptSummaries", "keptX", "I", false)
  | _ => ("KeptSummaries", "shapedSinceKept", "Z", false)
def tyX11 : Nat → FieldType := fun k => match k with
  | 0 => .object "KeptSummaries$Tape"
  | 1 => .object "KeptSummaries$LawReader"
  | 2 => .object "KeptSummaries$FormReader"
  | 3 => .object "KeptSummaries$Law"
  | 4 => .object "KeptSummaries$Shape"
  | 5 => .object "KeptSummaries$Facts"
  | 6 => .object "KeptSummaries$Shelf"
  | 7 => .object "KeptSummaries$Cut"
  | 8 => .boolean
  | 9 => .object "KeptSummaries$Table"
  | 10 => .object "KeptSummaries$Table"
  | 11 => .object "KeptSummaries$Table"
  | 12 => .object "KeptSummaries$Lattice"
  | 13 => .int
  | 14 => .object "KeptSummaries$Shelf"
  | 15 => .int
  | 16 => .int
  | _ => .boolean
theorem nmX11 : ∀ a, a < 18 → ∀ b, b < 18 → a ≠ b → (TX11 a).2.1 ≠ (TX11 b).2.1 := by decide +kernel
theorem tyX11_ok : ∀ k, k < 18 → parseFieldDescriptor (TX11 k).2.2.1 = some (tyX11 k) := by decide +kernel
abbrev cX11_init : ByteArray := prog_1_method_1_code
def yX11_init : MethodName := ⟨RX11, "<init>", "()V"⟩
abbrev cX11_fact : ByteArray := prog_1_method_2_code
def yX11_fact : MethodName := ⟨RX11, "fact", "(IIII)I"⟩
abbrev cX11_draws : ByteArray := prog_1_method_3_code
def yX11_draws : MethodName := ⟨RX11, "draws", "(I)I"⟩
abbrev cX11_factIs : ByteArray := prog_1_method_4_code
def yX11_factIs : MethodName := ⟨RX11, "factIs", "(II)I"⟩
abbrev cX11_seed : ByteArray := prog_1_method_5_code
def yX11_seed : MethodName := ⟨RX11, "seed", "(I)Z"⟩
abbrev cX11_feed : ByteArray := prog_1_method_6_code
def yX11_feed : MethodName := ⟨RX11, "feed", "(IIIII)I"⟩
abbrev cX11_law : ByteArray := prog_1_method_7_code
def yX11_law : MethodName := ⟨RX11, "law", "(I)I"⟩
abbrev cX11_shape : ByteArray := prog_1_method_8_code
def yX11_shape : MethodName := ⟨RX11, "shape", "(I)I"⟩
abbrev cX11_summary : ByteArray := prog_1_method_9_code
def yX11_summary : MethodName := ⟨RX11, "summary", "(I)I"⟩
abbrev cX11_question : ByteArray := prog_1_method_10_code
def yX11_question : MethodName := ⟨RX11, "question", "(I)I"⟩
abbrev cX11_check : ByteArray := prog_1_method_11_code
def yX11_check : MethodName := ⟨RX11, "check", "(I)I"⟩
abbrev cX11_renew : ByteArray := prog_1_method_12_code
def yX11_renew : MethodName := ⟨RX11, "renew", "(I)I"⟩
abbrev cX11_drop : ByteArray := prog_1_method_13_code
def yX11_drop : MethodName := ⟨RX11, "drop", "(I)Z"⟩
abbrev cX11_coarse : ByteArray := prog_1_method_14_code
def yX11_coarse : MethodName := ⟨RX11, "coarse", "(II)I"⟩
abbrev cX11_summaryIs : ByteArray := prog_1_method_15_code
def yX11_summaryIs : MethodName := ⟨RX11, "summaryIs", "(II)I"⟩
abbrev cX11_group : ByteArray := prog_1_method_16_code
def yX11_group : MethodName := ⟨RX11, "group", "(III)I"⟩
abbrev cX11_madeOf : ByteArray := prog_1_method_17_code
def yX11_madeOf : MethodName := ⟨RX11, "madeOf", "(I)I"⟩
abbrev cX11_questionIs : ByteArray := prog_1_method_18_code
def yX11_questionIs : MethodName := ⟨RX11, "questionIs", "(I)I"⟩
abbrev cX11_covers : ByteArray := prog_1_method_19_code
def yX11_covers : MethodName := ⟨RX11, "covers", "(I)I"⟩
abbrev cX11_coverIs : ByteArray := prog_1_method_20_code
def yX11_coverIs : MethodName := ⟨RX11, "coverIs", "(II)I"⟩
abbrev cX11_way : ByteArray := prog_1_method_21_code
def yX11_way : MethodName := ⟨RX11, "way", "(I)I"⟩
abbrev cX11_answer : ByteArray := prog_1_method_22_code
def yX11_answer : MethodName := ⟨RX11, "answer", "(II)I"⟩
abbrev cX11_ranked : ByteArray := prog_1_method_23_code
def yX11_ranked : MethodName := ⟨RX11, "ranked", "(II)I"⟩
abbrev cX11_answerBy : ByteArray := prog_1_method_24_code
def yX11_answerBy : MethodName := ⟨RX11, "answerBy", "(III)I"⟩
abbrev cX11_unlike : ByteArray := prog_1_method_25_code
def yX11_unlike : MethodName := ⟨RX11, "unlike", "(I)I"⟩
abbrev cX11_node : ByteArray := prog_1_method_26_code
def yX11_node : MethodName := ⟨RX11, "node", "(I)I"⟩
abbrev cX11_below : ByteArray := prog_1_method_27_code
def yX11_below : MethodName := ⟨RX11, "below", "(II)I"⟩
abbrev cX11_price : ByteArray := prog_1_method_28_code
def yX11_price : MethodName := ⟨RX11, "price", "(I)I"⟩
abbrev cX11_greedy : ByteArray := prog_1_method_29_code
def yX11_greedy : MethodName := ⟨RX11, "greedy", "(II)I"⟩
abbrev cX11_best : ByteArray := prog_1_method_30_code
def yX11_best : MethodName := ⟨RX11, "best", "(II)I"⟩
abbrev cX11_keep : ByteArray := prog_1_method_31_code
def yX11_keep : MethodName := ⟨RX11, "keep", "()I"⟩
abbrev cX11_undo : ByteArray := prog_1_method_32_code
def yX11_undo : MethodName := ⟨RX11, "undo", "()Z"⟩
abbrev cX11_count : ByteArray := prog_1_method_33_code
def yX11_count : MethodName := ⟨RX11, "count", "(I)I"⟩
abbrev cX11_nextX : ByteArray := prog_1_method_34_code
def yX11_nextX : MethodName := ⟨RX11, "nextX", "()I"⟩
abbrev cX11_comes : ByteArray := prog_1_method_35_code
def yX11_comes : MethodName := ⟨RX11, "comes", "(II)Z"⟩
abbrev cX11_makeAnew : ByteArray := prog_1_method_36_code
def yX11_makeAnew : MethodName := ⟨RX11, "makeAnew", "(LKeptSummaries$Summary;)V"⟩
abbrev cX11_tallyGroups : ByteArray := prog_1_method_37_code
def yX11_tallyGroups : MethodName := ⟨RX11, "tallyGroups", "(LKeptSummaries$Summary;)V"⟩
abbrev cX11_costOf : ByteArray := prog_1_method_38_code
def yX11_costOf : MethodName := ⟨RX11, "costOf", "(LKeptSummaries$Summary;)I"⟩
abbrev cX11_isCovering : ByteArray := prog_1_method_39_code
def yX11_isCovering : MethodName := ⟨RX11, "isCovering", "(LKeptSummaries$Summary;)Z"⟩
abbrev cX11_groupsInside : ByteArray := prog_1_method_40_code
def yX11_groupsInside : MethodName := ⟨RX11, "groupsInside", "(LKeptSummaries$Cut;)I"⟩
abbrev cX11_cheapestWay : ByteArray := prog_1_method_41_code
def yX11_cheapestWay : MethodName := ⟨RX11, "cheapestWay", "()I"⟩
abbrev cX11_tallyAnswer : ByteArray := prog_1_method_42_code
def yX11_tallyAnswer : MethodName := ⟨RX11, "tallyAnswer", "(LKeptSummaries$Summary;)LKeptSummaries$Table;"⟩
abbrev cX11_answerAt : ByteArray := prog_1_method_43_code
def yX11_answerAt : MethodName := ⟨RX11, "answerAt", "(LKeptSummaries$Table;II)I"⟩
abbrev cX11_isAnswerPlace : ByteArray := prog_1_method_44_code
def yX11_isAnswerPlace : MethodName := ⟨RX11, "isAnswerPlace", "(II)Z"⟩
abbrev cX11_isSide : ByteArray := prog_1_method_45_code
def yX11_isSide : MethodName := ⟨RX11, "isSide", "(I)Z"⟩
abbrev cX11_isValue : ByteArray := prog_1_method_46_code
def yX11_isValue : MethodName := ⟨RX11, "isValue", "(I)Z"⟩
abbrev cX11_isNode : ByteArray := prog_1_method_47_code
def yX11_isNode : MethodName := ⟨RX11, "isNode", "(I)Z"⟩
abbrev cX11_isDigit : ByteArray := prog_1_method_48_code
def yX11_isDigit : MethodName := ⟨RX11, "isDigit", "(I)Z"⟩
abbrev cX11_isLevelOrLets : ByteArray := prog_1_method_49_code
def yX11_isLevelOrLets : MethodName := ⟨RX11, "isLevelOrLets", "(I)Z"⟩
abbrev cX11_tripleOf : ByteArray := prog_1_method_50_code
def yX11_tripleOf : MethodName := ⟨RX11, "tripleOf", "(III)I"⟩
abbrev cX11_numberIn : ByteArray := prog_1_method_51_code
def yX11_numberIn : MethodName := ⟨RX11, "numberIn", "(II)I"⟩
abbrev cX11_partsFor : ByteArray := prog_1_method_52_code
def yX11_partsFor : MethodName := ⟨RX11, "partsFor", "(I)I"⟩
abbrev cX11_levelIn : ByteArray := prog_1_method_53_code
def yX11_levelIn : MethodName := ⟨RX11, "levelIn", "(II)I"⟩
def RX12 : String := "KeptSummariesModel"
def TX12 : u_T := fun k => match k with
  | 0 => ("KeptSummariesModel", "lot", "I", false)
  | 1 => ("KeptSummariesModel", "factMany", "I", false)
  | 2 => ("KeptSummariesModel", "summaryMany", "I", false)
  | 3 => ("KeptSummariesModel", "shapes", "I", false)
  | 4 => ("KeptSummariesModel", "factOfAll", "[I", true)
  | 5 => ("KeptSummariesModel", "summaryOf", "[I", true)
  | 6 => ("KeptSummariesModel", "coarseOf", "[I", true)
  | 7 => ("KeptSummariesModel", "tape", "[B", true)
  | 8 => ("KeptSummariesModel", "taped", "I", false)
  | 9 => ("KeptSummariesModel", "place0", "I", false)
  | 10 => ("KeptSummariesModel", "length0", "I", false)
  | 11 => ("KeptSummariesModel", "fault", "I", false)
  | 12 => ("KeptSummariesModel", "number0", "I", false)
  | 13 => ("KeptSummariesModel", "open", "I", false)
  | 14 => ("KeptSummariesModel", "codeMany", "I", false)
  | 15 => ("KeptSummariesModel", "waiting", "I", false)
  | 16 => ("KeptSummariesModel", "saidMany", "I", false)
  | 17 => ("KeptSummariesModel", "clauses", "I", false)
  | 18 => ("KeptSummariesModel", "said", "[I", true)
  | 19 => ("KeptSummariesModel", "waitsAt", "[I", true)
  | 20 => ("KeptSummariesModel", "saidLetter", "[I", true)
  | 21 => ("KeptSummariesModel", "saidFrom", "[I", true)
  | 22 => ("KeptSummariesModel", "saidHalf", "[I", true)
  | 23 => ("KeptSummariesModel", "saidTo", "[I", true)
  | 24 => ("KeptSummariesModel", "codes", "[I", true)
  | 25 => ("KeptSummariesModel", "clauseOf", "[I", true)
  | 26 => ("KeptSummariesModel", "codeFrom", "[I", true)
  | 27 => ("KeptSummariesModel", "codeHalf", "[I", true)
  | 28 => ("KeptSummariesModel", "codeTo", "[I", true)
  | 29 => ("KeptSummariesModel", "stack", "[I", true)
  | 30 => ("KeptSummariesModel", "facts", "[I", true)
  | 31 => ("KeptSummariesModel", "newCoarse", "[I", true)
  | 32 => ("KeptSummariesModel", "newTold", "I", false)
  | 33 => ("KeptSummariesModel", "newLines", "I", false)
  | 34 => ("KeptSummariesModel", "newOf", "[I", true)
  | 35 => ("KeptSummariesModel", "questionOf", "[I", true)
  | 36 => ("KeptSummariesModel", "isAsked", "Z", false)
  | 37 => ("KeptSummariesModel", "sumAt", "[I", true)
  | 38 => ("KeptSummariesModel", "countAt", "[I", true)
  | 39 => ("KeptSummariesModel", "leastAt", "[I", true)
  | 40 => ("KeptSummariesModel", "greatestAt", "[I", true)
  | 41 => ("KeptSummariesModel", "answerMany", "I", false)
  | 42 => ("KeptSummariesModel", "answerAt", "[I", true)
  | 43 => ("KeptSummariesModel", "answerIs", "[I", true)
  | 44 => ("KeptSummariesModel", "plainAt", "[I", true)
  | 45 => ("KeptSummariesModel", "heldSum", "[I", true)
  | 46 => ("KeptSummariesModel", "heldCount", "[I", true)
  | 47 => ("KeptSummariesModel", "heldLeast", "[I", true)
  | 48 => ("KeptSummariesModel", "heldGreatest", "[I", true)
  | 49 => ("KeptSummariesModel", "times", "[I", true)
  | 50 => ("KeptSummariesModel", "nodeRow", "[I", true)
  | 51 => ("KeptSummariesModel", "groupsAt", "[I", true)
  | 52 => ("KeptSummariesModel", "chosen", "[I", true)
  | 53 => ("KeptSummariesModel", "isKept", "Z", false)
  | 54 => ("KeptSummariesModel", "keptFacts", "I", false)
  | 55 => ("KeptSummariesModel", "keptSummaries", "I", false)
  | 56 => ("KeptSummariesModel", "keptLot", "I", false)
  | 57 => ("KeptSummariesModel", "keptShapes", "I", false)
  | 58 => ("KeptSummariesModel", "keptFact", "[I", true)
  | _ => ("KeptSummariesModel", "keptSummary", "[I", true)
def tyX12 : Nat → FieldType := fun k => match k with
  | 0 => .int
  | 1 => .int
  | 2 => .int
  | 3 => .int
  | 4 => .array .int
  | 5 => .array .int
  | 6 => .array .int
  | 7 => .array .byte
  | 8 => .int
  | 9 => .int
  | 10 => .int
  | 11 => .int
  | 12 => .int
  | 13 => .int
  | 14 => .int
  | 15 => .int
  | 16 => .int
  | 17 => .int
  | 18 => .array .int
  | 19 => .array .int
  | 20 => .array .int
  | 21 => .array .int
  | 22 => .array .int
  | 23 => .array .int
  | 24 => .array .int
  | 25 => .array .int
  | 26 => .array .int
  | 27 => .array .int
  | 28 => .array .int
  | 29 => .array .int
  | 30 => .array .int
  | 31 => .array .int
  | 32 => .int
  | 33 => .int
  | 34 => .array .int
  | 35 => .array .int
  | 36 => .boolean
  | 37 => .array .int
  | 38 => .array .int
  | 39 => .array .int
  | 40 => .array .int
  | 41 => .int
  | 42 => .array .int
  | 43 => .array .int
  | 44 => .array .int
  | 45 => .array .int
  | 46 => .array .int
  | 47 => .array .int
  | 48 => .array .int
  | 49 => .array .int
  | 50 => .array .int
  | 51 => .array .int
  | 52 => .array .int
  | 53 => .boolean
  | 54 => .int
  | 55 => .int
  | 56 => .int
  | 57 => .int
  | 58 => .array .int
  | _ => .array .int
theorem nmX12 : ∀ a, a < 60 → ∀ b, b < 60 → a ≠ b → (TX12 a).2.1 ≠ (TX12 b).2.1 := by decide +kernel
theorem tyX12_ok : ∀ k, k < 60 → parseFieldDescriptor (TX12 k).2.2.1 = some (tyX12 k) := by decide +kernel
abbrev cX12_init : ByteArray := prog_14_method_1_code
def yX12_init : MethodName := ⟨RX12, "<init>", "()V"⟩
abbrev cX12_in : ByteArray := prog_14_method_2_code
def yX12_in : MethodName := ⟨RX12, "in", "(III)Z"⟩
abbrev cX12_min : ByteArray := prog_14_method_3_code
def yX12_min : MethodName := ⟨RX12, "min", "(II)I"⟩
abbrev cX12_max : ByteArray := prog_14_method_4_code
def yX12_max : MethodName := ⟨RX12, "max", "(II)I"⟩
abbrev cX12_has : ByteArray := prog_14_method_5_code
def yX12_has : MethodName := ⟨RX12, "has", "(II)Z"⟩
abbrev cX12_isSide : ByteArray := prog_14_method_6_code
def yX12_isSide : MethodName := ⟨RX12, "isSide", "(I)Z"⟩
abbrev cX12_isValue : ByteArray := prog_14_method_7_code
def yX12_isValue : MethodName := ⟨RX12, "isValue", "(I)Z"⟩
abbrev cX12_numberAt : ByteArray := prog_14_method_8_code
def yX12_numberAt : MethodName := ⟨RX12, "numberAt", "(III)I"⟩
abbrev cX12_coarse : ByteArray := prog_14_method_9_code
def yX12_coarse : MethodName := ⟨RX12, "coarse", "(II)I"⟩
abbrev cX12_ofFact : ByteArray := prog_14_method_10_code
def yX12_ofFact : MethodName := ⟨RX12, "ofFact", "(II)I"⟩
abbrev cX12_factIs : ByteArray := prog_14_method_11_code
def yX12_factIs : MethodName := ⟨RX12, "factIs", "(II)I"⟩
abbrev cX12_types : ByteArray := prog_14_method_12_code
def yX12_types : MethodName := ⟨RX12, "types", "(I)V"⟩
abbrev cX12_feed : ByteArray := prog_14_method_13_code
def yX12_feed : MethodName := ⟨RX12, "feed", "(IIIII)I"⟩
abbrev cX12_octet : ByteArray := prog_14_method_14_code
def yX12_octet : MethodName := ⟨RX12, "octet", "(I)I"⟩
abbrev cX12_here : ByteArray := prog_14_method_15_code
def yX12_here : MethodName := ⟨RX12, "here", "()I"⟩
abbrev cX12_isDigit : ByteArray := prog_14_method_16_code
def yX12_isDigit : MethodName := ⟨RX12, "isDigit", "()Z"⟩
abbrev cX12_wrongAt : ByteArray := prog_14_method_17_code
def yX12_wrongAt : MethodName := ⟨RX12, "wrongAt", "(II)Z"⟩
abbrev cX12_takes : ByteArray := prog_14_method_18_code
def yX12_takes : MethodName := ⟨RX12, "takes", "(I)Z"⟩
abbrev cX12_readsNumber : ByteArray := prog_14_method_19_code
def yX12_readsNumber : MethodName := ⟨RX12, "readsNumber", "()Z"⟩
abbrev cX12_notes : ByteArray := prog_14_method_20_code
def yX12_notes : MethodName := ⟨RX12, "notes", "(II)V"⟩
abbrev cX12_opens : ByteArray := prog_14_method_21_code
def yX12_opens : MethodName := ⟨RX12, "opens", "(I)Z"⟩
abbrev cX12_waitTop : ByteArray := prog_14_method_22_code
def yX12_waitTop : MethodName := ⟨RX12, "waitTop", "()I"⟩
abbrev cX12_factOf : ByteArray := prog_14_method_23_code
def yX12_factOf : MethodName := ⟨RX12, "factOf", "(I)I"⟩
abbrev cX12_sumSign : ByteArray := prog_14_method_24_code
def yX12_sumSign : MethodName := ⟨RX12, "sumSign", "(I)I"⟩
abbrev cX12_closesSums : ByteArray := prog_14_method_25_code
def yX12_closesSums : MethodName := ⟨RX12, "closesSums", "(Z)V"⟩
abbrev cX12_readsFactor : ByteArray := prog_14_method_26_code
def yX12_readsFactor : MethodName := ⟨RX12, "readsFactor", "()Z"⟩
abbrev cX12_hasOpenSum : ByteArray := prog_14_method_27_code
def yX12_hasOpenSum : MethodName := ⟨RX12, "hasOpenSum", "(I)Z"⟩
abbrev cX12_readsSum : ByteArray := prog_14_method_28_code
def yX12_readsSum : MethodName := ⟨RX12, "readsSum", "()Z"⟩
abbrev cX12_endsPiece : ByteArray := prog_14_method_29_code
def yX12_endsPiece : MethodName := ⟨RX12, "endsPiece", "()V"⟩
abbrev cX12_lands : ByteArray := prog_14_method_30_code
def yX12_lands : MethodName := ⟨RX12, "lands", "(Z)V"⟩
abbrev cX12_jumps : ByteArray := prog_14_method_31_code
def yX12_jumps : MethodName := ⟨RX12, "jumps", "(I)V"⟩
abbrev cX12_readsCompared : ByteArray := prog_14_method_32_code
def yX12_readsCompared : MethodName := ⟨RX12, "readsCompared", "()Z"⟩
abbrev cX12_readsCondition : ByteArray := prog_14_method_33_code
def yX12_readsCondition : MethodName := ⟨RX12, "readsCondition", "()Z"⟩
abbrev cX12_readsRule : ByteArray := prog_14_method_34_code
def yX12_readsRule : MethodName := ⟨RX12, "readsRule", "()Z"⟩
abbrev cX12_beginsText : ByteArray := prog_14_method_35_code
def yX12_beginsText : MethodName := ⟨RX12, "beginsText", "(I)V"⟩
abbrev cX12_law : ByteArray := prog_14_method_36_code
def yX12_law : MethodName := ⟨RX12, "law", "(I)I"⟩
abbrev cX12_reckon : ByteArray := prog_14_method_37_code
def yX12_reckon : MethodName := ⟨RX12, "reckon", "(III)I"⟩
abbrev cX12_reckonsTo : ByteArray := prog_14_method_38_code
def yX12_reckonsTo : MethodName := ⟨RX12, "reckonsTo", "(II)I"⟩
abbrev cX12_byLaw : ByteArray := prog_14_method_39_code
def yX12_byLaw : MethodName := ⟨RX12, "byLaw", "(II)I"⟩
abbrev cX12_isRefused : ByteArray := prog_14_method_40_code
def yX12_isRefused : MethodName := ⟨RX12, "isRefused", "()Z"⟩
abbrev cX12_lotGoes : ByteArray := prog_14_method_41_code
def yX12_lotGoes : MethodName := ⟨RX12, "lotGoes", "()I"⟩
abbrev cX12_comes : ByteArray := prog_14_method_42_code
def yX12_comes : MethodName := ⟨RX12, "comes", "(IIII)I"⟩
abbrev cX12_fact : ByteArray := prog_14_method_43_code
def yX12_fact : MethodName := ⟨RX12, "fact", "(IIII)I"⟩
abbrev cX12_draws : ByteArray := prog_14_method_44_code
def yX12_draws : MethodName := ⟨RX12, "draws", "(I)I"⟩
abbrev cX12_readsDigit : ByteArray := prog_14_method_46_code
def yX12_readsDigit : MethodName := ⟨RX12, "readsDigit", "(I)Z"⟩
abbrev cX12_readsLevel : ByteArray := prog_14_method_47_code
def yX12_readsLevel : MethodName := ⟨RX12, "readsLevel", "(I)Z"⟩
abbrev cX12_readsCoarse : ByteArray := prog_14_method_48_code
def yX12_readsCoarse : MethodName := ⟨RX12, "readsCoarse", "()Z"⟩
abbrev cX12_shape : ByteArray := prog_14_method_49_code
def yX12_shape : MethodName := ⟨RX12, "shape", "(I)I"⟩
abbrev cX12_readsLevels : ByteArray := prog_14_method_50_code
def yX12_readsLevels : MethodName := ⟨RX12, "readsLevels", "()Z"⟩
abbrev cX12_spanBy : ByteArray := prog_14_method_51_code
def yX12_spanBy : MethodName := ⟨RX12, "spanBy", "(IIII)I"⟩
abbrev cX12_readsSpan : ByteArray := prog_14_method_52_code
def yX12_readsSpan : MethodName := ⟨RX12, "readsSpan", "()Z"⟩
abbrev cX12_readsSpans : ByteArray := prog_14_method_53_code
def yX12_readsSpans : MethodName := ⟨RX12, "readsSpans", "()Z"⟩
abbrev cX12_partOf : ByteArray := prog_14_method_54_code
def yX12_partOf : MethodName := ⟨RX12, "partOf", "(I)I"⟩
abbrev cX12_readsParts : ByteArray := prog_14_method_55_code
def yX12_readsParts : MethodName := ⟨RX12, "readsParts", "()Z"⟩
abbrev cX12_readsSummary : ByteArray := prog_14_method_56_code
def yX12_readsSummary : MethodName := ⟨RX12, "readsSummary", "()Z"⟩
abbrev cX12_summary : ByteArray := prog_14_method_57_code
def yX12_summary : MethodName := ⟨RX12, "summary", "(I)I"⟩
abbrev cX12_whatOf : ByteArray := prog_14_method_58_code
def yX12_whatOf : MethodName := ⟨RX12, "whatOf", "(I)I"⟩
abbrev cX12_readsQuestion : ByteArray := prog_14_method_59_code
def yX12_readsQuestion : MethodName := ⟨RX12, "readsQuestion", "()Z"⟩
abbrev cX12_question : ByteArray := prog_14_method_60_code
def yX12_question : MethodName := ⟨RX12, "question", "(I)I"⟩
abbrev cX12_clears : ByteArray := prog_14_method_61_code
def yX12_clears : MethodName := ⟨RX12, "clears", "()V"⟩
abbrev cX12_isLet : ByteArray := prog_14_method_62_code
def yX12_isLet : MethodName := ⟨RX12, "isLet", "([III)Z"⟩
abbrev cX12_tripleOf : ByteArray := prog_14_method_63_code
def yX12_tripleOf : MethodName := ⟨RX12, "tripleOf", "([III)I"⟩
abbrev cX12_adds : ByteArray := prog_14_method_64_code
def yX12_adds : MethodName := ⟨RX12, "adds", "(IIIII)V"⟩
abbrev cX12_addsFacts : ByteArray := prog_14_method_65_code
def yX12_addsFacts : MethodName := ⟨RX12, "addsFacts", "([IIII)V"⟩
abbrev cX12_groupsThere : ByteArray := prog_14_method_66_code
def yX12_groupsThere : MethodName := ⟨RX12, "groupsThere", "()I"⟩
abbrev cX12_isSummary : ByteArray := prog_14_method_67_code
def yX12_isSummary : MethodName := ⟨RX12, "isSummary", "(I)Z"⟩
abbrev cX12_upTo : ByteArray := prog_14_method_68_code
def yX12_upTo : MethodName := ⟨RX12, "upTo", "(I)I"⟩
abbrev cX12_laysSummary : ByteArray := prog_14_method_69_code
def yX12_laysSummary : MethodName := ⟨RX12, "laysSummary", "(I)V"⟩
abbrev cX12_groupsOf : ByteArray := prog_14_method_70_code
def yX12_groupsOf : MethodName := ⟨RX12, "groupsOf", "(I)I"⟩
abbrev cX12_freshOf : ByteArray := prog_14_method_71_code
def yX12_freshOf : MethodName := ⟨RX12, "freshOf", "(I)I"⟩
abbrev cX12_costOf : ByteArray := prog_14_method_72_code
def yX12_costOf : MethodName := ⟨RX12, "costOf", "(I)I"⟩
abbrev cX12_renew : ByteArray := prog_14_method_73_code
def yX12_renew : MethodName := ⟨RX12, "renew", "(I)I"⟩
abbrev cX12_drop : ByteArray := prog_14_method_74_code
def yX12_drop : MethodName := ⟨RX12, "drop", "(I)Z"⟩
abbrev cX12_summaryIs : ByteArray := prog_14_method_75_code
def yX12_summaryIs : MethodName := ⟨RX12, "summaryIs", "(II)I"⟩
abbrev cX12_tripleBehind : ByteArray := prog_14_method_76_code
def yX12_tripleBehind : MethodName := ⟨RX12, "tripleBehind", "(I)I"⟩
abbrev cX12_numberOf : ByteArray := prog_14_method_77_code
def yX12_numberOf : MethodName := ⟨RX12, "numberOf", "(II)I"⟩
abbrev cX12_partAt : ByteArray := prog_14_method_78_code
def yX12_partAt : MethodName := ⟨RX12, "partAt", "(II)I"⟩
abbrev cX12_group : ByteArray := prog_14_method_79_code
def yX12_group : MethodName := ⟨RX12, "group", "(III)I"⟩
abbrev cX12_questionIs : ByteArray := prog_14_method_80_code
def yX12_questionIs : MethodName := ⟨RX12, "questionIs", "(I)I"⟩
abbrev cX12_hasPart : ByteArray := prog_14_method_81_code
def yX12_hasPart : MethodName := ⟨RX12, "hasPart", "(II)Z"⟩
abbrev cX12_valuesOf : ByteArray := prog_14_method_82_code
def yX12_valuesOf : MethodName := ⟨RX12, "valuesOf", "(IIII)I"⟩
abbrev cX12_coversSide : ByteArray := prog_14_method_83_code
def yX12_coversSide : MethodName := ⟨RX12, "coversSide", "(III[II)Z"⟩
abbrev cX12_coversAll : ByteArray := prog_14_method_84_code
def yX12_coversAll : MethodName := ⟨RX12, "coversAll", "(I[II)Z"⟩
abbrev cX12_coversNow : ByteArray := prog_14_method_85_code
def yX12_coversNow : MethodName := ⟨RX12, "coversNow", "(I)Z"⟩
abbrev cX12_covers : ByteArray := prog_14_method_86_code
def yX12_covers : MethodName := ⟨RX12, "covers", "(I)I"⟩
abbrev cX12_leavesOut : ByteArray := prog_14_method_87_code
def yX12_leavesOut : MethodName := ⟨RX12, "leavesOut", "(II)Z"⟩
abbrev cX12_leftOut : ByteArray := prog_14_method_88_code
def yX12_leftOut : MethodName := ⟨RX12, "leftOut", "(I)I"⟩
abbrev cX12_rolledUp : ByteArray := prog_14_method_89_code
def yX12_rolledUp : MethodName := ⟨RX12, "rolledUp", "(I)I"⟩
abbrev cX12_compensation : ByteArray := prog_14_method_90_code
def yX12_compensation : MethodName := ⟨RX12, "compensation", "(I)I"⟩
abbrev cX12_standsFor : ByteArray := prog_14_method_91_code
def yX12_standsFor : MethodName := ⟨RX12, "standsFor", "(III)I"⟩
abbrev cX12_goesInto : ByteArray := prog_14_method_92_code
def yX12_goesInto : MethodName := ⟨RX12, "goesInto", "(II)I"⟩
abbrev cX12_takenOf : ByteArray := prog_14_method_93_code
def yX12_takenOf : MethodName := ⟨RX12, "takenOf", "(I)I"⟩
abbrev cX12_coverIs : ByteArray := prog_14_method_94_code
def yX12_coverIs : MethodName := ⟨RX12, "coverIs", "(II)I"⟩
abbrev cX12_madeOf : ByteArray := prog_14_method_95_code
def yX12_madeOf : MethodName := ⟨RX12, "madeOf", "(I)I"⟩
abbrev cX12_timesOf : ByteArray := prog_14_method_96_code
def yX12_timesOf : MethodName := ⟨RX12, "timesOf", "(I)V"⟩
abbrev cX12_unlikeIn : ByteArray := prog_14_method_97_code
def yX12_unlikeIn : MethodName := ⟨RX12, "unlikeIn", "(I)I"⟩
abbrev cX12_middleOf : ByteArray := prog_14_method_98_code
def yX12_middleOf : MethodName := ⟨RX12, "middleOf", "(I)I"⟩
abbrev cX12_whatAt : ByteArray := prog_14_method_99_code
def yX12_whatAt : MethodName := ⟨RX12, "whatAt", "(I)I"⟩
abbrev cX12_putsDown : ByteArray := prog_14_method_100_code
def yX12_putsDown : MethodName := ⟨RX12, "putsDown", "()V"⟩
abbrev cX12_answersByFacts : ByteArray := prog_14_method_101_code
def yX12_answersByFacts : MethodName := ⟨RX12, "answersByFacts", "()V"⟩
abbrev cX12_answersBy : ByteArray := prog_14_method_102_code
def yX12_answersBy : MethodName := ⟨RX12, "answersBy", "(I)V"⟩
abbrev cX12_wayNow : ByteArray := prog_14_method_103_code
def yX12_wayNow : MethodName := ⟨RX12, "wayNow", "()I"⟩
abbrev cX12_way : ByteArray := prog_14_method_104_code
def yX12_way : MethodName := ⟨RX12, "way", "(I)I"⟩
abbrev cX12_answersByWay : ByteArray := prog_14_method_105_code
def yX12_answersByWay : MethodName := ⟨RX12, "answersByWay", "(I)V"⟩
abbrev cX12_toldOf : ByteArray := prog_14_method_106_code
def yX12_toldOf : MethodName := ⟨RX12, "toldOf", "(II)I"⟩
abbrev cX12_answer : ByteArray := prog_14_method_107_code
def yX12_answer : MethodName := ⟨RX12, "answer", "(II)I"⟩
abbrev cX12_aheadOf : ByteArray := prog_14_method_108_code
def yX12_aheadOf : MethodName := ⟨RX12, "aheadOf", "(I)I"⟩
abbrev cX12_ranked : ByteArray := prog_14_method_109_code
def yX12_ranked : MethodName := ⟨RX12, "ranked", "(II)I"⟩
abbrev cX12_answerBy : ByteArray := prog_14_method_110_code
def yX12_answerBy : MethodName := ⟨RX12, "answerBy", "(III)I"⟩
abbrev cX12_differs : ByteArray := prog_14_method_111_code
def yX12_differs : MethodName := ⟨RX12, "differs", "(I)I"⟩
abbrev cX12_unlike : ByteArray := prog_14_method_112_code
def yX12_unlike : MethodName := ⟨RX12, "unlike", "(I)I"⟩
abbrev cX12_levelOf : ByteArray := prog_14_method_113_code
def yX12_levelOf : MethodName := ⟨RX12, "levelOf", "(II)I"⟩
abbrev cX12_groupsBy : ByteArray := prog_14_method_114_code
def yX12_groupsBy : MethodName := ⟨RX12, "groupsBy", "(I)I"⟩
abbrev cX12_isNode : ByteArray := prog_14_method_115_code
def yX12_isNode : MethodName := ⟨RX12, "isNode", "(I)Z"⟩
abbrev cX12_node : ByteArray := prog_14_method_116_code
def yX12_node : MethodName := ⟨RX12, "node", "(I)I"⟩
abbrev cX12_isBelow : ByteArray := prog_14_method_117_code
def yX12_isBelow : MethodName := ⟨RX12, "isBelow", "(II)Z"⟩
abbrev cX12_below : ByteArray := prog_14_method_118_code
def yX12_below : MethodName := ⟨RX12, "below", "(II)I"⟩
abbrev cX12_laysLattice : ByteArray := prog_14_method_119_code
def yX12_laysLattice : MethodName := ⟨RX12, "laysLattice", "()V"⟩
abbrev cX12_priceBy : ByteArray := prog_14_method_120_code
def yX12_priceBy : MethodName := ⟨RX12, "priceBy", "(I)I"⟩
abbrev cX12_price : ByteArray := prog_14_method_121_code
def yX12_price : MethodName := ⟨RX12, "price", "(I)I"⟩
abbrev cX12_greedy : ByteArray := prog_14_method_122_code
def yX12_greedy : MethodName := ⟨RX12, "greedy", "(II)I"⟩
abbrev cX12_best : ByteArray := prog_14_method_123_code
def yX12_best : MethodName := ⟨RX12, "best", "(II)I"⟩
abbrev cX12_seed : ByteArray := prog_14_method_124_code
def yX12_seed : MethodName := ⟨RX12, "seed", "(I)Z"⟩
abbrev cX12_keep : ByteArray := prog_14_method_125_code
def yX12_keep : MethodName := ⟨RX12, "keep", "()I"⟩
abbrev cX12_undo : ByteArray := prog_14_method_126_code
def yX12_undo : MethodName := ⟨RX12, "undo", "()Z"⟩
abbrev cX12_check : ByteArray := prog_14_method_127_code
def yX12_check : MethodName := ⟨RX12, "check", "(I)I"⟩
abbrev cX12_measures : ByteArray := prog_14_method_128_code
def yX12_measures : MethodName := ⟨RX12, "measures", "()I"⟩
abbrev cX12_count : ByteArray := prog_14_method_129_code
def yX12_count : MethodName := ⟨RX12, "count", "(I)I"⟩
def RJ6 : String := "java/lang/Integer"
def TJ6 : u_T := fun k => match k with
  | _ => ("", "", "", false)
def tyJ6 : Nat → FieldType := fun k => match k with
  | _ => .int
theorem nmJ6 : ∀ a, a < 0 → ∀ b, b < 0 → a ≠ b → (TJ6 a).2.1 ≠ (TJ6 b).2.1 := by decide +kernel
theorem tyJ6_ok : ∀ k, k < 0 → parseFieldDescriptor (TJ6 k).2.2.1 = some (tyJ6 k) := by decide +kernel
abbrev cJ6_bitCount_0f7a4 : ByteArray := prog_15_method_49_code
def yJ6_bitCount_0f7a4 : MethodName := ⟨RJ6, "bitCount", "(I)I"⟩
def RJ9 : String := "java/lang/Math"
def TJ9 : u_T := fun k => match k with
  | _ => ("", "", "", false)
def tyJ9 : Nat → FieldType := fun k => match k with
  | _ => .int
theorem nmJ9 : ∀ a, a < 0 → ∀ b, b < 0 → a ≠ b → (TJ9 a).2.1 ≠ (TJ9 b).2.1 := by decide +kernel
theorem tyJ9_ok : ∀ k, k < 0 → parseFieldDescriptor (TJ9 k).2.2.1 = some (tyJ9 k) := by decide +kernel
abbrev cJ9_max_7cf53 : ByteArray := prog_16_method_65_code
def yJ9_max_7cf53 : MethodName := ⟨RJ9, "max", "(II)I"⟩
abbrev cJ9_min_7cf53 : ByteArray := prog_16_method_69_code
def yJ9_min_7cf53 : MethodName := ⟨RJ9, "min", "(II)I"⟩
def RJ10 : String := "java/lang/System"
def TJ10 : u_T := fun k => match k with
  | _ => ("", "", "", false)
def tyJ10 : Nat → FieldType := fun k => match k with
  | _ => .int
theorem nmJ10 : ∀ a, a < 0 → ∀ b, b < 0 → a ≠ b → (TJ10 a).2.1 ≠ (TJ10 b).2.1 := by decide +kernel
theorem tyJ10_ok : ∀ k, k < 0 → parseFieldDescriptor (TJ10 k).2.2.1 = some (tyJ10 k) := by decide +kernel
def RJ7 : String := "java/util/Arrays"
def TJ7 : u_T := fun k => match k with
  | _ => ("", "", "", false)
def tyJ7 : Nat → FieldType := fun k => match k with
  | _ => .int
theorem nmJ7 : ∀ a, a < 0 → ∀ b, b < 0 → a ≠ b → (TJ7 a).2.1 ≠ (TJ7 b).2.1 := by decide +kernel
theorem tyJ7_ok : ∀ k, k < 0 → parseFieldDescriptor (TJ7 k).2.2.1 = some (tyJ7 k) := by decide +kernel
abbrev cJ7_fill_53178 : ByteArray := prog_18_method_103_code
def yJ7_fill_53178 : MethodName := ⟨RJ7, "fill", "([II)V"⟩
def RL : String := "KeptSummariesLaw"
abbrev cL_law : ByteArray := code
def yL_law : MethodName := ⟨RL, "law", "([I)Z"⟩
abbrev vwCl : List vw_C := [(RX0, TX0, 4), (RX1, TX1, 6), (RX2, TX2, 3), (RX3, TX3, 9), (RX4, TX4, 12), (RX5, TX5, 2), (RX6, TX6, 1), (RX7, TX7, 2), (RX8, TX8, 3), (RX9, TX9, 6), (RX10, TX10, 6), (RX11, TX11, 18), (RX12, TX12, 60)]
