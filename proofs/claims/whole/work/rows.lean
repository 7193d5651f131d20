section
-- ===== PART A: goes FIRST, ahead of the names: the tables' words, and 'selects' of the private methods out of them =====
/-- a private method of a class that the tables say can be made, by its rows of tables_1 -/
def lw_okq (q : MethodName × Nat) : Prop := (q.1.cls ≠ "java/lang/invoke/MethodHandle" ∧ q.1.cls ≠ "java/lang/invoke/VarHandle") ∧ Cond.instantiable q.1.cls q.2 ∈ tables_1 ∧ Cond.privateMethod q.1 ∈ tables_1 ∧ Cond.instanceMethod q.1 ∈ tables_1
theorem lw_p0 : lw_okq (⟨"KeptSummaries", "comes", "(II)Z"⟩, 18) := ⟨⟨by decide +kernel, by decide +kernel⟩, List.mem_of_getElem? (i := 19) (by decide +kernel), List.mem_of_getElem? (i := 368) (by decide +kernel), List.mem_of_getElem? (i := 369) (by decide +kernel)⟩
theorem lw_p1 : lw_okq (⟨"KeptSummaries", "nextX", "()I"⟩, 18) := ⟨⟨by decide +kernel, by decide +kernel⟩, List.mem_of_getElem? (i := 19) (by decide +kernel), List.mem_of_getElem? (i := 372) (by decide +kernel), List.mem_of_getElem? (i := 373) (by decide +kernel)⟩
theorem lw_p2 : lw_okq (⟨"KeptSummaries$Law", "firstHolding", "(I)I"⟩, 12) := ⟨⟨by decide +kernel, by decide +kernel⟩, List.mem_of_getElem? (i := 62) (by decide +kernel), List.mem_of_getElem? (i := 388) (by decide +kernel), List.mem_of_getElem? (i := 389) (by decide +kernel)⟩
theorem lw_p3 : lw_okq (⟨"KeptSummaries$Law", "run", "(II)I"⟩, 12) := ⟨⟨by decide +kernel, by decide +kernel⟩, List.mem_of_getElem? (i := 62) (by decide +kernel), List.mem_of_getElem? (i := 392) (by decide +kernel), List.mem_of_getElem? (i := 393) (by decide +kernel)⟩
theorem lw_p4 : lw_okq (⟨"KeptSummaries$Law", "push", "(I)V"⟩, 12) := ⟨⟨by decide +kernel, by decide +kernel⟩, List.mem_of_getElem? (i := 62) (by decide +kernel), List.mem_of_getElem? (i := 399) (by decide +kernel), List.mem_of_getElem? (i := 400) (by decide +kernel)⟩
theorem lw_p5 : lw_okq (⟨"KeptSummaries$Law", "letterAt", "(I)I"⟩, 12) := ⟨⟨by decide +kernel, by decide +kernel⟩, List.mem_of_getElem? (i := 62) (by decide +kernel), List.mem_of_getElem? (i := 403) (by decide +kernel), List.mem_of_getElem? (i := 404) (by decide +kernel)⟩
theorem lw_p6 : lw_okq (⟨"KeptSummaries$Law", "pop", "()I"⟩, 12) := ⟨⟨by decide +kernel, by decide +kernel⟩, List.mem_of_getElem? (i := 62) (by decide +kernel), List.mem_of_getElem? (i := 407) (by decide +kernel), List.mem_of_getElem? (i := 408) (by decide +kernel)⟩
theorem lw_p7 : lw_okq (⟨"KeptSummaries$Law", "afterTest", "(II)I"⟩, 12) := ⟨⟨by decide +kernel, by decide +kernel⟩, List.mem_of_getElem? (i := 62) (by decide +kernel), List.mem_of_getElem? (i := 411) (by decide +kernel), List.mem_of_getElem? (i := 412) (by decide +kernel)⟩
theorem lw_p8 : lw_okq (⟨"KeptSummaries$Law", "reckon", "(III)I"⟩, 12) := ⟨⟨by decide +kernel, by decide +kernel⟩, List.mem_of_getElem? (i := 62) (by decide +kernel), List.mem_of_getElem? (i := 415) (by decide +kernel), List.mem_of_getElem? (i := 416) (by decide +kernel)⟩
theorem lw_p9 : lw_okq (⟨"KeptSummaries$Law", "result", "(I)I"⟩, 12) := ⟨⟨by decide +kernel, by decide +kernel⟩, List.mem_of_getElem? (i := 62) (by decide +kernel), List.mem_of_getElem? (i := 423) (by decide +kernel), List.mem_of_getElem? (i := 424) (by decide +kernel)⟩
theorem lw_p10 : lw_okq (⟨"KeptSummaries", "makeAnew", "(LKeptSummaries$Summary;)V"⟩, 18) := ⟨⟨by decide +kernel, by decide +kernel⟩, List.mem_of_getElem? (i := 19) (by decide +kernel), List.mem_of_getElem? (i := 442) (by decide +kernel), List.mem_of_getElem? (i := 443) (by decide +kernel)⟩
theorem lw_p11 : lw_okq (⟨"KeptSummaries$Table", "addParts", "(IIIII)V"⟩, 6) := ⟨⟨by decide +kernel, by decide +kernel⟩, List.mem_of_getElem? (i := 236) (by decide +kernel), List.mem_of_getElem? (i := 493) (by decide +kernel), List.mem_of_getElem? (i := 494) (by decide +kernel)⟩
theorem lw_p12 : lw_okq (⟨"KeptSummaries$LawReader", "readHead", "()I"⟩, 2) := ⟨⟨by decide +kernel, by decide +kernel⟩, List.mem_of_getElem? (i := 56) (by decide +kernel), List.mem_of_getElem? (i := 543) (by decide +kernel), List.mem_of_getElem? (i := 544) (by decide +kernel)⟩
theorem lw_p13 : lw_okq (⟨"KeptSummaries$LawReader", "readSum", "(I)V"⟩, 2) := ⟨⟨by decide +kernel, by decide +kernel⟩, List.mem_of_getElem? (i := 56) (by decide +kernel), List.mem_of_getElem? (i := 559) (by decide +kernel), List.mem_of_getElem? (i := 560) (by decide +kernel)⟩
theorem lw_p14 : lw_okq (⟨"KeptSummaries$LawReader", "readFactor", "(I)V"⟩, 2) := ⟨⟨by decide +kernel, by decide +kernel⟩, List.mem_of_getElem? (i := 56) (by decide +kernel), List.mem_of_getElem? (i := 563) (by decide +kernel), List.mem_of_getElem? (i := 564) (by decide +kernel)⟩
theorem lw_p15 : lw_okq (⟨"KeptSummaries$LawReader", "readNumber", "()I"⟩, 2) := ⟨⟨by decide +kernel, by decide +kernel⟩, List.mem_of_getElem? (i := 56) (by decide +kernel), List.mem_of_getElem? (i := 583) (by decide +kernel), List.mem_of_getElem? (i := 584) (by decide +kernel)⟩
def lw_privs_1 : List (MethodName × Nat) := [(⟨"KeptSummaries", "comes", "(II)Z"⟩, 18), (⟨"KeptSummaries", "nextX", "()I"⟩, 18), (⟨"KeptSummaries$Law", "firstHolding", "(I)I"⟩, 12), (⟨"KeptSummaries$Law", "run", "(II)I"⟩, 12), (⟨"KeptSummaries$Law", "push", "(I)V"⟩, 12), (⟨"KeptSummaries$Law", "letterAt", "(I)I"⟩, 12), (⟨"KeptSummaries$Law", "pop", "()I"⟩, 12), (⟨"KeptSummaries$Law", "afterTest", "(II)I"⟩, 12), (⟨"KeptSummaries$Law", "reckon", "(III)I"⟩, 12), (⟨"KeptSummaries$Law", "result", "(I)I"⟩, 12), (⟨"KeptSummaries", "makeAnew", "(LKeptSummaries$Summary;)V"⟩, 18), (⟨"KeptSummaries$Table", "addParts", "(IIIII)V"⟩, 6), (⟨"KeptSummaries$LawReader", "readHead", "()I"⟩, 2), (⟨"KeptSummaries$LawReader", "readSum", "(I)V"⟩, 2), (⟨"KeptSummaries$LawReader", "readFactor", "(I)V"⟩, 2), (⟨"KeptSummaries$LawReader", "readNumber", "()I"⟩, 2)]
theorem lw_r1 : ∀ q ∈ lw_privs_1, lw_okq q := List.forall_mem_cons.mpr ⟨lw_p0, List.forall_mem_cons.mpr ⟨lw_p1, List.forall_mem_cons.mpr ⟨lw_p2, List.forall_mem_cons.mpr ⟨lw_p3, List.forall_mem_cons.mpr ⟨lw_p4, List.forall_mem_cons.mpr ⟨lw_p5, List.forall_mem_cons.mpr ⟨lw_p6, List.forall_mem_cons.mpr ⟨lw_p7, List.forall_mem_cons.mpr ⟨lw_p8, List.forall_mem_cons.mpr ⟨lw_p9, List.forall_mem_cons.mpr ⟨lw_p10, List.forall_mem_cons.mpr ⟨lw_p11, List.forall_mem_cons.mpr ⟨lw_p12, List.forall_mem_cons.mpr ⟨lw_p13, List.forall_mem_cons.mpr ⟨lw_p14, List.forall_mem_cons.mpr ⟨lw_p15, fun _ h => absurd h List.not_mem_nil⟩⟩⟩⟩⟩⟩⟩⟩⟩⟩⟩⟩⟩⟩⟩⟩
theorem lw_p16 : lw_okq (⟨"KeptSummaries$LawReader", "addWaiting", "(I)V"⟩, 2) := ⟨⟨by decide +kernel, by decide +kernel⟩, List.mem_of_getElem? (i := 56) (by decide +kernel), List.mem_of_getElem? (i := 587) (by decide +kernel), List.mem_of_getElem? (i := 588) (by decide +kernel)⟩
theorem lw_p17 : lw_okq (⟨"KeptSummaries$LawReader", "readCondition", "(I)V"⟩, 2) := ⟨⟨by decide +kernel, by decide +kernel⟩, List.mem_of_getElem? (i := 56) (by decide +kernel), List.mem_of_getElem? (i := 591) (by decide +kernel), List.mem_of_getElem? (i := 592) (by decide +kernel)⟩
theorem lw_p18 : lw_okq (⟨"KeptSummaries$LawReader", "readTest", "(I)V"⟩, 2) := ⟨⟨by decide +kernel, by decide +kernel⟩, List.mem_of_getElem? (i := 56) (by decide +kernel), List.mem_of_getElem? (i := 595) (by decide +kernel), List.mem_of_getElem? (i := 596) (by decide +kernel)⟩
theorem lw_p19 : lw_okq (⟨"KeptSummaries$FormReader", "readLine", "(I)I"⟩, 3) := ⟨⟨by decide +kernel, by decide +kernel⟩, List.mem_of_getElem? (i := 115) (by decide +kernel), List.mem_of_getElem? (i := 638) (by decide +kernel), List.mem_of_getElem? (i := 639) (by decide +kernel)⟩
theorem lw_p20 : lw_okq (⟨"KeptSummaries$FormReader", "readSide", "()I"⟩, 3) := ⟨⟨by decide +kernel, by decide +kernel⟩, List.mem_of_getElem? (i := 115) (by decide +kernel), List.mem_of_getElem? (i := 642) (by decide +kernel), List.mem_of_getElem? (i := 643) (by decide +kernel)⟩
theorem lw_p21 : lw_okq (⟨"KeptSummaries$FormReader", "readDigit", "(I)I"⟩, 3) := ⟨⟨by decide +kernel, by decide +kernel⟩, List.mem_of_getElem? (i := 115) (by decide +kernel), List.mem_of_getElem? (i := 650) (by decide +kernel), List.mem_of_getElem? (i := 651) (by decide +kernel)⟩
theorem lw_p22 : lw_okq (⟨"KeptSummaries$FormReader", "readLevels", "()V"⟩, 3) := ⟨⟨by decide +kernel, by decide +kernel⟩, List.mem_of_getElem? (i := 115) (by decide +kernel), List.mem_of_getElem? (i := 678) (by decide +kernel), List.mem_of_getElem? (i := 679) (by decide +kernel)⟩
theorem lw_p23 : lw_okq (⟨"KeptSummaries$FormReader", "readLevel", "(I)I"⟩, 3) := ⟨⟨by decide +kernel, by decide +kernel⟩, List.mem_of_getElem? (i := 115) (by decide +kernel), List.mem_of_getElem? (i := 682) (by decide +kernel), List.mem_of_getElem? (i := 683) (by decide +kernel)⟩
theorem lw_p24 : lw_okq (⟨"KeptSummaries$FormReader", "readParts", "()V"⟩, 3) := ⟨⟨by decide +kernel, by decide +kernel⟩, List.mem_of_getElem? (i := 115) (by decide +kernel), List.mem_of_getElem? (i := 691) (by decide +kernel), List.mem_of_getElem? (i := 692) (by decide +kernel)⟩
theorem lw_p25 : lw_okq (⟨"KeptSummaries$FormReader", "readSpans", "(LKeptSummaries$Shape;)V"⟩, 3) := ⟨⟨by decide +kernel, by decide +kernel⟩, List.mem_of_getElem? (i := 115) (by decide +kernel), List.mem_of_getElem? (i := 702) (by decide +kernel), List.mem_of_getElem? (i := 703) (by decide +kernel)⟩
theorem lw_p26 : lw_okq (⟨"KeptSummaries$FormReader", "readSpan", "(ILKeptSummaries$Shape;)I"⟩, 3) := ⟨⟨by decide +kernel, by decide +kernel⟩, List.mem_of_getElem? (i := 115) (by decide +kernel), List.mem_of_getElem? (i := 706) (by decide +kernel), List.mem_of_getElem? (i := 707) (by decide +kernel)⟩
theorem lw_p27 : lw_okq (⟨"KeptSummaries", "tallyAnswer", "(LKeptSummaries$Summary;)LKeptSummaries$Table;"⟩, 18) := ⟨⟨by decide +kernel, by decide +kernel⟩, List.mem_of_getElem? (i := 19) (by decide +kernel), List.mem_of_getElem? (i := 736) (by decide +kernel), List.mem_of_getElem? (i := 737) (by decide +kernel)⟩
theorem lw_p28 : lw_okq (⟨"KeptSummaries$Facts", "sortByMeasure", "()V"⟩, 6) := ⟨⟨by decide +kernel, by decide +kernel⟩, List.mem_of_getElem? (i := 171) (by decide +kernel), List.mem_of_getElem? (i := 744) (by decide +kernel), List.mem_of_getElem? (i := 745) (by decide +kernel)⟩
theorem lw_p29 : lw_okq (⟨"KeptSummaries$Facts", "countMeasure", "(I)V"⟩, 6) := ⟨⟨by decide +kernel, by decide +kernel⟩, List.mem_of_getElem? (i := 171) (by decide +kernel), List.mem_of_getElem? (i := 749) (by decide +kernel), List.mem_of_getElem? (i := 750) (by decide +kernel)⟩
theorem lw_p30 : lw_okq (⟨"KeptSummaries$Facts", "nextRank", "(I)I"⟩, 6) := ⟨⟨by decide +kernel, by decide +kernel⟩, List.mem_of_getElem? (i := 171) (by decide +kernel), List.mem_of_getElem? (i := 753) (by decide +kernel), List.mem_of_getElem? (i := 754) (by decide +kernel)⟩
theorem lw_p31 : lw_okq (⟨"KeptSummaries$Facts", "meetUnlike", "(LKeptSummaries$Table;II)V"⟩, 6) := ⟨⟨by decide +kernel, by decide +kernel⟩, List.mem_of_getElem? (i := 171) (by decide +kernel), List.mem_of_getElem? (i := 757) (by decide +kernel), List.mem_of_getElem? (i := 758) (by decide +kernel)⟩
def lw_privs_2 : List (MethodName × Nat) := [(⟨"KeptSummaries$LawReader", "addWaiting", "(I)V"⟩, 2), (⟨"KeptSummaries$LawReader", "readCondition", "(I)V"⟩, 2), (⟨"KeptSummaries$LawReader", "readTest", "(I)V"⟩, 2), (⟨"KeptSummaries$FormReader", "readLine", "(I)I"⟩, 3), (⟨"KeptSummaries$FormReader", "readSide", "()I"⟩, 3), (⟨"KeptSummaries$FormReader", "readDigit", "(I)I"⟩, 3), (⟨"KeptSummaries$FormReader", "readLevels", "()V"⟩, 3), (⟨"KeptSummaries$FormReader", "readLevel", "(I)I"⟩, 3), (⟨"KeptSummaries$FormReader", "readParts", "()V"⟩, 3), (⟨"KeptSummaries$FormReader", "readSpans", "(LKeptSummaries$Shape;)V"⟩, 3), (⟨"KeptSummaries$FormReader", "readSpan", "(ILKeptSummaries$Shape;)I"⟩, 3), (⟨"KeptSummaries", "tallyAnswer", "(LKeptSummaries$Summary;)LKeptSummaries$Table;"⟩, 18), (⟨"KeptSummaries$Facts", "sortByMeasure", "()V"⟩, 6), (⟨"KeptSummaries$Facts", "countMeasure", "(I)V"⟩, 6), (⟨"KeptSummaries$Facts", "nextRank", "(I)I"⟩, 6), (⟨"KeptSummaries$Facts", "meetUnlike", "(LKeptSummaries$Table;II)V"⟩, 6)]
theorem lw_r2 : ∀ q ∈ lw_privs_2, lw_okq q := List.forall_mem_cons.mpr ⟨lw_p16, List.forall_mem_cons.mpr ⟨lw_p17, List.forall_mem_cons.mpr ⟨lw_p18, List.forall_mem_cons.mpr ⟨lw_p19, List.forall_mem_cons.mpr ⟨lw_p20, List.forall_mem_cons.mpr ⟨lw_p21, List.forall_mem_cons.mpr ⟨lw_p22, List.forall_mem_cons.mpr ⟨lw_p23, List.forall_mem_cons.mpr ⟨lw_p24, List.forall_mem_cons.mpr ⟨lw_p25, List.forall_mem_cons.mpr ⟨lw_p26, List.forall_mem_cons.mpr ⟨lw_p27, List.forall_mem_cons.mpr ⟨lw_p28, List.forall_mem_cons.mpr ⟨lw_p29, List.forall_mem_cons.mpr ⟨lw_p30, List.forall_mem_cons.mpr ⟨lw_p31, fun _ h => absurd h List.not_mem_nil⟩⟩⟩⟩⟩⟩⟩⟩⟩⟩⟩⟩⟩⟩⟩⟩
theorem lw_p32 : lw_okq (⟨"KeptSummaries$Facts", "meetMiddle", "(LKeptSummaries$Table;II)V"⟩, 6) := ⟨⟨by decide +kernel, by decide +kernel⟩, List.mem_of_getElem? (i := 171) (by decide +kernel), List.mem_of_getElem? (i := 769) (by decide +kernel), List.mem_of_getElem? (i := 770) (by decide +kernel)⟩
theorem lw_p33 : lw_okq (⟨"KeptSummaries", "tallyGroups", "(LKeptSummaries$Summary;)V"⟩, 18) := ⟨⟨by decide +kernel, by decide +kernel⟩, List.mem_of_getElem? (i := 19) (by decide +kernel), List.mem_of_getElem? (i := 777) (by decide +kernel), List.mem_of_getElem? (i := 778) (by decide +kernel)⟩
theorem lw_p34 : lw_okq (⟨"KeptSummaries$Cut", "rolledNumber", "(IILKeptSummaries$Cut;LKeptSummaries$Shape;)I"⟩, 4) := ⟨⟨by decide +kernel, by decide +kernel⟩, List.mem_of_getElem? (i := 131) (by decide +kernel), List.mem_of_getElem? (i := 799) (by decide +kernel), List.mem_of_getElem? (i := 800) (by decide +kernel)⟩
theorem lw_p35 : lw_okq (⟨"KeptSummaries", "costOf", "(LKeptSummaries$Summary;)I"⟩, 18) := ⟨⟨by decide +kernel, by decide +kernel⟩, List.mem_of_getElem? (i := 19) (by decide +kernel), List.mem_of_getElem? (i := 840) (by decide +kernel), List.mem_of_getElem? (i := 841) (by decide +kernel)⟩
theorem lw_p36 : lw_okq (⟨"KeptSummaries$Cut", "coversSide", "(ILKeptSummaries$Cut;LKeptSummaries$Shape;)Z"⟩, 4) := ⟨⟨by decide +kernel, by decide +kernel⟩, List.mem_of_getElem? (i := 131) (by decide +kernel), List.mem_of_getElem? (i := 869) (by decide +kernel), List.mem_of_getElem? (i := 870) (by decide +kernel)⟩
theorem lw_p37 : lw_okq (⟨"KeptSummaries", "isCovering", "(LKeptSummaries$Summary;)Z"⟩, 18) := ⟨⟨by decide +kernel, by decide +kernel⟩, List.mem_of_getElem? (i := 19) (by decide +kernel), List.mem_of_getElem? (i := 884) (by decide +kernel), List.mem_of_getElem? (i := 885) (by decide +kernel)⟩
theorem lw_p38 : lw_okq (⟨"KeptSummaries", "groupsInside", "(LKeptSummaries$Cut;)I"⟩, 18) := ⟨⟨by decide +kernel, by decide +kernel⟩, List.mem_of_getElem? (i := 19) (by decide +kernel), List.mem_of_getElem? (i := 908) (by decide +kernel), List.mem_of_getElem? (i := 909) (by decide +kernel)⟩
theorem lw_p39 : lw_okq (⟨"KeptSummaries", "cheapestWay", "()I"⟩, 18) := ⟨⟨by decide +kernel, by decide +kernel⟩, List.mem_of_getElem? (i := 19) (by decide +kernel), List.mem_of_getElem? (i := 916) (by decide +kernel), List.mem_of_getElem? (i := 917) (by decide +kernel)⟩
theorem lw_p40 : lw_okq (⟨"KeptSummaries", "answerAt", "(LKeptSummaries$Table;II)I"⟩, 18) := ⟨⟨by decide +kernel, by decide +kernel⟩, List.mem_of_getElem? (i := 19) (by decide +kernel), List.mem_of_getElem? (i := 927) (by decide +kernel), List.mem_of_getElem? (i := 928) (by decide +kernel)⟩
theorem lw_p41 : lw_okq (⟨"KeptSummaries$Table", "groupsFrom", "(II)I"⟩, 6) := ⟨⟨by decide +kernel, by decide +kernel⟩, List.mem_of_getElem? (i := 236) (by decide +kernel), List.mem_of_getElem? (i := 939) (by decide +kernel), List.mem_of_getElem? (i := 940) (by decide +kernel)⟩
theorem lw_p42 : lw_okq (⟨"KeptSummaries$Table", "keyOfLike", "(III)I"⟩, 6) := ⟨⟨by decide +kernel, by decide +kernel⟩, List.mem_of_getElem? (i := 236) (by decide +kernel), List.mem_of_getElem? (i := 944) (by decide +kernel), List.mem_of_getElem? (i := 945) (by decide +kernel)⟩
theorem lw_p43 : lw_okq (⟨"KeptSummaries$Lattice", "mergedGroups", "(ILKeptSummaries$Shape;)I"⟩, 9) := ⟨⟨by decide +kernel, by decide +kernel⟩, List.mem_of_getElem? (i := 262) (by decide +kernel), List.mem_of_getElem? (i := 977) (by decide +kernel), List.mem_of_getElem? (i := 978) (by decide +kernel)⟩
theorem lw_p44 : lw_okq (⟨"KeptSummaries$Lattice", "tellNone", "()V"⟩, 9) := ⟨⟨by decide +kernel, by decide +kernel⟩, List.mem_of_getElem? (i := 262) (by decide +kernel), List.mem_of_getElem? (i := 1010) (by decide +kernel), List.mem_of_getElem? (i := 1011) (by decide +kernel)⟩
theorem lw_p45 : lw_okq (⟨"KeptSummaries$Lattice", "tell", "(I)V"⟩, 9) := ⟨⟨by decide +kernel, by decide +kernel⟩, List.mem_of_getElem? (i := 262) (by decide +kernel), List.mem_of_getElem? (i := 1014) (by decide +kernel), List.mem_of_getElem? (i := 1015) (by decide +kernel)⟩
theorem lw_p46 : lw_okq (⟨"KeptSummaries$Lattice", "pickNext", "(II)V"⟩, 9) := ⟨⟨by decide +kernel, by decide +kernel⟩, List.mem_of_getElem? (i := 262) (by decide +kernel), List.mem_of_getElem? (i := 1029) (by decide +kernel), List.mem_of_getElem? (i := 1030) (by decide +kernel)⟩
theorem lw_p47 : lw_okq (⟨"KeptSummaries$Lattice", "priceWith", "(I)I"⟩, 9) := ⟨⟨by decide +kernel, by decide +kernel⟩, List.mem_of_getElem? (i := 262) (by decide +kernel), List.mem_of_getElem? (i := 1033) (by decide +kernel), List.mem_of_getElem? (i := 1034) (by decide +kernel)⟩
def lw_privs_3 : List (MethodName × Nat) := [(⟨"KeptSummaries$Facts", "meetMiddle", "(LKeptSummaries$Table;II)V"⟩, 6), (⟨"KeptSummaries", "tallyGroups", "(LKeptSummaries$Summary;)V"⟩, 18), (⟨"KeptSummaries$Cut", "rolledNumber", "(IILKeptSummaries$Cut;LKeptSummaries$Shape;)I"⟩, 4), (⟨"KeptSummaries", "costOf", "(LKeptSummaries$Summary;)I"⟩, 18), (⟨"KeptSummaries$Cut", "coversSide", "(ILKeptSummaries$Cut;LKeptSummaries$Shape;)Z"⟩, 4), (⟨"KeptSummaries", "isCovering", "(LKeptSummaries$Summary;)Z"⟩, 18), (⟨"KeptSummaries", "groupsInside", "(LKeptSummaries$Cut;)I"⟩, 18), (⟨"KeptSummaries", "cheapestWay", "()I"⟩, 18), (⟨"KeptSummaries", "answerAt", "(LKeptSummaries$Table;II)I"⟩, 18), (⟨"KeptSummaries$Table", "groupsFrom", "(II)I"⟩, 6), (⟨"KeptSummaries$Table", "keyOfLike", "(III)I"⟩, 6), (⟨"KeptSummaries$Lattice", "mergedGroups", "(ILKeptSummaries$Shape;)I"⟩, 9), (⟨"KeptSummaries$Lattice", "tellNone", "()V"⟩, 9), (⟨"KeptSummaries$Lattice", "tell", "(I)V"⟩, 9), (⟨"KeptSummaries$Lattice", "pickNext", "(II)V"⟩, 9), (⟨"KeptSummaries$Lattice", "priceWith", "(I)I"⟩, 9)]
theorem lw_r3 : ∀ q ∈ lw_privs_3, lw_okq q := List.forall_mem_cons.mpr ⟨lw_p32, List.forall_mem_cons.mpr ⟨lw_p33, List.forall_mem_cons.mpr ⟨lw_p34, List.forall_mem_cons.mpr ⟨lw_p35, List.forall_mem_cons.mpr ⟨lw_p36, List.forall_mem_cons.mpr ⟨lw_p37, List.forall_mem_cons.mpr ⟨lw_p38, List.forall_mem_cons.mpr ⟨lw_p39, List.forall_mem_cons.mpr ⟨lw_p40, List.forall_mem_cons.mpr ⟨lw_p41, List.forall_mem_cons.mpr ⟨lw_p42, List.forall_mem_cons.mpr ⟨lw_p43, List.forall_mem_cons.mpr ⟨lw_p44, List.forall_mem_cons.mpr ⟨lw_p45, List.forall_mem_cons.mpr ⟨lw_p46, List.forall_mem_cons.mpr ⟨lw_p47, fun _ h => absurd h List.not_mem_nil⟩⟩⟩⟩⟩⟩⟩⟩⟩⟩⟩⟩⟩⟩⟩⟩
theorem lw_p48 : lw_okq (⟨"KeptSummariesModel", "numberAt", "(III)I"⟩, 60) := ⟨⟨by decide +kernel, by decide +kernel⟩, List.mem_of_getElem? (i := 1074) (by decide +kernel), List.mem_of_getElem? (i := 1275) (by decide +kernel), List.mem_of_getElem? (i := 1276) (by decide +kernel)⟩
theorem lw_p49 : lw_okq (⟨"KeptSummariesModel", "ofFact", "(II)I"⟩, 60) := ⟨⟨by decide +kernel, by decide +kernel⟩, List.mem_of_getElem? (i := 1074) (by decide +kernel), List.mem_of_getElem? (i := 1283) (by decide +kernel), List.mem_of_getElem? (i := 1284) (by decide +kernel)⟩
theorem lw_p50 : lw_okq (⟨"KeptSummariesModel", "types", "(I)V"⟩, 60) := ⟨⟨by decide +kernel, by decide +kernel⟩, List.mem_of_getElem? (i := 1074) (by decide +kernel), List.mem_of_getElem? (i := 1291) (by decide +kernel), List.mem_of_getElem? (i := 1292) (by decide +kernel)⟩
theorem lw_p51 : lw_okq (⟨"KeptSummariesModel", "beginsText", "(I)V"⟩, 60) := ⟨⟨by decide +kernel, by decide +kernel⟩, List.mem_of_getElem? (i := 1074) (by decide +kernel), List.mem_of_getElem? (i := 1299) (by decide +kernel), List.mem_of_getElem? (i := 1300) (by decide +kernel)⟩
theorem lw_p52 : lw_okq (⟨"KeptSummariesModel", "readsRule", "()Z"⟩, 60) := ⟨⟨by decide +kernel, by decide +kernel⟩, List.mem_of_getElem? (i := 1074) (by decide +kernel), List.mem_of_getElem? (i := 1303) (by decide +kernel), List.mem_of_getElem? (i := 1304) (by decide +kernel)⟩
theorem lw_p53 : lw_okq (⟨"KeptSummariesModel", "here", "()I"⟩, 60) := ⟨⟨by decide +kernel, by decide +kernel⟩, List.mem_of_getElem? (i := 1074) (by decide +kernel), List.mem_of_getElem? (i := 1307) (by decide +kernel), List.mem_of_getElem? (i := 1308) (by decide +kernel)⟩
theorem lw_p54 : lw_okq (⟨"KeptSummariesModel", "wrongAt", "(II)Z"⟩, 60) := ⟨⟨by decide +kernel, by decide +kernel⟩, List.mem_of_getElem? (i := 1074) (by decide +kernel), List.mem_of_getElem? (i := 1311) (by decide +kernel), List.mem_of_getElem? (i := 1312) (by decide +kernel)⟩
theorem lw_p55 : lw_okq (⟨"KeptSummariesModel", "readsSum", "()Z"⟩, 60) := ⟨⟨by decide +kernel, by decide +kernel⟩, List.mem_of_getElem? (i := 1074) (by decide +kernel), List.mem_of_getElem? (i := 1315) (by decide +kernel), List.mem_of_getElem? (i := 1316) (by decide +kernel)⟩
theorem lw_p56 : lw_okq (⟨"KeptSummariesModel", "readsFactor", "()Z"⟩, 60) := ⟨⟨by decide +kernel, by decide +kernel⟩, List.mem_of_getElem? (i := 1074) (by decide +kernel), List.mem_of_getElem? (i := 1319) (by decide +kernel), List.mem_of_getElem? (i := 1320) (by decide +kernel)⟩
theorem lw_p57 : lw_okq (⟨"KeptSummariesModel", "opens", "(I)Z"⟩, 60) := ⟨⟨by decide +kernel, by decide +kernel⟩, List.mem_of_getElem? (i := 1074) (by decide +kernel), List.mem_of_getElem? (i := 1323) (by decide +kernel), List.mem_of_getElem? (i := 1324) (by decide +kernel)⟩
theorem lw_p58 : lw_okq (⟨"KeptSummariesModel", "isDigit", "()Z"⟩, 60) := ⟨⟨by decide +kernel, by decide +kernel⟩, List.mem_of_getElem? (i := 1074) (by decide +kernel), List.mem_of_getElem? (i := 1328) (by decide +kernel), List.mem_of_getElem? (i := 1329) (by decide +kernel)⟩
theorem lw_p59 : lw_okq (⟨"KeptSummariesModel", "readsNumber", "()Z"⟩, 60) := ⟨⟨by decide +kernel, by decide +kernel⟩, List.mem_of_getElem? (i := 1074) (by decide +kernel), List.mem_of_getElem? (i := 1332) (by decide +kernel), List.mem_of_getElem? (i := 1333) (by decide +kernel)⟩
theorem lw_p60 : lw_okq (⟨"KeptSummariesModel", "notes", "(II)V"⟩, 60) := ⟨⟨by decide +kernel, by decide +kernel⟩, List.mem_of_getElem? (i := 1074) (by decide +kernel), List.mem_of_getElem? (i := 1336) (by decide +kernel), List.mem_of_getElem? (i := 1337) (by decide +kernel)⟩
theorem lw_p61 : lw_okq (⟨"KeptSummariesModel", "closesSums", "(Z)V"⟩, 60) := ⟨⟨by decide +kernel, by decide +kernel⟩, List.mem_of_getElem? (i := 1074) (by decide +kernel), List.mem_of_getElem? (i := 1346) (by decide +kernel), List.mem_of_getElem? (i := 1347) (by decide +kernel)⟩
theorem lw_p62 : lw_okq (⟨"KeptSummariesModel", "waitTop", "()I"⟩, 60) := ⟨⟨by decide +kernel, by decide +kernel⟩, List.mem_of_getElem? (i := 1074) (by decide +kernel), List.mem_of_getElem? (i := 1350) (by decide +kernel), List.mem_of_getElem? (i := 1351) (by decide +kernel)⟩
theorem lw_p63 : lw_okq (⟨"KeptSummariesModel", "hasOpenSum", "(I)Z"⟩, 60) := ⟨⟨by decide +kernel, by decide +kernel⟩, List.mem_of_getElem? (i := 1074) (by decide +kernel), List.mem_of_getElem? (i := 1354) (by decide +kernel), List.mem_of_getElem? (i := 1355) (by decide +kernel)⟩
def lw_privs_4 : List (MethodName × Nat) := [(⟨"KeptSummariesModel", "numberAt", "(III)I"⟩, 60), (⟨"KeptSummariesModel", "ofFact", "(II)I"⟩, 60), (⟨"KeptSummariesModel", "types", "(I)V"⟩, 60), (⟨"KeptSummariesModel", "beginsText", "(I)V"⟩, 60), (⟨"KeptSummariesModel", "readsRule", "()Z"⟩, 60), (⟨"KeptSummariesModel", "here", "()I"⟩, 60), (⟨"KeptSummariesModel", "wrongAt", "(II)Z"⟩, 60), (⟨"KeptSummariesModel", "readsSum", "()Z"⟩, 60), (⟨"KeptSummariesModel", "readsFactor", "()Z"⟩, 60), (⟨"KeptSummariesModel", "opens", "(I)Z"⟩, 60), (⟨"KeptSummariesModel", "isDigit", "()Z"⟩, 60), (⟨"KeptSummariesModel", "readsNumber", "()Z"⟩, 60), (⟨"KeptSummariesModel", "notes", "(II)V"⟩, 60), (⟨"KeptSummariesModel", "closesSums", "(Z)V"⟩, 60), (⟨"KeptSummariesModel", "waitTop", "()I"⟩, 60), (⟨"KeptSummariesModel", "hasOpenSum", "(I)Z"⟩, 60)]
theorem lw_r4 : ∀ q ∈ lw_privs_4, lw_okq q := List.forall_mem_cons.mpr ⟨lw_p48, List.forall_mem_cons.mpr ⟨lw_p49, List.forall_mem_cons.mpr ⟨lw_p50, List.forall_mem_cons.mpr ⟨lw_p51, List.forall_mem_cons.mpr ⟨lw_p52, List.forall_mem_cons.mpr ⟨lw_p53, List.forall_mem_cons.mpr ⟨lw_p54, List.forall_mem_cons.mpr ⟨lw_p55, List.forall_mem_cons.mpr ⟨lw_p56, List.forall_mem_cons.mpr ⟨lw_p57, List.forall_mem_cons.mpr ⟨lw_p58, List.forall_mem_cons.mpr ⟨lw_p59, List.forall_mem_cons.mpr ⟨lw_p60, List.forall_mem_cons.mpr ⟨lw_p61, List.forall_mem_cons.mpr ⟨lw_p62, List.forall_mem_cons.mpr ⟨lw_p63, fun _ h => absurd h List.not_mem_nil⟩⟩⟩⟩⟩⟩⟩⟩⟩⟩⟩⟩⟩⟩⟩⟩
theorem lw_p64 : lw_okq (⟨"KeptSummariesModel", "readsCondition", "()Z"⟩, 60) := ⟨⟨by decide +kernel, by decide +kernel⟩, List.mem_of_getElem? (i := 1074) (by decide +kernel), List.mem_of_getElem? (i := 1358) (by decide +kernel), List.mem_of_getElem? (i := 1359) (by decide +kernel)⟩
theorem lw_p65 : lw_okq (⟨"KeptSummariesModel", "readsCompared", "()Z"⟩, 60) := ⟨⟨by decide +kernel, by decide +kernel⟩, List.mem_of_getElem? (i := 1074) (by decide +kernel), List.mem_of_getElem? (i := 1362) (by decide +kernel), List.mem_of_getElem? (i := 1363) (by decide +kernel)⟩
theorem lw_p66 : lw_okq (⟨"KeptSummariesModel", "endsPiece", "()V"⟩, 60) := ⟨⟨by decide +kernel, by decide +kernel⟩, List.mem_of_getElem? (i := 1074) (by decide +kernel), List.mem_of_getElem? (i := 1366) (by decide +kernel), List.mem_of_getElem? (i := 1367) (by decide +kernel)⟩
theorem lw_p67 : lw_okq (⟨"KeptSummariesModel", "lands", "(Z)V"⟩, 60) := ⟨⟨by decide +kernel, by decide +kernel⟩, List.mem_of_getElem? (i := 1074) (by decide +kernel), List.mem_of_getElem? (i := 1370) (by decide +kernel), List.mem_of_getElem? (i := 1371) (by decide +kernel)⟩
theorem lw_p68 : lw_okq (⟨"KeptSummariesModel", "jumps", "(I)V"⟩, 60) := ⟨⟨by decide +kernel, by decide +kernel⟩, List.mem_of_getElem? (i := 1074) (by decide +kernel), List.mem_of_getElem? (i := 1374) (by decide +kernel), List.mem_of_getElem? (i := 1375) (by decide +kernel)⟩
theorem lw_p69 : lw_okq (⟨"KeptSummariesModel", "takes", "(I)Z"⟩, 60) := ⟨⟨by decide +kernel, by decide +kernel⟩, List.mem_of_getElem? (i := 1074) (by decide +kernel), List.mem_of_getElem? (i := 1378) (by decide +kernel), List.mem_of_getElem? (i := 1379) (by decide +kernel)⟩
theorem lw_p70 : lw_okq (⟨"KeptSummariesModel", "comes", "(IIII)I"⟩, 60) := ⟨⟨by decide +kernel, by decide +kernel⟩, List.mem_of_getElem? (i := 1074) (by decide +kernel), List.mem_of_getElem? (i := 1386) (by decide +kernel), List.mem_of_getElem? (i := 1387) (by decide +kernel)⟩
theorem lw_p71 : lw_okq (⟨"KeptSummariesModel", "lotGoes", "()I"⟩, 60) := ⟨⟨by decide +kernel, by decide +kernel⟩, List.mem_of_getElem? (i := 1074) (by decide +kernel), List.mem_of_getElem? (i := 1390) (by decide +kernel), List.mem_of_getElem? (i := 1391) (by decide +kernel)⟩
theorem lw_p72 : lw_okq (⟨"KeptSummariesModel", "isRefused", "()Z"⟩, 60) := ⟨⟨by decide +kernel, by decide +kernel⟩, List.mem_of_getElem? (i := 1074) (by decide +kernel), List.mem_of_getElem? (i := 1395) (by decide +kernel), List.mem_of_getElem? (i := 1396) (by decide +kernel)⟩
theorem lw_p73 : lw_okq (⟨"KeptSummariesModel", "reckonsTo", "(II)I"⟩, 60) := ⟨⟨by decide +kernel, by decide +kernel⟩, List.mem_of_getElem? (i := 1074) (by decide +kernel), List.mem_of_getElem? (i := 1399) (by decide +kernel), List.mem_of_getElem? (i := 1400) (by decide +kernel)⟩
theorem lw_p74 : lw_okq (⟨"KeptSummariesModel", "byLaw", "(II)I"⟩, 60) := ⟨⟨by decide +kernel, by decide +kernel⟩, List.mem_of_getElem? (i := 1074) (by decide +kernel), List.mem_of_getElem? (i := 1406) (by decide +kernel), List.mem_of_getElem? (i := 1407) (by decide +kernel)⟩
theorem lw_p75 : lw_okq (⟨"KeptSummariesModel", "isSummary", "(I)Z"⟩, 60) := ⟨⟨by decide +kernel, by decide +kernel⟩, List.mem_of_getElem? (i := 1074) (by decide +kernel), List.mem_of_getElem? (i := 1416) (by decide +kernel), List.mem_of_getElem? (i := 1417) (by decide +kernel)⟩
theorem lw_p76 : lw_okq (⟨"KeptSummariesModel", "readsCoarse", "()Z"⟩, 60) := ⟨⟨by decide +kernel, by decide +kernel⟩, List.mem_of_getElem? (i := 1074) (by decide +kernel), List.mem_of_getElem? (i := 1428) (by decide +kernel), List.mem_of_getElem? (i := 1429) (by decide +kernel)⟩
theorem lw_p77 : lw_okq (⟨"KeptSummariesModel", "readsDigit", "(I)Z"⟩, 60) := ⟨⟨by decide +kernel, by decide +kernel⟩, List.mem_of_getElem? (i := 1074) (by decide +kernel), List.mem_of_getElem? (i := 1432) (by decide +kernel), List.mem_of_getElem? (i := 1433) (by decide +kernel)⟩
theorem lw_p78 : lw_okq (⟨"KeptSummariesModel", "readsSummary", "()Z"⟩, 60) := ⟨⟨by decide +kernel, by decide +kernel⟩, List.mem_of_getElem? (i := 1074) (by decide +kernel), List.mem_of_getElem? (i := 1443) (by decide +kernel), List.mem_of_getElem? (i := 1444) (by decide +kernel)⟩
theorem lw_p79 : lw_okq (⟨"KeptSummariesModel", "readsLevels", "()Z"⟩, 60) := ⟨⟨by decide +kernel, by decide +kernel⟩, List.mem_of_getElem? (i := 1074) (by decide +kernel), List.mem_of_getElem? (i := 1447) (by decide +kernel), List.mem_of_getElem? (i := 1448) (by decide +kernel)⟩
def lw_privs_5 : List (MethodName × Nat) := [(⟨"KeptSummariesModel", "readsCondition", "()Z"⟩, 60), (⟨"KeptSummariesModel", "readsCompared", "()Z"⟩, 60), (⟨"KeptSummariesModel", "endsPiece", "()V"⟩, 60), (⟨"KeptSummariesModel", "lands", "(Z)V"⟩, 60), (⟨"KeptSummariesModel", "jumps", "(I)V"⟩, 60), (⟨"KeptSummariesModel", "takes", "(I)Z"⟩, 60), (⟨"KeptSummariesModel", "comes", "(IIII)I"⟩, 60), (⟨"KeptSummariesModel", "lotGoes", "()I"⟩, 60), (⟨"KeptSummariesModel", "isRefused", "()Z"⟩, 60), (⟨"KeptSummariesModel", "reckonsTo", "(II)I"⟩, 60), (⟨"KeptSummariesModel", "byLaw", "(II)I"⟩, 60), (⟨"KeptSummariesModel", "isSummary", "(I)Z"⟩, 60), (⟨"KeptSummariesModel", "readsCoarse", "()Z"⟩, 60), (⟨"KeptSummariesModel", "readsDigit", "(I)Z"⟩, 60), (⟨"KeptSummariesModel", "readsSummary", "()Z"⟩, 60), (⟨"KeptSummariesModel", "readsLevels", "()Z"⟩, 60)]
theorem lw_r5 : ∀ q ∈ lw_privs_5, lw_okq q := List.forall_mem_cons.mpr ⟨lw_p64, List.forall_mem_cons.mpr ⟨lw_p65, List.forall_mem_cons.mpr ⟨lw_p66, List.forall_mem_cons.mpr ⟨lw_p67, List.forall_mem_cons.mpr ⟨lw_p68, List.forall_mem_cons.mpr ⟨lw_p69, List.forall_mem_cons.mpr ⟨lw_p70, List.forall_mem_cons.mpr ⟨lw_p71, List.forall_mem_cons.mpr ⟨lw_p72, List.forall_mem_cons.mpr ⟨lw_p73, List.forall_mem_cons.mpr ⟨lw_p74, List.forall_mem_cons.mpr ⟨lw_p75, List.forall_mem_cons.mpr ⟨lw_p76, List.forall_mem_cons.mpr ⟨lw_p77, List.forall_mem_cons.mpr ⟨lw_p78, List.forall_mem_cons.mpr ⟨lw_p79, fun _ h => absurd h List.not_mem_nil⟩⟩⟩⟩⟩⟩⟩⟩⟩⟩⟩⟩⟩⟩⟩⟩
theorem lw_p80 : lw_okq (⟨"KeptSummariesModel", "readsLevel", "(I)Z"⟩, 60) := ⟨⟨by decide +kernel, by decide +kernel⟩, List.mem_of_getElem? (i := 1074) (by decide +kernel), List.mem_of_getElem? (i := 1451) (by decide +kernel), List.mem_of_getElem? (i := 1452) (by decide +kernel)⟩
theorem lw_p81 : lw_okq (⟨"KeptSummariesModel", "readsParts", "()Z"⟩, 60) := ⟨⟨by decide +kernel, by decide +kernel⟩, List.mem_of_getElem? (i := 1074) (by decide +kernel), List.mem_of_getElem? (i := 1455) (by decide +kernel), List.mem_of_getElem? (i := 1456) (by decide +kernel)⟩
theorem lw_p82 : lw_okq (⟨"KeptSummariesModel", "readsSpans", "()Z"⟩, 60) := ⟨⟨by decide +kernel, by decide +kernel⟩, List.mem_of_getElem? (i := 1074) (by decide +kernel), List.mem_of_getElem? (i := 1462) (by decide +kernel), List.mem_of_getElem? (i := 1463) (by decide +kernel)⟩
theorem lw_p83 : lw_okq (⟨"KeptSummariesModel", "readsSpan", "()Z"⟩, 60) := ⟨⟨by decide +kernel, by decide +kernel⟩, List.mem_of_getElem? (i := 1074) (by decide +kernel), List.mem_of_getElem? (i := 1466) (by decide +kernel), List.mem_of_getElem? (i := 1467) (by decide +kernel)⟩
theorem lw_p84 : lw_okq (⟨"KeptSummariesModel", "spanBy", "(IIII)I"⟩, 60) := ⟨⟨by decide +kernel, by decide +kernel⟩, List.mem_of_getElem? (i := 1074) (by decide +kernel), List.mem_of_getElem? (i := 1470) (by decide +kernel), List.mem_of_getElem? (i := 1471) (by decide +kernel)⟩
theorem lw_p85 : lw_okq (⟨"KeptSummariesModel", "readsQuestion", "()Z"⟩, 60) := ⟨⟨by decide +kernel, by decide +kernel⟩, List.mem_of_getElem? (i := 1074) (by decide +kernel), List.mem_of_getElem? (i := 1478) (by decide +kernel), List.mem_of_getElem? (i := 1479) (by decide +kernel)⟩
theorem lw_p86 : lw_okq (⟨"KeptSummariesModel", "answersByFacts", "()V"⟩, 60) := ⟨⟨by decide +kernel, by decide +kernel⟩, List.mem_of_getElem? (i := 1074) (by decide +kernel), List.mem_of_getElem? (i := 1485) (by decide +kernel), List.mem_of_getElem? (i := 1486) (by decide +kernel)⟩
theorem lw_p87 : lw_okq (⟨"KeptSummariesModel", "clears", "()V"⟩, 60) := ⟨⟨by decide +kernel, by decide +kernel⟩, List.mem_of_getElem? (i := 1074) (by decide +kernel), List.mem_of_getElem? (i := 1489) (by decide +kernel), List.mem_of_getElem? (i := 1490) (by decide +kernel)⟩
theorem lw_p88 : lw_okq (⟨"KeptSummariesModel", "addsFacts", "([IIII)V"⟩, 60) := ⟨⟨by decide +kernel, by decide +kernel⟩, List.mem_of_getElem? (i := 1074) (by decide +kernel), List.mem_of_getElem? (i := 1494) (by decide +kernel), List.mem_of_getElem? (i := 1495) (by decide +kernel)⟩
theorem lw_p89 : lw_okq (⟨"KeptSummariesModel", "isLet", "([III)Z"⟩, 60) := ⟨⟨by decide +kernel, by decide +kernel⟩, List.mem_of_getElem? (i := 1074) (by decide +kernel), List.mem_of_getElem? (i := 1498) (by decide +kernel), List.mem_of_getElem? (i := 1499) (by decide +kernel)⟩
theorem lw_p90 : lw_okq (⟨"KeptSummariesModel", "tripleOf", "([III)I"⟩, 60) := ⟨⟨by decide +kernel, by decide +kernel⟩, List.mem_of_getElem? (i := 1074) (by decide +kernel), List.mem_of_getElem? (i := 1502) (by decide +kernel), List.mem_of_getElem? (i := 1503) (by decide +kernel)⟩
theorem lw_p91 : lw_okq (⟨"KeptSummariesModel", "adds", "(IIIII)V"⟩, 60) := ⟨⟨by decide +kernel, by decide +kernel⟩, List.mem_of_getElem? (i := 1074) (by decide +kernel), List.mem_of_getElem? (i := 1506) (by decide +kernel), List.mem_of_getElem? (i := 1507) (by decide +kernel)⟩
theorem lw_p92 : lw_okq (⟨"KeptSummariesModel", "putsDown", "()V"⟩, 60) := ⟨⟨by decide +kernel, by decide +kernel⟩, List.mem_of_getElem? (i := 1074) (by decide +kernel), List.mem_of_getElem? (i := 1510) (by decide +kernel), List.mem_of_getElem? (i := 1511) (by decide +kernel)⟩
theorem lw_p93 : lw_okq (⟨"KeptSummariesModel", "whatAt", "(I)I"⟩, 60) := ⟨⟨by decide +kernel, by decide +kernel⟩, List.mem_of_getElem? (i := 1074) (by decide +kernel), List.mem_of_getElem? (i := 1514) (by decide +kernel), List.mem_of_getElem? (i := 1515) (by decide +kernel)⟩
theorem lw_p94 : lw_okq (⟨"KeptSummariesModel", "unlikeIn", "(I)I"⟩, 60) := ⟨⟨by decide +kernel, by decide +kernel⟩, List.mem_of_getElem? (i := 1074) (by decide +kernel), List.mem_of_getElem? (i := 1518) (by decide +kernel), List.mem_of_getElem? (i := 1519) (by decide +kernel)⟩
theorem lw_p95 : lw_okq (⟨"KeptSummariesModel", "timesOf", "(I)V"⟩, 60) := ⟨⟨by decide +kernel, by decide +kernel⟩, List.mem_of_getElem? (i := 1074) (by decide +kernel), List.mem_of_getElem? (i := 1522) (by decide +kernel), List.mem_of_getElem? (i := 1523) (by decide +kernel)⟩
def lw_privs_6 : List (MethodName × Nat) := [(⟨"KeptSummariesModel", "readsLevel", "(I)Z"⟩, 60), (⟨"KeptSummariesModel", "readsParts", "()Z"⟩, 60), (⟨"KeptSummariesModel", "readsSpans", "()Z"⟩, 60), (⟨"KeptSummariesModel", "readsSpan", "()Z"⟩, 60), (⟨"KeptSummariesModel", "spanBy", "(IIII)I"⟩, 60), (⟨"KeptSummariesModel", "readsQuestion", "()Z"⟩, 60), (⟨"KeptSummariesModel", "answersByFacts", "()V"⟩, 60), (⟨"KeptSummariesModel", "clears", "()V"⟩, 60), (⟨"KeptSummariesModel", "addsFacts", "([IIII)V"⟩, 60), (⟨"KeptSummariesModel", "isLet", "([III)Z"⟩, 60), (⟨"KeptSummariesModel", "tripleOf", "([III)I"⟩, 60), (⟨"KeptSummariesModel", "adds", "(IIIII)V"⟩, 60), (⟨"KeptSummariesModel", "putsDown", "()V"⟩, 60), (⟨"KeptSummariesModel", "whatAt", "(I)I"⟩, 60), (⟨"KeptSummariesModel", "unlikeIn", "(I)I"⟩, 60), (⟨"KeptSummariesModel", "timesOf", "(I)V"⟩, 60)]
theorem lw_r6 : ∀ q ∈ lw_privs_6, lw_okq q := List.forall_mem_cons.mpr ⟨lw_p80, List.forall_mem_cons.mpr ⟨lw_p81, List.forall_mem_cons.mpr ⟨lw_p82, List.forall_mem_cons.mpr ⟨lw_p83, List.forall_mem_cons.mpr ⟨lw_p84, List.forall_mem_cons.mpr ⟨lw_p85, List.forall_mem_cons.mpr ⟨lw_p86, List.forall_mem_cons.mpr ⟨lw_p87, List.forall_mem_cons.mpr ⟨lw_p88, List.forall_mem_cons.mpr ⟨lw_p89, List.forall_mem_cons.mpr ⟨lw_p90, List.forall_mem_cons.mpr ⟨lw_p91, List.forall_mem_cons.mpr ⟨lw_p92, List.forall_mem_cons.mpr ⟨lw_p93, List.forall_mem_cons.mpr ⟨lw_p94, List.forall_mem_cons.mpr ⟨lw_p95, fun _ h => absurd h List.not_mem_nil⟩⟩⟩⟩⟩⟩⟩⟩⟩⟩⟩⟩⟩⟩⟩⟩
theorem lw_p96 : lw_okq (⟨"KeptSummariesModel", "middleOf", "(I)I"⟩, 60) := ⟨⟨by decide +kernel, by decide +kernel⟩, List.mem_of_getElem? (i := 1074) (by decide +kernel), List.mem_of_getElem? (i := 1526) (by decide +kernel), List.mem_of_getElem? (i := 1527) (by decide +kernel)⟩
theorem lw_p97 : lw_okq (⟨"KeptSummariesModel", "partAt", "(II)I"⟩, 60) := ⟨⟨by decide +kernel, by decide +kernel⟩, List.mem_of_getElem? (i := 1074) (by decide +kernel), List.mem_of_getElem? (i := 1530) (by decide +kernel), List.mem_of_getElem? (i := 1531) (by decide +kernel)⟩
theorem lw_p98 : lw_okq (⟨"KeptSummariesModel", "freshOf", "(I)I"⟩, 60) := ⟨⟨by decide +kernel, by decide +kernel⟩, List.mem_of_getElem? (i := 1074) (by decide +kernel), List.mem_of_getElem? (i := 1538) (by decide +kernel), List.mem_of_getElem? (i := 1539) (by decide +kernel)⟩
theorem lw_p99 : lw_okq (⟨"KeptSummariesModel", "upTo", "(I)I"⟩, 60) := ⟨⟨by decide +kernel, by decide +kernel⟩, List.mem_of_getElem? (i := 1074) (by decide +kernel), List.mem_of_getElem? (i := 1542) (by decide +kernel), List.mem_of_getElem? (i := 1543) (by decide +kernel)⟩
theorem lw_p100 : lw_okq (⟨"KeptSummariesModel", "groupsOf", "(I)I"⟩, 60) := ⟨⟨by decide +kernel, by decide +kernel⟩, List.mem_of_getElem? (i := 1074) (by decide +kernel), List.mem_of_getElem? (i := 1554) (by decide +kernel), List.mem_of_getElem? (i := 1555) (by decide +kernel)⟩
theorem lw_p101 : lw_okq (⟨"KeptSummariesModel", "laysSummary", "(I)V"⟩, 60) := ⟨⟨by decide +kernel, by decide +kernel⟩, List.mem_of_getElem? (i := 1074) (by decide +kernel), List.mem_of_getElem? (i := 1558) (by decide +kernel), List.mem_of_getElem? (i := 1559) (by decide +kernel)⟩
theorem lw_p102 : lw_okq (⟨"KeptSummariesModel", "groupsThere", "()I"⟩, 60) := ⟨⟨by decide +kernel, by decide +kernel⟩, List.mem_of_getElem? (i := 1074) (by decide +kernel), List.mem_of_getElem? (i := 1562) (by decide +kernel), List.mem_of_getElem? (i := 1563) (by decide +kernel)⟩
theorem lw_p103 : lw_okq (⟨"KeptSummariesModel", "costOf", "(I)I"⟩, 60) := ⟨⟨by decide +kernel, by decide +kernel⟩, List.mem_of_getElem? (i := 1074) (by decide +kernel), List.mem_of_getElem? (i := 1566) (by decide +kernel), List.mem_of_getElem? (i := 1567) (by decide +kernel)⟩
theorem lw_p104 : lw_okq (⟨"KeptSummariesModel", "tripleBehind", "(I)I"⟩, 60) := ⟨⟨by decide +kernel, by decide +kernel⟩, List.mem_of_getElem? (i := 1074) (by decide +kernel), List.mem_of_getElem? (i := 1574) (by decide +kernel), List.mem_of_getElem? (i := 1575) (by decide +kernel)⟩
theorem lw_p105 : lw_okq (⟨"KeptSummariesModel", "coversNow", "(I)Z"⟩, 60) := ⟨⟨by decide +kernel, by decide +kernel⟩, List.mem_of_getElem? (i := 1074) (by decide +kernel), List.mem_of_getElem? (i := 1589) (by decide +kernel), List.mem_of_getElem? (i := 1590) (by decide +kernel)⟩
theorem lw_p106 : lw_okq (⟨"KeptSummariesModel", "coversAll", "(I[II)Z"⟩, 60) := ⟨⟨by decide +kernel, by decide +kernel⟩, List.mem_of_getElem? (i := 1074) (by decide +kernel), List.mem_of_getElem? (i := 1596) (by decide +kernel), List.mem_of_getElem? (i := 1597) (by decide +kernel)⟩
theorem lw_p107 : lw_okq (⟨"KeptSummariesModel", "coversSide", "(III[II)Z"⟩, 60) := ⟨⟨by decide +kernel, by decide +kernel⟩, List.mem_of_getElem? (i := 1074) (by decide +kernel), List.mem_of_getElem? (i := 1600) (by decide +kernel), List.mem_of_getElem? (i := 1601) (by decide +kernel)⟩
theorem lw_p108 : lw_okq (⟨"KeptSummariesModel", "valuesOf", "(IIII)I"⟩, 60) := ⟨⟨by decide +kernel, by decide +kernel⟩, List.mem_of_getElem? (i := 1074) (by decide +kernel), List.mem_of_getElem? (i := 1604) (by decide +kernel), List.mem_of_getElem? (i := 1605) (by decide +kernel)⟩
theorem lw_p109 : lw_okq (⟨"KeptSummariesModel", "leftOut", "(I)I"⟩, 60) := ⟨⟨by decide +kernel, by decide +kernel⟩, List.mem_of_getElem? (i := 1074) (by decide +kernel), List.mem_of_getElem? (i := 1612) (by decide +kernel), List.mem_of_getElem? (i := 1613) (by decide +kernel)⟩
theorem lw_p110 : lw_okq (⟨"KeptSummariesModel", "leavesOut", "(II)Z"⟩, 60) := ⟨⟨by decide +kernel, by decide +kernel⟩, List.mem_of_getElem? (i := 1074) (by decide +kernel), List.mem_of_getElem? (i := 1616) (by decide +kernel), List.mem_of_getElem? (i := 1617) (by decide +kernel)⟩
theorem lw_p111 : lw_okq (⟨"KeptSummariesModel", "rolledUp", "(I)I"⟩, 60) := ⟨⟨by decide +kernel, by decide +kernel⟩, List.mem_of_getElem? (i := 1074) (by decide +kernel), List.mem_of_getElem? (i := 1620) (by decide +kernel), List.mem_of_getElem? (i := 1621) (by decide +kernel)⟩
def lw_privs_7 : List (MethodName × Nat) := [(⟨"KeptSummariesModel", "middleOf", "(I)I"⟩, 60), (⟨"KeptSummariesModel", "partAt", "(II)I"⟩, 60), (⟨"KeptSummariesModel", "freshOf", "(I)I"⟩, 60), (⟨"KeptSummariesModel", "upTo", "(I)I"⟩, 60), (⟨"KeptSummariesModel", "groupsOf", "(I)I"⟩, 60), (⟨"KeptSummariesModel", "laysSummary", "(I)V"⟩, 60), (⟨"KeptSummariesModel", "groupsThere", "()I"⟩, 60), (⟨"KeptSummariesModel", "costOf", "(I)I"⟩, 60), (⟨"KeptSummariesModel", "tripleBehind", "(I)I"⟩, 60), (⟨"KeptSummariesModel", "coversNow", "(I)Z"⟩, 60), (⟨"KeptSummariesModel", "coversAll", "(I[II)Z"⟩, 60), (⟨"KeptSummariesModel", "coversSide", "(III[II)Z"⟩, 60), (⟨"KeptSummariesModel", "valuesOf", "(IIII)I"⟩, 60), (⟨"KeptSummariesModel", "leftOut", "(I)I"⟩, 60), (⟨"KeptSummariesModel", "leavesOut", "(II)Z"⟩, 60), (⟨"KeptSummariesModel", "rolledUp", "(I)I"⟩, 60)]
theorem lw_r7 : ∀ q ∈ lw_privs_7, lw_okq q := List.forall_mem_cons.mpr ⟨lw_p96, List.forall_mem_cons.mpr ⟨lw_p97, List.forall_mem_cons.mpr ⟨lw_p98, List.forall_mem_cons.mpr ⟨lw_p99, List.forall_mem_cons.mpr ⟨lw_p100, List.forall_mem_cons.mpr ⟨lw_p101, List.forall_mem_cons.mpr ⟨lw_p102, List.forall_mem_cons.mpr ⟨lw_p103, List.forall_mem_cons.mpr ⟨lw_p104, List.forall_mem_cons.mpr ⟨lw_p105, List.forall_mem_cons.mpr ⟨lw_p106, List.forall_mem_cons.mpr ⟨lw_p107, List.forall_mem_cons.mpr ⟨lw_p108, List.forall_mem_cons.mpr ⟨lw_p109, List.forall_mem_cons.mpr ⟨lw_p110, List.forall_mem_cons.mpr ⟨lw_p111, fun _ h => absurd h List.not_mem_nil⟩⟩⟩⟩⟩⟩⟩⟩⟩⟩⟩⟩⟩⟩⟩⟩
theorem lw_p112 : lw_okq (⟨"KeptSummariesModel", "compensation", "(I)I"⟩, 60) := ⟨⟨by decide +kernel, by decide +kernel⟩, List.mem_of_getElem? (i := 1074) (by decide +kernel), List.mem_of_getElem? (i := 1624) (by decide +kernel), List.mem_of_getElem? (i := 1625) (by decide +kernel)⟩
theorem lw_p113 : lw_okq (⟨"KeptSummariesModel", "takenOf", "(I)I"⟩, 60) := ⟨⟨by decide +kernel, by decide +kernel⟩, List.mem_of_getElem? (i := 1074) (by decide +kernel), List.mem_of_getElem? (i := 1628) (by decide +kernel), List.mem_of_getElem? (i := 1629) (by decide +kernel)⟩
theorem lw_p114 : lw_okq (⟨"KeptSummariesModel", "goesInto", "(II)I"⟩, 60) := ⟨⟨by decide +kernel, by decide +kernel⟩, List.mem_of_getElem? (i := 1074) (by decide +kernel), List.mem_of_getElem? (i := 1632) (by decide +kernel), List.mem_of_getElem? (i := 1633) (by decide +kernel)⟩
theorem lw_p115 : lw_okq (⟨"KeptSummariesModel", "standsFor", "(III)I"⟩, 60) := ⟨⟨by decide +kernel, by decide +kernel⟩, List.mem_of_getElem? (i := 1074) (by decide +kernel), List.mem_of_getElem? (i := 1636) (by decide +kernel), List.mem_of_getElem? (i := 1637) (by decide +kernel)⟩
theorem lw_p116 : lw_okq (⟨"KeptSummariesModel", "wayNow", "()I"⟩, 60) := ⟨⟨by decide +kernel, by decide +kernel⟩, List.mem_of_getElem? (i := 1074) (by decide +kernel), List.mem_of_getElem? (i := 1648) (by decide +kernel), List.mem_of_getElem? (i := 1649) (by decide +kernel)⟩
theorem lw_p117 : lw_okq (⟨"KeptSummariesModel", "answersByWay", "(I)V"⟩, 60) := ⟨⟨by decide +kernel, by decide +kernel⟩, List.mem_of_getElem? (i := 1074) (by decide +kernel), List.mem_of_getElem? (i := 1656) (by decide +kernel), List.mem_of_getElem? (i := 1657) (by decide +kernel)⟩
theorem lw_p118 : lw_okq (⟨"KeptSummariesModel", "answersBy", "(I)V"⟩, 60) := ⟨⟨by decide +kernel, by decide +kernel⟩, List.mem_of_getElem? (i := 1074) (by decide +kernel), List.mem_of_getElem? (i := 1660) (by decide +kernel), List.mem_of_getElem? (i := 1661) (by decide +kernel)⟩
theorem lw_p119 : lw_okq (⟨"KeptSummariesModel", "toldOf", "(II)I"⟩, 60) := ⟨⟨by decide +kernel, by decide +kernel⟩, List.mem_of_getElem? (i := 1074) (by decide +kernel), List.mem_of_getElem? (i := 1664) (by decide +kernel), List.mem_of_getElem? (i := 1665) (by decide +kernel)⟩
theorem lw_p120 : lw_okq (⟨"KeptSummariesModel", "aheadOf", "(I)I"⟩, 60) := ⟨⟨by decide +kernel, by decide +kernel⟩, List.mem_of_getElem? (i := 1074) (by decide +kernel), List.mem_of_getElem? (i := 1672) (by decide +kernel), List.mem_of_getElem? (i := 1673) (by decide +kernel)⟩
theorem lw_p121 : lw_okq (⟨"KeptSummariesModel", "differs", "(I)I"⟩, 60) := ⟨⟨by decide +kernel, by decide +kernel⟩, List.mem_of_getElem? (i := 1074) (by decide +kernel), List.mem_of_getElem? (i := 1684) (by decide +kernel), List.mem_of_getElem? (i := 1685) (by decide +kernel)⟩
theorem lw_p122 : lw_okq (⟨"KeptSummariesModel", "groupsBy", "(I)I"⟩, 60) := ⟨⟨by decide +kernel, by decide +kernel⟩, List.mem_of_getElem? (i := 1074) (by decide +kernel), List.mem_of_getElem? (i := 1695) (by decide +kernel), List.mem_of_getElem? (i := 1696) (by decide +kernel)⟩
theorem lw_p123 : lw_okq (⟨"KeptSummariesModel", "laysLattice", "()V"⟩, 60) := ⟨⟨by decide +kernel, by decide +kernel⟩, List.mem_of_getElem? (i := 1074) (by decide +kernel), List.mem_of_getElem? (i := 1714) (by decide +kernel), List.mem_of_getElem? (i := 1715) (by decide +kernel)⟩
theorem lw_p124 : lw_okq (⟨"KeptSummariesModel", "priceBy", "(I)I"⟩, 60) := ⟨⟨by decide +kernel, by decide +kernel⟩, List.mem_of_getElem? (i := 1074) (by decide +kernel), List.mem_of_getElem? (i := 1718) (by decide +kernel), List.mem_of_getElem? (i := 1719) (by decide +kernel)⟩
theorem lw_p125 : lw_okq (⟨"KeptSummariesModel", "octet", "(I)I"⟩, 60) := ⟨⟨by decide +kernel, by decide +kernel⟩, List.mem_of_getElem? (i := 1074) (by decide +kernel), List.mem_of_getElem? (i := 1747) (by decide +kernel), List.mem_of_getElem? (i := 1748) (by decide +kernel)⟩
theorem lw_p126 : lw_okq (⟨"KeptSummariesModel", "measures", "()I"⟩, 60) := ⟨⟨by decide +kernel, by decide +kernel⟩, List.mem_of_getElem? (i := 1074) (by decide +kernel), List.mem_of_getElem? (i := 1755) (by decide +kernel), List.mem_of_getElem? (i := 1756) (by decide +kernel)⟩
def lw_privs_8 : List (MethodName × Nat) := [(⟨"KeptSummariesModel", "compensation", "(I)I"⟩, 60), (⟨"KeptSummariesModel", "takenOf", "(I)I"⟩, 60), (⟨"KeptSummariesModel", "goesInto", "(II)I"⟩, 60), (⟨"KeptSummariesModel", "standsFor", "(III)I"⟩, 60), (⟨"KeptSummariesModel", "wayNow", "()I"⟩, 60), (⟨"KeptSummariesModel", "answersByWay", "(I)V"⟩, 60), (⟨"KeptSummariesModel", "answersBy", "(I)V"⟩, 60), (⟨"KeptSummariesModel", "toldOf", "(II)I"⟩, 60), (⟨"KeptSummariesModel", "aheadOf", "(I)I"⟩, 60), (⟨"KeptSummariesModel", "differs", "(I)I"⟩, 60), (⟨"KeptSummariesModel", "groupsBy", "(I)I"⟩, 60), (⟨"KeptSummariesModel", "laysLattice", "()V"⟩, 60), (⟨"KeptSummariesModel", "priceBy", "(I)I"⟩, 60), (⟨"KeptSummariesModel", "octet", "(I)I"⟩, 60), (⟨"KeptSummariesModel", "measures", "()I"⟩, 60)]
theorem lw_r8 : ∀ q ∈ lw_privs_8, lw_okq q := List.forall_mem_cons.mpr ⟨lw_p112, List.forall_mem_cons.mpr ⟨lw_p113, List.forall_mem_cons.mpr ⟨lw_p114, List.forall_mem_cons.mpr ⟨lw_p115, List.forall_mem_cons.mpr ⟨lw_p116, List.forall_mem_cons.mpr ⟨lw_p117, List.forall_mem_cons.mpr ⟨lw_p118, List.forall_mem_cons.mpr ⟨lw_p119, List.forall_mem_cons.mpr ⟨lw_p120, List.forall_mem_cons.mpr ⟨lw_p121, List.forall_mem_cons.mpr ⟨lw_p122, List.forall_mem_cons.mpr ⟨lw_p123, List.forall_mem_cons.mpr ⟨lw_p124, List.forall_mem_cons.mpr ⟨lw_p125, List.forall_mem_cons.mpr ⟨lw_p126, fun _ h => absurd h List.not_mem_nil⟩⟩⟩⟩⟩⟩⟩⟩⟩⟩⟩⟩⟩⟩⟩
def lw_privs : List (MethodName × Nat) := lw_privs_1 ++ (lw_privs_2 ++ (lw_privs_3 ++ (lw_privs_4 ++ (lw_privs_5 ++ (lw_privs_6 ++ (lw_privs_7 ++ (lw_privs_8)))))))
def lw_tbl : List Cond := k2_sels lw_privs ++ tables_1
theorem lw_privs_ok : ∀ q ∈ lw_privs, lw_okq q := by
  show ∀ q ∈ lw_privs_1 ++ (lw_privs_2 ++ (lw_privs_3 ++ (lw_privs_4 ++ (lw_privs_5 ++ (lw_privs_6 ++ (lw_privs_7 ++ (lw_privs_8))))))), lw_okq q
  exact List.forall_mem_append.mpr ⟨lw_r1, List.forall_mem_append.mpr ⟨lw_r2, List.forall_mem_append.mpr ⟨lw_r3, List.forall_mem_append.mpr ⟨lw_r4, List.forall_mem_append.mpr ⟨lw_r5, List.forall_mem_append.mpr ⟨lw_r6, List.forall_mem_append.mpr ⟨lw_r7, lw_r8⟩⟩⟩⟩⟩⟩⟩
-- ===== names of classes, fields, methods =====
def RX0 : String := "KeptSummaries$Cut"
def TX0 : u_T := fun k => match k with
  | 0 => ("KeptSummaries$Cut", "levels", "[I", true)
  | 1 => ("KeptSummaries$Cut", "lets", "[I", true)
  | 2 => ("KeptSummaries$Cut", "keeps", "I", false)
  | _ => ("KeptSummaries$Cut", "what", "I", false)
def tyX0 : Nat → FieldType := fun k => match k with
  | 0 => .array .int
  | 1 => .array .int
  | 2 => .int
  | _ => .int
theorem nmX0 : ∀ a, a < 4 → ∀ b, b < 4 → a ≠ b → (TX0 a).2.1 ≠ (TX0 b).2.1 := by decide +kernel
theorem tyX0_ok : ∀ k, k < 4 → parseFieldDescriptor (TX0 k).2.2.1 = some (tyX0 k) := by decide +kernel
abbrev cX0_init : ByteArray := prog_2_method_1_code
def yX0_init : MethodName := ⟨RX0, "<init>", "()V"⟩
abbrev cX0_clear : ByteArray := prog_2_method_2_code
def yX0_clear : MethodName := ⟨RX0, "clear", "()V"⟩
abbrev cX0_copyFrom : ByteArray := prog_2_method_3_code
def yX0_copyFrom : MethodName := ⟨RX0, "copyFrom", "(LKeptSummaries$Cut;)V"⟩
abbrev cX0_levelOf : ByteArray := prog_2_method_4_code
def yX0_levelOf : MethodName := ⟨RX0, "levelOf", "(I)I"⟩
abbrev cX0_letsOf : ByteArray := prog_2_method_5_code
def yX0_letsOf : MethodName := ⟨RX0, "letsOf", "(I)I"⟩
abbrev cX0_tellLevel : ByteArray := prog_2_method_6_code
def yX0_tellLevel : MethodName := ⟨RX0, "tellLevel", "(II)V"⟩
abbrev cX0_tellLets : ByteArray := prog_2_method_7_code
def yX0_tellLets : MethodName := ⟨RX0, "tellLets", "(II)V"⟩
abbrev cX0_levelOrLets : ByteArray := prog_2_method_8_code
def yX0_levelOrLets : MethodName := ⟨RX0, "levelOrLets", "(I)I"⟩
abbrev cX0_letsTriple : ByteArray := prog_2_method_9_code
def yX0_letsTriple : MethodName := ⟨RX0, "letsTriple", "(I)Z"⟩
abbrev cX0_keepsAll : ByteArray := prog_2_method_10_code
def yX0_keepsAll : MethodName := ⟨RX0, "keepsAll", "(I)Z"⟩
abbrev cX0_coversSides : ByteArray := prog_2_method_11_code
def yX0_coversSides : MethodName := ⟨RX0, "coversSides", "(LKeptSummaries$Cut;LKeptSummaries$Shape;)Z"⟩
abbrev cX0_coversSide : ByteArray := prog_2_method_12_code
def yX0_coversSide : MethodName := ⟨RX0, "coversSide", "(ILKeptSummaries$Cut;LKeptSummaries$Shape;)Z"⟩
abbrev cX0_leftOutFor : ByteArray := prog_2_method_13_code
def yX0_leftOutFor : MethodName := ⟨RX0, "leftOutFor", "(LKeptSummaries$Cut;)I"⟩
abbrev cX0_rolledUpFor : ByteArray := prog_2_method_14_code
def yX0_rolledUpFor : MethodName := ⟨RX0, "rolledUpFor", "(LKeptSummaries$Cut;)I"⟩
abbrev cX0_liesIn : ByteArray := prog_2_method_15_code
def yX0_liesIn : MethodName := ⟨RX0, "liesIn", "(ILKeptSummaries$Cut;LKeptSummaries$Shape;)Z"⟩
abbrev cX0_rolledKey : ByteArray := prog_2_method_16_code
def yX0_rolledKey : MethodName := ⟨RX0, "rolledKey", "(ILKeptSummaries$Cut;LKeptSummaries$Shape;)I"⟩
abbrev cX0_rolledNumber : ByteArray := prog_2_method_17_code
def yX0_rolledNumber : MethodName := ⟨RX0, "rolledNumber", "(IILKeptSummaries$Cut;LKeptSummaries$Shape;)I"⟩
def RX1 : String := "KeptSummaries$Facts"
def TX1 : u_T := fun k => match k with
  | 0 => ("KeptSummaries$Facts", "triples", "[I", true)
  | 1 => ("KeptSummaries$Facts", "measures", "[I", true)
  | 2 => ("KeptSummaries$Facts", "size", "I", false)
  | 3 => ("KeptSummaries$Facts", "byMeasure", "[I", true)
  | 4 => ("KeptSummaries$Facts", "ranksOf", "[I", true)
  | _ => ("KeptSummaries$Facts", "met", "[I", true)
def tyX1 : Nat → FieldType := fun k => match k with
  | 0 => .array .int
  | 1 => .array .int
  | 2 => .int
  | 3 => .array .int
  | 4 => .array .int
  | _ => .array .int
theorem nmX1 : ∀ a, a < 6 → ∀ b, b < 6 → a ≠ b → (TX1 a).2.1 ≠ (TX1 b).2.1 := by decide +kernel
theorem tyX1_ok : ∀ k, k < 6 → parseFieldDescriptor (TX1 k).2.2.1 = some (tyX1 k) := by decide +kernel
abbrev cX1_init : ByteArray := prog_3_method_1_code
def yX1_init : MethodName := ⟨RX1, "<init>", "()V"⟩
abbrev cX1_add : ByteArray := prog_3_method_2_code
def yX1_add : MethodName := ⟨RX1, "add", "(II)V"⟩
abbrev cX1_tripleAt : ByteArray := prog_3_method_3_code
def yX1_tripleAt : MethodName := ⟨RX1, "tripleAt", "(I)I"⟩
abbrev cX1_measureAt : ByteArray := prog_3_method_4_code
def yX1_measureAt : MethodName := ⟨RX1, "measureAt", "(I)I"⟩
abbrev cX1_measuresAdded : ByteArray := prog_3_method_5_code
def yX1_measuresAdded : MethodName := ⟨RX1, "measuresAdded", "()I"⟩
abbrev cX1_letBy : ByteArray := prog_3_method_6_code
def yX1_letBy : MethodName := ⟨RX1, "letBy", "(LKeptSummaries$Cut;I)I"⟩
abbrev cX1_tally : ByteArray := prog_3_method_7_code
def yX1_tally : MethodName := ⟨RX1, "tally", "(LKeptSummaries$Table;LKeptSummaries$Cut;LKeptSummaries$Shape;II)V"⟩
abbrev cX1_tallySingled : ByteArray := prog_3_method_8_code
def yX1_tallySingled : MethodName := ⟨RX1, "tallySingled", "(LKeptSummaries$Table;LKeptSummaries$Cut;LKeptSummaries$Shape;)V"⟩
abbrev cX1_meetUnlike : ByteArray := prog_3_method_9_code
def yX1_meetUnlike : MethodName := ⟨RX1, "meetUnlike", "(LKeptSummaries$Table;II)V"⟩
abbrev cX1_meetMiddle : ByteArray := prog_3_method_10_code
def yX1_meetMiddle : MethodName := ⟨RX1, "meetMiddle", "(LKeptSummaries$Table;II)V"⟩
abbrev cX1_sortByMeasure : ByteArray := prog_3_method_11_code
def yX1_sortByMeasure : MethodName := ⟨RX1, "sortByMeasure", "()V"⟩
abbrev cX1_countMeasure : ByteArray := prog_3_method_12_code
def yX1_countMeasure : MethodName := ⟨RX1, "countMeasure", "(I)V"⟩
abbrev cX1_nextRank : ByteArray := prog_3_method_13_code
def yX1_nextRank : MethodName := ⟨RX1, "nextRank", "(I)I"⟩
def RX2 : String := "KeptSummaries$FormReader"
def TX2 : u_T := fun k => match k with
  | 0 => ("KeptSummaries$FormReader", "tape", "LKeptSummaries$Tape;", true)
  | 1 => ("KeptSummaries$FormReader", "shape", "LKeptSummaries$Shape;", true)
  | _ => ("KeptSummaries$FormReader", "cut", "LKeptSummaries$Cut;", true)
def tyX2 : Nat → FieldType := fun k => match k with
  | 0 => .object "KeptSummaries$Tape"
  | 1 => .object "KeptSummaries$Shape"
  | _ => .object "KeptSummaries$Cut"
theorem nmX2 : ∀ a, a < 3 → ∀ b, b < 3 → a ≠ b → (TX2 a).2.1 ≠ (TX2 b).2.1 := by decide +kernel
theorem tyX2_ok : ∀ k, k < 3 → parseFieldDescriptor (TX2 k).2.2.1 = some (tyX2 k) := by decide +kernel
abbrev cX2_init : ByteArray := prog_4_method_1_code
def yX2_init : MethodName := ⟨RX2, "<init>", "(LKeptSummaries$Tape;)V"⟩
abbrev cX2_readShape : ByteArray := prog_4_method_2_code
def yX2_readShape : MethodName := ⟨RX2, "readShape", "(LKeptSummaries$Shape;)I"⟩
abbrev cX2_readLine : ByteArray := prog_4_method_3_code
def yX2_readLine : MethodName := ⟨RX2, "readLine", "(I)I"⟩
abbrev cX2_readSummary : ByteArray := prog_4_method_4_code
def yX2_readSummary : MethodName := ⟨RX2, "readSummary", "(LKeptSummaries$Shape;)V"⟩
abbrev cX2_readQuestion : ByteArray := prog_4_method_5_code
def yX2_readQuestion : MethodName := ⟨RX2, "readQuestion", "(LKeptSummaries$Shape;)V"⟩
abbrev cX2_readLevels : ByteArray := prog_4_method_6_code
def yX2_readLevels : MethodName := ⟨RX2, "readLevels", "()V"⟩
abbrev cX2_readParts : ByteArray := prog_4_method_7_code
def yX2_readParts : MethodName := ⟨RX2, "readParts", "()V"⟩
abbrev cX2_readSpans : ByteArray := prog_4_method_8_code
def yX2_readSpans : MethodName := ⟨RX2, "readSpans", "(LKeptSummaries$Shape;)V"⟩
abbrev cX2_readSpan : ByteArray := prog_4_method_9_code
def yX2_readSpan : MethodName := ⟨RX2, "readSpan", "(ILKeptSummaries$Shape;)I"⟩
abbrev cX2_readSide : ByteArray := prog_4_method_10_code
def yX2_readSide : MethodName := ⟨RX2, "readSide", "()I"⟩
abbrev cX2_readDigit : ByteArray := prog_4_method_11_code
def yX2_readDigit : MethodName := ⟨RX2, "readDigit", "(I)I"⟩
abbrev cX2_readLevel : ByteArray := prog_4_method_12_code
def yX2_readLevel : MethodName := ⟨RX2, "readLevel", "(I)I"⟩
abbrev cX2_whatOf : ByteArray := prog_4_method_13_code
def yX2_whatOf : MethodName := ⟨RX2, "whatOf", "(I)I"⟩
def RX3 : String := "KeptSummaries$Lattice"
def TX3 : u_T := fun k => match k with
  | 0 => ("KeptSummaries$Lattice", "groupCounts", "[I", true)
  | 1 => ("KeptSummaries$Lattice", "nodesBelow", "[I", true)
  | 2 => ("KeptSummaries$Lattice", "least", "[I", true)
  | 3 => ("KeptSummaries$Lattice", "picks", "[I", true)
  | 4 => ("KeptSummaries$Lattice", "pickedPrice", "I", false)
  | 5 => ("KeptSummaries$Lattice", "rows", "[I", true)
  | 6 => ("KeptSummaries$Lattice", "rowsAtLevel", "[I", true)
  | 7 => ("KeptSummaries$Lattice", "merged", "[I", true)
  | _ => ("KeptSummaries$Lattice", "facts", "I", false)
def tyX3 : Nat → FieldType := fun k => match k with
  | 0 => .array .int
  | 1 => .array .int
  | 2 => .array .int
  | 3 => .array .int
  | 4 => .int
  | 5 => .array .int
  | 6 => .array .int
  | 7 => .array .int
  | _ => .int
theorem nmX3 : ∀ a, a < 9 → ∀ b, b < 9 → a ≠ b → (TX3 a).2.1 ≠ (TX3 b).2.1 := by decide +kernel
theorem tyX3_ok : ∀ k, k < 9 → parseFieldDescriptor (TX3 k).2.2.1 = some (tyX3 k) := by decide +kernel
abbrev cX3_init : ByteArray := prog_5_method_1_code
def yX3_init : MethodName := ⟨RX3, "<init>", "()V"⟩
abbrev cX3_isNoFiner : ByteArray := prog_5_method_2_code
def yX3_isNoFiner : MethodName := ⟨RX3, "isNoFiner", "(II)Z"⟩
abbrev cX3_isBelow : ByteArray := prog_5_method_3_code
def yX3_isBelow : MethodName := ⟨RX3, "isBelow", "(II)Z"⟩
abbrev cX3_groupsOf : ByteArray := prog_5_method_4_code
def yX3_groupsOf : MethodName := ⟨RX3, "groupsOf", "(I)I"⟩
abbrev cX3_pickAt : ByteArray := prog_5_method_5_code
def yX3_pickAt : MethodName := ⟨RX3, "pickAt", "(I)I"⟩
abbrev cX3_recount : ByteArray := prog_5_method_6_code
def yX3_recount : MethodName := ⟨RX3, "recount", "(LKeptSummaries$Facts;LKeptSummaries$Shape;)V"⟩
abbrev cX3_mergedGroups : ByteArray := prog_5_method_7_code
def yX3_mergedGroups : MethodName := ⟨RX3, "mergedGroups", "(ILKeptSummaries$Shape;)I"⟩
abbrev cX3_priceOf : ByteArray := prog_5_method_8_code
def yX3_priceOf : MethodName := ⟨RX3, "priceOf", "(I)I"⟩
abbrev cX3_pickGreedily : ByteArray := prog_5_method_9_code
def yX3_pickGreedily : MethodName := ⟨RX3, "pickGreedily", "(I)V"⟩
abbrev cX3_pickNext : ByteArray := prog_5_method_10_code
def yX3_pickNext : MethodName := ⟨RX3, "pickNext", "(II)V"⟩
abbrev cX3_pickBestTwo : ByteArray := prog_5_method_11_code
def yX3_pickBestTwo : MethodName := ⟨RX3, "pickBestTwo", "()V"⟩
abbrev cX3_tellNone : ByteArray := prog_5_method_12_code
def yX3_tellNone : MethodName := ⟨RX3, "tellNone", "()V"⟩
abbrev cX3_tell : ByteArray := prog_5_method_13_code
def yX3_tell : MethodName := ⟨RX3, "tell", "(I)V"⟩
abbrev cX3_priceWith : ByteArray := prog_5_method_14_code
def yX3_priceWith : MethodName := ⟨RX3, "priceWith", "(I)I"⟩
def RX4 : String := "KeptSummaries$Law"
def TX4 : u_T := fun k => match k with
  | 0 => ("KeptSummaries$Law", "steps", "[I", true)
  | 1 => ("KeptSummaries$Law", "operands", "[I", true)
  | 2 => ("KeptSummaries$Law", "size", "I", false)
  | 3 => ("KeptSummaries$Law", "heads", "[I", true)
  | 4 => ("KeptSummaries$Law", "starts", "[I", true)
  | 5 => ("KeptSummaries$Law", "conditions", "[I", true)
  | 6 => ("KeptSummaries$Law", "ends", "[I", true)
  | 7 => ("KeptSummaries$Law", "rules", "I", false)
  | 8 => ("KeptSummaries$Law", "stack", "[I", true)
  | 9 => ("KeptSummaries$Law", "top", "I", false)
  | 10 => ("KeptSummaries$Law", "refused", "Z", false)
  | _ => ("KeptSummaries$Law", "letters", "[I", true)
def tyX4 : Nat → FieldType := fun k => match k with
  | 0 => .array .int
  | 1 => .array .int
  | 2 => .int
  | 3 => .array .int
  | 4 => .array .int
  | 5 => .array .int
  | 6 => .array .int
  | 7 => .int
  | 8 => .array .int
  | 9 => .int
  | 10 => .boolean
  | _ => .array .int
theorem nmX4 : ∀ a, a < 12 → ∀ b, b < 12 → a ≠ b → (TX4 a).2.1 ≠ (TX4 b).2.1 := by decide +kernel
theorem tyX4_ok : ∀ k, k < 12 → parseFieldDescriptor (TX4 k).2.2.1 = some (tyX4 k) := by decide +kernel
abbrev cX4_init : ByteArray := prog_6_method_1_code
def yX4_init : MethodName := ⟨RX4, "<init>", "()V"⟩
abbrev cX4_clear : ByteArray := prog_6_method_2_code
def yX4_clear : MethodName := ⟨RX4, "clear", "()V"⟩
abbrev cX4_addStep : ByteArray := prog_6_method_3_code
def yX4_addStep : MethodName := ⟨RX4, "addStep", "(II)I"⟩
abbrev cX4_leadHere : ByteArray := prog_6_method_4_code
def yX4_leadHere : MethodName := ⟨RX4, "leadHere", "(I)V"⟩
abbrev cX4_addRule : ByteArray := prog_6_method_5_code
def yX4_addRule : MethodName := ⟨RX4, "addRule", "(III)V"⟩
abbrev cX4_letterOf : ByteArray := prog_6_method_6_code
def yX4_letterOf : MethodName := ⟨RX4, "letterOf", "(I)I"⟩
abbrev cX4_tell : ByteArray := prog_6_method_7_code
def yX4_tell : MethodName := ⟨RX4, "tell", "(IIIII)V"⟩
abbrev cX4_refuses : ByteArray := prog_6_method_8_code
def yX4_refuses : MethodName := ⟨RX4, "refuses", "()Z"⟩
abbrev cX4_measureFor : ByteArray := prog_6_method_9_code
def yX4_measureFor : MethodName := ⟨RX4, "measureFor", "(I)I"⟩
abbrev cX4_summaryToRenew : ByteArray := prog_6_method_10_code
def yX4_summaryToRenew : MethodName := ⟨RX4, "summaryToRenew", "()I"⟩
abbrev cX4_firstHolding : ByteArray := prog_6_method_11_code
def yX4_firstHolding : MethodName := ⟨RX4, "firstHolding", "(I)I"⟩
abbrev cX4_result : ByteArray := prog_6_method_12_code
def yX4_result : MethodName := ⟨RX4, "result", "(I)I"⟩
abbrev cX4_run : ByteArray := prog_6_method_13_code
def yX4_run : MethodName := ⟨RX4, "run", "(II)I"⟩
abbrev cX4_afterTest : ByteArray := prog_6_method_14_code
def yX4_afterTest : MethodName := ⟨RX4, "afterTest", "(II)I"⟩
abbrev cX4_reckon : ByteArray := prog_6_method_15_code
def yX4_reckon : MethodName := ⟨RX4, "reckon", "(III)I"⟩
abbrev cX4_letterAt : ByteArray := prog_6_method_16_code
def yX4_letterAt : MethodName := ⟨RX4, "letterAt", "(I)I"⟩
abbrev cX4_push : ByteArray := prog_6_method_17_code
def yX4_push : MethodName := ⟨RX4, "push", "(I)V"⟩
abbrev cX4_pop : ByteArray := prog_6_method_18_code
def yX4_pop : MethodName := ⟨RX4, "pop", "()I"⟩
def RX5 : String := "KeptSummaries$LawReader"
def TX5 : u_T := fun k => match k with
  | 0 => ("KeptSummaries$LawReader", "tape", "LKeptSummaries$Tape;", true)
  | _ => ("KeptSummaries$LawReader", "spare", "LKeptSummaries$Law;", false)
def tyX5 : Nat → FieldType := fun k => match k with
  | 0 => .object "KeptSummaries$Tape"
  | _ => .object "KeptSummaries$Law"
theorem nmX5 : ∀ a, a < 2 → ∀ b, b < 2 → a ≠ b → (TX5 a).2.1 ≠ (TX5 b).2.1 := by decide +kernel
theorem tyX5_ok : ∀ k, k < 2 → parseFieldDescriptor (TX5 k).2.2.1 = some (tyX5 k) := by decide +kernel
abbrev cX5_init : ByteArray := prog_7_method_1_code
def yX5_init : MethodName := ⟨RX5, "<init>", "(LKeptSummaries$Tape;)V"⟩
abbrev cX5_exchange : ByteArray := prog_7_method_2_code
def yX5_exchange : MethodName := ⟨RX5, "exchange", "(LKeptSummaries$Law;)LKeptSummaries$Law;"⟩
abbrev cX5_readRules : ByteArray := prog_7_method_3_code
def yX5_readRules : MethodName := ⟨RX5, "readRules", "()V"⟩
abbrev cX5_readHead : ByteArray := prog_7_method_4_code
def yX5_readHead : MethodName := ⟨RX5, "readHead", "()I"⟩
abbrev cX5_readCondition : ByteArray := prog_7_method_5_code
def yX5_readCondition : MethodName := ⟨RX5, "readCondition", "(I)V"⟩
abbrev cX5_readTest : ByteArray := prog_7_method_6_code
def yX5_readTest : MethodName := ⟨RX5, "readTest", "(I)V"⟩
abbrev cX5_readSum : ByteArray := prog_7_method_7_code
def yX5_readSum : MethodName := ⟨RX5, "readSum", "(I)V"⟩
abbrev cX5_addWaiting : ByteArray := prog_7_method_8_code
def yX5_addWaiting : MethodName := ⟨RX5, "addWaiting", "(I)V"⟩
abbrev cX5_readFactor : ByteArray := prog_7_method_9_code
def yX5_readFactor : MethodName := ⟨RX5, "readFactor", "(I)V"⟩
abbrev cX5_readNumber : ByteArray := prog_7_method_10_code
def yX5_readNumber : MethodName := ⟨RX5, "readNumber", "()I"⟩
def RX6 : String := "KeptSummaries$Shape"
def TX6 : u_T := fun k => match k with
  | _ => ("KeptSummaries$Shape", "coarseOnes", "[I", true)
def tyX6 : Nat → FieldType := fun k => match k with
  | _ => .array .int
theorem nmX6 : ∀ a, a < 1 → ∀ b, b < 1 → a ≠ b → (TX6 a).2.1 ≠ (TX6 b).2.1 := by decide +kernel
theorem tyX6_ok : ∀ k, k < 1 → parseFieldDescriptor (TX6 k).2.2.1 = some (tyX6 k) := by decide +kernel
abbrev cX6_init : ByteArray := prog_8_method_1_code
def yX6_init : MethodName := ⟨RX6, "<init>", "()V"⟩
abbrev cX6_copyFrom : ByteArray := prog_8_method_2_code
def yX6_copyFrom : MethodName := ⟨RX6, "copyFrom", "(LKeptSummaries$Shape;)V"⟩
abbrev cX6_tell : ByteArray := prog_8_method_3_code
def yX6_tell : MethodName := ⟨RX6, "tell", "(III)V"⟩
abbrev cX6_numberOf : ByteArray := prog_8_method_4_code
def yX6_numberOf : MethodName := ⟨RX6, "numberOf", "(III)I"⟩
abbrev cX6_keyOf : ByteArray := prog_8_method_5_code
def yX6_keyOf : MethodName := ⟨RX6, "keyOf", "(ILKeptSummaries$Cut;)I"⟩
abbrev cX6_valuesWithin : ByteArray := prog_8_method_6_code
def yX6_valuesWithin : MethodName := ⟨RX6, "valuesWithin", "(IIII)I"⟩
abbrev cX6_numbersOf : ByteArray := prog_8_method_7_code
def yX6_numbersOf : MethodName := ⟨RX6, "numbersOf", "(III)I"⟩
def RX7 : String := "KeptSummaries$Shelf"
def TX7 : u_T := fun k => match k with
  | 0 => ("KeptSummaries$Shelf", "rows", "[LKeptSummaries$Summary;", true)
  | _ => ("KeptSummaries$Shelf", "size", "I", false)
def tyX7 : Nat → FieldType := fun k => match k with
  | 0 => .array (.object "KeptSummaries$Summary")
  | _ => .int
theorem nmX7 : ∀ a, a < 2 → ∀ b, b < 2 → a ≠ b → (TX7 a).2.1 ≠ (TX7 b).2.1 := by decide +kernel
theorem tyX7_ok : ∀ k, k < 2 → parseFieldDescriptor (TX7 k).2.2.1 = some (tyX7 k) := by decide +kernel
abbrev cX7_init : ByteArray := prog_9_method_1_code
def yX7_init : MethodName := ⟨RX7, "<init>", "()V"⟩
abbrev cX7_at : ByteArray := prog_9_method_2_code
def yX7_at : MethodName := ⟨RX7, "at", "(I)LKeptSummaries$Summary;"⟩
abbrev cX7_addOne : ByteArray := prog_9_method_3_code
def yX7_addOne : MethodName := ⟨RX7, "addOne", "()LKeptSummaries$Summary;"⟩
abbrev cX7_remove : ByteArray := prog_9_method_4_code
def yX7_remove : MethodName := ⟨RX7, "remove", "(I)V"⟩
abbrev cX7_copyFrom : ByteArray := prog_9_method_5_code
def yX7_copyFrom : MethodName := ⟨RX7, "copyFrom", "(LKeptSummaries$Shelf;)V"⟩
def RX8 : String := "KeptSummaries$Summary"
def TX8 : u_T := fun k => match k with
  | 0 => ("KeptSummaries$Summary", "cut", "LKeptSummaries$Cut;", true)
  | 1 => ("KeptSummaries$Summary", "upto", "I", false)
  | _ => ("KeptSummaries$Summary", "groups", "I", false)
def tyX8 : Nat → FieldType := fun k => match k with
  | 0 => .object "KeptSummaries$Cut"
  | 1 => .int
  | _ => .int
theorem nmX8 : ∀ a, a < 3 → ∀ b, b < 3 → a ≠ b → (TX8 a).2.1 ≠ (TX8 b).2.1 := by decide +kernel
theorem tyX8_ok : ∀ k, k < 3 → parseFieldDescriptor (TX8 k).2.2.1 = some (tyX8 k) := by decide +kernel
abbrev cX8_init : ByteArray := prog_10_method_1_code
def yX8_init : MethodName := ⟨RX8, "<init>", "()V"⟩
abbrev cX8_copyFrom : ByteArray := prog_10_method_2_code
def yX8_copyFrom : MethodName := ⟨RX8, "copyFrom", "(LKeptSummaries$Summary;)V"⟩
def RX9 : String := "KeptSummaries$Table"
def TX9 : u_T := fun k => match k with
  | 0 => ("KeptSummaries$Table", "counts", "[I", true)
  | 1 => ("KeptSummaries$Table", "sums", "[I", true)
  | 2 => ("KeptSummaries$Table", "leasts", "[I", true)
  | 3 => ("KeptSummaries$Table", "greatests", "[I", true)
  | 4 => ("KeptSummaries$Table", "singled", "[I", true)
  | _ => ("KeptSummaries$Table", "size", "I", false)
def tyX9 : Nat → FieldType := fun k => match k with
  | 0 => .array .int
  | 1 => .array .int
  | 2 => .array .int
  | 3 => .array .int
  | 4 => .array .int
  | _ => .int
theorem nmX9 : ∀ a, a < 6 → ∀ b, b < 6 → a ≠ b → (TX9 a).2.1 ≠ (TX9 b).2.1 := by decide +kernel
theorem tyX9_ok : ∀ k, k < 6 → parseFieldDescriptor (TX9 k).2.2.1 = some (tyX9 k) := by decide +kernel
abbrev cX9_init : ByteArray := prog_11_method_1_code
def yX9_init : MethodName := ⟨RX9, "<init>", "()V"⟩
abbrev cX9_clear : ByteArray := prog_11_method_2_code
def yX9_clear : MethodName := ⟨RX9, "clear", "()V"⟩
abbrev cX9_hasKey : ByteArray := prog_11_method_3_code
def yX9_hasKey : MethodName := ⟨RX9, "hasKey", "(I)Z"⟩
abbrev cX9_countAt : ByteArray := prog_11_method_4_code
def yX9_countAt : MethodName := ⟨RX9, "countAt", "(I)I"⟩
abbrev cX9_singledAt : ByteArray := prog_11_method_5_code
def yX9_singledAt : MethodName := ⟨RX9, "singledAt", "(I)I"⟩
abbrev cX9_single : ByteArray := prog_11_method_6_code
def yX9_single : MethodName := ⟨RX9, "single", "(II)V"⟩
abbrev cX9_addFact : ByteArray := prog_11_method_7_code
def yX9_addFact : MethodName := ⟨RX9, "addFact", "(II)V"⟩
abbrev cX9_addGroup : ByteArray := prog_11_method_8_code
def yX9_addGroup : MethodName := ⟨RX9, "addGroup", "(ILKeptSummaries$Table;I)V"⟩
abbrev cX9_addParts : ByteArray := prog_11_method_9_code
def yX9_addParts : MethodName := ⟨RX9, "addParts", "(IIIII)V"⟩
abbrev cX9_keyAt : ByteArray := prog_11_method_10_code
def yX9_keyAt : MethodName := ⟨RX9, "keyAt", "(I)I"⟩
abbrev cX9_valueAt : ByteArray := prog_11_method_11_code
def yX9_valueAt : MethodName := ⟨RX9, "valueAt", "(II)I"⟩
abbrev cX9_rankedKeyAt : ByteArray := prog_11_method_12_code
def yX9_rankedKeyAt : MethodName := ⟨RX9, "rankedKeyAt", "(II)I"⟩
abbrev cX9_groupsFrom : ByteArray := prog_11_method_13_code
def yX9_groupsFrom : MethodName := ⟨RX9, "groupsFrom", "(II)I"⟩
abbrev cX9_keyOfLike : ByteArray := prog_11_method_14_code
def yX9_keyOfLike : MethodName := ⟨RX9, "keyOfLike", "(III)I"⟩
abbrev cX9_unlikeGroups : ByteArray := prog_11_method_15_code
def yX9_unlikeGroups : MethodName := ⟨RX9, "unlikeGroups", "(LKeptSummaries$Table;I)I"⟩
def RX10 : String := "KeptSummaries$Tape"
def TX10 : u_T := fun k => match k with
  | 0 => ("KeptSummaries$Tape", "bytes", "[I", true)
  | 1 => ("KeptSummaries$Tape", "size", "I", false)
  | 2 => ("KeptSummaries$Tape", "length", "I", false)
  | 3 => ("KeptSummaries$Tape", "place", "I", false)
  | 4 => ("KeptSummaries$Tape", "fault", "I", false)
  | _ => ("KeptSummaries$Tape", "faultPlace", "I", false)
def tyX10 : Nat → FieldType := fun k => match k with
  | 0 => .array .int
  | 1 => .int
  | 2 => .int
  | 3 => .int
  | 4 => .int
  | _ => .int
theorem nmX10 : ∀ a, a < 6 → ∀ b, b < 6 → a ≠ b → (TX10 a).2.1 ≠ (TX10 b).2.1 := by decide +kernel
theorem tyX10_ok : ∀ k, k < 6 → parseFieldDescriptor (TX10 k).2.2.1 = some (tyX10 k) := by decide +kernel
abbrev cX10_init : ByteArray := prog_12_method_1_code
def yX10_init : MethodName := ⟨RX10, "<init>", "()V"⟩
abbrev cX10_append : ByteArray := prog_12_method_2_code
def yX10_append : MethodName := ⟨RX10, "append", "(I)V"⟩
abbrev cX10_has : ByteArray := prog_12_method_3_code
def yX10_has : MethodName := ⟨RX10, "has", "(III)Z"⟩
abbrev cX10_byteAt : ByteArray := prog_12_method_4_code
def yX10_byteAt : MethodName := ⟨RX10, "byteAt", "(I)I"⟩
abbrev cX10_clear : ByteArray := prog_12_method_5_code
def yX10_clear : MethodName := ⟨RX10, "clear", "()V"⟩
abbrev cX10_begin : ByteArray := prog_12_method_6_code
def yX10_begin : MethodName := ⟨RX10, "begin", "(I)V"⟩
abbrev cX10_peek : ByteArray := prog_12_method_7_code
def yX10_peek : MethodName := ⟨RX10, "peek", "()I"⟩
abbrev cX10_step : ByteArray := prog_12_method_8_code
def yX10_step : MethodName := ⟨RX10, "step", "()V"⟩
abbrev cX10_take : ByteArray := prog_12_method_9_code
def yX10_take : MethodName := ⟨RX10, "take", "(I)V"⟩
abbrev cX10_takeEnd : ByteArray := prog_12_method_10_code
def yX10_takeEnd : MethodName := ⟨RX10, "takeEnd", "()V"⟩
abbrev cX10_fail : ByteArray := prog_12_method_11_code
def yX10_fail : MethodName := ⟨RX10, "fail", "(I)V"⟩
abbrev cX10_failAt : ByteArray := prog_12_method_12_code
def yX10_failAt : MethodName := ⟨RX10, "failAt", "(II)V"⟩
abbrev cX10_faultAnswer : ByteArray := prog_12_method_13_code
def yX10_faultAnswer : MethodName := ⟨RX10, "faultAnswer", "()I"⟩
def RX11 : String := "KeptSummaries"
def TX11 : u_T := fun k => match k with
  | 0 => ("KeptSummaries", "tape", "LKeptSummaries$Tape;", true)
  | 1 => ("KeptSummaries", "lawReader", "LKeptSummaries$LawReader;", true)
  | 2 => ("KeptSummaries", "formReader", "LKeptSummaries$FormReader;", true)
  | 3 => ("KeptSummaries", "law", "LKeptSummaries$Law;", false)
  | 4 => ("KeptSummaries", "shape", "LKeptSummaries$Shape;", true)
  | 5 => ("KeptSummaries", "facts", "LKeptSummaries$Facts;", true)
  | 6 => ("KeptSummaries", "shelf", "LKeptSummaries$Shelf;", true)
  | 7 => ("KeptSummaries", "question", "LKeptSummaries$Cut;", true)
  | 8 => ("KeptSummaries", "asked", "Z", false)
  | 9 => ("KeptSummaries", "groups", "LKeptSummaries$Table;", true)
  | 10 => ("KeptSummaries", "byFacts", "LKeptSummaries$Table;", true)
  | 11 => ("KeptSummaries", "bySummary", "LKeptSummaries$Table;", true)
  | 12 => ("KeptSummaries", "lattice", "LKeptSummaries$Lattice;", true)
  | 13 => ("KeptSummaries", "x", "I", false)
  | 14 => ("KeptSummaries", "keptShelf", "LKeptSummaries$Shelf;", true)
  | 15 => ("KeptSummaries", "keptFacts", "I", false)
  | 16 => ("KeptSummaries", "keptX", "I", false)
  | _ => ("KeptSummaries", "shapedSinceKept", "Z", false)
def tyX11 : Nat → FieldType := fun k => match k with
  | 0 => .object "KeptSummaries$Tape"
  | 1 => .object "KeptSummaries$LawReader"
  | 2 => .object "KeptSummaries$FormReader"
  | 3 => .object "KeptSummaries$Law"
  | 4 => .object "KeptSummaries$Shape"
  | 5 => .object "KeptSummaries$Facts"
  | 6 => .object "KeptSummaries$Shelf"
  | 7 => .object "KeptSummaries$Cut"
  | 8 => .boolean
  | 9 => .object "KeptSummaries$Table"
  | 10 => .object "KeptSummaries$Table"
  | 11 => .object "KeptSummaries$Table"
  | 12 => .object "KeptSummaries$Lattice"
  | 13 => .int
  | 14 => .object "KeptSummaries$Shelf"
  | 15 => .int
  | 16 => .int
  | _ => .boolean
theorem nmX11 : ∀ a, a < 18 → ∀ b, b < 18 → a ≠ b → (TX11 a).2.1 ≠ (TX11 b).2.1 := by decide +kernel
theorem tyX11_ok : ∀ k, k < 18 → parseFieldDescriptor (TX11 k).2.2.1 = some (tyX11 k) := by decide +kernel
abbrev cX11_init : ByteArray := prog_1_method_1_code
def yX11_init : MethodName := ⟨RX11, "<init>", "()V"⟩
abbrev cX11_fact : ByteArray := prog_1_method_2_code
def yX11_fact : MethodName := ⟨RX11, "fact", "(IIII)I"⟩
abbrev cX11_draws : ByteArray := prog_1_method_3_code
def yX11_draws : MethodName := ⟨RX11, "draws", "(I)I"⟩
abbrev cX11_factIs : ByteArray := prog_1_method_4_code
def yX11_factIs : MethodName := ⟨RX11, "factIs", "(II)I"⟩
abbrev cX11_seed : ByteArray := prog_1_method_5_code
def yX11_seed : MethodName := ⟨RX11, "seed", "(I)Z"⟩
abbrev cX11_feed : ByteArray := prog_1_method_6_code
def yX11_feed : MethodName := ⟨RX11, "feed", "(IIIII)I"⟩
abbrev cX11_law : ByteArray := prog_1_method_7_code
def yX11_law : MethodName := ⟨RX11, "law", "(I)I"⟩
abbrev cX11_shape : ByteArray := prog_1_method_8_code
def yX11_shape : MethodName := ⟨RX11, "shape", "(I)I"⟩
abbrev cX11_summary : ByteArray := prog_1_method_9_code
def yX11_summary : MethodName := ⟨RX11, "summary", "(I)I"⟩
abbrev cX11_question : ByteArray := prog_1_method_10_code
def yX11_question : MethodName := ⟨RX11, "question", "(I)I"⟩
abbrev cX11_check : ByteArray := prog_1_method_11_code
def yX11_check : MethodName := ⟨RX11, "check", "(I)I"⟩
abbrev cX11_renew : ByteArray := prog_1_method_12_code
def yX11_renew : MethodName := ⟨RX11, "renew", "(I)I"⟩
abbrev cX11_drop : ByteArray := prog_1_method_13_code
def yX11_drop : MethodName := ⟨RX11, "drop", "(I)Z"⟩
abbrev cX11_coarse : ByteArray := prog_1_method_14_code
def yX11_coarse : MethodName := ⟨RX11, "coarse", "(II)I"⟩
abbrev cX11_summaryIs : ByteArray := prog_1_method_15_code
def yX11_summaryIs : MethodName := ⟨RX11, "summaryIs", "(II)I"⟩
abbrev cX11_group : ByteArray := prog_1_method_16_code
def yX11_group : MethodName := ⟨RX11, "group", "(III)I"⟩
abbrev cX11_madeOf : ByteArray := prog_1_method_17_code
def yX11_madeOf : MethodName := ⟨RX11, "madeOf", "(I)I"⟩
abbrev cX11_questionIs : ByteArray := prog_1_method_18_code
def yX11_questionIs : MethodName := ⟨RX11, "questionIs", "(I)I"⟩
abbrev cX11_covers : ByteArray := prog_1_method_19_code
def yX11_covers : MethodName := ⟨RX11, "covers", "(I)I"⟩
abbrev cX11_coverIs : ByteArray := prog_1_method_20_code
def yX11_coverIs : MethodName := ⟨RX11, "coverIs", "(II)I"⟩
abbrev cX11_way : ByteArray := prog_1_method_21_code
def yX11_way : MethodName := ⟨RX11, "way", "(I)I"⟩
abbrev cX11_answer : ByteArray := prog_1_method_22_code
def yX11_answer : MethodName := ⟨RX11, "answer", "(II)I"⟩
abbrev cX11_ranked : ByteArray := prog_1_method_23_code
def yX11_ranked : MethodName := ⟨RX11, "ranked", "(II)I"⟩
abbrev cX11_answerBy : ByteArray := prog_1_method_24_code
def yX11_answerBy : MethodName := ⟨RX11, "answerBy", "(III)I"⟩
abbrev cX11_unlike : ByteArray := prog_1_method_25_code
def yX11_unlike : MethodName := ⟨RX11, "unlike", "(I)I"⟩
abbrev cX11_node : ByteArray := prog_1_method_26_code
def yX11_node : MethodName := ⟨RX11, "node", "(I)I"⟩
abbrev cX11_below : ByteArray := prog_1_method_27_code
def yX11_below : MethodName := ⟨RX11, "below", "(II)I"⟩
abbrev cX11_price : ByteArray := prog_1_method_28_code
def yX11_price : MethodName := ⟨RX11, "price", "(I)I"⟩
abbrev cX11_greedy : ByteArray := prog_1_method_29_code
def yX11_greedy : MethodName := ⟨RX11, "greedy", "(II)I"⟩
abbrev cX11_best : ByteArray := prog_1_method_30_code
def yX11_best : MethodName := ⟨RX11, "best", "(II)I"⟩
abbrev cX11_keep : ByteArray := prog_1_method_31_code
def yX11_keep : MethodName := ⟨RX11, "keep", "()I"⟩
abbrev cX11_undo : ByteArray := prog_1_method_32_code
def yX11_undo : MethodName := ⟨RX11, "undo", "()Z"⟩
abbrev cX11_count : ByteArray := prog_1_method_33_code
def yX11_count : MethodName := ⟨RX11, "count", "(I)I"⟩
abbrev cX11_nextX : ByteArray := prog_1_method_34_code
def yX11_nextX : MethodName := ⟨RX11, "nextX", "()I"⟩
abbrev cX11_comes : ByteArray := prog_1_method_35_code
def yX11_comes : MethodName := ⟨RX11, "comes", "(II)Z"⟩
abbrev cX11_makeAnew : ByteArray := prog_1_method_36_code
def yX11_makeAnew : MethodName := ⟨RX11, "makeAnew", "(LKeptSummaries$Summary;)V"⟩
abbrev cX11_tallyGroups : ByteArray := prog_1_method_37_code
def yX11_tallyGroups : MethodName := ⟨RX11, "tallyGroups", "(LKeptSummaries$Summary;)V"⟩
abbrev cX11_costOf : ByteArray := prog_1_method_38_code
def yX11_costOf : MethodName := ⟨RX11, "costOf", "(LKeptSummaries$Summary;)I"⟩
abbrev cX11_isCovering : ByteArray := prog_1_method_39_code
def yX11_isCovering : MethodName := ⟨RX11, "isCovering", "(LKeptSummaries$Summary;)Z"⟩
abbrev cX11_groupsInside : ByteArray := prog_1_method_40_code
def yX11_groupsInside : MethodName := ⟨RX11, "groupsInside", "(LKeptSummaries$Cut;)I"⟩
abbrev cX11_cheapestWay : ByteArray := prog_1_method_41_code
def yX11_cheapestWay : MethodName := ⟨RX11, "cheapestWay", "()I"⟩
abbrev cX11_tallyAnswer : ByteArray := prog_1_method_42_code
def yX11_tallyAnswer : MethodName := ⟨RX11, "tallyAnswer", "(LKeptSummaries$Summary;)LKeptSummaries$Table;"⟩
abbrev cX11_answerAt : ByteArray := prog_1_method_43_code
def yX11_answerAt : MethodName := ⟨RX11, "answerAt", "(LKeptSummaries$Table;II)I"⟩
abbrev cX11_isAnswerPlace : ByteArray := prog_1_method_44_code
def yX11_isAnswerPlace : MethodName := ⟨RX11, "isAnswerPlace", "(II)Z"⟩
abbrev cX11_isSide : ByteArray := prog_1_method_45_code
def yX11_isSide : MethodName := ⟨RX11, "isSide", "(I)Z"⟩
abbrev cX11_isValue : ByteArray := prog_1_method_46_code
def yX11_isValue : MethodName := ⟨RX11, "isValue", "(I)Z"⟩
abbrev cX11_isNode : ByteArray := prog_1_method_47_code
def yX11_isNode : MethodName := ⟨RX11, "isNode", "(I)Z"⟩
abbrev cX11_isDigit : ByteArray := prog_1_method_48_code
def yX11_isDigit : MethodName := ⟨RX11, "isDigit", "(I)Z"⟩
abbrev cX11_isLevelOrLets : ByteArray := prog_1_method_49_code
def yX11_isLevelOrLets : MethodName := ⟨RX11, "isLevelOrLets", "(I)Z"⟩
abbrev cX11_tripleOf : ByteArray := prog_1_method_50_code
def yX11_tripleOf : MethodName := ⟨RX11, "tripleOf", "(III)I"⟩
abbrev cX11_numberIn : ByteArray := prog_1_method_51_code
def yX11_numberIn : MethodName := ⟨RX11, "numberIn", "(II)I"⟩
abbrev cX11_partsFor : ByteArray := prog_1_method_52_code
def yX11_partsFor : MethodName := ⟨RX11, "partsFor", "(I)I"⟩
abbrev cX11_levelIn : ByteArray := prog_1_method_53_code
def yX11_levelIn : MethodName := ⟨RX11, "levelIn", "(II)I"⟩
def RX12 : String := "KeptSummariesModel"
def TX12 : u_T := fun k => match k with
  | 0 => ("KeptSummariesModel", "lot", "I", false)
  | 1 => ("KeptSummariesModel", "factMany", "I", false)
  | 2 => ("KeptSummariesModel", "summaryMany", "I", false)
  | 3 => ("KeptSummariesModel", "shapes", "I", false)
  | 4 => ("KeptSummariesModel", "factOfAll", "[I", true)
  | 5 => ("KeptSummariesModel", "summaryOf", "[I", true)
  | 6 => ("KeptSummariesModel", "coarseOf", "[I", true)
  | 7 => ("KeptSummariesModel", "tape", "[B", true)
  | 8 => ("KeptSummariesModel", "taped", "I", false)
  | 9 => ("KeptSummariesModel", "place0", "I", false)
  | 10 => ("KeptSummariesModel", "length0", "I", false)
  | 11 => ("KeptSummariesModel", "fault", "I", false)
  | 12 => ("KeptSummariesModel", "number0", "I", false)
  | 13 => ("KeptSummariesModel", "open", "I", false)
  | 14 => ("KeptSummariesModel", "codeMany", "I", false)
  | 15 => ("KeptSummariesModel", "waiting", "I", false)
  | 16 => ("KeptSummariesModel", "saidMany", "I", false)
  | 17 => ("KeptSummariesModel", "clauses", "I", false)
  | 18 => ("KeptSummariesModel", "said", "[I", true)
  | 19 => ("KeptSummariesModel", "waitsAt", "[I", true)
  | 20 => ("KeptSummariesModel", "saidLetter", "[I", true)
  | 21 => ("KeptSummariesModel", "saidFrom", "[I", true)
  | 22 => ("KeptSummariesModel", "saidHalf", "[I", true)
  | 23 => ("KeptSummariesModel", "saidTo", "[I", true)
  | 24 => ("KeptSummariesModel", "codes", "[I", true)
  | 25 => ("KeptSummariesModel", "clauseOf", "[I", true)
  | 26 => ("KeptSummariesModel", "codeFrom", "[I", true)
  | 27 => ("KeptSummariesModel", "codeHalf", "[I", true)
  | 28 => ("KeptSummariesModel", "codeTo", "[I", true)
  | 29 => ("KeptSummariesModel", "stack", "[I", true)
  | 30 => ("KeptSummariesModel", "facts", "[I", true)
  | 31 => ("KeptSummariesModel", "newCoarse", "[I", true)
  | 32 => ("KeptSummariesModel", "newTold", "I", false)
  | 33 => ("KeptSummariesModel", "newLines", "I", false)
  | 34 => ("KeptSummariesModel", "newOf", "[I", true)
  | 35 => ("KeptSummariesModel", "questionOf", "[I", true)
  | 36 => ("KeptSummariesModel", "isAsked", "Z", false)
  | 37 => ("KeptSummariesModel", "sumAt", "[I", true)
  | 38 => ("KeptSummariesModel", "countAt", "[I", true)
  | 39 => ("KeptSummariesModel", "leastAt", "[I", true)
  | 40 => ("KeptSummariesModel", "greatestAt", "[I", true)
  | 41 => ("KeptSummariesModel", "answerMany", "I", false)
  | 42 => ("KeptSummariesModel", "answerAt", "[I", true)
  | 43 => ("KeptSummariesModel", "answerIs", "[I", true)
  | 44 => ("KeptSummariesModel", "plainAt", "[I", true)
  | 45 => ("KeptSummariesModel", "heldSum", "[I", true)
  | 46 => ("KeptSummariesModel", "heldCount", "[I", true)
  | 47 => ("KeptSummariesModel", "heldLeast", "[I", true)
  | 48 => ("KeptSummariesModel", "heldGreatest", "[I", true)
  | 49 => ("KeptSummariesModel", "times", "[I", true)
  | 50 => ("KeptSummariesModel", "nodeRow", "[I", true)
  | 51 => ("KeptSummariesModel", "groupsAt", "[I", true)
  | 52 => ("KeptSummariesModel", "chosen", "[I", true)
  | 53 => ("KeptSummariesModel", "isKept", "Z", false)
  | 54 => ("KeptSummariesModel", "keptFacts", "I", false)
  | 55 => ("KeptSummariesModel", "keptSummaries", "I", false)
  | 56 => ("KeptSummariesModel", "keptLot", "I", false)
  | 57 => ("KeptSummariesModel", "keptShapes", "I", false)
  | 58 => ("KeptSummariesModel", "keptFact", "[I", true)
  | _ => ("KeptSummariesModel", "keptSummary", "[I", true)
def tyX12 : Nat → FieldType := fun k => match k with
  | 0 => .int
  | 1 => .int
  | 2 => .int
  | 3 => .int
  | 4 => .array .int
  | 5 => .array .int
  | 6 => .array .int
  | 7 => .array .byte
  | 8 => .int
  | 9 => .int
  | 10 => .int
  | 11 => .int
  | 12 => .int
  | 13 => .int
  | 14 => .int
  | 15 => .int
  | 16 => .int
  | 17 => .int
  | 18 => .array .int
  | 19 => .array .int
  | 20 => .array .int
  | 21 => .array .int
  | 22 => .array .int
  | 23 => .array .int
  | 24 => .array .int
  | 25 => .array .int
  | 26 => .array .int
  | 27 => .array .int
  | 28 => .array .int
  | 29 => .array .int
  | 30 => .array .int
  | 31 => .array .int
  | 32 => .int
  | 33 => .int
  | 34 => .array .int
  | 35 => .array .int
  | 36 => .boolean
  | 37 => .array .int
  | 38 => .array .int
  | 39 => .array .int
  | 40 => .array .int
  | 41 => .int
  | 42 => .array .int
  | 43 => .array .int
  | 44 => .array .int
  | 45 => .array .int
  | 46 => .array .int
  | 47 => .array .int
  | 48 => .array .int
  | 49 => .array .int
  | 50 => .array .int
  | 51 => .array .int
  | 52 => .array .int
  | 53 => .boolean
  | 54 => .int
  | 55 => .int
  | 56 => .int
  | 57 => .int
  | 58 => .array .int
  | _ => .array .int
theorem nmX12 : ∀ a, a < 60 → ∀ b, b < 60 → a ≠ b → (TX12 a).2.1 ≠ (TX12 b).2.1 := by decide +kernel
theorem tyX12_ok : ∀ k, k < 60 → parseFieldDescriptor (TX12 k).2.2.1 = some (tyX12 k) := by decide +kernel
abbrev cX12_init : ByteArray := prog_14_method_1_code
def yX12_init : MethodName := ⟨RX12, "<init>", "()V"⟩
abbrev cX12_in : ByteArray := prog_14_method_2_code
def yX12_in : MethodName := ⟨RX12, "in", "(III)Z"⟩
abbrev cX12_min : ByteArray := prog_14_method_3_code
def yX12_min : MethodName := ⟨RX12, "min", "(II)I"⟩
abbrev cX12_max : ByteArray := prog_14_method_4_code
def yX12_max : MethodName := ⟨RX12, "max", "(II)I"⟩
abbrev cX12_has : ByteArray := prog_14_method_5_code
def yX12_has : MethodName := ⟨RX12, "has", "(II)Z"⟩
abbrev cX12_isSide : ByteArray := prog_14_method_6_code
def yX12_isSide : MethodName := ⟨RX12, "isSide", "(I)Z"⟩
abbrev cX12_isValue : ByteArray := prog_14_method_7_code
def yX12_isValue : MethodName := ⟨RX12, "isValue", "(I)Z"⟩
abbrev cX12_numberAt : ByteArray := prog_14_method_8_code
def yX12_numberAt : MethodName := ⟨RX12, "numberAt", "(III)I"⟩
abbrev cX12_coarse : ByteArray := prog_14_method_9_code
def yX12_coarse : MethodName := ⟨RX12, "coarse", "(II)I"⟩
abbrev cX12_ofFact : ByteArray := prog_14_method_10_code
def yX12_ofFact : MethodName := ⟨RX12, "ofFact", "(II)I"⟩
abbrev cX12_factIs : ByteArray := prog_14_method_11_code
def yX12_factIs : MethodName := ⟨RX12, "factIs", "(II)I"⟩
abbrev cX12_types : ByteArray := prog_14_method_12_code
def yX12_types : MethodName := ⟨RX12, "types", "(I)V"⟩
abbrev cX12_feed : ByteArray := prog_14_method_13_code
def yX12_feed : MethodName := ⟨RX12, "feed", "(IIIII)I"⟩
abbrev cX12_octet : ByteArray := prog_14_method_14_code
def yX12_octet : MethodName := ⟨RX12, "octet", "(I)I"⟩
abbrev cX12_here : ByteArray := prog_14_method_15_code
def yX12_here : MethodName := ⟨RX12, "here", "()I"⟩
abbrev cX12_isDigit : ByteArray := prog_14_method_16_code
def yX12_isDigit : MethodName := ⟨RX12, "isDigit", "()Z"⟩
abbrev cX12_wrongAt : ByteArray := prog_14_method_17_code
def yX12_wrongAt : MethodName := ⟨RX12, "wrongAt", "(II)Z"⟩
abbrev cX12_takes : ByteArray := prog_14_method_18_code
def yX12_takes : MethodName := ⟨RX12, "takes", "(I)Z"⟩
abbrev cX12_readsNumber : ByteArray := prog_14_method_19_code
def yX12_readsNumber : MethodName := ⟨RX12, "readsNumber", "()Z"⟩
abbrev cX12_notes : ByteArray := prog_14_method_20_code
def yX12_notes : MethodName := ⟨RX12, "notes", "(II)V"⟩
abbrev cX12_opens : ByteArray := prog_14_method_21_code
def yX12_opens : MethodName := ⟨RX12, "opens", "(I)Z"⟩
abbrev cX12_waitTop : ByteArray := prog_14_method_22_code
def yX12_waitTop : MethodName := ⟨RX12, "waitTop", "()I"⟩
abbrev cX12_factOf : ByteArray := prog_14_method_23_code
def yX12_factOf : MethodName := ⟨RX12, "factOf", "(I)I"⟩
abbrev cX12_sumSign : ByteArray := prog_14_method_24_code
def yX12_sumSign : MethodName := ⟨RX12, "sumSign", "(I)I"⟩
abbrev cX12_closesSums : ByteArray := prog_14_method_25_code
def yX12_closesSums : MethodName := ⟨RX12, "closesSums", "(Z)V"⟩
abbrev cX12_readsFactor : ByteArray := prog_14_method_26_code
def yX12_readsFactor : MethodName := ⟨RX12, "readsFactor", "()Z"⟩
abbrev cX12_hasOpenSum : ByteArray := prog_14_method_27_code
def yX12_hasOpenSum : MethodName := ⟨RX12, "hasOpenSum", "(I)Z"⟩
abbrev cX12_readsSum : ByteArray := prog_14_method_28_code
def yX12_readsSum : MethodName := ⟨RX12, "readsSum", "()Z"⟩
abbrev cX12_endsPiece : ByteArray := prog_14_method_29_code
def yX12_endsPiece : MethodName := ⟨RX12, "endsPiece", "()V"⟩
abbrev cX12_lands : ByteArray := prog_14_method_30_code
def yX12_lands : MethodName := ⟨RX12, "lands", "(Z)V"⟩
abbrev cX12_jumps : ByteArray := prog_14_method_31_code
def yX12_jumps : MethodName := ⟨RX12, "jumps", "(I)V"⟩
abbrev cX12_readsCompared : ByteArray := prog_14_method_32_code
def yX12_readsCompared : MethodName := ⟨RX12, "readsCompared", "()Z"⟩
abbrev cX12_readsCondition : ByteArray := prog_14_method_33_code
def yX12_readsCondition : MethodName := ⟨RX12, "readsCondition", "()Z"⟩
abbrev cX12_readsRule : ByteArray := prog_14_method_34_code
def yX12_readsRule : MethodName := ⟨RX12, "readsRule", "()Z"⟩
abbrev cX12_beginsText : ByteArray := prog_14_method_35_code
def yX12_beginsText : MethodName := ⟨RX12, "beginsText", "(I)V"⟩
abbrev cX12_law : ByteArray := prog_14_method_36_code
def yX12_law : MethodName := ⟨RX12, "law", "(I)I"⟩
abbrev cX12_reckon : ByteArray := prog_14_method_37_code
def yX12_reckon : MethodName := ⟨RX12, "reckon", "(III)I"⟩
abbrev cX12_reckonsTo : ByteArray := prog_14_method_38_code
def yX12_reckonsTo : MethodName := ⟨RX12, "reckonsTo", "(II)I"⟩
abbrev cX12_byLaw : ByteArray := prog_14_method_39_code
def yX12_byLaw : MethodName := ⟨RX12, "byLaw", "(II)I"⟩
abbrev cX12_isRefused : ByteArray := prog_14_method_40_code
def yX12_isRefused : MethodName := ⟨RX12, "isRefused", "()Z"⟩
abbrev cX12_lotGoes : ByteArray := prog_14_method_41_code
def yX12_lotGoes : MethodName := ⟨RX12, "lotGoes", "()I"⟩
abbrev cX12_comes : ByteArray := prog_14_method_42_code
def yX12_comes : MethodName := ⟨RX12, "comes", "(IIII)I"⟩
abbrev cX12_fact : ByteArray := prog_14_method_43_code
def yX12_fact : MethodName := ⟨RX12, "fact", "(IIII)I"⟩
abbrev cX12_draws : ByteArray := prog_14_method_44_code
def yX12_draws : MethodName := ⟨RX12, "draws", "(I)I"⟩
abbrev cX12_readsDigit : ByteArray := prog_14_method_46_code
def yX12_readsDigit : MethodName := ⟨RX12, "readsDigit", "(I)Z"⟩
abbrev cX12_readsLevel : ByteArray := prog_14_method_47_code
def yX12_readsLevel : MethodName := ⟨RX12, "readsLevel", "(I)Z"⟩
abbrev cX12_readsCoarse : ByteArray := prog_14_method_48_code
def yX12_readsCoarse : MethodName := ⟨RX12, "readsCoarse", "()Z"⟩
abbrev cX12_shape : ByteArray := prog_14_method_49_code
def yX12_shape : MethodName := ⟨RX12, "shape", "(I)I"⟩
abbrev cX12_readsLevels : ByteArray := prog_14_method_50_code
def yX12_readsLevels : MethodName := ⟨RX12, "readsLevels", "()Z"⟩
abbrev cX12_spanBy : ByteArray := prog_14_method_51_code
def yX12_spanBy : MethodName := ⟨RX12, "spanBy", "(IIII)I"⟩
abbrev cX12_readsSpan : ByteArray := prog_14_method_52_code
def yX12_readsSpan : MethodName := ⟨RX12, "readsSpan", "()Z"⟩
abbrev cX12_readsSpans : ByteArray := prog_14_method_53_code
def yX12_readsSpans : MethodName := ⟨RX12, "readsSpans", "()Z"⟩
abbrev cX12_partOf : ByteArray := prog_14_method_54_code
def yX12_partOf : MethodName := ⟨RX12, "partOf", "(I)I"⟩
abbrev cX12_readsParts : ByteArray := prog_14_method_55_code
def yX12_readsParts : MethodName := ⟨RX12, "readsParts", "()Z"⟩
abbrev cX12_readsSummary : ByteArray := prog_14_method_56_code
def yX12_readsSummary : MethodName := ⟨RX12, "readsSummary", "()Z"⟩
abbrev cX12_summary : ByteArray := prog_14_method_57_code
def yX12_summary : MethodName := ⟨RX12, "summary", "(I)I"⟩
abbrev cX12_whatOf : ByteArray := prog_14_method_58_code
def yX12_whatOf : MethodName := ⟨RX12, "whatOf", "(I)I"⟩
abbrev cX12_readsQuestion : ByteArray := prog_14_method_59_code
def yX12_readsQuestion : MethodName := ⟨RX12, "readsQuestion", "()Z"⟩
abbrev cX12_question : ByteArray := prog_14_method_60_code
def yX12_question : MethodName := ⟨RX12, "question", "(I)I"⟩
abbrev cX12_clears : ByteArray := prog_14_method_61_code
def yX12_clears : MethodName := ⟨RX12, "clears", "()V"⟩
abbrev cX12_isLet : ByteArray := prog_14_method_62_code
def yX12_isLet : MethodName := ⟨RX12, "isLet", "([III)Z"⟩
abbrev cX12_tripleOf : ByteArray := prog_14_method_63_code
def yX12_tripleOf : MethodName := ⟨RX12, "tripleOf", "([III)I"⟩
abbrev cX12_adds : ByteArray := prog_14_method_64_code
def yX12_adds : MethodName := ⟨RX12, "adds", "(IIIII)V"⟩
abbrev cX12_addsFacts : ByteArray := prog_14_method_65_code
def yX12_addsFacts : MethodName := ⟨RX12, "addsFacts", "([IIII)V"⟩
abbrev cX12_groupsThere : ByteArray := prog_14_method_66_code
def yX12_groupsThere : MethodName := ⟨RX12, "groupsThere", "()I"⟩
abbrev cX12_isSummary : ByteArray := prog_14_method_67_code
def yX12_isSummary : MethodName := ⟨RX12, "isSummary", "(I)Z"⟩
abbrev cX12_upTo : ByteArray := prog_14_method_68_code
def yX12_upTo : MethodName := ⟨RX12, "upTo", "(I)I"⟩
abbrev cX12_laysSummary : ByteArray := prog_14_method_69_code
def yX12_laysSummary : MethodName := ⟨RX12, "laysSummary", "(I)V"⟩
abbrev cX12_groupsOf : ByteArray := prog_14_method_70_code
def yX12_groupsOf : MethodName := ⟨RX12, "groupsOf", "(I)I"⟩
abbrev cX12_freshOf : ByteArray := prog_14_method_71_code
def yX12_freshOf : MethodName := ⟨RX12, "freshOf", "(I)I"⟩
abbrev cX12_costOf : ByteArray := prog_14_method_72_code
def yX12_costOf : MethodName := ⟨RX12, "costOf", "(I)I"⟩
abbrev cX12_renew : ByteArray := prog_14_method_73_code
def yX12_renew : MethodName := ⟨RX12, "renew", "(I)I"⟩
abbrev cX12_drop : ByteArray := prog_14_method_74_code
def yX12_drop : MethodName := ⟨RX12, "drop", "(I)Z"⟩
abbrev cX12_summaryIs : ByteArray := prog_14_method_75_code
def yX12_summaryIs : MethodName := ⟨RX12, "summaryIs", "(II)I"⟩
abbrev cX12_tripleBehind : ByteArray := prog_14_method_76_code
def yX12_tripleBehind : MethodName := ⟨RX12, "tripleBehind", "(I)I"⟩
abbrev cX12_numberOf : ByteArray := prog_14_method_77_code
def yX12_numberOf : MethodName := ⟨RX12, "numberOf", "(II)I"⟩
abbrev cX12_partAt : ByteArray := prog_14_method_78_code
def yX12_partAt : MethodName := ⟨RX12, "partAt", "(II)I"⟩
abbrev cX12_group : ByteArray := prog_14_method_79_code
def yX12_group : MethodName := ⟨RX12, "group", "(III)I"⟩
abbrev cX12_questionIs : ByteArray := prog_14_method_80_code
def yX12_questionIs : MethodName := ⟨RX12, "questionIs", "(I)I"⟩
abbrev cX12_hasPart : ByteArray := prog_14_method_81_code
def yX12_hasPart : MethodName := ⟨RX12, "hasPart", "(II)Z"⟩
abbrev cX12_valuesOf : ByteArray := prog_14_method_82_code
def yX12_valuesOf : MethodName := ⟨RX12, "valuesOf", "(IIII)I"⟩
abbrev cX12_coversSide : ByteArray := prog_14_method_83_code
def yX12_coversSide : MethodName := ⟨RX12, "coversSide", "(III[II)Z"⟩
abbrev cX12_coversAll : ByteArray := prog_14_method_84_code
def yX12_coversAll : MethodName := ⟨RX12, "coversAll", "(I[II)Z"⟩
abbrev cX12_coversNow : ByteArray := prog_14_method_85_code
def yX12_coversNow : MethodName := ⟨RX12, "coversNow", "(I)Z"⟩
abbrev cX12_covers : ByteArray := prog_14_method_86_code
def yX12_covers : MethodName := ⟨RX12, "covers", "(I)I"⟩
abbrev cX12_leavesOut : ByteArray := prog_14_method_87_code
def yX12_leavesOut : MethodName := ⟨RX12, "leavesOut", "(II)Z"⟩
abbrev cX12_leftOut : ByteArray := prog_14_method_88_code
def yX12_leftOut : MethodName := ⟨RX12, "leftOut", "(I)I"⟩
abbrev cX12_rolledUp : ByteArray := prog_14_method_89_code
def yX12_rolledUp : MethodName := ⟨RX12, "rolledUp", "(I)I"⟩
abbrev cX12_compensation : ByteArray := prog_14_method_90_code
def yX12_compensation : MethodName := ⟨RX12, "compensation", "(I)I"⟩
abbrev cX12_standsFor : ByteArray := prog_14_method_91_code
def yX12_standsFor : MethodName := ⟨RX12, "standsFor", "(III)I"⟩
abbrev cX12_goesInto : ByteArray := prog_14_method_92_code
def yX12_goesInto : MethodName := ⟨RX12, "goesInto", "(II)I"⟩
abbrev cX12_takenOf : ByteArray := prog_14_method_93_code
def yX12_takenOf : MethodName := ⟨RX12, "takenOf", "(I)I"⟩
abbrev cX12_coverIs : ByteArray := prog_14_method_94_code
def yX12_coverIs : MethodName := ⟨RX12, "coverIs", "(II)I"⟩
abbrev cX12_madeOf : ByteArray := prog_14_method_95_code
def yX12_madeOf : MethodName := ⟨RX12, "madeOf", "(I)I"⟩
abbrev cX12_timesOf : ByteArray := prog_14_method_96_code
def yX12_timesOf : MethodName := ⟨RX12, "timesOf", "(I)V"⟩
abbrev cX12_unlikeIn : ByteArray := prog_14_method_97_code
def yX12_unlikeIn : MethodName := ⟨RX12, "unlikeIn", "(I)I"⟩
abbrev cX12_middleOf : ByteArray := prog_14_method_98_code
def yX12_middleOf : MethodName := ⟨RX12, "middleOf", "(I)I"⟩
abbrev cX12_whatAt : ByteArray := prog_14_method_99_code
def yX12_whatAt : MethodName := ⟨RX12, "whatAt", "(I)I"⟩
abbrev cX12_putsDown : ByteArray := prog_14_method_100_code
def yX12_putsDown : MethodName := ⟨RX12, "putsDown", "()V"⟩
abbrev cX12_answersByFacts : ByteArray := prog_14_method_101_code
def yX12_answersByFacts : MethodName := ⟨RX12, "answersByFacts", "()V"⟩
abbrev cX12_answersBy : ByteArray := prog_14_method_102_code
def yX12_answersBy : MethodName := ⟨RX12, "answersBy", "(I)V"⟩
abbrev cX12_wayNow : ByteArray := prog_14_method_103_code
def yX12_wayNow : MethodName := ⟨RX12, "wayNow", "()I"⟩
abbrev cX12_way : ByteArray := prog_14_method_104_code
def yX12_way : MethodName := ⟨RX12, "way", "(I)I"⟩
abbrev cX12_answersByWay : ByteArray := prog_14_method_105_code
def yX12_answersByWay : MethodName := ⟨RX12, "answersByWay", "(I)V"⟩
abbrev cX12_toldOf : ByteArray := prog_14_method_106_code
def yX12_toldOf : MethodName := ⟨RX12, "toldOf", "(II)I"⟩
abbrev cX12_answer : ByteArray := prog_14_method_107_code
def yX12_answer : MethodName := ⟨RX12, "answer", "(II)I"⟩
abbrev cX12_aheadOf : ByteArray := prog_14_method_108_code
def yX12_aheadOf : MethodName := ⟨RX12, "aheadOf", "(I)I"⟩
abbrev cX12_ranked : ByteArray := prog_14_method_109_code
def yX12_ranked : MethodName := ⟨RX12, "ranked", "(II)I"⟩
abbrev cX12_answerBy : ByteArray := prog_14_method_110_code
def yX12_answerBy : MethodName := ⟨RX12, "answerBy", "(III)I"⟩
abbrev cX12_differs : ByteArray := prog_14_method_111_code
def yX12_differs : MethodName := ⟨RX12, "differs", "(I)I"⟩
abbrev cX12_unlike : ByteArray := prog_14_method_112_code
def yX12_unlike : MethodName := ⟨RX12, "unlike", "(I)I"⟩
abbrev cX12_levelOf : ByteArray := prog_14_method_113_code
def yX12_levelOf : MethodName := ⟨RX12, "levelOf", "(II)I"⟩
abbrev cX12_groupsBy : ByteArray := prog_14_method_114_code
def yX12_groupsBy : MethodName := ⟨RX12, "groupsBy", "(I)I"⟩
abbrev cX12_isNode : ByteArray := prog_14_method_115_code
def yX12_isNode : MethodName := ⟨RX12, "isNode", "(I)Z"⟩
abbrev cX12_node : ByteArray := prog_14_method_116_code
def yX12_node : MethodName := ⟨RX12, "node", "(I)I"⟩
abbrev cX12_isBelow : ByteArray := prog_14_method_117_code
def yX12_isBelow : MethodName := ⟨RX12, "isBelow", "(II)Z"⟩
abbrev cX12_below : ByteArray := prog_14_method_118_code
def yX12_below : MethodName := ⟨RX12, "below", "(II)I"⟩
abbrev cX12_laysLattice : ByteArray := prog_14_method_119_code
def yX12_laysLattice : MethodName := ⟨RX12, "laysLattice", "()V"⟩
abbrev cX12_priceBy : ByteArray := prog_14_method_120_code
def yX12_priceBy : MethodName := ⟨RX12, "priceBy", "(I)I"⟩
abbrev cX12_price : ByteArray := prog_14_method_121_code
def yX12_price : MethodName := ⟨RX12, "price", "(I)I"⟩
abbrev cX12_greedy : ByteArray := prog_14_method_122_code
def yX12_greedy : MethodName := ⟨RX12, "greedy", "(II)I"⟩
abbrev cX12_best : ByteArray := prog_14_method_123_code
def yX12_best : MethodName := ⟨RX12, "best", "(II)I"⟩
abbrev cX12_seed : ByteArray := prog_14_method_124_code
def yX12_seed : MethodName := ⟨RX12, "seed", "(I)Z"⟩
abbrev cX12_keep : ByteArray := prog_14_method_125_code
def yX12_keep : MethodName := ⟨RX12, "keep", "()I"⟩
abbrev cX12_undo : ByteArray := prog_14_method_126_code
def yX12_undo : MethodName := ⟨RX12, "undo", "()Z"⟩
abbrev cX12_check : ByteArray := prog_14_method_127_code
def yX12_check : MethodName := ⟨RX12, "check", "(I)I"⟩
abbrev cX12_measures : ByteArray := prog_14_method_128_code
def yX12_measures : MethodName := ⟨RX12, "measures", "()I"⟩
abbrev cX12_count : ByteArray := prog_14_method_129_code
def yX12_count : MethodName := ⟨RX12, "count", "(I)I"⟩
def RJ6 : String := "java/lang/Integer"
def TJ6 : u_T := fun k => match k with
  | _ => ("", "", "", false)
def tyJ6 : Nat → FieldType := fun k => match k with
  | _ => .int
theorem nmJ6 : ∀ a, a < 0 → ∀ b, b < 0 → a ≠ b → (TJ6 a).2.1 ≠ (TJ6 b).2.1 := by decide +kernel
theorem tyJ6_ok : ∀ k, k < 0 → parseFieldDescriptor (TJ6 k).2.2.1 = some (tyJ6 k) := by decide +kernel
abbrev cJ6_bitCount_0f7a4 : ByteArray := prog_15_method_49_code
def yJ6_bitCount_0f7a4 : MethodName := ⟨RJ6, "bitCount", "(I)I"⟩
def RJ9 : String := "java/lang/Math"
def TJ9 : u_T := fun k => match k with
  | _ => ("", "", "", false)
def tyJ9 : Nat → FieldType := fun k => match k with
  | _ => .int
theorem nmJ9 : ∀ a, a < 0 → ∀ b, b < 0 → a ≠ b → (TJ9 a).2.1 ≠ (TJ9 b).2.1 := by decide +kernel
theorem tyJ9_ok : ∀ k, k < 0 → parseFieldDescriptor (TJ9 k).2.2.1 = some (tyJ9 k) := by decide +kernel
abbrev cJ9_max_7cf53 : ByteArray := prog_16_method_65_code
def yJ9_max_7cf53 : MethodName := ⟨RJ9, "max", "(II)I"⟩
abbrev cJ9_min_7cf53 : ByteArray := prog_16_method_69_code
def yJ9_min_7cf53 : MethodName := ⟨RJ9, "min", "(II)I"⟩
def RJ10 : String := "java/lang/System"
def TJ10 : u_T := fun k => match k with
  | _ => ("", "", "", false)
def tyJ10 : Nat → FieldType := fun k => match k with
  | _ => .int
theorem nmJ10 : ∀ a, a < 0 → ∀ b, b < 0 → a ≠ b → (TJ10 a).2.1 ≠ (TJ10 b).2.1 := by decide +kernel
theorem tyJ10_ok : ∀ k, k < 0 → parseFieldDescriptor (TJ10 k).2.2.1 = some (tyJ10 k) := by decide +kernel
def RJ7 : String := "java/util/Arrays"
def TJ7 : u_T := fun k => match k with
  | _ => ("", "", "", false)
def tyJ7 : Nat → FieldType := fun k => match k with
  | _ => .int
theorem nmJ7 : ∀ a, a < 0 → ∀ b, b < 0 → a ≠ b → (TJ7 a).2.1 ≠ (TJ7 b).2.1 := by decide +kernel
theorem tyJ7_ok : ∀ k, k < 0 → parseFieldDescriptor (TJ7 k).2.2.1 = some (tyJ7 k) := by decide +kernel
abbrev cJ7_fill_53178 : ByteArray := prog_18_method_103_code
def yJ7_fill_53178 : MethodName := ⟨RJ7, "fill", "([II)V"⟩
def RL : String := "KeptSummariesLaw"
abbrev cL_law : ByteArray := code
def yL_law : MethodName := ⟨RL, "law", "([I)Z"⟩
abbrev vwCl : List vw_C := [(RX0, TX0, 4), (RX1, TX1, 6), (RX2, TX2, 3), (RX3, TX3, 9), (RX4, TX4, 12), (RX5, TX5, 2), (RX6, TX6, 1), (RX7, TX7, 2), (RX8, TX8, 3), (RX9, TX9, 6), (RX10, TX10, 6), (RX11, TX11, 18), (RX12, TX12, 60)]
end
section
/-! tables of the small machine: classes by number, methods by number, links by own class and pool place -/
abbrev zm_D : Type := MethodName × ByteArray × Nat × Option FieldType × Nat × Nat × Bool
def zm_cn : Nat → String := fun k => match k with
  | 0 => RX0
  | 1 => RX1
  | 2 => RX2
  | 3 => RX3
  | 4 => RX4
  | 5 => RX5
  | 6 => RX6
  | 7 => RX7
  | 8 => RX8
  | 9 => RX9
  | 10 => RX10
  | 11 => RX11
  | 12 => RX12
  | 13 => RJ6
  | 14 => RJ9
  | 15 => RJ10
  | _ => RJ7
def zm_tx : Nat → u_T := fun k => match k with
  | 0 => TX0
  | 1 => TX1
  | 2 => TX2
  | 3 => TX3
  | 4 => TX4
  | 5 => TX5
  | 6 => TX6
  | 7 => TX7
  | 8 => TX8
  | 9 => TX9
  | 10 => TX10
  | 11 => TX11
  | 12 => TX12
  | 13 => TJ6
  | 14 => TJ9
  | 15 => TJ10
  | _ => TJ7
def zm_ty : Nat → Nat → FieldType := fun k => match k with
  | 0 => tyX0
  | 1 => tyX1
  | 2 => tyX2
  | 3 => tyX3
  | 4 => tyX4
  | 5 => tyX5
  | 6 => tyX6
  | 7 => tyX7
  | 8 => tyX8
  | 9 => tyX9
  | 10 => tyX10
  | 11 => tyX11
  | 12 => tyX12
  | 13 => tyJ6
  | 14 => tyJ9
  | 15 => tyJ10
  | _ => tyJ7
def zm_fn : Nat → Nat := fun k => match k with
  | 0 => 4
  | 1 => 6
  | 2 => 3
  | 3 => 9
  | 4 => 12
  | 5 => 2
  | 6 => 1
  | 7 => 2
  | 8 => 3
  | 9 => 6
  | 10 => 6
  | 11 => 18
  | 12 => 60
  | 13 => 0
  | 14 => 0
  | 15 => 0
  | _ => 0
/-- kinds of fields: 0 int, 1 boolean, 2 a reference -/
def zm_fkT : List (List Nat) := [[2, 2, 0, 0], [2, 2, 0, 2, 2, 2], [2, 2, 2], [2, 2, 2, 2, 0, 2, 2, 2, 0], [2, 2, 0, 2, 2, 2, 2, 0, 2, 0, 1, 2], [2, 2], [2], [2, 0], [2, 0, 0], [2, 2, 2, 2, 2, 0], [2, 0, 0, 0, 0, 0], [2, 2, 2, 2, 2, 2, 2, 2, 1, 2, 2, 2, 2, 0, 2, 0, 0, 1], [0, 0, 0, 0, 2, 2, 2, 2, 0, 0, 0, 0, 0, 0, 0, 0, 0, 0, 2, 2, 2, 2, 2, 2, 2, 2, 2, 2, 2, 2, 2, 2, 0, 0, 2, 2, 1, 2, 2, 2, 2, 0, 2, 2, 2, 2, 2, 2, 2, 2, 2, 2, 2, 1, 0, 0, 0, 0, 2, 2], [], [], [], []]
def zm_fk (c k : Nat) : Nat := (zm_fkT.getD c []).getD k 9
/-- which classes, fields are final -/
def zm_ff (c k : Nat) : Bool := (zm_tx c k).2.2.2
def zm_MT0 : List zm_D := [(yX0_init, cX0_init, 1, none, 0, 0, false), (yX0_clear, cX0_clear, 1, none, 0, 0, false), (yX0_copyFrom, cX0_copyFrom, 2, none, 0, 1, false), (yX0_levelOf, cX0_levelOf, 2, (some (.int)), 0, 1, false), (yX0_letsOf, cX0_letsOf, 2, (some (.int)), 0, 1, false), (yX0_tellLevel, cX0_tellLevel, 3, none, 0, 2, false), (yX0_tellLets, cX0_tellLets, 3, none, 0, 2, false), (yX0_levelOrLets, cX0_levelOrLets, 2, (some (.int)), 0, 1, false), (yX0_letsTriple, cX0_letsTriple, 2, (some (.boolean)), 0, 1, false), (yX0_keepsAll, cX0_keepsAll, 2, (some (.boolean)), 0, 1, false), (yX0_coversSides, cX0_coversSides, 4, (some (.boolean)), 0, 2, false), (yX0_coversSide, cX0_coversSide, 8, (some (.boolean)), 0, 3, false), (yX0_leftOutFor, cX0_leftOutFor, 4, (some (.int)), 0, 1, false), (yX0_rolledUpFor, cX0_rolledUpFor, 4, (some (.int)), 0, 1, false), (yX0_liesIn, cX0_liesIn, 7, (some (.boolean)), 0, 3, false), (yX0_rolledKey, cX0_rolledKey, 4, (some (.int)), 0, 3, false)]
def zm_MT1 : List zm_D := [(yX0_rolledNumber, cX0_rolledNumber, 7, (some (.int)), 0, 4, false), (yX1_init, cX1_init, 1, none, 1, 0, false), (yX1_add, cX1_add, 3, none, 1, 2, false), (yX1_tripleAt, cX1_tripleAt, 2, (some (.int)), 1, 1, false), (yX1_measureAt, cX1_measureAt, 2, (some (.int)), 1, 1, false), (yX1_measuresAdded, cX1_measuresAdded, 3, (some (.int)), 1, 0, false), (yX1_letBy, cX1_letBy, 5, (some (.int)), 1, 2, false), (yX1_tally, cX1_tally, 8, none, 1, 5, false), (yX1_tallySingled, cX1_tallySingled, 8, none, 1, 3, false), (yX1_meetUnlike, cX1_meetUnlike, 4, none, 1, 3, false), (yX1_meetMiddle, cX1_meetMiddle, 4, none, 1, 3, false), (yX1_sortByMeasure, cX1_sortByMeasure, 3, none, 1, 0, false), (yX1_countMeasure, cX1_countMeasure, 2, none, 1, 1, false), (yX1_nextRank, cX1_nextRank, 2, (some (.int)), 1, 1, false), (yX2_init, cX2_init, 2, none, 2, 1, false), (yX2_readShape, cX2_readShape, 5, (some (.int)), 2, 1, false)]
def zm_MT2 : List zm_D := [(yX2_readLine, cX2_readLine, 6, (some (.int)), 2, 1, false), (yX2_readSummary, cX2_readSummary, 2, none, 2, 1, false), (yX2_readQuestion, cX2_readQuestion, 2, none, 2, 1, false), (yX2_readLevels, cX2_readLevels, 2, none, 2, 0, false), (yX2_readParts, cX2_readParts, 3, none, 2, 0, false), (yX2_readSpans, cX2_readSpans, 4, none, 2, 1, false), (yX2_readSpan, cX2_readSpan, 9, (some (.int)), 2, 2, false), (yX2_readSide, cX2_readSide, 2, (some (.int)), 2, 0, false), (yX2_readDigit, cX2_readDigit, 3, (some (.int)), 2, 1, false), (yX2_readLevel, cX2_readLevel, 3, (some (.int)), 2, 1, false), (yX2_whatOf, cX2_whatOf, 1, (some (.int)), 2, 1, true), (yX3_init, cX3_init, 4, none, 3, 0, false), (yX3_isNoFiner, cX3_isNoFiner, 3, (some (.boolean)), 3, 2, true), (yX3_isBelow, cX3_isBelow, 3, (some (.boolean)), 3, 2, false), (yX3_groupsOf, cX3_groupsOf, 2, (some (.int)), 3, 1, false), (yX3_pickAt, cX3_pickAt, 2, (some (.int)), 3, 1, false)]
def zm_MT3 : List zm_D := [(yX3_recount, cX3_recount, 5, none, 3, 2, false), (yX3_mergedGroups, cX3_mergedGroups, 6, (some (.int)), 3, 2, false), (yX3_priceOf, cX3_priceOf, 4, (some (.int)), 3, 1, false), (yX3_pickGreedily, cX3_pickGreedily, 4, none, 3, 1, false), (yX3_pickNext, cX3_pickNext, 6, none, 3, 2, false), (yX3_pickBestTwo, cX3_pickBestTwo, 5, none, 3, 0, false), (yX3_tellNone, cX3_tellNone, 1, none, 3, 0, false), (yX3_tell, cX3_tell, 3, none, 3, 1, false), (yX3_priceWith, cX3_priceWith, 4, (some (.int)), 3, 1, false), (yX4_init, cX4_init, 1, none, 4, 0, false), (yX4_clear, cX4_clear, 1, none, 4, 0, false), (yX4_addStep, cX4_addStep, 3, (some (.int)), 4, 2, false), (yX4_leadHere, cX4_leadHere, 2, none, 4, 1, false), (yX4_addRule, cX4_addRule, 4, none, 4, 3, false), (yX4_letterOf, cX4_letterOf, 1, (some (.int)), 4, 1, true), (yX4_tell, cX4_tell, 6, none, 4, 5, false)]
def zm_MT4 : List zm_D := [(yX4_refuses, cX4_refuses, 1, (some (.boolean)), 4, 0, false), (yX4_measureFor, cX4_measureFor, 3, (some (.int)), 4, 1, false), (yX4_summaryToRenew, cX4_summaryToRenew, 2, (some (.int)), 4, 0, false), (yX4_firstHolding, cX4_firstHolding, 3, (some (.int)), 4, 1, false), (yX4_result, cX4_result, 2, (some (.int)), 4, 1, false), (yX4_run, cX4_run, 6, (some (.int)), 4, 2, false), (yX4_afterTest, cX4_afterTest, 4, (some (.int)), 4, 2, false), (yX4_reckon, cX4_reckon, 4, (some (.int)), 4, 3, false), (yX4_letterAt, cX4_letterAt, 2, (some (.int)), 4, 1, false), (yX4_push, cX4_push, 2, none, 4, 1, false), (yX4_pop, cX4_pop, 1, (some (.int)), 4, 0, false), (yX5_init, cX5_init, 2, none, 5, 1, false), (yX5_exchange, cX5_exchange, 3, (some (.object "KeptSummaries$Law")), 5, 1, false), (yX5_readRules, cX5_readRules, 5, none, 5, 0, false), (yX5_readHead, cX5_readHead, 2, (some (.int)), 5, 0, false), (yX5_readCondition, cX5_readCondition, 6, none, 5, 1, false)]
def zm_MT5 : List zm_D := [(yX5_readTest, cX5_readTest, 4, none, 5, 1, false), (yX5_readSum, cX5_readSum, 7, none, 5, 1, false), (yX5_addWaiting, cX5_addWaiting, 2, none, 5, 1, false), (yX5_readFactor, cX5_readFactor, 4, none, 5, 1, false), (yX5_readNumber, cX5_readNumber, 4, (some (.int)), 5, 0, false), (yX6_init, cX6_init, 2, none, 6, 0, false), (yX6_copyFrom, cX6_copyFrom, 2, none, 6, 1, false), (yX6_tell, cX6_tell, 4, none, 6, 3, false), (yX6_numberOf, cX6_numberOf, 4, (some (.int)), 6, 3, false), (yX6_keyOf, cX6_keyOf, 3, (some (.int)), 6, 2, false), (yX6_valuesWithin, cX6_valuesWithin, 8, (some (.int)), 6, 4, false), (yX6_numbersOf, cX6_numbersOf, 6, (some (.int)), 6, 3, false), (yX7_init, cX7_init, 2, none, 7, 0, false), (yX7_at, cX7_at, 2, (some (.object "KeptSummaries$Summary")), 7, 1, false), (yX7_addOne, cX7_addOne, 1, (some (.object "KeptSummaries$Summary")), 7, 0, false), (yX7_remove, cX7_remove, 4, none, 7, 1, false)]
def zm_MT6 : List zm_D := [(yX7_copyFrom, cX7_copyFrom, 5, none, 7, 1, false), (yX8_init, cX8_init, 1, none, 8, 0, false), (yX8_copyFrom, cX8_copyFrom, 2, none, 8, 1, false), (yX9_init, cX9_init, 1, none, 9, 0, false), (yX9_clear, cX9_clear, 1, none, 9, 0, false), (yX9_hasKey, cX9_hasKey, 2, (some (.boolean)), 9, 1, false), (yX9_countAt, cX9_countAt, 2, (some (.int)), 9, 1, false), (yX9_singledAt, cX9_singledAt, 2, (some (.int)), 9, 1, false), (yX9_single, cX9_single, 3, none, 9, 2, false), (yX9_addFact, cX9_addFact, 3, none, 9, 2, false), (yX9_addGroup, cX9_addGroup, 4, none, 9, 3, false), (yX9_addParts, cX9_addParts, 6, none, 9, 5, false), (yX9_keyAt, cX9_keyAt, 4, (some (.int)), 9, 1, false), (yX9_valueAt, cX9_valueAt, 3, (some (.int)), 9, 2, false), (yX9_rankedKeyAt, cX9_rankedKeyAt, 7, (some (.int)), 9, 2, false), (yX9_groupsFrom, cX9_groupsFrom, 5, (some (.int)), 9, 2, false)]
def zm_MT7 : List zm_D := [(yX9_keyOfLike, cX9_keyOfLike, 6, (some (.int)), 9, 3, false), (yX9_unlikeGroups, cX9_unlikeGroups, 5, (some (.int)), 9, 2, false), (yX10_init, cX10_init, 1, none, 10, 0, false), (yX10_append, cX10_append, 3, none, 10, 1, false), (yX10_has, cX10_has, 4, (some (.boolean)), 10, 3, false), (yX10_byteAt, cX10_byteAt, 2, (some (.int)), 10, 1, false), (yX10_clear, cX10_clear, 1, none, 10, 0, false), (yX10_begin, cX10_begin, 2, none, 10, 1, false), (yX10_peek, cX10_peek, 1, (some (.int)), 10, 0, false), (yX10_step, cX10_step, 1, none, 10, 0, false), (yX10_take, cX10_take, 2, none, 10, 1, false), (yX10_takeEnd, cX10_takeEnd, 1, none, 10, 0, false), (yX10_fail, cX10_fail, 2, none, 10, 1, false), (yX10_failAt, cX10_failAt, 3, none, 10, 2, false), (yX10_faultAnswer, cX10_faultAnswer, 1, (some (.int)), 10, 0, false), (yX11_init, cX11_init, 1, none, 11, 0, false)]
def zm_MT8 : List zm_D := [(yX11_fact, cX11_fact, 5, (some (.int)), 11, 4, false), (yX11_draws, cX11_draws, 8, (some (.int)), 11, 1, false), (yX11_factIs, cX11_factIs, 3, (some (.int)), 11, 2, false), (yX11_seed, cX11_seed, 2, (some (.boolean)), 11, 1, false), (yX11_feed, cX11_feed, 6, (some (.int)), 11, 5, false), (yX11_law, cX11_law, 2, (some (.int)), 11, 1, false), (yX11_shape, cX11_shape, 3, (some (.int)), 11, 1, false), (yX11_summary, cX11_summary, 3, (some (.int)), 11, 1, false), (yX11_question, cX11_question, 2, (some (.int)), 11, 1, false), (yX11_check, cX11_check, 5, (some (.int)), 11, 1, false), (yX11_renew, cX11_renew, 4, (some (.int)), 11, 1, false), (yX11_drop, cX11_drop, 2, (some (.boolean)), 11, 1, false), (yX11_coarse, cX11_coarse, 3, (some (.int)), 11, 2, false), (yX11_summaryIs, cX11_summaryIs, 4, (some (.int)), 11, 2, false), (yX11_group, cX11_group, 7, (some (.int)), 11, 3, false), (yX11_madeOf, cX11_madeOf, 6, (some (.int)), 11, 1, false)]
def zm_MT9 : List zm_D := [(yX11_questionIs, cX11_questionIs, 2, (some (.int)), 11, 1, false), (yX11_covers, cX11_covers, 3, (some (.int)), 11, 1, false), (yX11_coverIs, cX11_coverIs, 4, (some (.int)), 11, 2, false), (yX11_way, cX11_way, 4, (some (.int)), 11, 1, false), (yX11_answer, cX11_answer, 4, (some (.int)), 11, 2, false), (yX11_ranked, cX11_ranked, 4, (some (.int)), 11, 2, false), (yX11_answerBy, cX11_answerBy, 6, (some (.int)), 11, 3, false), (yX11_unlike, cX11_unlike, 3, (some (.int)), 11, 1, false), (yX11_node, cX11_node, 2, (some (.int)), 11, 1, false), (yX11_below, cX11_below, 3, (some (.int)), 11, 2, false), (yX11_price, cX11_price, 2, (some (.int)), 11, 1, false), (yX11_greedy, cX11_greedy, 3, (some (.int)), 11, 2, false), (yX11_best, cX11_best, 3, (some (.int)), 11, 2, false), (yX11_keep, cX11_keep, 1, (some (.int)), 11, 0, false), (yX11_undo, cX11_undo, 1, (some (.boolean)), 11, 0, false), (yX11_count, cX11_count, 2, (some (.int)), 11, 1, false)]
def zm_MT10 : List zm_D := [(yX11_nextX, cX11_nextX, 1, (some (.int)), 11, 0, false), (yX11_comes, cX11_comes, 6, (some (.boolean)), 11, 2, false), (yX11_makeAnew, cX11_makeAnew, 2, none, 11, 1, false), (yX11_tallyGroups, cX11_tallyGroups, 2, none, 11, 1, false), (yX11_costOf, cX11_costOf, 2, (some (.int)), 11, 1, false), (yX11_isCovering, cX11_isCovering, 2, (some (.boolean)), 11, 1, false), (yX11_groupsInside, cX11_groupsInside, 4, (some (.int)), 11, 1, false), (yX11_cheapestWay, cX11_cheapestWay, 6, (some (.int)), 11, 0, false), (yX11_tallyAnswer, cX11_tallyAnswer, 3, (some (.object "KeptSummaries$Table")), 11, 1, false), (yX11_answerAt, cX11_answerAt, 4, (some (.int)), 11, 3, false), (yX11_isAnswerPlace, cX11_isAnswerPlace, 2, (some (.boolean)), 11, 2, true), (yX11_isSide, cX11_isSide, 1, (some (.boolean)), 11, 1, true), (yX11_isValue, cX11_isValue, 1, (some (.boolean)), 11, 1, true), (yX11_isNode, cX11_isNode, 1, (some (.boolean)), 11, 1, true), (yX11_isDigit, cX11_isDigit, 1, (some (.boolean)), 11, 1, true), (yX11_isLevelOrLets, cX11_isLevelOrLets, 1, (some (.boolean)), 11, 1, true)]
def zm_MT11 : List zm_D := [(yX11_tripleOf, cX11_tripleOf, 3, (some (.int)), 11, 3, true), (yX11_numberIn, cX11_numberIn, 2, (some (.int)), 11, 2, true), (yX11_partsFor, cX11_partsFor, 1, (some (.int)), 11, 1, true), (yX11_levelIn, cX11_levelIn, 2, (some (.int)), 11, 2, true), (yX12_init, cX12_init, 2, none, 12, 0, false), (yX12_in, cX12_in, 3, (some (.boolean)), 12, 3, true), (yX12_min, cX12_min, 2, (some (.int)), 12, 2, true), (yX12_max, cX12_max, 2, (some (.int)), 12, 2, true), (yX12_has, cX12_has, 2, (some (.boolean)), 12, 2, true), (yX12_isSide, cX12_isSide, 1, (some (.boolean)), 12, 1, true), (yX12_isValue, cX12_isValue, 1, (some (.boolean)), 12, 1, true), (yX12_numberAt, cX12_numberAt, 4, (some (.int)), 12, 3, false), (yX12_coarse, cX12_coarse, 3, (some (.int)), 12, 2, false), (yX12_ofFact, cX12_ofFact, 3, (some (.int)), 12, 2, false), (yX12_factIs, cX12_factIs, 3, (some (.int)), 12, 2, false), (yX12_types, cX12_types, 3, none, 12, 1, false)]
def zm_MT12 : List zm_D := [(yX12_feed, cX12_feed, 6, (some (.int)), 12, 5, false), (yX12_octet, cX12_octet, 2, (some (.int)), 12, 1, false), (yX12_here, cX12_here, 1, (some (.int)), 12, 0, false), (yX12_isDigit, cX12_isDigit, 1, (some (.boolean)), 12, 0, false), (yX12_wrongAt, cX12_wrongAt, 3, (some (.boolean)), 12, 2, false), (yX12_takes, cX12_takes, 2, (some (.boolean)), 12, 1, false), (yX12_readsNumber, cX12_readsNumber, 2, (some (.boolean)), 12, 0, false), (yX12_notes, cX12_notes, 3, none, 12, 2, false), (yX12_opens, cX12_opens, 2, (some (.boolean)), 12, 1, false), (yX12_waitTop, cX12_waitTop, 1, (some (.int)), 12, 0, false), (yX12_factOf, cX12_factOf, 1, (some (.int)), 12, 1, true), (yX12_sumSign, cX12_sumSign, 1, (some (.int)), 12, 1, true), (yX12_closesSums, cX12_closesSums, 2, none, 12, 1, false), (yX12_readsFactor, cX12_readsFactor, 2, (some (.boolean)), 12, 0, false), (yX12_hasOpenSum, cX12_hasOpenSum, 3, (some (.boolean)), 12, 1, false), (yX12_readsSum, cX12_readsSum, 3, (some (.boolean)), 12, 0, false)]
def zm_MT13 : List zm_D := [(yX12_endsPiece, cX12_endsPiece, 1, none, 12, 0, false), (yX12_lands, cX12_lands, 3, none, 12, 1, false), (yX12_jumps, cX12_jumps, 2, none, 12, 1, false), (yX12_readsCompared, cX12_readsCompared, 2, (some (.boolean)), 12, 0, false), (yX12_readsCondition, cX12_readsCondition, 1, (some (.boolean)), 12, 0, false), (yX12_readsRule, cX12_readsRule, 2, (some (.boolean)), 12, 0, false), (yX12_beginsText, cX12_beginsText, 2, none, 12, 1, false), (yX12_law, cX12_law, 4, (some (.int)), 12, 1, false), (yX12_reckon, cX12_reckon, 3, (some (.int)), 12, 3, true), (yX12_reckonsTo, cX12_reckonsTo, 8, (some (.int)), 12, 2, false), (yX12_byLaw, cX12_byLaw, 4, (some (.int)), 12, 2, false), (yX12_isRefused, cX12_isRefused, 2, (some (.boolean)), 12, 0, false), (yX12_lotGoes, cX12_lotGoes, 1, (some (.int)), 12, 0, false), (yX12_comes, cX12_comes, 8, (some (.int)), 12, 4, false), (yX12_fact, cX12_fact, 5, (some (.int)), 12, 4, false), (yX12_draws, cX12_draws, 8, (some (.int)), 12, 1, false)]
def zm_MT14 : List zm_D := [(yX12_readsDigit, cX12_readsDigit, 2, (some (.boolean)), 12, 1, false), (yX12_readsLevel, cX12_readsLevel, 2, (some (.boolean)), 12, 1, false), (yX12_readsCoarse, cX12_readsCoarse, 4, (some (.boolean)), 12, 0, false), (yX12_shape, cX12_shape, 4, (some (.int)), 12, 1, false), (yX12_readsLevels, cX12_readsLevels, 2, (some (.boolean)), 12, 0, false), (yX12_spanBy, cX12_spanBy, 7, (some (.int)), 12, 4, false), (yX12_readsSpan, cX12_readsSpan, 6, (some (.boolean)), 12, 0, false), (yX12_readsSpans, cX12_readsSpans, 2, (some (.boolean)), 12, 0, false), (yX12_partOf, cX12_partOf, 1, (some (.int)), 12, 1, true), (yX12_readsParts, cX12_readsParts, 2, (some (.boolean)), 12, 0, false), (yX12_readsSummary, cX12_readsSummary, 1, (some (.boolean)), 12, 0, false), (yX12_summary, cX12_summary, 4, (some (.int)), 12, 1, false), (yX12_whatOf, cX12_whatOf, 1, (some (.int)), 12, 1, true), (yX12_readsQuestion, cX12_readsQuestion, 2, (some (.boolean)), 12, 0, false), (yX12_question, cX12_question, 4, (some (.int)), 12, 1, false), (yX12_clears, cX12_clears, 2, none, 12, 0, false)]
def zm_MT15 : List zm_D := [(yX12_isLet, cX12_isLet, 5, (some (.boolean)), 12, 3, false), (yX12_tripleOf, cX12_tripleOf, 6, (some (.int)), 12, 3, false), (yX12_adds, cX12_adds, 6, none, 12, 5, false), (yX12_addsFacts, cX12_addsFacts, 7, none, 12, 4, false), (yX12_groupsThere, cX12_groupsThere, 3, (some (.int)), 12, 0, false), (yX12_isSummary, cX12_isSummary, 2, (some (.boolean)), 12, 1, false), (yX12_upTo, cX12_upTo, 2, (some (.int)), 12, 1, false), (yX12_laysSummary, cX12_laysSummary, 2, none, 12, 1, false), (yX12_groupsOf, cX12_groupsOf, 2, (some (.int)), 12, 1, false), (yX12_freshOf, cX12_freshOf, 2, (some (.int)), 12, 1, false), (yX12_costOf, cX12_costOf, 2, (some (.int)), 12, 1, false), (yX12_renew, cX12_renew, 3, (some (.int)), 12, 1, false), (yX12_drop, cX12_drop, 3, (some (.boolean)), 12, 1, false), (yX12_summaryIs, cX12_summaryIs, 3, (some (.int)), 12, 2, false), (yX12_tripleBehind, cX12_tripleBehind, 4, (some (.int)), 12, 1, false), (yX12_numberOf, cX12_numberOf, 2, (some (.int)), 12, 2, true)]
def zm_MT16 : List zm_D := [(yX12_partAt, cX12_partAt, 3, (some (.int)), 12, 2, false), (yX12_group, cX12_group, 5, (some (.int)), 12, 3, false), (yX12_questionIs, cX12_questionIs, 2, (some (.int)), 12, 1, false), (yX12_hasPart, cX12_hasPart, 2, (some (.boolean)), 12, 2, true), (yX12_valuesOf, cX12_valuesOf, 7, (some (.int)), 12, 4, false), (yX12_coversSide, cX12_coversSide, 9, (some (.boolean)), 12, 5, false), (yX12_coversAll, cX12_coversAll, 5, (some (.boolean)), 12, 3, false), (yX12_coversNow, cX12_coversNow, 2, (some (.boolean)), 12, 1, false), (yX12_covers, cX12_covers, 2, (some (.int)), 12, 1, false), (yX12_leavesOut, cX12_leavesOut, 3, (some (.boolean)), 12, 2, false), (yX12_leftOut, cX12_leftOut, 4, (some (.int)), 12, 1, false), (yX12_rolledUp, cX12_rolledUp, 4, (some (.int)), 12, 1, false), (yX12_compensation, cX12_compensation, 4, (some (.int)), 12, 1, false), (yX12_standsFor, cX12_standsFor, 6, (some (.int)), 12, 3, false), (yX12_goesInto, cX12_goesInto, 6, (some (.int)), 12, 2, false), (yX12_takenOf, cX12_takenOf, 4, (some (.int)), 12, 1, false)]
def zm_MT17 : List zm_D := [(yX12_coverIs, cX12_coverIs, 3, (some (.int)), 12, 2, false), (yX12_madeOf, cX12_madeOf, 6, (some (.int)), 12, 1, false), (yX12_timesOf, cX12_timesOf, 3, none, 12, 1, false), (yX12_unlikeIn, cX12_unlikeIn, 4, (some (.int)), 12, 1, false), (yX12_middleOf, cX12_middleOf, 4, (some (.int)), 12, 1, false), (yX12_whatAt, cX12_whatAt, 2, (some (.int)), 12, 1, false), (yX12_putsDown, cX12_putsDown, 2, none, 12, 0, false), (yX12_answersByFacts, cX12_answersByFacts, 1, none, 12, 0, false), (yX12_answersBy, cX12_answersBy, 4, none, 12, 1, false), (yX12_wayNow, cX12_wayNow, 4, (some (.int)), 12, 0, false), (yX12_way, cX12_way, 3, (some (.int)), 12, 1, false), (yX12_answersByWay, cX12_answersByWay, 2, none, 12, 1, false), (yX12_toldOf, cX12_toldOf, 3, (some (.int)), 12, 2, false), (yX12_answer, cX12_answer, 3, (some (.int)), 12, 2, false), (yX12_aheadOf, cX12_aheadOf, 4, (some (.int)), 12, 1, false), (yX12_ranked, cX12_ranked, 4, (some (.int)), 12, 2, false)]
def zm_MT18 : List zm_D := [(yX12_answerBy, cX12_answerBy, 4, (some (.int)), 12, 3, false), (yX12_differs, cX12_differs, 4, (some (.int)), 12, 1, false), (yX12_unlike, cX12_unlike, 2, (some (.int)), 12, 1, false), (yX12_levelOf, cX12_levelOf, 2, (some (.int)), 12, 2, true), (yX12_groupsBy, cX12_groupsBy, 3, (some (.int)), 12, 1, false), (yX12_isNode, cX12_isNode, 1, (some (.boolean)), 12, 1, true), (yX12_node, cX12_node, 2, (some (.int)), 12, 1, false), (yX12_isBelow, cX12_isBelow, 3, (some (.boolean)), 12, 2, true), (yX12_below, cX12_below, 3, (some (.int)), 12, 2, false), (yX12_laysLattice, cX12_laysLattice, 2, none, 12, 0, false), (yX12_priceBy, cX12_priceBy, 6, (some (.int)), 12, 1, false), (yX12_price, cX12_price, 2, (some (.int)), 12, 1, false), (yX12_greedy, cX12_greedy, 9, (some (.int)), 12, 2, false), (yX12_best, cX12_best, 9, (some (.int)), 12, 2, false), (yX12_seed, cX12_seed, 2, (some (.boolean)), 12, 1, false), (yX12_keep, cX12_keep, 2, (some (.int)), 12, 0, false)]
def zm_MT19 : List zm_D := [(yX12_undo, cX12_undo, 2, (some (.boolean)), 12, 0, false), (yX12_check, cX12_check, 3, (some (.int)), 12, 1, false), (yX12_measures, cX12_measures, 3, (some (.int)), 12, 0, false), (yX12_count, cX12_count, 2, (some (.int)), 12, 1, false), (yJ6_bitCount_0f7a4, cJ6_bitCount_0f7a4, 1, (some (.int)), 13, 1, true), (yJ9_max_7cf53, cJ9_max_7cf53, 2, (some (.int)), 14, 2, true), (yJ9_min_7cf53, cJ9_min_7cf53, 2, (some (.int)), 14, 2, true), (yJ7_fill_53178, cJ7_fill_53178, 4, none, 16, 2, true)]
def zm_MT : List zm_D := zm_MT0 ++ (zm_MT1 ++ (zm_MT2 ++ (zm_MT3 ++ (zm_MT4 ++ (zm_MT5 ++ (zm_MT6 ++ (zm_MT7 ++ (zm_MT8 ++ (zm_MT9 ++ (zm_MT10 ++ (zm_MT11 ++ (zm_MT12 ++ (zm_MT13 ++ (zm_MT14 ++ (zm_MT15 ++ (zm_MT16 ++ (zm_MT17 ++ (zm_MT18 ++ (zm_MT19)))))))))))))))))))
/-- own class, pool place, class, field, 1: as a nest mate -/
def zm_FL : List (Nat × Nat × Nat × Nat × Nat) := [(0, 9, 0, 0, 0), (0, 15, 0, 1, 0), (0, 18, 0, 2, 0), (0, 22, 0, 3, 0), (1, 9, 1, 0, 0), (1, 15, 1, 1, 0), (1, 18, 1, 2, 0), (1, 22, 1, 3, 0), (1, 25, 1, 4, 0), (1, 28, 1, 5, 0), (1, 65, 0, 3, 1), (2, 12, 2, 1, 0), (2, 21, 2, 2, 0), (2, 25, 2, 0, 0), (2, 49, 10, 3, 1), (2, 86, 0, 3, 1), (2, 102, 0, 2, 1), (3, 9, 3, 0, 0), (3, 15, 3, 1, 0), (3, 18, 3, 2, 0), (3, 21, 3, 3, 0), (3, 24, 3, 4, 0), (3, 28, 3, 5, 0), (3, 31, 3, 6, 0), (3, 34, 3, 7, 0), (3, 37, 3, 8, 0), (3, 52, 1, 2, 1), (4, 9, 4, 0, 0), (4, 15, 4, 1, 0), (4, 18, 4, 2, 0), (4, 22, 4, 3, 0), (4, 25, 4, 4, 0), (4, 28, 4, 5, 0), (4, 31, 4, 6, 0), (4, 34, 4, 7, 0), (4, 37, 4, 8, 0), (4, 40, 4, 9, 0), (4, 43, 4, 10, 0), (4, 47, 4, 11, 0), (5, 12, 5, 1, 0), (5, 18, 5, 0, 0), (5, 29, 4, 2, 1), (5, 61, 4, 7, 1), (6, 9, 6, 0, 0), (7, 11, 7, 0, 0), (7, 17, 7, 1, 0), (8, 10, 8, 0, 0), (8, 16, 8, 1, 0), (8, 20, 8, 2, 0), (9, 9, 9, 0, 0), (9, 15, 9, 1, 0), (9, 18, 9, 2, 0), (9, 21, 9, 3, 0), (9, 24, 9, 4, 0), (9, 27, 9, 5, 0), (10, 9, 10, 0, 0), (10, 15, 10, 1, 0), (10, 19, 10, 2, 0), (10, 22, 10, 3, 0), (10, 25, 10, 4, 0), (10, 28, 10, 5, 0), (11, 10, 11, 0, 0), (11, 21, 11, 1, 0), (11, 28, 11, 2, 0), (11, 35, 11, 3, 0), (11, 42, 11, 4, 0), (11, 49, 11, 5, 0), (11, 56, 11, 6, 0), (11, 63, 11, 7, 0), (11, 67, 11, 8, 0), (11, 74, 11, 9, 0), (11, 78, 11, 10, 0), (11, 81, 11, 11, 0), (11, 87, 11, 12, 0), (11, 91, 11, 13, 0), (11, 95, 11, 14, 0), (11, 98, 11, 15, 0), (11, 101, 11, 16, 0), (11, 104, 11, 17, 0), (11, 111, 1, 2, 1), (11, 138, 10, 1, 1), (11, 156, 10, 4, 1), (11, 166, 4, 7, 1), (11, 173, 2, 1, 1), (11, 178, 7, 1, 1), (11, 186, 8, 0, 1), (11, 191, 2, 2, 1), (11, 206, 9, 5, 1), (11, 214, 8, 1, 1), (11, 226, 0, 2, 1), (11, 229, 8, 2, 1), (11, 257, 0, 3, 1), (11, 315, 3, 4, 1), (12, 7, 12, 4, 0), (12, 13, 12, 5, 0), (12, 16, 12, 6, 0), (12, 19, 12, 7, 0), (12, 23, 12, 18, 0), (12, 26, 12, 19, 0), (12, 29, 12, 20, 0), (12, 32, 12, 21, 0), (12, 35, 12, 22, 0), (12, 38, 12, 23, 0), (12, 41, 12, 24, 0), (12, 44, 12, 25, 0), (12, 47, 12, 26, 0), (12, 50, 12, 27, 0), (12, 53, 12, 28, 0), (12, 56, 12, 29, 0), (12, 59, 12, 30, 0), (12, 62, 12, 31, 0), (12, 65, 12, 34, 0), (12, 68, 12, 35, 0), (12, 71, 12, 37, 0), (12, 74, 12, 38, 0), (12, 77, 12, 39, 0), (12, 80, 12, 40, 0), (12, 83, 12, 42, 0), (12, 86, 12, 43, 0), (12, 89, 12, 44, 0), (12, 92, 12, 45, 0), (12, 95, 12, 46, 0), (12, 98, 12, 47, 0), (12, 101, 12, 48, 0), (12, 104, 12, 49, 0), (12, 107, 12, 50, 0), (12, 110, 12, 51, 0), (12, 113, 12, 52, 0), (12, 116, 12, 58, 0), (12, 119, 12, 59, 0), (12, 122, 12, 0, 0), (12, 141, 12, 1, 0), (12, 148, 12, 8, 0), (12, 155, 12, 9, 0), (12, 158, 12, 10, 0), (12, 165, 12, 11, 0), (12, 172, 12, 12, 0), (12, 179, 12, 14, 0), (12, 183, 12, 13, 0), (12, 186, 12, 15, 0), (12, 234, 12, 16, 0), (12, 249, 12, 17, 0), (12, 259, 12, 2, 0), (12, 287, 12, 32, 0), (12, 293, 12, 33, 0), (12, 299, 12, 3, 0), (12, 332, 12, 36, 0), (12, 339, 12, 41, 0), (12, 480, 12, 53, 0), (12, 483, 12, 54, 0), (12, 486, 12, 55, 0), (12, 489, 12, 56, 0), (12, 492, 12, 57, 0)]
def zm_ML0 : List (Nat × Nat × Nat × Nat) := [(0, 25, 311, 0), (0, 37, 171, 1), (0, 41, 177, 1), (0, 45, 11, 0), (0, 49, 3, 0), (0, 53, 4, 0), (0, 56, 90, 0), (0, 62, 16, 0), (0, 66, 176, 1), (0, 70, 88, 0), (1, 31, 20, 0), (1, 35, 19, 0), (1, 38, 8, 0), (1, 44, 89, 0), (1, 50, 105, 0), (1, 56, 27, 0)]
def zm_ML1 : List (Nat × Nat × Nat × Nat) := [(1, 59, 311, 0), (1, 68, 25, 0), (1, 72, 26, 0), (1, 75, 104, 0), (1, 78, 103, 0), (1, 81, 102, 0), (1, 84, 28, 0), (1, 88, 29, 0), (2, 11, 85, 0), (2, 20, 0, 1), (2, 29, 86, 0), (2, 33, 32, 0), (2, 37, 120, 0), (2, 43, 121, 0), (2, 46, 123, 0), (2, 53, 39, 0)]
def zm_ML2 : List (Nat × Nat × Nat × Nat) := [(2, 56, 40, 0), (2, 59, 125, 0), (2, 63, 122, 0), (2, 67, 87, 0), (2, 71, 1, 0), (2, 74, 35, 0), (2, 77, 36, 0), (2, 80, 37, 0), (2, 83, 42, 0), (2, 89, 124, 0), (2, 92, 41, 0), (2, 95, 5, 0), (2, 98, 9, 0), (2, 105, 38, 0), (2, 109, 90, 0), (2, 113, 6, 0)]
def zm_ML3 : List (Nat × Nat × Nat × Nat) := [(2, 116, 171, 1), (2, 119, 174, 1), (3, 40, 44, 0), (3, 44, 179, 1), (3, 48, 173, 1), (3, 57, 311, 0), (3, 63, 19, 0), (3, 67, 91, 0), (3, 73, 49, 0), (3, 77, 88, 0), (3, 80, 308, 0), (3, 85, 54, 0), (3, 88, 55, 0), (3, 92, 52, 0), (3, 96, 56, 0), (3, 99, 45, 0)]
def zm_ML4 : List (Nat × Nat × Nat × Nat) := [(3, 102, 46, 0), (3, 105, 310, 0), (4, 50, 177, 1), (4, 54, 67, 0), (4, 58, 68, 0), (4, 61, 310, 0), (4, 66, 309, 0), (4, 69, 69, 0), (4, 72, 73, 0), (4, 76, 72, 0), (4, 79, 74, 0), (4, 83, 70, 0), (4, 86, 71, 0), (5, 11, 57, 1), (5, 22, 58, 0), (5, 25, 78, 0)]
def zm_ML5 : List (Nat × Nat × Nat × Nat) := [(5, 33, 81, 0), (5, 37, 122, 0), (5, 42, 79, 0), (5, 45, 61, 0), (5, 49, 120, 0), (5, 52, 121, 0), (5, 55, 123, 0), (5, 58, 124, 0), (5, 64, 80, 0), (5, 67, 60, 0), (5, 70, 59, 0), (5, 74, 83, 0), (5, 77, 82, 0), (5, 80, 62, 0), (5, 84, 174, 1), (5, 88, 84, 0)]
def zm_ML6 : List (Nat × Nat × Nat × Nat) := [(6, 21, 171, 1), (6, 25, 172, 1), (6, 28, 3, 0), (6, 34, 177, 1), (6, 38, 88, 0), (6, 42, 176, 1), (7, 21, 97, 1), (7, 22, 93, 0), (7, 26, 98, 0), (8, 9, 0, 1), (8, 23, 2, 0), (9, 31, 311, 0), (9, 37, 107, 0), (9, 41, 101, 0), (9, 45, 310, 0), (9, 51, 309, 0)]
def zm_ML7 : List (Nat × Nat × Nat × Nat) := [(9, 54, 111, 0), (9, 57, 112, 0), (9, 61, 109, 0), (10, 31, 120, 0), (10, 35, 124, 0), (11, 9, 114, 1), (11, 18, 75, 0), (11, 27, 30, 0), (11, 34, 57, 1), (11, 41, 85, 0), (11, 48, 17, 1), (11, 55, 92, 0), (11, 62, 0, 1), (11, 73, 99, 1), (11, 86, 43, 0), (11, 107, 172, 0)]
def zm_ML8 : List (Nat × Nat × Nat × Nat) := [(11, 114, 176, 0), (11, 118, 161, 0), (11, 122, 160, 0), (11, 126, 19, 0), (11, 130, 177, 0), (11, 134, 20, 0), (11, 139, 115, 0), (11, 143, 116, 0), (11, 147, 119, 0), (11, 150, 77, 0), (11, 153, 118, 0), (11, 159, 126, 0), (11, 162, 76, 0), (11, 169, 31, 0), (11, 174, 86, 0), (11, 179, 33, 0)]
def zm_ML9 : List (Nat × Nat × Nat × Nat) := [(11, 182, 94, 0), (11, 192, 2, 0), (11, 195, 162, 0), (11, 199, 34, 0), (11, 202, 168, 0), (11, 207, 117, 0), (11, 210, 93, 0), (11, 217, 95, 0), (11, 220, 171, 0), (11, 223, 88, 0), (11, 231, 164, 0), (11, 235, 7, 0), (11, 238, 163, 0), (11, 241, 108, 0), (11, 244, 109, 0), (11, 247, 9, 0)]
def zm_ML10 : List (Nat × Nat × Nat × Nat) := [(11, 250, 10, 0), (11, 254, 175, 0), (11, 260, 165, 0), (11, 264, 12, 0), (11, 268, 13, 0), (11, 271, 22, 0), (11, 275, 166, 0), (11, 278, 167, 0), (11, 281, 170, 0), (11, 284, 169, 0), (11, 288, 110, 0), (11, 291, 113, 0), (11, 295, 173, 0), (11, 298, 48, 0), (11, 302, 46, 0), (11, 305, 45, 0)]
def zm_ML11 : List (Nat × Nat × Nat × Nat) := [(11, 309, 50, 0), (11, 312, 51, 0), (11, 318, 47, 0), (11, 321, 53, 0), (11, 324, 96, 0), (11, 327, 21, 0), (11, 331, 63, 0), (11, 335, 64, 0), (11, 339, 65, 0), (11, 342, 66, 0), (11, 345, 18, 0), (11, 349, 100, 0), (11, 350, 23, 0), (11, 354, 178, 0), (11, 357, 101, 0), (11, 360, 14, 0)]
def zm_ML12 : List (Nat × Nat × Nat × Nat) := [(11, 364, 24, 0), (11, 368, 15, 0), (11, 372, 106, 0), (11, 376, 310, 0), (12, 126, 181, 0), (12, 130, 185, 0), (12, 134, 186, 0), (12, 137, 187, 0), (12, 144, 189, 0), (12, 151, 191, 0), (12, 161, 194, 0), (12, 168, 196, 0), (12, 175, 195, 0), (12, 189, 201, 0), (12, 192, 199, 0), (12, 196, 200, 0)]
def zm_ML13 : List (Nat × Nat × Nat × Nat) := [(12, 199, 198, 0), (12, 202, 202, 0), (12, 206, 205, 0), (12, 209, 203, 0), (12, 212, 204, 0), (12, 216, 206, 0), (12, 219, 207, 0), (12, 222, 208, 0), (12, 225, 211, 0), (12, 228, 209, 0), (12, 231, 210, 0), (12, 237, 212, 0), (12, 240, 214, 0), (12, 243, 213, 0), (12, 246, 197, 0), (12, 252, 216, 0)]
def zm_ML14 : List (Nat × Nat × Nat × Nat) := [(12, 255, 217, 0), (12, 262, 220, 0), (12, 265, 219, 0), (12, 268, 218, 0), (12, 271, 182, 0), (12, 274, 183, 0), (12, 277, 245, 0), (12, 280, 221, 0), (12, 284, 224, 0), (12, 290, 184, 0), (12, 296, 226, 0), (12, 302, 225, 0), (12, 305, 229, 0), (12, 308, 230, 0), (12, 311, 232, 0), (12, 314, 228, 0)]
def zm_ML15 : List (Nat × Nat × Nat × Nat) := [(12, 317, 233, 0), (12, 320, 231, 0), (12, 323, 234, 0), (12, 326, 236, 0), (12, 329, 237, 0), (12, 336, 279, 0), (12, 343, 240, 0), (12, 347, 241, 0), (12, 351, 242, 0), (12, 355, 239, 0), (12, 358, 246, 0), (12, 361, 243, 0), (12, 365, 247, 0), (12, 368, 244, 0), (12, 371, 248, 0), (12, 374, 249, 0)]
def zm_ML16 : List (Nat × Nat × Nat × Nat) := [(12, 377, 250, 0), (12, 380, 254, 0), (12, 383, 255, 0), (12, 386, 256, 0), (12, 389, 260, 0), (12, 392, 261, 0), (12, 396, 259, 0), (12, 399, 262, 0), (12, 403, 263, 0), (12, 406, 265, 0), (12, 409, 269, 0), (12, 412, 270, 0), (12, 415, 266, 0), (12, 418, 267, 0), (12, 421, 268, 0), (12, 424, 271, 0)]
def zm_ML17 : List (Nat × Nat × Nat × Nat) := [(12, 427, 274, 0), (12, 430, 275, 0), (12, 433, 276, 0), (12, 436, 277, 0), (12, 439, 278, 0), (12, 442, 281, 0), (12, 445, 280, 0), (12, 448, 283, 0), (12, 451, 284, 0), (12, 454, 286, 0), (12, 457, 289, 0), (12, 460, 291, 0), (12, 463, 293, 0), (12, 466, 292, 0), (12, 469, 295, 0), (12, 473, 297, 0)]
def zm_ML18 : List (Nat × Nat × Nat × Nat) := [(12, 476, 298, 0), (12, 495, 193, 0), (12, 498, 306, 0)]
def zm_ML : List (Nat × Nat × Nat × Nat) := zm_ML0 ++ (zm_ML1 ++ (zm_ML2 ++ (zm_ML3 ++ (zm_ML4 ++ (zm_ML5 ++ (zm_ML6 ++ (zm_ML7 ++ (zm_ML8 ++ (zm_ML9 ++ (zm_ML10 ++ (zm_ML11 ++ (zm_ML12 ++ (zm_ML13 ++ (zm_ML14 ++ (zm_ML15 ++ (zm_ML16 ++ (zm_ML17 ++ (zm_ML18))))))))))))))))))
def zm_CL : List (Nat × Nat × Int32) := [(11, 137, 65535), (11, 308, 134217727), (11, 330, 65536), (12, 182, 1048576), (12, 258, 65536), (12, 342, 100000000), (12, 472, 134217727), (12, 479, 65535), (13, 265, 1431655765), (13, 266, 858993459), (13, 267, 252645135)]
def zm_AC : List (Nat × Nat) := [(0, 31), (6, 15)]
def zm_MX : List (Nat × Nat) := [(4, 66), (9, 51)]
def zm_MN : List (Nat × Nat) := [(3, 105), (4, 61), (9, 45), (11, 376)]
def zm_d0 : zm_D := (yX0_init, cX0_init, 1, none, 0, 0, false)
def zm_md (j : Nat) : zm_D := zm_MT.getD j zm_d0
def zm_fw (q : Nat × Nat × Nat × Nat × Nat) : Cond := if q.2.2.2.2 = 0 then .fieldLink (zm_cn q.1) q.2.1 (zm_tx q.2.2.1 q.2.2.2.1).1 (zm_tx q.2.2.1 q.2.2.2.1).2.1 (zm_tx q.2.2.1 q.2.2.2.1).2.2.1 else .fieldLinkNest (zm_cn q.1) q.2.1 (zm_tx q.2.2.1 q.2.2.2.1).1 (zm_tx q.2.2.1 q.2.2.2.1).2.1 (zm_tx q.2.2.1 q.2.2.2.1).2.2.1 RX11
def zm_mw (q : Nat × Nat × Nat × Nat) : Cond := if q.2.2.2 = 0 then .methodLink (zm_cn q.1) q.2.1 (zm_md q.2.2.1).1 else .methodLinkNest (zm_cn q.1) q.2.1 (zm_md q.2.2.1).1 RX11
def zm_cw (q : Nat × Nat × Int32) : Cond := .constant (zm_cn q.1) q.2.1 q.2.2
def zm_okP (q : zm_D) : Prop := Cond.code q.1 q.2.1 q.2.2.1 q.2.2.2.1 ∈ lw_tbl ∧ Cond.initialized q.1.cls ∈ lw_tbl ∧ (q.2.2.2.2.2.2 = true → Cond.static q.1 ∈ lw_tbl) ∧ (q.2.2.2.2.2.2 = false → Cond.instanceMethod q.1 ∈ lw_tbl ∧ (q.1.name = "<init>" ∨ Cond.selects q.1.cls q.1 q.1 ∈ lw_tbl))
def zm_okD (q : zm_D) : Bool := decide (q.1.cls ≠ "java/lang/invoke/MethodHandle" ∧ q.1.cls ≠ "java/lang/invoke/VarHandle") && decide ((parseMethodDescriptor q.1.desc).map (fun d => d.parameters.length) = some q.2.2.2.2.2.1) && (plainName q.1.cls || decide (q.2.2.2.2.1 = 14)) && decide (q.2.2.1 ≤ 40) && decide (q.1.cls = zm_cn q.2.2.2.2.1)

theorem zw_p1 {w : Cond} (i : Nat) (h : tables_1_1[i]? = some w) : w ∈ lw_tbl := List.mem_append_right _ (List.mem_append_left _ (List.mem_of_getElem? h))
theorem zw_p2 {w : Cond} (i : Nat) (h : tables_1_2[i]? = some w) : w ∈ lw_tbl := List.mem_append_right _ (List.mem_append_right _ (List.mem_append_left _ (List.mem_of_getElem? h)))
theorem zw_p3 {w : Cond} (i : Nat) (h : tables_1_3[i]? = some w) : w ∈ lw_tbl := List.mem_append_right _ (List.mem_append_right _ (List.mem_append_right _ (List.mem_append_left _ (List.mem_of_getElem? h))))
theorem zw_p4 {w : Cond} (i : Nat) (h : tables_1_4[i]? = some w) : w ∈ lw_tbl := List.mem_append_right _ (List.mem_append_right _ (List.mem_append_right _ (List.mem_append_right _ (List.mem_append_left _ (List.mem_of_getElem? h)))))
theorem zw_p5 {w : Cond} (i : Nat) (h : tables_1_5[i]? = some w) : w ∈ lw_tbl := List.mem_append_right _ (List.mem_append_right _ (List.mem_append_right _ (List.mem_append_right _ (List.mem_append_right _ (List.mem_append_left _ (List.mem_of_getElem? h))))))
theorem zw_p6 {w : Cond} (i : Nat) (h : tables_1_6[i]? = some w) : w ∈ lw_tbl := List.mem_append_right _ (List.mem_append_right _ (List.mem_append_right _ (List.mem_append_right _ (List.mem_append_right _ (List.mem_append_right _ (List.mem_append_left _ (List.mem_of_getElem? h)))))))
theorem zw_p7 {w : Cond} (i : Nat) (h : tables_1_7[i]? = some w) : w ∈ lw_tbl := List.mem_append_right _ (List.mem_append_right _ (List.mem_append_right _ (List.mem_append_right _ (List.mem_append_right _ (List.mem_append_right _ (List.mem_append_right _ (List.mem_append_left _ (List.mem_of_getElem? h))))))))
theorem zw_p8 {w : Cond} (i : Nat) (h : tables_1_8[i]? = some w) : w ∈ lw_tbl := List.mem_append_right _ (List.mem_append_right _ (List.mem_append_right _ (List.mem_append_right _ (List.mem_append_right _ (List.mem_append_right _ (List.mem_append_right _ (List.mem_append_right _ (List.mem_of_getElem? h))))))))
theorem zw_s1 {q : MethodName × Nat} (i : Nat) (h : lw_privs_1[i]? = some q) : Cond.selects q.1.cls q.1 q.1 ∈ lw_tbl := List.mem_append_left _ (List.mem_map.mpr ⟨q, List.mem_append_left _ (List.mem_of_getElem? h), rfl⟩)
theorem zw_s2 {q : MethodName × Nat} (i : Nat) (h : lw_privs_2[i]? = some q) : Cond.selects q.1.cls q.1 q.1 ∈ lw_tbl := List.mem_append_left _ (List.mem_map.mpr ⟨q, List.mem_append_right _ (List.mem_append_left _ (List.mem_of_getElem? h)), rfl⟩)
theorem zw_s3 {q : MethodName × Nat} (i : Nat) (h : lw_privs_3[i]? = some q) : Cond.selects q.1.cls q.1 q.1 ∈ lw_tbl := List.mem_append_left _ (List.mem_map.mpr ⟨q, List.mem_append_right _ (List.mem_append_right _ (List.mem_append_left _ (List.mem_of_getElem? h))), rfl⟩)
theorem zw_s4 {q : MethodName × Nat} (i : Nat) (h : lw_privs_4[i]? = some q) : Cond.selects q.1.cls q.1 q.1 ∈ lw_tbl := List.mem_append_left _ (List.mem_map.mpr ⟨q, List.mem_append_right _ (List.mem_append_right _ (List.mem_append_right _ (List.mem_append_left _ (List.mem_of_getElem? h)))), rfl⟩)
theorem zw_s5 {q : MethodName × Nat} (i : Nat) (h : lw_privs_5[i]? = some q) : Cond.selects q.1.cls q.1 q.1 ∈ lw_tbl := List.mem_append_left _ (List.mem_map.mpr ⟨q, List.mem_append_right _ (List.mem_append_right _ (List.mem_append_right _ (List.mem_append_right _ (List.mem_append_left _ (List.mem_of_getElem? h))))), rfl⟩)
theorem zw_s6 {q : MethodName × Nat} (i : Nat) (h : lw_privs_6[i]? = some q) : Cond.selects q.1.cls q.1 q.1 ∈ lw_tbl := List.mem_append_left _ (List.mem_map.mpr ⟨q, List.mem_append_right _ (List.mem_append_right _ (List.mem_append_right _ (List.mem_append_right _ (List.mem_append_right _ (List.mem_append_left _ (List.mem_of_getElem? h)))))), rfl⟩)
theorem zw_s7 {q : MethodName × Nat} (i : Nat) (h : lw_privs_7[i]? = some q) : Cond.selects q.1.cls q.1 q.1 ∈ lw_tbl := List.mem_append_left _ (List.mem_map.mpr ⟨q, List.mem_append_right _ (List.mem_append_right _ (List.mem_append_right _ (List.mem_append_right _ (List.mem_append_right _ (List.mem_append_right _ (List.mem_append_left _ (List.mem_of_getElem? h))))))), rfl⟩)
theorem zw_s8 {q : MethodName × Nat} (i : Nat) (h : lw_privs_8[i]? = some q) : Cond.selects q.1.cls q.1 q.1 ∈ lw_tbl := List.mem_append_left _ (List.mem_map.mpr ⟨q, List.mem_append_right _ (List.mem_append_right _ (List.mem_append_right _ (List.mem_append_right _ (List.mem_append_right _ (List.mem_append_right _ (List.mem_append_right _ (List.mem_of_getElem? h))))))), rfl⟩)
set_option maxRecDepth 100000 in
theorem zm_FL_ok : zm_FL.all (fun q => decide (zm_fw q ∈ lw_tbl) && decide (q.2.2.1 < 13) && decide (q.2.2.2.1 < zm_fn q.2.2.1)) = true := by decide +kernel
set_option maxRecDepth 100000 in
theorem zm_CL_ok : zm_CL.all (fun q => decide (zm_cw q ∈ lw_tbl)) = true := by decide +kernel
set_option maxRecDepth 100000 in
theorem zm_AC_ok : (zm_AC.all (fun q => decide (Cond.methodLink (zm_cn q.1) q.2 arraycopyName ∈ lw_tbl)) && decide (Cond.native arraycopyName ∈ lw_tbl) && decide (Cond.static arraycopyName ∈ lw_tbl) && decide (Cond.initialized "java/lang/System" ∈ lw_tbl)) = true := by decide +kernel
set_option maxRecDepth 100000 in
theorem zm_MX_ok : (zm_MX.all (fun q => decide (Cond.methodLink (zm_cn q.1) q.2 Lib.Math.max.name ∈ lw_tbl)) && decide (Cond.static Lib.Math.max.name ∈ lw_tbl) && decide (Cond.code Lib.Math.max.name Lib.Math.max.code 2 (some .int) ∈ lw_tbl) && decide (Cond.initialized "java/lang/Math" ∈ lw_tbl)) = true := by decide +kernel
set_option maxRecDepth 100000 in
theorem zm_MN_ok : (zm_MN.all (fun q => decide (Cond.methodLink (zm_cn q.1) q.2 Lib.Math.min.name ∈ lw_tbl)) && decide (Cond.static Lib.Math.min.name ∈ lw_tbl) && decide (Cond.code Lib.Math.min.name Lib.Math.min.code 2 (some .int) ∈ lw_tbl)) = true := by decide +kernel
set_option maxRecDepth 100000 in
theorem zm_MLo0 : ∀ q ∈ zm_ML0, zm_mw q ∈ lw_tbl := List.forall_mem_cons.mpr ⟨zw_p3 196 rfl, List.forall_mem_cons.mpr ⟨zw_p2 233 rfl, List.forall_mem_cons.mpr ⟨zw_p2 224 rfl, List.forall_mem_cons.mpr ⟨zw_p4 148 rfl, List.forall_mem_cons.mpr ⟨zw_p4 68 rfl, List.forall_mem_cons.mpr ⟨zw_p4 70 rfl, List.forall_mem_cons.mpr ⟨zw_p4 69 rfl, List.forall_mem_cons.mpr ⟨zw_p4 78 rfl, List.forall_mem_cons.mpr ⟨zw_p4 83 rfl, List.forall_mem_cons.mpr ⟨zw_p4 82 rfl, List.forall_mem_cons.mpr ⟨zw_p3 4 rfl, List.forall_mem_cons.mpr ⟨zw_p2 216 rfl, List.forall_mem_cons.mpr ⟨zw_p2 220 rfl, List.forall_mem_cons.mpr ⟨zw_p2 225 rfl, List.forall_mem_cons.mpr ⟨zw_p3 8 rfl, List.forall_mem_cons.mpr ⟨zw_p4 23 rfl, fun _ h => absurd h List.not_mem_nil⟩⟩⟩⟩⟩⟩⟩⟩⟩⟩⟩⟩⟩⟩⟩⟩
set_option maxRecDepth 100000 in
theorem zm_MLo1 : ∀ q ∈ zm_ML1, zm_mw q ∈ lw_tbl := List.forall_mem_cons.mpr ⟨zw_p4 27 rfl, List.forall_mem_cons.mpr ⟨zw_p4 36 rfl, List.forall_mem_cons.mpr ⟨zw_p4 48 rfl, List.forall_mem_cons.mpr ⟨zw_p4 40 rfl, List.forall_mem_cons.mpr ⟨zw_p4 44 rfl, List.forall_mem_cons.mpr ⟨zw_p4 52 rfl, List.forall_mem_cons.mpr ⟨zw_p4 28 rfl, List.forall_mem_cons.mpr ⟨zw_p4 32 rfl, List.forall_mem_cons.mpr ⟨zw_p1 122 rfl, List.forall_mem_cons.mpr ⟨zw_p1 132 rfl, List.forall_mem_cons.mpr ⟨zw_p3 150 rfl, List.forall_mem_cons.mpr ⟨zw_p3 157 rfl, List.forall_mem_cons.mpr ⟨zw_p3 165 rfl, List.forall_mem_cons.mpr ⟨zw_p3 168 rfl, List.forall_mem_cons.mpr ⟨zw_p3 182 rfl, List.forall_mem_cons.mpr ⟨zw_p3 161 rfl, fun _ h => absurd h List.not_mem_nil⟩⟩⟩⟩⟩⟩⟩⟩⟩⟩⟩⟩⟩⟩⟩⟩
set_option maxRecDepth 100000 in
theorem zm_MLo2 : ∀ q ∈ zm_ML2, zm_mw q ∈ lw_tbl := List.forall_mem_cons.mpr ⟨zw_p3 169 rfl, List.forall_mem_cons.mpr ⟨zw_p3 173 rfl, List.forall_mem_cons.mpr ⟨zw_p3 177 rfl, List.forall_mem_cons.mpr ⟨zw_p3 178 rfl, List.forall_mem_cons.mpr ⟨zw_p3 192 rfl, List.forall_mem_cons.mpr ⟨zw_p3 197 rfl, List.forall_mem_cons.mpr ⟨zw_p3 210 rfl, List.forall_mem_cons.mpr ⟨zw_p3 221 rfl, List.forall_mem_cons.mpr ⟨zw_p3 214 rfl, List.forall_mem_cons.mpr ⟨zw_p3 167 rfl, List.forall_mem_cons.mpr ⟨zw_p3 201 rfl, List.forall_mem_cons.mpr ⟨zw_p3 206 rfl, List.forall_mem_cons.mpr ⟨zw_p3 217 rfl, List.forall_mem_cons.mpr ⟨zw_p3 225 rfl, List.forall_mem_cons.mpr ⟨zw_p3 229 rfl, List.forall_mem_cons.mpr ⟨zw_p3 233 rfl, fun _ h => absurd h List.not_mem_nil⟩⟩⟩⟩⟩⟩⟩⟩⟩⟩⟩⟩⟩⟩⟩⟩
set_option maxRecDepth 100000 in
theorem zm_MLo3 : ∀ q ∈ zm_ML3, zm_mw q ∈ lw_tbl := List.forall_mem_cons.mpr ⟨zw_p3 166 rfl, List.forall_mem_cons.mpr ⟨zw_p3 205 rfl, List.forall_mem_cons.mpr ⟨zw_p2 27 rfl, List.forall_mem_cons.mpr ⟨zw_p2 30 rfl, List.forall_mem_cons.mpr ⟨zw_p5 31 rfl, List.forall_mem_cons.mpr ⟨zw_p5 10 rfl, List.forall_mem_cons.mpr ⟨zw_p5 11 rfl, List.forall_mem_cons.mpr ⟨zw_p5 12 rfl, List.forall_mem_cons.mpr ⟨zw_p5 16 rfl, List.forall_mem_cons.mpr ⟨zw_p5 20 rfl, List.forall_mem_cons.mpr ⟨zw_p5 21 rfl, List.forall_mem_cons.mpr ⟨zw_p5 49 rfl, List.forall_mem_cons.mpr ⟨zw_p5 53 rfl, List.forall_mem_cons.mpr ⟨zw_p5 68 rfl, List.forall_mem_cons.mpr ⟨zw_p5 72 rfl, List.forall_mem_cons.mpr ⟨zw_p5 57 rfl, fun _ h => absurd h List.not_mem_nil⟩⟩⟩⟩⟩⟩⟩⟩⟩⟩⟩⟩⟩⟩⟩⟩
set_option maxRecDepth 100000 in
theorem zm_MLo4 : ∀ q ∈ zm_ML4, zm_mw q ∈ lw_tbl := List.forall_mem_cons.mpr ⟨zw_p5 58 rfl, List.forall_mem_cons.mpr ⟨zw_p5 59 rfl, List.forall_mem_cons.mpr ⟨zw_p2 140 rfl, List.forall_mem_cons.mpr ⟨zw_p2 147 rfl, List.forall_mem_cons.mpr ⟨zw_p2 182 rfl, List.forall_mem_cons.mpr ⟨zw_p2 186 rfl, List.forall_mem_cons.mpr ⟨zw_p2 155 rfl, List.forall_mem_cons.mpr ⟨zw_p2 151 rfl, List.forall_mem_cons.mpr ⟨zw_p2 158 rfl, List.forall_mem_cons.mpr ⟨zw_p2 162 rfl, List.forall_mem_cons.mpr ⟨zw_p2 166 rfl, List.forall_mem_cons.mpr ⟨zw_p2 170 rfl, List.forall_mem_cons.mpr ⟨zw_p2 174 rfl, List.forall_mem_cons.mpr ⟨zw_p1 63 rfl, List.forall_mem_cons.mpr ⟨zw_p3 58 rfl, List.forall_mem_cons.mpr ⟨zw_p3 62 rfl, fun _ h => absurd h List.not_mem_nil⟩⟩⟩⟩⟩⟩⟩⟩⟩⟩⟩⟩⟩⟩⟩⟩
set_option maxRecDepth 100000 in
theorem zm_MLo5 : ∀ q ∈ zm_ML5, zm_mw q ∈ lw_tbl := List.forall_mem_cons.mpr ⟨zw_p3 78 rfl, List.forall_mem_cons.mpr ⟨zw_p3 89 rfl, List.forall_mem_cons.mpr ⟨zw_p3 110 rfl, List.forall_mem_cons.mpr ⟨zw_p3 122 rfl, List.forall_mem_cons.mpr ⟨zw_p3 66 rfl, List.forall_mem_cons.mpr ⟨zw_p3 74 rfl, List.forall_mem_cons.mpr ⟨zw_p3 126 rfl, List.forall_mem_cons.mpr ⟨zw_p3 70 rfl, List.forall_mem_cons.mpr ⟨zw_p3 114 rfl, List.forall_mem_cons.mpr ⟨zw_p3 118 rfl, List.forall_mem_cons.mpr ⟨zw_p3 95 rfl, List.forall_mem_cons.mpr ⟨zw_p3 82 rfl, List.forall_mem_cons.mpr ⟨zw_p3 106 rfl, List.forall_mem_cons.mpr ⟨zw_p3 86 rfl, List.forall_mem_cons.mpr ⟨zw_p3 99 rfl, List.forall_mem_cons.mpr ⟨zw_p3 102 rfl, fun _ h => absurd h List.not_mem_nil⟩⟩⟩⟩⟩⟩⟩⟩⟩⟩⟩⟩⟩⟩⟩⟩
set_option maxRecDepth 100000 in
theorem zm_MLo6 : ∀ q ∈ zm_ML6, zm_mw q ∈ lw_tbl := List.forall_mem_cons.mpr ⟨zw_p3 1 rfl, List.forall_mem_cons.mpr ⟨zw_p3 2 rfl, List.forall_mem_cons.mpr ⟨zw_p2 229 rfl, List.forall_mem_cons.mpr ⟨zw_p2 236 rfl, List.forall_mem_cons.mpr ⟨zw_p2 237 rfl, List.forall_mem_cons.mpr ⟨zw_p3 3 rfl, List.forall_mem_cons.mpr ⟨zw_p1 206 rfl, List.forall_mem_cons.mpr ⟨zw_p4 1 rfl, List.forall_mem_cons.mpr ⟨zw_p5 96 rfl, List.forall_mem_cons.mpr ⟨zw_p1 211 rfl, List.forall_mem_cons.mpr ⟨zw_p5 100 rfl, List.forall_mem_cons.mpr ⟨zw_p2 209 rfl, List.forall_mem_cons.mpr ⟨zw_p3 12 rfl, List.forall_mem_cons.mpr ⟨zw_p4 88 rfl, List.forall_mem_cons.mpr ⟨zw_p3 16 rfl, List.forall_mem_cons.mpr ⟨zw_p3 17 rfl, fun _ h => absurd h List.not_mem_nil⟩⟩⟩⟩⟩⟩⟩⟩⟩⟩⟩⟩⟩⟩⟩⟩
set_option maxRecDepth 100000 in
theorem zm_MLo7 : ∀ q ∈ zm_ML7, zm_mw q ∈ lw_tbl := List.forall_mem_cons.mpr ⟨zw_p4 218 rfl, List.forall_mem_cons.mpr ⟨zw_p4 223 rfl, List.forall_mem_cons.mpr ⟨zw_p4 222 rfl, List.forall_mem_cons.mpr ⟨zw_p3 93 rfl, List.forall_mem_cons.mpr ⟨zw_p3 94 rfl, List.forall_mem_cons.mpr ⟨zw_p1 28 rfl, List.forall_mem_cons.mpr ⟨zw_p1 57 rfl, List.forall_mem_cons.mpr ⟨zw_p1 116 rfl, List.forall_mem_cons.mpr ⟨zw_p1 167 rfl, List.forall_mem_cons.mpr ⟨zw_p1 169 rfl, List.forall_mem_cons.mpr ⟨zw_p1 172 rfl, List.forall_mem_cons.mpr ⟨zw_p1 199 rfl, List.forall_mem_cons.mpr ⟨zw_p1 234 rfl, List.forall_mem_cons.mpr ⟨zw_p1 237 rfl, List.forall_mem_cons.mpr ⟨zw_p2 23 rfl, List.forall_mem_cons.mpr ⟨zw_p2 121 rfl, fun _ h => absurd h List.not_mem_nil⟩⟩⟩⟩⟩⟩⟩⟩⟩⟩⟩⟩⟩⟩⟩⟩
set_option maxRecDepth 100000 in
theorem zm_MLo8 : ∀ q ∈ zm_ML8, zm_mw q ∈ lw_tbl := List.forall_mem_cons.mpr ⟨zw_p2 124 rfl, List.forall_mem_cons.mpr ⟨zw_p2 127 rfl, List.forall_mem_cons.mpr ⟨zw_p2 131 rfl, List.forall_mem_cons.mpr ⟨zw_p3 26 rfl, List.forall_mem_cons.mpr ⟨zw_p3 27 rfl, List.forall_mem_cons.mpr ⟨zw_p3 28 rfl, List.forall_mem_cons.mpr ⟨zw_p3 38 rfl, List.forall_mem_cons.mpr ⟨zw_p3 46 rfl, List.forall_mem_cons.mpr ⟨zw_p3 50 rfl, List.forall_mem_cons.mpr ⟨zw_p3 54 rfl, List.forall_mem_cons.mpr ⟨zw_p3 130 rfl, List.forall_mem_cons.mpr ⟨zw_p3 134 rfl, List.forall_mem_cons.mpr ⟨zw_p3 138 rfl, List.forall_mem_cons.mpr ⟨zw_p3 146 rfl, List.forall_mem_cons.mpr ⟨zw_p3 183 rfl, List.forall_mem_cons.mpr ⟨zw_p3 188 rfl, fun _ h => absurd h List.not_mem_nil⟩⟩⟩⟩⟩⟩⟩⟩⟩⟩⟩⟩⟩⟩⟩⟩
set_option maxRecDepth 100000 in
theorem zm_MLo9 : ∀ q ∈ zm_ML9, zm_mw q ∈ lw_tbl := List.forall_mem_cons.mpr ⟨zw_p3 237 rfl, List.forall_mem_cons.mpr ⟨zw_p4 2 rfl, List.forall_mem_cons.mpr ⟨zw_p2 201 rfl, List.forall_mem_cons.mpr ⟨zw_p4 11 rfl, List.forall_mem_cons.mpr ⟨zw_p4 15 rfl, List.forall_mem_cons.mpr ⟨zw_p4 93 rfl, List.forall_mem_cons.mpr ⟨zw_p2 193 rfl, List.forall_mem_cons.mpr ⟨zw_p4 105 rfl, List.forall_mem_cons.mpr ⟨zw_p4 113 rfl, List.forall_mem_cons.mpr ⟨zw_p4 114 rfl, List.forall_mem_cons.mpr ⟨zw_p4 119 rfl, List.forall_mem_cons.mpr ⟨zw_p4 123 rfl, List.forall_mem_cons.mpr ⟨zw_p4 56 rfl, List.forall_mem_cons.mpr ⟨zw_p4 131 rfl, List.forall_mem_cons.mpr ⟨zw_p4 135 rfl, List.forall_mem_cons.mpr ⟨zw_p4 143 rfl, fun _ h => absurd h List.not_mem_nil⟩⟩⟩⟩⟩⟩⟩⟩⟩⟩⟩⟩⟩⟩⟩⟩
set_option maxRecDepth 100000 in
theorem zm_MLo10 : ∀ q ∈ zm_ML10, zm_mw q ∈ lw_tbl := List.forall_mem_cons.mpr ⟨zw_p4 144 rfl, List.forall_mem_cons.mpr ⟨zw_p4 156 rfl, List.forall_mem_cons.mpr ⟨zw_p4 163 rfl, List.forall_mem_cons.mpr ⟨zw_p4 175 rfl, List.forall_mem_cons.mpr ⟨zw_p4 179 rfl, List.forall_mem_cons.mpr ⟨zw_p4 183 rfl, List.forall_mem_cons.mpr ⟨zw_p4 187 rfl, List.forall_mem_cons.mpr ⟨zw_p4 195 rfl, List.forall_mem_cons.mpr ⟨zw_p4 203 rfl, List.forall_mem_cons.mpr ⟨zw_p4 206 rfl, List.forall_mem_cons.mpr ⟨zw_p4 214 rfl, List.forall_mem_cons.mpr ⟨zw_p4 235 rfl, List.forall_mem_cons.mpr ⟨zw_p5 3 rfl, List.forall_mem_cons.mpr ⟨zw_p5 6 rfl, List.forall_mem_cons.mpr ⟨zw_p5 27 rfl, List.forall_mem_cons.mpr ⟨zw_p5 36 rfl, fun _ h => absurd h List.not_mem_nil⟩⟩⟩⟩⟩⟩⟩⟩⟩⟩⟩⟩⟩⟩⟩⟩
set_option maxRecDepth 100000 in
theorem zm_MLo11 : ∀ q ∈ zm_ML11, zm_mw q ∈ lw_tbl := List.forall_mem_cons.mpr ⟨zw_p5 45 rfl, List.forall_mem_cons.mpr ⟨zw_p5 64 rfl, List.forall_mem_cons.mpr ⟨zw_p5 76 rfl, List.forall_mem_cons.mpr ⟨zw_p5 84 rfl, List.forall_mem_cons.mpr ⟨zw_p5 92 rfl, List.forall_mem_cons.mpr ⟨zw_p5 109 rfl, List.forall_mem_cons.mpr ⟨zw_p2 136 rfl, List.forall_mem_cons.mpr ⟨zw_p2 143 rfl, List.forall_mem_cons.mpr ⟨zw_p2 178 rfl, List.forall_mem_cons.mpr ⟨zw_p2 189 rfl, List.forall_mem_cons.mpr ⟨zw_p2 197 rfl, List.forall_mem_cons.mpr ⟨zw_p2 205 rfl, List.forall_mem_cons.mpr ⟨zw_p2 212 rfl, List.forall_mem_cons.mpr ⟨zw_p4 167 rfl, List.forall_mem_cons.mpr ⟨zw_p4 60 rfl, List.forall_mem_cons.mpr ⟨zw_p4 64 rfl, fun _ h => absurd h List.not_mem_nil⟩⟩⟩⟩⟩⟩⟩⟩⟩⟩⟩⟩⟩⟩⟩⟩
set_option maxRecDepth 100000 in
theorem zm_MLo12 : ∀ q ∈ zm_ML12, zm_mw q ∈ lw_tbl := List.forall_mem_cons.mpr ⟨zw_p4 19 rfl, List.forall_mem_cons.mpr ⟨zw_p4 74 rfl, List.forall_mem_cons.mpr ⟨zw_p4 84 rfl, List.forall_mem_cons.mpr ⟨zw_p4 170 rfl, List.forall_mem_cons.mpr ⟨zw_p6 68 rfl, List.forall_mem_cons.mpr ⟨zw_p6 65 rfl, List.forall_mem_cons.mpr ⟨zw_p6 71 rfl, List.forall_mem_cons.mpr ⟨zw_p6 74 rfl, List.forall_mem_cons.mpr ⟨zw_p6 82 rfl, List.forall_mem_cons.mpr ⟨zw_p6 90 rfl, List.forall_mem_cons.mpr ⟨zw_p6 106 rfl, List.forall_mem_cons.mpr ⟨zw_p6 110 rfl, List.forall_mem_cons.mpr ⟨zw_p6 127 rfl, List.forall_mem_cons.mpr ⟨zw_p6 149 rfl, List.forall_mem_cons.mpr ⟨zw_p6 135 rfl, List.forall_mem_cons.mpr ⟨zw_p6 122 rfl, fun _ h => absurd h List.not_mem_nil⟩⟩⟩⟩⟩⟩⟩⟩⟩⟩⟩⟩⟩⟩⟩⟩
set_option maxRecDepth 100000 in
theorem zm_MLo13 : ∀ q ∈ zm_ML13, zm_mw q ∈ lw_tbl := List.forall_mem_cons.mpr ⟨zw_p6 131 rfl, List.forall_mem_cons.mpr ⟨zw_p6 139 rfl, List.forall_mem_cons.mpr ⟨zw_p6 118 rfl, List.forall_mem_cons.mpr ⟨zw_p6 142 rfl, List.forall_mem_cons.mpr ⟨zw_p6 145 rfl, List.forall_mem_cons.mpr ⟨zw_p6 153 rfl, List.forall_mem_cons.mpr ⟨zw_p6 114 rfl, List.forall_mem_cons.mpr ⟨zw_p6 165 rfl, List.forall_mem_cons.mpr ⟨zw_p6 161 rfl, List.forall_mem_cons.mpr ⟨zw_p6 169 rfl, List.forall_mem_cons.mpr ⟨zw_p6 173 rfl, List.forall_mem_cons.mpr ⟨zw_p6 157 rfl, List.forall_mem_cons.mpr ⟨zw_p6 98 rfl, List.forall_mem_cons.mpr ⟨zw_p6 102 rfl, List.forall_mem_cons.mpr ⟨zw_p6 177 rfl, List.forall_mem_cons.mpr ⟨zw_p6 202 rfl, fun _ h => absurd h List.not_mem_nil⟩⟩⟩⟩⟩⟩⟩⟩⟩⟩⟩⟩⟩⟩⟩⟩
set_option maxRecDepth 100000 in
theorem zm_MLo14 : ∀ q ∈ zm_ML14, zm_mw q ∈ lw_tbl := List.forall_mem_cons.mpr ⟨zw_p6 198 rfl, List.forall_mem_cons.mpr ⟨zw_p6 189 rfl, List.forall_mem_cons.mpr ⟨zw_p6 194 rfl, List.forall_mem_cons.mpr ⟨zw_p6 205 rfl, List.forall_mem_cons.mpr ⟨zw_p6 209 rfl, List.forall_mem_cons.mpr ⟨zw_p6 212 rfl, List.forall_mem_cons.mpr ⟨zw_p6 215 rfl, List.forall_mem_cons.mpr ⟨zw_p6 185 rfl, List.forall_mem_cons.mpr ⟨zw_p6 231 rfl, List.forall_mem_cons.mpr ⟨zw_p6 235 rfl, List.forall_mem_cons.mpr ⟨zw_p6 227 rfl, List.forall_mem_cons.mpr ⟨zw_p7 10 rfl, List.forall_mem_cons.mpr ⟨zw_p7 29 rfl, List.forall_mem_cons.mpr ⟨zw_p7 25 rfl, List.forall_mem_cons.mpr ⟨zw_p7 18 rfl, List.forall_mem_cons.mpr ⟨zw_p7 6 rfl, fun _ h => absurd h List.not_mem_nil⟩⟩⟩⟩⟩⟩⟩⟩⟩⟩⟩⟩⟩⟩⟩⟩
set_option maxRecDepth 100000 in
theorem zm_MLo15 : ∀ q ∈ zm_ML15, zm_mw q ∈ lw_tbl := List.forall_mem_cons.mpr ⟨zw_p7 14 rfl, List.forall_mem_cons.mpr ⟨zw_p7 21 rfl, List.forall_mem_cons.mpr ⟨zw_p7 2 rfl, List.forall_mem_cons.mpr ⟨zw_p7 41 rfl, List.forall_mem_cons.mpr ⟨zw_p7 37 rfl, List.forall_mem_cons.mpr ⟨zw_p7 44 rfl, List.forall_mem_cons.mpr ⟨zw_p7 57 rfl, List.forall_mem_cons.mpr ⟨zw_p7 61 rfl, List.forall_mem_cons.mpr ⟨zw_p7 65 rfl, List.forall_mem_cons.mpr ⟨zw_p7 48 rfl, List.forall_mem_cons.mpr ⟨zw_p7 101 rfl, List.forall_mem_cons.mpr ⟨zw_p7 53 rfl, List.forall_mem_cons.mpr ⟨zw_p7 117 rfl, List.forall_mem_cons.mpr ⟨zw_p7 121 rfl, List.forall_mem_cons.mpr ⟨zw_p7 113 rfl, List.forall_mem_cons.mpr ⟨zw_p7 97 rfl, fun _ h => absurd h List.not_mem_nil⟩⟩⟩⟩⟩⟩⟩⟩⟩⟩⟩⟩⟩⟩⟩⟩
set_option maxRecDepth 100000 in
theorem zm_MLo16 : ∀ q ∈ zm_ML16, zm_mw q ∈ lw_tbl := List.forall_mem_cons.mpr ⟨zw_p7 125 rfl, List.forall_mem_cons.mpr ⟨zw_p7 133 rfl, List.forall_mem_cons.mpr ⟨zw_p7 137 rfl, List.forall_mem_cons.mpr ⟨zw_p7 89 rfl, List.forall_mem_cons.mpr ⟨zw_p7 163 rfl, List.forall_mem_cons.mpr ⟨zw_p7 159 rfl, List.forall_mem_cons.mpr ⟨zw_p7 152 rfl, List.forall_mem_cons.mpr ⟨zw_p7 155 rfl, List.forall_mem_cons.mpr ⟨zw_p7 148 rfl, List.forall_mem_cons.mpr ⟨zw_p7 175 rfl, List.forall_mem_cons.mpr ⟨zw_p7 195 rfl, List.forall_mem_cons.mpr ⟨zw_p7 191 rfl, List.forall_mem_cons.mpr ⟨zw_p7 171 rfl, List.forall_mem_cons.mpr ⟨zw_p7 179 rfl, List.forall_mem_cons.mpr ⟨zw_p7 183 rfl, List.forall_mem_cons.mpr ⟨zw_p7 187 rfl, fun _ h => absurd h List.not_mem_nil⟩⟩⟩⟩⟩⟩⟩⟩⟩⟩⟩⟩⟩⟩⟩⟩
set_option maxRecDepth 100000 in
theorem zm_MLo17 : ∀ q ∈ zm_ML17, zm_mw q ∈ lw_tbl := List.forall_mem_cons.mpr ⟨zw_p7 81 rfl, List.forall_mem_cons.mpr ⟨zw_p7 77 rfl, List.forall_mem_cons.mpr ⟨zw_p7 85 rfl, List.forall_mem_cons.mpr ⟨zw_p7 73 rfl, List.forall_mem_cons.mpr ⟨zw_p7 69 rfl, List.forall_mem_cons.mpr ⟨zw_p7 207 rfl, List.forall_mem_cons.mpr ⟨zw_p7 219 rfl, List.forall_mem_cons.mpr ⟨zw_p7 215 rfl, List.forall_mem_cons.mpr ⟨zw_p7 223 rfl, List.forall_mem_cons.mpr ⟨zw_p7 231 rfl, List.forall_mem_cons.mpr ⟨zw_p8 3 rfl, List.forall_mem_cons.mpr ⟨zw_p8 18 rfl, List.forall_mem_cons.mpr ⟨zw_p8 11 rfl, List.forall_mem_cons.mpr ⟨zw_p8 14 rfl, List.forall_mem_cons.mpr ⟨zw_p8 25 rfl, List.forall_mem_cons.mpr ⟨zw_p8 33 rfl, fun _ h => absurd h List.not_mem_nil⟩⟩⟩⟩⟩⟩⟩⟩⟩⟩⟩⟩⟩⟩⟩⟩
set_option maxRecDepth 100000 in
theorem zm_MLo18 : ∀ q ∈ zm_ML18, zm_mw q ∈ lw_tbl := List.forall_mem_cons.mpr ⟨zw_p8 37 rfl, List.forall_mem_cons.mpr ⟨zw_p8 66 rfl, List.forall_mem_cons.mpr ⟨zw_p8 74 rfl, fun _ h => absurd h List.not_mem_nil⟩⟩⟩
theorem zm_ML_ok : ∀ q ∈ zm_ML, zm_mw q ∈ lw_tbl := List.forall_mem_append.mpr ⟨zm_MLo0, List.forall_mem_append.mpr ⟨zm_MLo1, List.forall_mem_append.mpr ⟨zm_MLo2, List.forall_mem_append.mpr ⟨zm_MLo3, List.forall_mem_append.mpr ⟨zm_MLo4, List.forall_mem_append.mpr ⟨zm_MLo5, List.forall_mem_append.mpr ⟨zm_MLo6, List.forall_mem_append.mpr ⟨zm_MLo7, List.forall_mem_append.mpr ⟨zm_MLo8, List.forall_mem_append.mpr ⟨zm_MLo9, List.forall_mem_append.mpr ⟨zm_MLo10, List.forall_mem_append.mpr ⟨zm_MLo11, List.forall_mem_append.mpr ⟨zm_MLo12, List.forall_mem_append.mpr ⟨zm_MLo13, List.forall_mem_append.mpr ⟨zm_MLo14, List.forall_mem_append.mpr ⟨zm_MLo15, List.forall_mem_append.mpr ⟨zm_MLo16, List.forall_mem_append.mpr ⟨zm_MLo17, zm_MLo18⟩⟩⟩⟩⟩⟩⟩⟩⟩⟩⟩⟩⟩⟩⟩⟩⟩⟩
set_option maxRecDepth 100000 in
theorem zm_MTo0 : ∀ q ∈ zm_MT0, zm_okP q := List.forall_mem_cons.mpr ⟨⟨zw_p1 134 rfl, zw_p1 7 rfl, fun h => Bool.noConfusion h, fun _ => ⟨zw_p1 133 rfl, Or.inl rfl⟩⟩, List.forall_mem_cons.mpr ⟨⟨zw_p3 195 rfl, zw_p1 7 rfl, fun h => Bool.noConfusion h, fun _ => ⟨zw_p3 193 rfl, Or.inr (zw_p3 194 rfl)⟩⟩, List.forall_mem_cons.mpr ⟨⟨zw_p4 5 rfl, zw_p1 7 rfl, fun h => Bool.noConfusion h, fun _ => ⟨zw_p4 3 rfl, Or.inr (zw_p4 4 rfl)⟩⟩, List.forall_mem_cons.mpr ⟨⟨zw_p2 232 rfl, zw_p1 7 rfl, fun h => Bool.noConfusion h, fun _ => ⟨zw_p2 230 rfl, Or.inr (zw_p2 231 rfl)⟩⟩, List.forall_mem_cons.mpr ⟨⟨zw_p4 73 rfl, zw_p1 7 rfl, fun h => Bool.noConfusion h, fun _ => ⟨zw_p4 71 rfl, Or.inr (zw_p4 72 rfl)⟩⟩, List.forall_mem_cons.mpr ⟨⟨zw_p3 209 rfl, zw_p1 7 rfl, fun h => Bool.noConfusion h, fun _ => ⟨zw_p3 207 rfl, Or.inr (zw_p3 208 rfl)⟩⟩, List.forall_mem_cons.mpr ⟨⟨zw_p3 236 rfl, zw_p1 7 rfl, fun h => Bool.noConfusion h, fun _ => ⟨zw_p3 234 rfl, Or.inr (zw_p3 235 rfl)⟩⟩, List.forall_mem_cons.mpr ⟨⟨zw_p4 126 rfl, zw_p1 7 rfl, fun h => Bool.noConfusion h, fun _ => ⟨zw_p4 124 rfl, Or.inr (zw_p4 125 rfl)⟩⟩, List.forall_mem_cons.mpr ⟨⟨zw_p2 223 rfl, zw_p1 7 rfl, fun h => Bool.noConfusion h, fun _ => ⟨zw_p2 221 rfl, Or.inr (zw_p2 222 rfl)⟩⟩, List.forall_mem_cons.mpr ⟨⟨zw_p3 220 rfl, zw_p1 7 rfl, fun h => Bool.noConfusion h, fun _ => ⟨zw_p3 218 rfl, Or.inr (zw_p3 219 rfl)⟩⟩, List.forall_mem_cons.mpr ⟨⟨zw_p4 147 rfl, zw_p1 7 rfl, fun h => Bool.noConfusion h, fun _ => ⟨zw_p4 145 rfl, Or.inr (zw_p4 146 rfl)⟩⟩, List.forall_mem_cons.mpr ⟨⟨zw_p4 151 rfl, zw_p1 7 rfl, fun h => Bool.noConfusion h, fun _ => ⟨zw_p4 150 rfl, Or.inr (zw_s3 4 rfl)⟩⟩, List.forall_mem_cons.mpr ⟨⟨zw_p4 178 rfl, zw_p1 7 rfl, fun h => Bool.noConfusion h, fun _ => ⟨zw_p4 176 rfl, Or.inr (zw_p4 177 rfl)⟩⟩, List.forall_mem_cons.mpr ⟨⟨zw_p4 182 rfl, zw_p1 7 rfl, fun h => Bool.noConfusion h, fun _ => ⟨zw_p4 180 rfl, Or.inr (zw_p4 181 rfl)⟩⟩, List.forall_mem_cons.mpr ⟨⟨zw_p4 67 rfl, zw_p1 7 rfl, fun h => Bool.noConfusion h, fun _ => ⟨zw_p4 65 rfl, Or.inr (zw_p4 66 rfl)⟩⟩, List.forall_mem_cons.mpr ⟨⟨zw_p4 77 rfl, zw_p1 7 rfl, fun h => Bool.noConfusion h, fun _ => ⟨zw_p4 75 rfl, Or.inr (zw_p4 76 rfl)⟩⟩, fun _ h => absurd h List.not_mem_nil⟩⟩⟩⟩⟩⟩⟩⟩⟩⟩⟩⟩⟩⟩⟩⟩
set_option maxRecDepth 100000 in
theorem zm_MTo1 : ∀ q ∈ zm_MT1, zm_okP q := List.forall_mem_cons.mpr ⟨⟨zw_p4 81 rfl, zw_p1 7 rfl, fun h => Bool.noConfusion h, fun _ => ⟨zw_p4 80 rfl, Or.inr (zw_s3 2 rfl)⟩⟩, List.forall_mem_cons.mpr ⟨⟨zw_p1 174 rfl, zw_p1 8 rfl, fun h => Bool.noConfusion h, fun _ => ⟨zw_p1 173 rfl, Or.inl rfl⟩⟩, List.forall_mem_cons.mpr ⟨⟨zw_p2 200 rfl, zw_p1 8 rfl, fun h => Bool.noConfusion h, fun _ => ⟨zw_p2 198 rfl, Or.inr (zw_p2 199 rfl)⟩⟩, List.forall_mem_cons.mpr ⟨⟨zw_p2 219 rfl, zw_p1 8 rfl, fun h => Bool.noConfusion h, fun _ => ⟨zw_p2 217 rfl, Or.inr (zw_p2 218 rfl)⟩⟩, List.forall_mem_cons.mpr ⟨⟨zw_p3 7 rfl, zw_p1 8 rfl, fun h => Bool.noConfusion h, fun _ => ⟨zw_p3 5 rfl, Or.inr (zw_p3 6 rfl)⟩⟩, List.forall_mem_cons.mpr ⟨⟨zw_p5 112 rfl, zw_p1 8 rfl, fun h => Bool.noConfusion h, fun _ => ⟨zw_p5 110 rfl, Or.inr (zw_p5 111 rfl)⟩⟩, List.forall_mem_cons.mpr ⟨⟨zw_p4 186 rfl, zw_p1 8 rfl, fun h => Bool.noConfusion h, fun _ => ⟨zw_p4 184 rfl, Or.inr (zw_p4 185 rfl)⟩⟩, List.forall_mem_cons.mpr ⟨⟨zw_p2 215 rfl, zw_p1 8 rfl, fun h => Bool.noConfusion h, fun _ => ⟨zw_p2 213 rfl, Or.inr (zw_p2 214 rfl)⟩⟩, List.forall_mem_cons.mpr ⟨⟨zw_p4 22 rfl, zw_p1 8 rfl, fun h => Bool.noConfusion h, fun _ => ⟨zw_p4 20 rfl, Or.inr (zw_p4 21 rfl)⟩⟩, List.forall_mem_cons.mpr ⟨⟨zw_p4 39 rfl, zw_p1 8 rfl, fun h => Bool.noConfusion h, fun _ => ⟨zw_p4 38 rfl, Or.inr (zw_s2 15 rfl)⟩⟩, List.forall_mem_cons.mpr ⟨⟨zw_p4 51 rfl, zw_p1 8 rfl, fun h => Bool.noConfusion h, fun _ => ⟨zw_p4 50 rfl, Or.inr (zw_s3 0 rfl)⟩⟩, List.forall_mem_cons.mpr ⟨⟨zw_p4 26 rfl, zw_p1 8 rfl, fun h => Bool.noConfusion h, fun _ => ⟨zw_p4 25 rfl, Or.inr (zw_s2 12 rfl)⟩⟩, List.forall_mem_cons.mpr ⟨⟨zw_p4 31 rfl, zw_p1 8 rfl, fun h => Bool.noConfusion h, fun _ => ⟨zw_p4 30 rfl, Or.inr (zw_s2 13 rfl)⟩⟩, List.forall_mem_cons.mpr ⟨⟨zw_p4 35 rfl, zw_p1 8 rfl, fun h => Bool.noConfusion h, fun _ => ⟨zw_p4 34 rfl, Or.inr (zw_s2 14 rfl)⟩⟩, List.forall_mem_cons.mpr ⟨⟨zw_p1 118 rfl, zw_p1 5 rfl, fun h => Bool.noConfusion h, fun _ => ⟨zw_p1 117 rfl, Or.inl rfl⟩⟩, List.forall_mem_cons.mpr ⟨⟨zw_p3 149 rfl, zw_p1 5 rfl, fun h => Bool.noConfusion h, fun _ => ⟨zw_p3 147 rfl, Or.inr (zw_p3 148 rfl)⟩⟩, fun _ h => absurd h List.not_mem_nil⟩⟩⟩⟩⟩⟩⟩⟩⟩⟩⟩⟩⟩⟩⟩⟩
set_option maxRecDepth 100000 in
theorem zm_MTo2 : ∀ q ∈ zm_MT2, zm_okP q := List.forall_mem_cons.mpr ⟨⟨zw_p3 160 rfl, zw_p1 5 rfl, fun h => Bool.noConfusion h, fun _ => ⟨zw_p3 159 rfl, Or.inr (zw_s2 3 rfl)⟩⟩, List.forall_mem_cons.mpr ⟨⟨zw_p3 191 rfl, zw_p1 5 rfl, fun h => Bool.noConfusion h, fun _ => ⟨zw_p3 189 rfl, Or.inr (zw_p3 190 rfl)⟩⟩, List.forall_mem_cons.mpr ⟨⟨zw_p4 14 rfl, zw_p1 5 rfl, fun h => Bool.noConfusion h, fun _ => ⟨zw_p4 12 rfl, Or.inr (zw_p4 13 rfl)⟩⟩, List.forall_mem_cons.mpr ⟨⟨zw_p3 200 rfl, zw_p1 5 rfl, fun h => Bool.noConfusion h, fun _ => ⟨zw_p3 199 rfl, Or.inr (zw_s2 6 rfl)⟩⟩, List.forall_mem_cons.mpr ⟨⟨zw_p3 213 rfl, zw_p1 5 rfl, fun h => Bool.noConfusion h, fun _ => ⟨zw_p3 212 rfl, Or.inr (zw_s2 8 rfl)⟩⟩, List.forall_mem_cons.mpr ⟨⟨zw_p3 224 rfl, zw_p1 5 rfl, fun h => Bool.noConfusion h, fun _ => ⟨zw_p3 223 rfl, Or.inr (zw_s2 9 rfl)⟩⟩, List.forall_mem_cons.mpr ⟨⟨zw_p3 228 rfl, zw_p1 5 rfl, fun h => Bool.noConfusion h, fun _ => ⟨zw_p3 227 rfl, Or.inr (zw_s2 10 rfl)⟩⟩, List.forall_mem_cons.mpr ⟨⟨zw_p3 164 rfl, zw_p1 5 rfl, fun h => Bool.noConfusion h, fun _ => ⟨zw_p3 163 rfl, Or.inr (zw_s2 4 rfl)⟩⟩, List.forall_mem_cons.mpr ⟨⟨zw_p3 172 rfl, zw_p1 5 rfl, fun h => Bool.noConfusion h, fun _ => ⟨zw_p3 171 rfl, Or.inr (zw_s2 5 rfl)⟩⟩, List.forall_mem_cons.mpr ⟨⟨zw_p3 204 rfl, zw_p1 5 rfl, fun h => Bool.noConfusion h, fun _ => ⟨zw_p3 203 rfl, Or.inr (zw_s2 7 rfl)⟩⟩, List.forall_mem_cons.mpr ⟨⟨zw_p3 216 rfl, zw_p1 5 rfl, fun _ => zw_p3 215 rfl, fun h => Bool.noConfusion h⟩, List.forall_mem_cons.mpr ⟨⟨zw_p2 25 rfl, zw_p1 12 rfl, fun h => Bool.noConfusion h, fun _ => ⟨zw_p2 24 rfl, Or.inl rfl⟩⟩, List.forall_mem_cons.mpr ⟨⟨zw_p2 29 rfl, zw_p1 12 rfl, fun _ => zw_p2 28 rfl, fun h => Bool.noConfusion h⟩, List.forall_mem_cons.mpr ⟨⟨zw_p5 39 rfl, zw_p1 12 rfl, fun h => Bool.noConfusion h, fun _ => ⟨zw_p5 37 rfl, Or.inr (zw_p5 38 rfl)⟩⟩, List.forall_mem_cons.mpr ⟨⟨zw_p5 30 rfl, zw_p1 12 rfl, fun h => Bool.noConfusion h, fun _ => ⟨zw_p5 28 rfl, Or.inr (zw_p5 29 rfl)⟩⟩, List.forall_mem_cons.mpr ⟨⟨zw_p5 79 rfl, zw_p1 12 rfl, fun h => Bool.noConfusion h, fun _ => ⟨zw_p5 77 rfl, Or.inr (zw_p5 78 rfl)⟩⟩, fun _ h => absurd h List.not_mem_nil⟩⟩⟩⟩⟩⟩⟩⟩⟩⟩⟩⟩⟩⟩⟩⟩
set_option maxRecDepth 100000 in
theorem zm_MTo3 : ∀ q ∈ zm_MT3, zm_okP q := List.forall_mem_cons.mpr ⟨⟨zw_p5 9 rfl, zw_p1 12 rfl, fun h => Bool.noConfusion h, fun _ => ⟨zw_p5 7 rfl, Or.inr (zw_p5 8 rfl)⟩⟩, List.forall_mem_cons.mpr ⟨⟨zw_p5 19 rfl, zw_p1 12 rfl, fun h => Bool.noConfusion h, fun _ => ⟨zw_p5 18 rfl, Or.inr (zw_s3 11 rfl)⟩⟩, List.forall_mem_cons.mpr ⟨⟨zw_p5 48 rfl, zw_p1 12 rfl, fun h => Bool.noConfusion h, fun _ => ⟨zw_p5 46 rfl, Or.inr (zw_p5 47 rfl)⟩⟩, List.forall_mem_cons.mpr ⟨⟨zw_p5 67 rfl, zw_p1 12 rfl, fun h => Bool.noConfusion h, fun _ => ⟨zw_p5 65 rfl, Or.inr (zw_p5 66 rfl)⟩⟩, List.forall_mem_cons.mpr ⟨⟨zw_p5 71 rfl, zw_p1 12 rfl, fun h => Bool.noConfusion h, fun _ => ⟨zw_p5 70 rfl, Or.inr (zw_s3 14 rfl)⟩⟩, List.forall_mem_cons.mpr ⟨⟨zw_p5 87 rfl, zw_p1 12 rfl, fun h => Bool.noConfusion h, fun _ => ⟨zw_p5 85 rfl, Or.inr (zw_p5 86 rfl)⟩⟩, List.forall_mem_cons.mpr ⟨⟨zw_p5 52 rfl, zw_p1 12 rfl, fun h => Bool.noConfusion h, fun _ => ⟨zw_p5 51 rfl, Or.inr (zw_s3 12 rfl)⟩⟩, List.forall_mem_cons.mpr ⟨⟨zw_p5 56 rfl, zw_p1 12 rfl, fun h => Bool.noConfusion h, fun _ => ⟨zw_p5 55 rfl, Or.inr (zw_s3 13 rfl)⟩⟩, List.forall_mem_cons.mpr ⟨⟨zw_p5 75 rfl, zw_p1 12 rfl, fun h => Bool.noConfusion h, fun _ => ⟨zw_p5 74 rfl, Or.inr (zw_s3 15 rfl)⟩⟩, List.forall_mem_cons.mpr ⟨⟨zw_p1 65 rfl, zw_p1 4 rfl, fun h => Bool.noConfusion h, fun _ => ⟨zw_p1 64 rfl, Or.inl rfl⟩⟩, List.forall_mem_cons.mpr ⟨⟨zw_p3 61 rfl, zw_p1 4 rfl, fun h => Bool.noConfusion h, fun _ => ⟨zw_p3 59 rfl, Or.inr (zw_p3 60 rfl)⟩⟩, List.forall_mem_cons.mpr ⟨⟨zw_p3 98 rfl, zw_p1 4 rfl, fun h => Bool.noConfusion h, fun _ => ⟨zw_p3 96 rfl, Or.inr (zw_p3 97 rfl)⟩⟩, List.forall_mem_cons.mpr ⟨⟨zw_p3 121 rfl, zw_p1 4 rfl, fun h => Bool.noConfusion h, fun _ => ⟨zw_p3 119 rfl, Or.inr (zw_p3 120 rfl)⟩⟩, List.forall_mem_cons.mpr ⟨⟨zw_p3 125 rfl, zw_p1 4 rfl, fun h => Bool.noConfusion h, fun _ => ⟨zw_p3 123 rfl, Or.inr (zw_p3 124 rfl)⟩⟩, List.forall_mem_cons.mpr ⟨⟨zw_p3 88 rfl, zw_p1 4 rfl, fun _ => zw_p3 87 rfl, fun h => Bool.noConfusion h⟩, List.forall_mem_cons.mpr ⟨⟨zw_p2 139 rfl, zw_p1 4 rfl, fun h => Bool.noConfusion h, fun _ => ⟨zw_p2 137 rfl, Or.inr (zw_p2 138 rfl)⟩⟩, fun _ h => absurd h List.not_mem_nil⟩⟩⟩⟩⟩⟩⟩⟩⟩⟩⟩⟩⟩⟩⟩⟩
set_option maxRecDepth 100000 in
theorem zm_MTo4 : ∀ q ∈ zm_MT4, zm_okP q := List.forall_mem_cons.mpr ⟨⟨zw_p2 146 rfl, zw_p1 4 rfl, fun h => Bool.noConfusion h, fun _ => ⟨zw_p2 144 rfl, Or.inr (zw_p2 145 rfl)⟩⟩, List.forall_mem_cons.mpr ⟨⟨zw_p2 181 rfl, zw_p1 4 rfl, fun h => Bool.noConfusion h, fun _ => ⟨zw_p2 179 rfl, Or.inr (zw_p2 180 rfl)⟩⟩, List.forall_mem_cons.mpr ⟨⟨zw_p2 192 rfl, zw_p1 4 rfl, fun h => Bool.noConfusion h, fun _ => ⟨zw_p2 190 rfl, Or.inr (zw_p2 191 rfl)⟩⟩, List.forall_mem_cons.mpr ⟨⟨zw_p2 150 rfl, zw_p1 4 rfl, fun h => Bool.noConfusion h, fun _ => ⟨zw_p2 149 rfl, Or.inr (zw_s1 2 rfl)⟩⟩, List.forall_mem_cons.mpr ⟨⟨zw_p2 185 rfl, zw_p1 4 rfl, fun h => Bool.noConfusion h, fun _ => ⟨zw_p2 184 rfl, Or.inr (zw_s1 9 rfl)⟩⟩, List.forall_mem_cons.mpr ⟨⟨zw_p2 154 rfl, zw_p1 4 rfl, fun h => Bool.noConfusion h, fun _ => ⟨zw_p2 153 rfl, Or.inr (zw_s1 3 rfl)⟩⟩, List.forall_mem_cons.mpr ⟨⟨zw_p2 173 rfl, zw_p1 4 rfl, fun h => Bool.noConfusion h, fun _ => ⟨zw_p2 172 rfl, Or.inr (zw_s1 7 rfl)⟩⟩, List.forall_mem_cons.mpr ⟨⟨zw_p2 177 rfl, zw_p1 4 rfl, fun h => Bool.noConfusion h, fun _ => ⟨zw_p2 176 rfl, Or.inr (zw_s1 8 rfl)⟩⟩, List.forall_mem_cons.mpr ⟨⟨zw_p2 165 rfl, zw_p1 4 rfl, fun h => Bool.noConfusion h, fun _ => ⟨zw_p2 164 rfl, Or.inr (zw_s1 5 rfl)⟩⟩, List.forall_mem_cons.mpr ⟨⟨zw_p2 161 rfl, zw_p1 4 rfl, fun h => Bool.noConfusion h, fun _ => ⟨zw_p2 160 rfl, Or.inr (zw_s1 4 rfl)⟩⟩, List.forall_mem_cons.mpr ⟨⟨zw_p2 169 rfl, zw_p1 4 rfl, fun h => Bool.noConfusion h, fun _ => ⟨zw_p2 168 rfl, Or.inr (zw_s1 6 rfl)⟩⟩, List.forall_mem_cons.mpr ⟨⟨zw_p1 59 rfl, zw_p1 3 rfl, fun h => Bool.noConfusion h, fun _ => ⟨zw_p1 58 rfl, Or.inl rfl⟩⟩, List.forall_mem_cons.mpr ⟨⟨zw_p3 141 rfl, zw_p1 3 rfl, fun h => Bool.noConfusion h, fun _ => ⟨zw_p3 139 rfl, Or.inr (zw_p3 140 rfl)⟩⟩, List.forall_mem_cons.mpr ⟨⟨zw_p3 57 rfl, zw_p1 3 rfl, fun h => Bool.noConfusion h, fun _ => ⟨zw_p3 55 rfl, Or.inr (zw_p3 56 rfl)⟩⟩, List.forall_mem_cons.mpr ⟨⟨zw_p3 65 rfl, zw_p1 3 rfl, fun h => Bool.noConfusion h, fun _ => ⟨zw_p3 64 rfl, Or.inr (zw_s1 12 rfl)⟩⟩, List.forall_mem_cons.mpr ⟨⟨zw_p3 113 rfl, zw_p1 3 rfl, fun h => Bool.noConfusion h, fun _ => ⟨zw_p3 112 rfl, Or.inr (zw_s2 1 rfl)⟩⟩, fun _ h => absurd h List.not_mem_nil⟩⟩⟩⟩⟩⟩⟩⟩⟩⟩⟩⟩⟩⟩⟩⟩
set_option maxRecDepth 100000 in
theorem zm_MTo5 : ∀ q ∈ zm_MT5, zm_okP q := List.forall_mem_cons.mpr ⟨⟨zw_p3 117 rfl, zw_p1 3 rfl, fun h => Bool.noConfusion h, fun _ => ⟨zw_p3 116 rfl, Or.inr (zw_s2 2 rfl)⟩⟩, List.forall_mem_cons.mpr ⟨⟨zw_p3 81 rfl, zw_p1 3 rfl, fun h => Bool.noConfusion h, fun _ => ⟨zw_p3 80 rfl, Or.inr (zw_s1 13 rfl)⟩⟩, List.forall_mem_cons.mpr ⟨⟨zw_p3 109 rfl, zw_p1 3 rfl, fun h => Bool.noConfusion h, fun _ => ⟨zw_p3 108 rfl, Or.inr (zw_s2 0 rfl)⟩⟩, List.forall_mem_cons.mpr ⟨⟨zw_p3 85 rfl, zw_p1 3 rfl, fun h => Bool.noConfusion h, fun _ => ⟨zw_p3 84 rfl, Or.inr (zw_s1 14 rfl)⟩⟩, List.forall_mem_cons.mpr ⟨⟨zw_p3 105 rfl, zw_p1 3 rfl, fun h => Bool.noConfusion h, fun _ => ⟨zw_p3 104 rfl, Or.inr (zw_s1 15 rfl)⟩⟩, List.forall_mem_cons.mpr ⟨⟨zw_p1 124 rfl, zw_p1 6 rfl, fun h => Bool.noConfusion h, fun _ => ⟨zw_p1 123 rfl, Or.inl rfl⟩⟩, List.forall_mem_cons.mpr ⟨⟨zw_p3 153 rfl, zw_p1 6 rfl, fun h => Bool.noConfusion h, fun _ => ⟨zw_p3 151 rfl, Or.inr (zw_p3 152 rfl)⟩⟩, List.forall_mem_cons.mpr ⟨⟨zw_p3 181 rfl, zw_p1 6 rfl, fun h => Bool.noConfusion h, fun _ => ⟨zw_p3 179 rfl, Or.inr (zw_p3 180 rfl)⟩⟩, List.forall_mem_cons.mpr ⟨⟨zw_p3 0 rfl, zw_p1 6 rfl, fun h => Bool.noConfusion h, fun _ => ⟨zw_p2 238 rfl, Or.inr (zw_p2 239 rfl)⟩⟩, List.forall_mem_cons.mpr ⟨⟨zw_p2 228 rfl, zw_p1 6 rfl, fun h => Bool.noConfusion h, fun _ => ⟨zw_p2 226 rfl, Or.inr (zw_p2 227 rfl)⟩⟩, List.forall_mem_cons.mpr ⟨⟨zw_p3 232 rfl, zw_p1 6 rfl, fun h => Bool.noConfusion h, fun _ => ⟨zw_p3 230 rfl, Or.inr (zw_p3 231 rfl)⟩⟩, List.forall_mem_cons.mpr ⟨⟨zw_p5 15 rfl, zw_p1 6 rfl, fun h => Bool.noConfusion h, fun _ => ⟨zw_p5 13 rfl, Or.inr (zw_p5 14 rfl)⟩⟩, List.forall_mem_cons.mpr ⟨⟨zw_p1 201 rfl, zw_p1 9 rfl, fun h => Bool.noConfusion h, fun _ => ⟨zw_p1 200 rfl, Or.inl rfl⟩⟩, List.forall_mem_cons.mpr ⟨⟨zw_p2 196 rfl, zw_p1 9 rfl, fun h => Bool.noConfusion h, fun _ => ⟨zw_p2 194 rfl, Or.inr (zw_p2 195 rfl)⟩⟩, List.forall_mem_cons.mpr ⟨⟨zw_p4 0 rfl, zw_p1 9 rfl, fun h => Bool.noConfusion h, fun _ => ⟨zw_p3 238 rfl, Or.inr (zw_p3 239 rfl)⟩⟩, List.forall_mem_cons.mpr ⟨⟨zw_p4 108 rfl, zw_p1 9 rfl, fun h => Bool.noConfusion h, fun _ => ⟨zw_p4 106 rfl, Or.inr (zw_p4 107 rfl)⟩⟩, fun _ h => absurd h List.not_mem_nil⟩⟩⟩⟩⟩⟩⟩⟩⟩⟩⟩⟩⟩⟩⟩⟩
set_option maxRecDepth 100000 in
theorem zm_MTo6 : ∀ q ∈ zm_MT6, zm_okP q := List.forall_mem_cons.mpr ⟨⟨zw_p5 95 rfl, zw_p1 9 rfl, fun h => Bool.noConfusion h, fun _ => ⟨zw_p5 93 rfl, Or.inr (zw_p5 94 rfl)⟩⟩, List.forall_mem_cons.mpr ⟨⟨zw_p1 208 rfl, zw_p1 10 rfl, fun h => Bool.noConfusion h, fun _ => ⟨zw_p1 207 rfl, Or.inl rfl⟩⟩, List.forall_mem_cons.mpr ⟨⟨zw_p5 99 rfl, zw_p1 10 rfl, fun h => Bool.noConfusion h, fun _ => ⟨zw_p5 97 rfl, Or.inr (zw_p5 98 rfl)⟩⟩, List.forall_mem_cons.mpr ⟨⟨zw_p1 239 rfl, zw_p1 11 rfl, fun h => Bool.noConfusion h, fun _ => ⟨zw_p1 238 rfl, Or.inl rfl⟩⟩, List.forall_mem_cons.mpr ⟨⟨zw_p2 208 rfl, zw_p1 11 rfl, fun h => Bool.noConfusion h, fun _ => ⟨zw_p2 206 rfl, Or.inr (zw_p2 207 rfl)⟩⟩, List.forall_mem_cons.mpr ⟨⟨zw_p4 63 rfl, zw_p1 11 rfl, fun h => Bool.noConfusion h, fun _ => ⟨zw_p4 61 rfl, Or.inr (zw_p4 62 rfl)⟩⟩, List.forall_mem_cons.mpr ⟨⟨zw_p4 55 rfl, zw_p1 11 rfl, fun h => Bool.noConfusion h, fun _ => ⟨zw_p4 53 rfl, Or.inr (zw_p4 54 rfl)⟩⟩, List.forall_mem_cons.mpr ⟨⟨zw_p4 47 rfl, zw_p1 11 rfl, fun h => Bool.noConfusion h, fun _ => ⟨zw_p4 45 rfl, Or.inr (zw_p4 46 rfl)⟩⟩, List.forall_mem_cons.mpr ⟨⟨zw_p4 43 rfl, zw_p1 11 rfl, fun h => Bool.noConfusion h, fun _ => ⟨zw_p4 41 rfl, Or.inr (zw_p4 42 rfl)⟩⟩, List.forall_mem_cons.mpr ⟨⟨zw_p3 11 rfl, zw_p1 11 rfl, fun h => Bool.noConfusion h, fun _ => ⟨zw_p3 9 rfl, Or.inr (zw_p3 10 rfl)⟩⟩, List.forall_mem_cons.mpr ⟨⟨zw_p4 87 rfl, zw_p1 11 rfl, fun h => Bool.noConfusion h, fun _ => ⟨zw_p4 85 rfl, Or.inr (zw_p4 86 rfl)⟩⟩, List.forall_mem_cons.mpr ⟨⟨zw_p3 15 rfl, zw_p1 11 rfl, fun h => Bool.noConfusion h, fun _ => ⟨zw_p3 14 rfl, Or.inr (zw_s1 11 rfl)⟩⟩, List.forall_mem_cons.mpr ⟨⟨zw_p4 134 rfl, zw_p1 11 rfl, fun h => Bool.noConfusion h, fun _ => ⟨zw_p4 132 rfl, Or.inr (zw_p4 133 rfl)⟩⟩, List.forall_mem_cons.mpr ⟨⟨zw_p4 138 rfl, zw_p1 11 rfl, fun h => Bool.noConfusion h, fun _ => ⟨zw_p4 136 rfl, Or.inr (zw_p4 137 rfl)⟩⟩, List.forall_mem_cons.mpr ⟨⟨zw_p4 217 rfl, zw_p1 11 rfl, fun h => Bool.noConfusion h, fun _ => ⟨zw_p4 215 rfl, Or.inr (zw_p4 216 rfl)⟩⟩, List.forall_mem_cons.mpr ⟨⟨zw_p4 221 rfl, zw_p1 11 rfl, fun h => Bool.noConfusion h, fun _ => ⟨zw_p4 220 rfl, Or.inr (zw_s3 9 rfl)⟩⟩, fun _ h => absurd h List.not_mem_nil⟩⟩⟩⟩⟩⟩⟩⟩⟩⟩⟩⟩⟩⟩⟩⟩
set_option maxRecDepth 100000 in
theorem zm_MTo7 : ∀ q ∈ zm_MT7, zm_okP q := List.forall_mem_cons.mpr ⟨⟨zw_p4 226 rfl, zw_p1 11 rfl, fun h => Bool.noConfusion h, fun _ => ⟨zw_p4 225 rfl, Or.inr (zw_s3 10 rfl)⟩⟩, List.forall_mem_cons.mpr ⟨⟨zw_p4 238 rfl, zw_p1 11 rfl, fun h => Bool.noConfusion h, fun _ => ⟨zw_p4 236 rfl, Or.inr (zw_p4 237 rfl)⟩⟩, List.forall_mem_cons.mpr ⟨⟨zw_p1 30 rfl, zw_p1 2 rfl, fun h => Bool.noConfusion h, fun _ => ⟨zw_p1 29 rfl, Or.inl rfl⟩⟩, List.forall_mem_cons.mpr ⟨⟨zw_p3 41 rfl, zw_p1 2 rfl, fun h => Bool.noConfusion h, fun _ => ⟨zw_p3 39 rfl, Or.inr (zw_p3 40 rfl)⟩⟩, List.forall_mem_cons.mpr ⟨⟨zw_p3 49 rfl, zw_p1 2 rfl, fun h => Bool.noConfusion h, fun _ => ⟨zw_p3 47 rfl, Or.inr (zw_p3 48 rfl)⟩⟩, List.forall_mem_cons.mpr ⟨⟨zw_p4 96 rfl, zw_p1 2 rfl, fun h => Bool.noConfusion h, fun _ => ⟨zw_p4 94 rfl, Or.inr (zw_p4 95 rfl)⟩⟩, List.forall_mem_cons.mpr ⟨⟨zw_p3 133 rfl, zw_p1 2 rfl, fun h => Bool.noConfusion h, fun _ => ⟨zw_p3 131 rfl, Or.inr (zw_p3 132 rfl)⟩⟩, List.forall_mem_cons.mpr ⟨⟨zw_p3 53 rfl, zw_p1 2 rfl, fun h => Bool.noConfusion h, fun _ => ⟨zw_p3 51 rfl, Or.inr (zw_p3 52 rfl)⟩⟩, List.forall_mem_cons.mpr ⟨⟨zw_p3 69 rfl, zw_p1 2 rfl, fun h => Bool.noConfusion h, fun _ => ⟨zw_p3 67 rfl, Or.inr (zw_p3 68 rfl)⟩⟩, List.forall_mem_cons.mpr ⟨⟨zw_p3 77 rfl, zw_p1 2 rfl, fun h => Bool.noConfusion h, fun _ => ⟨zw_p3 75 rfl, Or.inr (zw_p3 76 rfl)⟩⟩, List.forall_mem_cons.mpr ⟨⟨zw_p3 92 rfl, zw_p1 2 rfl, fun h => Bool.noConfusion h, fun _ => ⟨zw_p3 90 rfl, Or.inr (zw_p3 91 rfl)⟩⟩, List.forall_mem_cons.mpr ⟨⟨zw_p3 129 rfl, zw_p1 2 rfl, fun h => Bool.noConfusion h, fun _ => ⟨zw_p3 127 rfl, Or.inr (zw_p3 128 rfl)⟩⟩, List.forall_mem_cons.mpr ⟨⟨zw_p3 73 rfl, zw_p1 2 rfl, fun h => Bool.noConfusion h, fun _ => ⟨zw_p3 71 rfl, Or.inr (zw_p3 72 rfl)⟩⟩, List.forall_mem_cons.mpr ⟨⟨zw_p3 176 rfl, zw_p1 2 rfl, fun h => Bool.noConfusion h, fun _ => ⟨zw_p3 174 rfl, Or.inr (zw_p3 175 rfl)⟩⟩, List.forall_mem_cons.mpr ⟨⟨zw_p3 137 rfl, zw_p1 2 rfl, fun h => Bool.noConfusion h, fun _ => ⟨zw_p3 135 rfl, Or.inr (zw_p3 136 rfl)⟩⟩, List.forall_mem_cons.mpr ⟨⟨zw_p1 22 rfl, zw_p1 1 rfl, fun h => Bool.noConfusion h, fun _ => ⟨zw_p1 21 rfl, Or.inl rfl⟩⟩, fun _ h => absurd h List.not_mem_nil⟩⟩⟩⟩⟩⟩⟩⟩⟩⟩⟩⟩⟩⟩⟩⟩
set_option maxRecDepth 100000 in
theorem zm_MTo8 : ∀ q ∈ zm_MT8, zm_okP q := List.forall_mem_cons.mpr ⟨⟨zw_p2 120 rfl, zw_p1 1 rfl, fun h => Bool.noConfusion h, fun _ => ⟨zw_p2 118 rfl, Or.inr (zw_p2 119 rfl)⟩⟩, List.forall_mem_cons.mpr ⟨⟨zw_p3 21 rfl, zw_p1 1 rfl, fun h => Bool.noConfusion h, fun _ => ⟨zw_p3 19 rfl, Or.inr (zw_p3 20 rfl)⟩⟩, List.forall_mem_cons.mpr ⟨⟨zw_p3 25 rfl, zw_p1 1 rfl, fun h => Bool.noConfusion h, fun _ => ⟨zw_p3 23 rfl, Or.inr (zw_p3 24 rfl)⟩⟩, List.forall_mem_cons.mpr ⟨⟨zw_p3 32 rfl, zw_p1 1 rfl, fun h => Bool.noConfusion h, fun _ => ⟨zw_p3 30 rfl, Or.inr (zw_p3 31 rfl)⟩⟩, List.forall_mem_cons.mpr ⟨⟨zw_p3 37 rfl, zw_p1 1 rfl, fun h => Bool.noConfusion h, fun _ => ⟨zw_p3 35 rfl, Or.inr (zw_p3 36 rfl)⟩⟩, List.forall_mem_cons.mpr ⟨⟨zw_p3 45 rfl, zw_p1 1 rfl, fun h => Bool.noConfusion h, fun _ => ⟨zw_p3 43 rfl, Or.inr (zw_p3 44 rfl)⟩⟩, List.forall_mem_cons.mpr ⟨⟨zw_p3 145 rfl, zw_p1 1 rfl, fun h => Bool.noConfusion h, fun _ => ⟨zw_p3 143 rfl, Or.inr (zw_p3 144 rfl)⟩⟩, List.forall_mem_cons.mpr ⟨⟨zw_p3 187 rfl, zw_p1 1 rfl, fun h => Bool.noConfusion h, fun _ => ⟨zw_p3 185 rfl, Or.inr (zw_p3 186 rfl)⟩⟩, List.forall_mem_cons.mpr ⟨⟨zw_p4 10 rfl, zw_p1 1 rfl, fun h => Bool.noConfusion h, fun _ => ⟨zw_p4 8 rfl, Or.inr (zw_p4 9 rfl)⟩⟩, List.forall_mem_cons.mpr ⟨⟨zw_p4 92 rfl, zw_p1 1 rfl, fun h => Bool.noConfusion h, fun _ => ⟨zw_p4 90 rfl, Or.inr (zw_p4 91 rfl)⟩⟩, List.forall_mem_cons.mpr ⟨⟨zw_p4 100 rfl, zw_p1 1 rfl, fun h => Bool.noConfusion h, fun _ => ⟨zw_p4 98 rfl, Or.inr (zw_p4 99 rfl)⟩⟩, List.forall_mem_cons.mpr ⟨⟨zw_p4 104 rfl, zw_p1 1 rfl, fun h => Bool.noConfusion h, fun _ => ⟨zw_p4 102 rfl, Or.inr (zw_p4 103 rfl)⟩⟩, List.forall_mem_cons.mpr ⟨⟨zw_p4 112 rfl, zw_p1 1 rfl, fun h => Bool.noConfusion h, fun _ => ⟨zw_p4 110 rfl, Or.inr (zw_p4 111 rfl)⟩⟩, List.forall_mem_cons.mpr ⟨⟨zw_p4 118 rfl, zw_p1 1 rfl, fun h => Bool.noConfusion h, fun _ => ⟨zw_p4 116 rfl, Or.inr (zw_p4 117 rfl)⟩⟩, List.forall_mem_cons.mpr ⟨⟨zw_p4 130 rfl, zw_p1 1 rfl, fun h => Bool.noConfusion h, fun _ => ⟨zw_p4 128 rfl, Or.inr (zw_p4 129 rfl)⟩⟩, List.forall_mem_cons.mpr ⟨⟨zw_p4 142 rfl, zw_p1 1 rfl, fun h => Bool.noConfusion h, fun _ => ⟨zw_p4 140 rfl, Or.inr (zw_p4 141 rfl)⟩⟩, fun _ h => absurd h List.not_mem_nil⟩⟩⟩⟩⟩⟩⟩⟩⟩⟩⟩⟩⟩⟩⟩⟩
set_option maxRecDepth 100000 in
theorem zm_MTo9 : ∀ q ∈ zm_MT9, zm_okP q := List.forall_mem_cons.mpr ⟨⟨zw_p4 155 rfl, zw_p1 1 rfl, fun h => Bool.noConfusion h, fun _ => ⟨zw_p4 153 rfl, Or.inr (zw_p4 154 rfl)⟩⟩, List.forall_mem_cons.mpr ⟨⟨zw_p4 162 rfl, zw_p1 1 rfl, fun h => Bool.noConfusion h, fun _ => ⟨zw_p4 160 rfl, Or.inr (zw_p4 161 rfl)⟩⟩, List.forall_mem_cons.mpr ⟨⟨zw_p4 174 rfl, zw_p1 1 rfl, fun h => Bool.noConfusion h, fun _ => ⟨zw_p4 172 rfl, Or.inr (zw_p4 173 rfl)⟩⟩, List.forall_mem_cons.mpr ⟨⟨zw_p4 194 rfl, zw_p1 1 rfl, fun h => Bool.noConfusion h, fun _ => ⟨zw_p4 192 rfl, Or.inr (zw_p4 193 rfl)⟩⟩, List.forall_mem_cons.mpr ⟨⟨zw_p4 202 rfl, zw_p1 1 rfl, fun h => Bool.noConfusion h, fun _ => ⟨zw_p4 200 rfl, Or.inr (zw_p4 201 rfl)⟩⟩, List.forall_mem_cons.mpr ⟨⟨zw_p4 213 rfl, zw_p1 1 rfl, fun h => Bool.noConfusion h, fun _ => ⟨zw_p4 211 rfl, Or.inr (zw_p4 212 rfl)⟩⟩, List.forall_mem_cons.mpr ⟨⟨zw_p4 230 rfl, zw_p1 1 rfl, fun h => Bool.noConfusion h, fun _ => ⟨zw_p4 228 rfl, Or.inr (zw_p4 229 rfl)⟩⟩, List.forall_mem_cons.mpr ⟨⟨zw_p4 234 rfl, zw_p1 1 rfl, fun h => Bool.noConfusion h, fun _ => ⟨zw_p4 232 rfl, Or.inr (zw_p4 233 rfl)⟩⟩, List.forall_mem_cons.mpr ⟨⟨zw_p5 2 rfl, zw_p1 1 rfl, fun h => Bool.noConfusion h, fun _ => ⟨zw_p5 0 rfl, Or.inr (zw_p5 1 rfl)⟩⟩, List.forall_mem_cons.mpr ⟨⟨zw_p5 35 rfl, zw_p1 1 rfl, fun h => Bool.noConfusion h, fun _ => ⟨zw_p5 33 rfl, Or.inr (zw_p5 34 rfl)⟩⟩, List.forall_mem_cons.mpr ⟨⟨zw_p5 43 rfl, zw_p1 1 rfl, fun h => Bool.noConfusion h, fun _ => ⟨zw_p5 41 rfl, Or.inr (zw_p5 42 rfl)⟩⟩, List.forall_mem_cons.mpr ⟨⟨zw_p5 63 rfl, zw_p1 1 rfl, fun h => Bool.noConfusion h, fun _ => ⟨zw_p5 61 rfl, Or.inr (zw_p5 62 rfl)⟩⟩, List.forall_mem_cons.mpr ⟨⟨zw_p5 83 rfl, zw_p1 1 rfl, fun h => Bool.noConfusion h, fun _ => ⟨zw_p5 81 rfl, Or.inr (zw_p5 82 rfl)⟩⟩, List.forall_mem_cons.mpr ⟨⟨zw_p5 91 rfl, zw_p1 1 rfl, fun h => Bool.noConfusion h, fun _ => ⟨zw_p5 89 rfl, Or.inr (zw_p5 90 rfl)⟩⟩, List.forall_mem_cons.mpr ⟨⟨zw_p5 104 rfl, zw_p1 1 rfl, fun h => Bool.noConfusion h, fun _ => ⟨zw_p5 102 rfl, Or.inr (zw_p5 103 rfl)⟩⟩, List.forall_mem_cons.mpr ⟨⟨zw_p5 108 rfl, zw_p1 1 rfl, fun h => Bool.noConfusion h, fun _ => ⟨zw_p5 106 rfl, Or.inr (zw_p5 107 rfl)⟩⟩, fun _ h => absurd h List.not_mem_nil⟩⟩⟩⟩⟩⟩⟩⟩⟩⟩⟩⟩⟩⟩⟩⟩
set_option maxRecDepth 100000 in
theorem zm_MTo10 : ∀ q ∈ zm_MT10, zm_okP q := List.forall_mem_cons.mpr ⟨⟨zw_p2 134 rfl, zw_p1 1 rfl, fun h => Bool.noConfusion h, fun _ => ⟨zw_p2 133 rfl, Or.inr (zw_s1 1 rfl)⟩⟩, List.forall_mem_cons.mpr ⟨⟨zw_p2 130 rfl, zw_p1 1 rfl, fun h => Bool.noConfusion h, fun _ => ⟨zw_p2 129 rfl, Or.inr (zw_s1 0 rfl)⟩⟩, List.forall_mem_cons.mpr ⟨⟨zw_p2 204 rfl, zw_p1 1 rfl, fun h => Bool.noConfusion h, fun _ => ⟨zw_p2 203 rfl, Or.inr (zw_s1 10 rfl)⟩⟩, List.forall_mem_cons.mpr ⟨⟨zw_p4 59 rfl, zw_p1 1 rfl, fun h => Bool.noConfusion h, fun _ => ⟨zw_p4 58 rfl, Or.inr (zw_s3 1 rfl)⟩⟩, List.forall_mem_cons.mpr ⟨⟨zw_p4 122 rfl, zw_p1 1 rfl, fun h => Bool.noConfusion h, fun _ => ⟨zw_p4 121 rfl, Or.inr (zw_s3 3 rfl)⟩⟩, List.forall_mem_cons.mpr ⟨⟨zw_p4 166 rfl, zw_p1 1 rfl, fun h => Bool.noConfusion h, fun _ => ⟨zw_p4 165 rfl, Or.inr (zw_s3 5 rfl)⟩⟩, List.forall_mem_cons.mpr ⟨⟨zw_p4 190 rfl, zw_p1 1 rfl, fun h => Bool.noConfusion h, fun _ => ⟨zw_p4 189 rfl, Or.inr (zw_s3 6 rfl)⟩⟩, List.forall_mem_cons.mpr ⟨⟨zw_p4 198 rfl, zw_p1 1 rfl, fun h => Bool.noConfusion h, fun _ => ⟨zw_p4 197 rfl, Or.inr (zw_s3 7 rfl)⟩⟩, List.forall_mem_cons.mpr ⟨⟨zw_p4 18 rfl, zw_p1 1 rfl, fun h => Bool.noConfusion h, fun _ => ⟨zw_p4 17 rfl, Or.inr (zw_s2 11 rfl)⟩⟩, List.forall_mem_cons.mpr ⟨⟨zw_p4 209 rfl, zw_p1 1 rfl, fun h => Bool.noConfusion h, fun _ => ⟨zw_p4 208 rfl, Or.inr (zw_s3 8 rfl)⟩⟩, List.forall_mem_cons.mpr ⟨⟨zw_p4 205 rfl, zw_p1 1 rfl, fun _ => zw_p4 204 rfl, fun h => Bool.noConfusion h⟩, List.forall_mem_cons.mpr ⟨⟨zw_p2 235 rfl, zw_p1 1 rfl, fun _ => zw_p2 234 rfl, fun h => Bool.noConfusion h⟩, List.forall_mem_cons.mpr ⟨⟨zw_p2 123 rfl, zw_p1 1 rfl, fun _ => zw_p2 122 rfl, fun h => Bool.noConfusion h⟩, List.forall_mem_cons.mpr ⟨⟨zw_p5 5 rfl, zw_p1 1 rfl, fun _ => zw_p5 4 rfl, fun h => Bool.noConfusion h⟩, List.forall_mem_cons.mpr ⟨⟨zw_p3 101 rfl, zw_p1 1 rfl, fun _ => zw_p3 100 rfl, fun h => Bool.noConfusion h⟩, List.forall_mem_cons.mpr ⟨⟨zw_p4 158 rfl, zw_p1 1 rfl, fun _ => zw_p4 157 rfl, fun h => Bool.noConfusion h⟩, fun _ h => absurd h List.not_mem_nil⟩⟩⟩⟩⟩⟩⟩⟩⟩⟩⟩⟩⟩⟩⟩⟩
set_option maxRecDepth 100000 in
theorem zm_MTo11 : ∀ q ∈ zm_MT11, zm_okP q := List.forall_mem_cons.mpr ⟨⟨zw_p2 126 rfl, zw_p1 1 rfl, fun _ => zw_p2 125 rfl, fun h => Bool.noConfusion h⟩, List.forall_mem_cons.mpr ⟨⟨zw_p2 142 rfl, zw_p1 1 rfl, fun _ => zw_p2 141 rfl, fun h => Bool.noConfusion h⟩, List.forall_mem_cons.mpr ⟨⟨zw_p4 169 rfl, zw_p1 1 rfl, fun _ => zw_p4 168 rfl, fun h => Bool.noConfusion h⟩, List.forall_mem_cons.mpr ⟨⟨zw_p2 32 rfl, zw_p1 1 rfl, fun _ => zw_p2 31 rfl, fun h => Bool.noConfusion h⟩, List.forall_mem_cons.mpr ⟨⟨zw_p5 117 rfl, zw_p1 13 rfl, fun h => Bool.noConfusion h, fun _ => ⟨zw_p5 116 rfl, Or.inl rfl⟩⟩, List.forall_mem_cons.mpr ⟨⟨zw_p6 70 rfl, zw_p1 13 rfl, fun _ => zw_p6 69 rfl, fun h => Bool.noConfusion h⟩, List.forall_mem_cons.mpr ⟨⟨zw_p6 211 rfl, zw_p1 13 rfl, fun _ => zw_p6 210 rfl, fun h => Bool.noConfusion h⟩, List.forall_mem_cons.mpr ⟨⟨zw_p6 214 rfl, zw_p1 13 rfl, fun _ => zw_p6 213 rfl, fun h => Bool.noConfusion h⟩, List.forall_mem_cons.mpr ⟨⟨zw_p6 237 rfl, zw_p1 13 rfl, fun _ => zw_p6 236 rfl, fun h => Bool.noConfusion h⟩, List.forall_mem_cons.mpr ⟨⟨zw_p6 67 rfl, zw_p1 13 rfl, fun _ => zw_p6 66 rfl, fun h => Bool.noConfusion h⟩, List.forall_mem_cons.mpr ⟨⟨zw_p6 73 rfl, zw_p1 13 rfl, fun _ => zw_p6 72 rfl, fun h => Bool.noConfusion h⟩, List.forall_mem_cons.mpr ⟨⟨zw_p6 77 rfl, zw_p1 13 rfl, fun h => Bool.noConfusion h, fun _ => ⟨zw_p6 76 rfl, Or.inr (zw_s4 0 rfl)⟩⟩, List.forall_mem_cons.mpr ⟨⟨zw_p6 64 rfl, zw_p1 13 rfl, fun h => Bool.noConfusion h, fun _ => ⟨zw_p6 62 rfl, Or.inr (zw_p6 63 rfl)⟩⟩, List.forall_mem_cons.mpr ⟨⟨zw_p6 85 rfl, zw_p1 13 rfl, fun h => Bool.noConfusion h, fun _ => ⟨zw_p6 84 rfl, Or.inr (zw_s4 1 rfl)⟩⟩, List.forall_mem_cons.mpr ⟨⟨zw_p6 81 rfl, zw_p1 13 rfl, fun h => Bool.noConfusion h, fun _ => ⟨zw_p6 79 rfl, Or.inr (zw_p6 80 rfl)⟩⟩, List.forall_mem_cons.mpr ⟨⟨zw_p6 93 rfl, zw_p1 13 rfl, fun h => Bool.noConfusion h, fun _ => ⟨zw_p6 92 rfl, Or.inr (zw_s4 2 rfl)⟩⟩, fun _ h => absurd h List.not_mem_nil⟩⟩⟩⟩⟩⟩⟩⟩⟩⟩⟩⟩⟩⟩⟩⟩
set_option maxRecDepth 100000 in
theorem zm_MTo12 : ∀ q ∈ zm_MT12, zm_okP q := List.forall_mem_cons.mpr ⟨⟨zw_p6 89 rfl, zw_p1 13 rfl, fun h => Bool.noConfusion h, fun _ => ⟨zw_p6 87 rfl, Or.inr (zw_p6 88 rfl)⟩⟩, List.forall_mem_cons.mpr ⟨⟨zw_p8 69 rfl, zw_p1 13 rfl, fun h => Bool.noConfusion h, fun _ => ⟨zw_p8 68 rfl, Or.inr (zw_s8 13 rfl)⟩⟩, List.forall_mem_cons.mpr ⟨⟨zw_p6 109 rfl, zw_p1 13 rfl, fun h => Bool.noConfusion h, fun _ => ⟨zw_p6 108 rfl, Or.inr (zw_s4 5 rfl)⟩⟩, List.forall_mem_cons.mpr ⟨⟨zw_p6 130 rfl, zw_p1 13 rfl, fun h => Bool.noConfusion h, fun _ => ⟨zw_p6 129 rfl, Or.inr (zw_s4 10 rfl)⟩⟩, List.forall_mem_cons.mpr ⟨⟨zw_p6 113 rfl, zw_p1 13 rfl, fun h => Bool.noConfusion h, fun _ => ⟨zw_p6 112 rfl, Or.inr (zw_s4 6 rfl)⟩⟩, List.forall_mem_cons.mpr ⟨⟨zw_p6 180 rfl, zw_p1 13 rfl, fun h => Bool.noConfusion h, fun _ => ⟨zw_p6 179 rfl, Or.inr (zw_s5 5 rfl)⟩⟩, List.forall_mem_cons.mpr ⟨⟨zw_p6 134 rfl, zw_p1 13 rfl, fun h => Bool.noConfusion h, fun _ => ⟨zw_p6 133 rfl, Or.inr (zw_s4 11 rfl)⟩⟩, List.forall_mem_cons.mpr ⟨⟨zw_p6 138 rfl, zw_p1 13 rfl, fun h => Bool.noConfusion h, fun _ => ⟨zw_p6 137 rfl, Or.inr (zw_s4 12 rfl)⟩⟩, List.forall_mem_cons.mpr ⟨⟨zw_p6 125 rfl, zw_p1 13 rfl, fun h => Bool.noConfusion h, fun _ => ⟨zw_p6 124 rfl, Or.inr (zw_s4 9 rfl)⟩⟩, List.forall_mem_cons.mpr ⟨⟨zw_p6 152 rfl, zw_p1 13 rfl, fun h => Bool.noConfusion h, fun _ => ⟨zw_p6 151 rfl, Or.inr (zw_s4 14 rfl)⟩⟩, List.forall_mem_cons.mpr ⟨⟨zw_p6 141 rfl, zw_p1 13 rfl, fun _ => zw_p6 140 rfl, fun h => Bool.noConfusion h⟩, List.forall_mem_cons.mpr ⟨⟨zw_p6 144 rfl, zw_p1 13 rfl, fun _ => zw_p6 143 rfl, fun h => Bool.noConfusion h⟩, List.forall_mem_cons.mpr ⟨⟨zw_p6 148 rfl, zw_p1 13 rfl, fun h => Bool.noConfusion h, fun _ => ⟨zw_p6 147 rfl, Or.inr (zw_s4 13 rfl)⟩⟩, List.forall_mem_cons.mpr ⟨⟨zw_p6 121 rfl, zw_p1 13 rfl, fun h => Bool.noConfusion h, fun _ => ⟨zw_p6 120 rfl, Or.inr (zw_s4 8 rfl)⟩⟩, List.forall_mem_cons.mpr ⟨⟨zw_p6 156 rfl, zw_p1 13 rfl, fun h => Bool.noConfusion h, fun _ => ⟨zw_p6 155 rfl, Or.inr (zw_s4 15 rfl)⟩⟩, List.forall_mem_cons.mpr ⟨⟨zw_p6 117 rfl, zw_p1 13 rfl, fun h => Bool.noConfusion h, fun _ => ⟨zw_p6 116 rfl, Or.inr (zw_s4 7 rfl)⟩⟩, fun _ h => absurd h List.not_mem_nil⟩⟩⟩⟩⟩⟩⟩⟩⟩⟩⟩⟩⟩⟩⟩⟩
set_option maxRecDepth 100000 in
theorem zm_MTo13 : ∀ q ∈ zm_MT13, zm_okP q := List.forall_mem_cons.mpr ⟨⟨zw_p6 168 rfl, zw_p1 13 rfl, fun h => Bool.noConfusion h, fun _ => ⟨zw_p6 167 rfl, Or.inr (zw_s5 2 rfl)⟩⟩, List.forall_mem_cons.mpr ⟨⟨zw_p6 172 rfl, zw_p1 13 rfl, fun h => Bool.noConfusion h, fun _ => ⟨zw_p6 171 rfl, Or.inr (zw_s5 3 rfl)⟩⟩, List.forall_mem_cons.mpr ⟨⟨zw_p6 176 rfl, zw_p1 13 rfl, fun h => Bool.noConfusion h, fun _ => ⟨zw_p6 175 rfl, Or.inr (zw_s5 4 rfl)⟩⟩, List.forall_mem_cons.mpr ⟨⟨zw_p6 164 rfl, zw_p1 13 rfl, fun h => Bool.noConfusion h, fun _ => ⟨zw_p6 163 rfl, Or.inr (zw_s5 1 rfl)⟩⟩, List.forall_mem_cons.mpr ⟨⟨zw_p6 160 rfl, zw_p1 13 rfl, fun h => Bool.noConfusion h, fun _ => ⟨zw_p6 159 rfl, Or.inr (zw_s5 0 rfl)⟩⟩, List.forall_mem_cons.mpr ⟨⟨zw_p6 105 rfl, zw_p1 13 rfl, fun h => Bool.noConfusion h, fun _ => ⟨zw_p6 104 rfl, Or.inr (zw_s4 4 rfl)⟩⟩, List.forall_mem_cons.mpr ⟨⟨zw_p6 101 rfl, zw_p1 13 rfl, fun h => Bool.noConfusion h, fun _ => ⟨zw_p6 100 rfl, Or.inr (zw_s4 3 rfl)⟩⟩, List.forall_mem_cons.mpr ⟨⟨zw_p6 97 rfl, zw_p1 13 rfl, fun h => Bool.noConfusion h, fun _ => ⟨zw_p6 95 rfl, Or.inr (zw_p6 96 rfl)⟩⟩, List.forall_mem_cons.mpr ⟨⟨zw_p6 204 rfl, zw_p1 13 rfl, fun _ => zw_p6 203 rfl, fun h => Bool.noConfusion h⟩, List.forall_mem_cons.mpr ⟨⟨zw_p6 201 rfl, zw_p1 13 rfl, fun h => Bool.noConfusion h, fun _ => ⟨zw_p6 200 rfl, Or.inr (zw_s5 9 rfl)⟩⟩, List.forall_mem_cons.mpr ⟨⟨zw_p6 208 rfl, zw_p1 13 rfl, fun h => Bool.noConfusion h, fun _ => ⟨zw_p6 207 rfl, Or.inr (zw_s5 10 rfl)⟩⟩, List.forall_mem_cons.mpr ⟨⟨zw_p6 197 rfl, zw_p1 13 rfl, fun h => Bool.noConfusion h, fun _ => ⟨zw_p6 196 rfl, Or.inr (zw_s5 8 rfl)⟩⟩, List.forall_mem_cons.mpr ⟨⟨zw_p6 192 rfl, zw_p1 13 rfl, fun h => Bool.noConfusion h, fun _ => ⟨zw_p6 191 rfl, Or.inr (zw_s5 7 rfl)⟩⟩, List.forall_mem_cons.mpr ⟨⟨zw_p6 188 rfl, zw_p1 13 rfl, fun h => Bool.noConfusion h, fun _ => ⟨zw_p6 187 rfl, Or.inr (zw_s5 6 rfl)⟩⟩, List.forall_mem_cons.mpr ⟨⟨zw_p6 184 rfl, zw_p1 13 rfl, fun h => Bool.noConfusion h, fun _ => ⟨zw_p6 182 rfl, Or.inr (zw_p6 183 rfl)⟩⟩, List.forall_mem_cons.mpr ⟨⟨zw_p6 222 rfl, zw_p1 13 rfl, fun h => Bool.noConfusion h, fun _ => ⟨zw_p6 220 rfl, Or.inr (zw_p6 221 rfl)⟩⟩, fun _ h => absurd h List.not_mem_nil⟩⟩⟩⟩⟩⟩⟩⟩⟩⟩⟩⟩⟩⟩⟩⟩
set_option maxRecDepth 100000 in
theorem zm_MTo14 : ∀ q ∈ zm_MT14, zm_okP q := List.forall_mem_cons.mpr ⟨⟨zw_p6 234 rfl, zw_p1 13 rfl, fun h => Bool.noConfusion h, fun _ => ⟨zw_p6 233 rfl, Or.inr (zw_s5 13 rfl)⟩⟩, List.forall_mem_cons.mpr ⟨⟨zw_p7 13 rfl, zw_p1 13 rfl, fun h => Bool.noConfusion h, fun _ => ⟨zw_p7 12 rfl, Or.inr (zw_s6 0 rfl)⟩⟩, List.forall_mem_cons.mpr ⟨⟨zw_p6 230 rfl, zw_p1 13 rfl, fun h => Bool.noConfusion h, fun _ => ⟨zw_p6 229 rfl, Or.inr (zw_s5 12 rfl)⟩⟩, List.forall_mem_cons.mpr ⟨⟨zw_p6 226 rfl, zw_p1 13 rfl, fun h => Bool.noConfusion h, fun _ => ⟨zw_p6 224 rfl, Or.inr (zw_p6 225 rfl)⟩⟩, List.forall_mem_cons.mpr ⟨⟨zw_p7 9 rfl, zw_p1 13 rfl, fun h => Bool.noConfusion h, fun _ => ⟨zw_p7 8 rfl, Or.inr (zw_s5 15 rfl)⟩⟩, List.forall_mem_cons.mpr ⟨⟨zw_p7 32 rfl, zw_p1 13 rfl, fun h => Bool.noConfusion h, fun _ => ⟨zw_p7 31 rfl, Or.inr (zw_s6 4 rfl)⟩⟩, List.forall_mem_cons.mpr ⟨⟨zw_p7 28 rfl, zw_p1 13 rfl, fun h => Bool.noConfusion h, fun _ => ⟨zw_p7 27 rfl, Or.inr (zw_s6 3 rfl)⟩⟩, List.forall_mem_cons.mpr ⟨⟨zw_p7 24 rfl, zw_p1 13 rfl, fun h => Bool.noConfusion h, fun _ => ⟨zw_p7 23 rfl, Or.inr (zw_s6 2 rfl)⟩⟩, List.forall_mem_cons.mpr ⟨⟨zw_p7 20 rfl, zw_p1 13 rfl, fun _ => zw_p7 19 rfl, fun h => Bool.noConfusion h⟩, List.forall_mem_cons.mpr ⟨⟨zw_p7 17 rfl, zw_p1 13 rfl, fun h => Bool.noConfusion h, fun _ => ⟨zw_p7 16 rfl, Or.inr (zw_s6 1 rfl)⟩⟩, List.forall_mem_cons.mpr ⟨⟨zw_p7 5 rfl, zw_p1 13 rfl, fun h => Bool.noConfusion h, fun _ => ⟨zw_p7 4 rfl, Or.inr (zw_s5 14 rfl)⟩⟩, List.forall_mem_cons.mpr ⟨⟨zw_p7 1 rfl, zw_p1 13 rfl, fun h => Bool.noConfusion h, fun _ => ⟨zw_p6 239 rfl, Or.inr (zw_p7 0 rfl)⟩⟩, List.forall_mem_cons.mpr ⟨⟨zw_p7 43 rfl, zw_p1 13 rfl, fun _ => zw_p7 42 rfl, fun h => Bool.noConfusion h⟩, List.forall_mem_cons.mpr ⟨⟨zw_p7 40 rfl, zw_p1 13 rfl, fun h => Bool.noConfusion h, fun _ => ⟨zw_p7 39 rfl, Or.inr (zw_s6 5 rfl)⟩⟩, List.forall_mem_cons.mpr ⟨⟨zw_p7 36 rfl, zw_p1 13 rfl, fun h => Bool.noConfusion h, fun _ => ⟨zw_p7 34 rfl, Or.inr (zw_p7 35 rfl)⟩⟩, List.forall_mem_cons.mpr ⟨⟨zw_p7 51 rfl, zw_p1 13 rfl, fun h => Bool.noConfusion h, fun _ => ⟨zw_p7 50 rfl, Or.inr (zw_s6 7 rfl)⟩⟩, fun _ h => absurd h List.not_mem_nil⟩⟩⟩⟩⟩⟩⟩⟩⟩⟩⟩⟩⟩⟩⟩⟩
set_option maxRecDepth 100000 in
theorem zm_MTo15 : ∀ q ∈ zm_MT15, zm_okP q := List.forall_mem_cons.mpr ⟨⟨zw_p7 60 rfl, zw_p1 13 rfl, fun h => Bool.noConfusion h, fun _ => ⟨zw_p7 59 rfl, Or.inr (zw_s6 9 rfl)⟩⟩, List.forall_mem_cons.mpr ⟨⟨zw_p7 64 rfl, zw_p1 13 rfl, fun h => Bool.noConfusion h, fun _ => ⟨zw_p7 63 rfl, Or.inr (zw_s6 10 rfl)⟩⟩, List.forall_mem_cons.mpr ⟨⟨zw_p7 68 rfl, zw_p1 13 rfl, fun h => Bool.noConfusion h, fun _ => ⟨zw_p7 67 rfl, Or.inr (zw_s6 11 rfl)⟩⟩, List.forall_mem_cons.mpr ⟨⟨zw_p7 56 rfl, zw_p1 13 rfl, fun h => Bool.noConfusion h, fun _ => ⟨zw_p7 55 rfl, Or.inr (zw_s6 8 rfl)⟩⟩, List.forall_mem_cons.mpr ⟨⟨zw_p7 124 rfl, zw_p1 13 rfl, fun h => Bool.noConfusion h, fun _ => ⟨zw_p7 123 rfl, Or.inr (zw_s7 6 rfl)⟩⟩, List.forall_mem_cons.mpr ⟨⟨zw_p6 218 rfl, zw_p1 13 rfl, fun h => Bool.noConfusion h, fun _ => ⟨zw_p6 217 rfl, Or.inr (zw_s5 11 rfl)⟩⟩, List.forall_mem_cons.mpr ⟨⟨zw_p7 104 rfl, zw_p1 13 rfl, fun h => Bool.noConfusion h, fun _ => ⟨zw_p7 103 rfl, Or.inr (zw_s7 3 rfl)⟩⟩, List.forall_mem_cons.mpr ⟨⟨zw_p7 120 rfl, zw_p1 13 rfl, fun h => Bool.noConfusion h, fun _ => ⟨zw_p7 119 rfl, Or.inr (zw_s7 5 rfl)⟩⟩, List.forall_mem_cons.mpr ⟨⟨zw_p7 116 rfl, zw_p1 13 rfl, fun h => Bool.noConfusion h, fun _ => ⟨zw_p7 115 rfl, Or.inr (zw_s7 4 rfl)⟩⟩, List.forall_mem_cons.mpr ⟨⟨zw_p7 100 rfl, zw_p1 13 rfl, fun h => Bool.noConfusion h, fun _ => ⟨zw_p7 99 rfl, Or.inr (zw_s7 2 rfl)⟩⟩, List.forall_mem_cons.mpr ⟨⟨zw_p7 128 rfl, zw_p1 13 rfl, fun h => Bool.noConfusion h, fun _ => ⟨zw_p7 127 rfl, Or.inr (zw_s7 7 rfl)⟩⟩, List.forall_mem_cons.mpr ⟨⟨zw_p7 96 rfl, zw_p1 13 rfl, fun h => Bool.noConfusion h, fun _ => ⟨zw_p7 94 rfl, Or.inr (zw_p7 95 rfl)⟩⟩, List.forall_mem_cons.mpr ⟨⟨zw_p7 108 rfl, zw_p1 13 rfl, fun h => Bool.noConfusion h, fun _ => ⟨zw_p7 106 rfl, Or.inr (zw_p7 107 rfl)⟩⟩, List.forall_mem_cons.mpr ⟨⟨zw_p7 112 rfl, zw_p1 13 rfl, fun h => Bool.noConfusion h, fun _ => ⟨zw_p7 110 rfl, Or.inr (zw_p7 111 rfl)⟩⟩, List.forall_mem_cons.mpr ⟨⟨zw_p7 136 rfl, zw_p1 13 rfl, fun h => Bool.noConfusion h, fun _ => ⟨zw_p7 135 rfl, Or.inr (zw_s7 8 rfl)⟩⟩, List.forall_mem_cons.mpr ⟨⟨zw_p7 139 rfl, zw_p1 13 rfl, fun _ => zw_p7 138 rfl, fun h => Bool.noConfusion h⟩, fun _ h => absurd h List.not_mem_nil⟩⟩⟩⟩⟩⟩⟩⟩⟩⟩⟩⟩⟩⟩⟩⟩
set_option maxRecDepth 100000 in
theorem zm_MTo16 : ∀ q ∈ zm_MT16, zm_okP q := List.forall_mem_cons.mpr ⟨⟨zw_p7 92 rfl, zw_p1 13 rfl, fun h => Bool.noConfusion h, fun _ => ⟨zw_p7 91 rfl, Or.inr (zw_s7 1 rfl)⟩⟩, List.forall_mem_cons.mpr ⟨⟨zw_p7 132 rfl, zw_p1 13 rfl, fun h => Bool.noConfusion h, fun _ => ⟨zw_p7 130 rfl, Or.inr (zw_p7 131 rfl)⟩⟩, List.forall_mem_cons.mpr ⟨⟨zw_p7 143 rfl, zw_p1 13 rfl, fun h => Bool.noConfusion h, fun _ => ⟨zw_p7 141 rfl, Or.inr (zw_p7 142 rfl)⟩⟩, List.forall_mem_cons.mpr ⟨⟨zw_p7 154 rfl, zw_p1 13 rfl, fun _ => zw_p7 153 rfl, fun h => Bool.noConfusion h⟩, List.forall_mem_cons.mpr ⟨⟨zw_p7 166 rfl, zw_p1 13 rfl, fun h => Bool.noConfusion h, fun _ => ⟨zw_p7 165 rfl, Or.inr (zw_s7 12 rfl)⟩⟩, List.forall_mem_cons.mpr ⟨⟨zw_p7 162 rfl, zw_p1 13 rfl, fun h => Bool.noConfusion h, fun _ => ⟨zw_p7 161 rfl, Or.inr (zw_s7 11 rfl)⟩⟩, List.forall_mem_cons.mpr ⟨⟨zw_p7 158 rfl, zw_p1 13 rfl, fun h => Bool.noConfusion h, fun _ => ⟨zw_p7 157 rfl, Or.inr (zw_s7 10 rfl)⟩⟩, List.forall_mem_cons.mpr ⟨⟨zw_p7 151 rfl, zw_p1 13 rfl, fun h => Bool.noConfusion h, fun _ => ⟨zw_p7 150 rfl, Or.inr (zw_s7 9 rfl)⟩⟩, List.forall_mem_cons.mpr ⟨⟨zw_p7 147 rfl, zw_p1 13 rfl, fun h => Bool.noConfusion h, fun _ => ⟨zw_p7 145 rfl, Or.inr (zw_p7 146 rfl)⟩⟩, List.forall_mem_cons.mpr ⟨⟨zw_p7 178 rfl, zw_p1 13 rfl, fun h => Bool.noConfusion h, fun _ => ⟨zw_p7 177 rfl, Or.inr (zw_s7 14 rfl)⟩⟩, List.forall_mem_cons.mpr ⟨⟨zw_p7 174 rfl, zw_p1 13 rfl, fun h => Bool.noConfusion h, fun _ => ⟨zw_p7 173 rfl, Or.inr (zw_s7 13 rfl)⟩⟩, List.forall_mem_cons.mpr ⟨⟨zw_p7 182 rfl, zw_p1 13 rfl, fun h => Bool.noConfusion h, fun _ => ⟨zw_p7 181 rfl, Or.inr (zw_s7 15 rfl)⟩⟩, List.forall_mem_cons.mpr ⟨⟨zw_p7 186 rfl, zw_p1 13 rfl, fun h => Bool.noConfusion h, fun _ => ⟨zw_p7 185 rfl, Or.inr (zw_s8 0 rfl)⟩⟩, List.forall_mem_cons.mpr ⟨⟨zw_p7 198 rfl, zw_p1 13 rfl, fun h => Bool.noConfusion h, fun _ => ⟨zw_p7 197 rfl, Or.inr (zw_s8 3 rfl)⟩⟩, List.forall_mem_cons.mpr ⟨⟨zw_p7 194 rfl, zw_p1 13 rfl, fun h => Bool.noConfusion h, fun _ => ⟨zw_p7 193 rfl, Or.inr (zw_s8 2 rfl)⟩⟩, List.forall_mem_cons.mpr ⟨⟨zw_p7 190 rfl, zw_p1 13 rfl, fun h => Bool.noConfusion h, fun _ => ⟨zw_p7 189 rfl, Or.inr (zw_s8 1 rfl)⟩⟩, fun _ h => absurd h List.not_mem_nil⟩⟩⟩⟩⟩⟩⟩⟩⟩⟩⟩⟩⟩⟩⟩⟩
set_option maxRecDepth 100000 in
theorem zm_MTo17 : ∀ q ∈ zm_MT17, zm_okP q := List.forall_mem_cons.mpr ⟨⟨zw_p7 170 rfl, zw_p1 13 rfl, fun h => Bool.noConfusion h, fun _ => ⟨zw_p7 168 rfl, Or.inr (zw_p7 169 rfl)⟩⟩, List.forall_mem_cons.mpr ⟨⟨zw_p7 202 rfl, zw_p1 13 rfl, fun h => Bool.noConfusion h, fun _ => ⟨zw_p7 200 rfl, Or.inr (zw_p7 201 rfl)⟩⟩, List.forall_mem_cons.mpr ⟨⟨zw_p7 84 rfl, zw_p1 13 rfl, fun h => Bool.noConfusion h, fun _ => ⟨zw_p7 83 rfl, Or.inr (zw_s6 15 rfl)⟩⟩, List.forall_mem_cons.mpr ⟨⟨zw_p7 80 rfl, zw_p1 13 rfl, fun h => Bool.noConfusion h, fun _ => ⟨zw_p7 79 rfl, Or.inr (zw_s6 14 rfl)⟩⟩, List.forall_mem_cons.mpr ⟨⟨zw_p7 88 rfl, zw_p1 13 rfl, fun h => Bool.noConfusion h, fun _ => ⟨zw_p7 87 rfl, Or.inr (zw_s7 0 rfl)⟩⟩, List.forall_mem_cons.mpr ⟨⟨zw_p7 76 rfl, zw_p1 13 rfl, fun h => Bool.noConfusion h, fun _ => ⟨zw_p7 75 rfl, Or.inr (zw_s6 13 rfl)⟩⟩, List.forall_mem_cons.mpr ⟨⟨zw_p7 72 rfl, zw_p1 13 rfl, fun h => Bool.noConfusion h, fun _ => ⟨zw_p7 71 rfl, Or.inr (zw_s6 12 rfl)⟩⟩, List.forall_mem_cons.mpr ⟨⟨zw_p7 47 rfl, zw_p1 13 rfl, fun h => Bool.noConfusion h, fun _ => ⟨zw_p7 46 rfl, Or.inr (zw_s6 6 rfl)⟩⟩, List.forall_mem_cons.mpr ⟨⟨zw_p7 222 rfl, zw_p1 13 rfl, fun h => Bool.noConfusion h, fun _ => ⟨zw_p7 221 rfl, Or.inr (zw_s8 6 rfl)⟩⟩, List.forall_mem_cons.mpr ⟨⟨zw_p7 210 rfl, zw_p1 13 rfl, fun h => Bool.noConfusion h, fun _ => ⟨zw_p7 209 rfl, Or.inr (zw_s8 4 rfl)⟩⟩, List.forall_mem_cons.mpr ⟨⟨zw_p7 206 rfl, zw_p1 13 rfl, fun h => Bool.noConfusion h, fun _ => ⟨zw_p7 204 rfl, Or.inr (zw_p7 205 rfl)⟩⟩, List.forall_mem_cons.mpr ⟨⟨zw_p7 218 rfl, zw_p1 13 rfl, fun h => Bool.noConfusion h, fun _ => ⟨zw_p7 217 rfl, Or.inr (zw_s8 5 rfl)⟩⟩, List.forall_mem_cons.mpr ⟨⟨zw_p7 226 rfl, zw_p1 13 rfl, fun h => Bool.noConfusion h, fun _ => ⟨zw_p7 225 rfl, Or.inr (zw_s8 7 rfl)⟩⟩, List.forall_mem_cons.mpr ⟨⟨zw_p7 214 rfl, zw_p1 13 rfl, fun h => Bool.noConfusion h, fun _ => ⟨zw_p7 212 rfl, Or.inr (zw_p7 213 rfl)⟩⟩, List.forall_mem_cons.mpr ⟨⟨zw_p7 234 rfl, zw_p1 13 rfl, fun h => Bool.noConfusion h, fun _ => ⟨zw_p7 233 rfl, Or.inr (zw_s8 8 rfl)⟩⟩, List.forall_mem_cons.mpr ⟨⟨zw_p7 230 rfl, zw_p1 13 rfl, fun h => Bool.noConfusion h, fun _ => ⟨zw_p7 228 rfl, Or.inr (zw_p7 229 rfl)⟩⟩, fun _ h => absurd h List.not_mem_nil⟩⟩⟩⟩⟩⟩⟩⟩⟩⟩⟩⟩⟩⟩⟩⟩
set_option maxRecDepth 100000 in
theorem zm_MTo18 : ∀ q ∈ zm_MT18, zm_okP q := List.forall_mem_cons.mpr ⟨⟨zw_p7 238 rfl, zw_p1 13 rfl, fun h => Bool.noConfusion h, fun _ => ⟨zw_p7 236 rfl, Or.inr (zw_p7 237 rfl)⟩⟩, List.forall_mem_cons.mpr ⟨⟨zw_p8 6 rfl, zw_p1 13 rfl, fun h => Bool.noConfusion h, fun _ => ⟨zw_p8 5 rfl, Or.inr (zw_s8 9 rfl)⟩⟩, List.forall_mem_cons.mpr ⟨⟨zw_p8 2 rfl, zw_p1 13 rfl, fun h => Bool.noConfusion h, fun _ => ⟨zw_p8 0 rfl, Or.inr (zw_p8 1 rfl)⟩⟩, List.forall_mem_cons.mpr ⟨⟨zw_p8 20 rfl, zw_p1 13 rfl, fun _ => zw_p8 19 rfl, fun h => Bool.noConfusion h⟩, List.forall_mem_cons.mpr ⟨⟨zw_p8 17 rfl, zw_p1 13 rfl, fun h => Bool.noConfusion h, fun _ => ⟨zw_p8 16 rfl, Or.inr (zw_s8 10 rfl)⟩⟩, List.forall_mem_cons.mpr ⟨⟨zw_p8 13 rfl, zw_p1 13 rfl, fun _ => zw_p8 12 rfl, fun h => Bool.noConfusion h⟩, List.forall_mem_cons.mpr ⟨⟨zw_p8 10 rfl, zw_p1 13 rfl, fun h => Bool.noConfusion h, fun _ => ⟨zw_p8 8 rfl, Or.inr (zw_p8 9 rfl)⟩⟩, List.forall_mem_cons.mpr ⟨⟨zw_p8 27 rfl, zw_p1 13 rfl, fun _ => zw_p8 26 rfl, fun h => Bool.noConfusion h⟩, List.forall_mem_cons.mpr ⟨⟨zw_p8 24 rfl, zw_p1 13 rfl, fun h => Bool.noConfusion h, fun _ => ⟨zw_p8 22 rfl, Or.inr (zw_p8 23 rfl)⟩⟩, List.forall_mem_cons.mpr ⟨⟨zw_p8 36 rfl, zw_p1 13 rfl, fun h => Bool.noConfusion h, fun _ => ⟨zw_p8 35 rfl, Or.inr (zw_s8 11 rfl)⟩⟩, List.forall_mem_cons.mpr ⟨⟨zw_p8 40 rfl, zw_p1 13 rfl, fun h => Bool.noConfusion h, fun _ => ⟨zw_p8 39 rfl, Or.inr (zw_s8 12 rfl)⟩⟩, List.forall_mem_cons.mpr ⟨⟨zw_p8 31 rfl, zw_p1 13 rfl, fun h => Bool.noConfusion h, fun _ => ⟨zw_p8 29 rfl, Or.inr (zw_p8 30 rfl)⟩⟩, List.forall_mem_cons.mpr ⟨⟨zw_p8 44 rfl, zw_p1 13 rfl, fun h => Bool.noConfusion h, fun _ => ⟨zw_p8 42 rfl, Or.inr (zw_p8 43 rfl)⟩⟩, List.forall_mem_cons.mpr ⟨⟨zw_p8 48 rfl, zw_p1 13 rfl, fun h => Bool.noConfusion h, fun _ => ⟨zw_p8 46 rfl, Or.inr (zw_p8 47 rfl)⟩⟩, List.forall_mem_cons.mpr ⟨⟨zw_p8 52 rfl, zw_p1 13 rfl, fun h => Bool.noConfusion h, fun _ => ⟨zw_p8 50 rfl, Or.inr (zw_p8 51 rfl)⟩⟩, List.forall_mem_cons.mpr ⟨⟨zw_p8 57 rfl, zw_p1 13 rfl, fun h => Bool.noConfusion h, fun _ => ⟨zw_p8 55 rfl, Or.inr (zw_p8 56 rfl)⟩⟩, fun _ h => absurd h List.not_mem_nil⟩⟩⟩⟩⟩⟩⟩⟩⟩⟩⟩⟩⟩⟩⟩⟩
set_option maxRecDepth 100000 in
theorem zm_MTo19 : ∀ q ∈ zm_MT19, zm_okP q := List.forall_mem_cons.mpr ⟨⟨zw_p8 61 rfl, zw_p1 13 rfl, fun h => Bool.noConfusion h, fun _ => ⟨zw_p8 59 rfl, Or.inr (zw_p8 60 rfl)⟩⟩, List.forall_mem_cons.mpr ⟨⟨zw_p8 65 rfl, zw_p1 13 rfl, fun h => Bool.noConfusion h, fun _ => ⟨zw_p8 63 rfl, Or.inr (zw_p8 64 rfl)⟩⟩, List.forall_mem_cons.mpr ⟨⟨zw_p8 77 rfl, zw_p1 13 rfl, fun h => Bool.noConfusion h, fun _ => ⟨zw_p8 76 rfl, Or.inr (zw_s8 14 rfl)⟩⟩, List.forall_mem_cons.mpr ⟨⟨zw_p8 73 rfl, zw_p1 13 rfl, fun h => Bool.noConfusion h, fun _ => ⟨zw_p8 71 rfl, Or.inr (zw_p8 72 rfl)⟩⟩, List.forall_mem_cons.mpr ⟨⟨zw_p5 23 rfl, zw_p1 17 rfl, fun _ => zw_p5 22 rfl, fun h => Bool.noConfusion h⟩, List.forall_mem_cons.mpr ⟨⟨zw_p2 157 rfl, zw_p1 14 rfl, fun _ => zw_p2 156 rfl, fun h => Bool.noConfusion h⟩, List.forall_mem_cons.mpr ⟨⟨zw_p2 188 rfl, zw_p1 14 rfl, fun _ => zw_p2 187 rfl, fun h => Bool.noConfusion h⟩, List.forall_mem_cons.mpr ⟨⟨zw_p2 211 rfl, zw_p1 15 rfl, fun _ => zw_p2 210 rfl, fun h => Bool.noConfusion h⟩, fun _ h => absurd h List.not_mem_nil⟩⟩⟩⟩⟩⟩⟩⟩
theorem zm_MT_okP : ∀ q ∈ zm_MT, zm_okP q := List.forall_mem_append.mpr ⟨zm_MTo0, List.forall_mem_append.mpr ⟨zm_MTo1, List.forall_mem_append.mpr ⟨zm_MTo2, List.forall_mem_append.mpr ⟨zm_MTo3, List.forall_mem_append.mpr ⟨zm_MTo4, List.forall_mem_append.mpr ⟨zm_MTo5, List.forall_mem_append.mpr ⟨zm_MTo6, List.forall_mem_append.mpr ⟨zm_MTo7, List.forall_mem_append.mpr ⟨zm_MTo8, List.forall_mem_append.mpr ⟨zm_MTo9, List.forall_mem_append.mpr ⟨zm_MTo10, List.forall_mem_append.mpr ⟨zm_MTo11, List.forall_mem_append.mpr ⟨zm_MTo12, List.forall_mem_append.mpr ⟨zm_MTo13, List.forall_mem_append.mpr ⟨zm_MTo14, List.forall_mem_append.mpr ⟨zm_MTo15, List.forall_mem_append.mpr ⟨zm_MTo16, List.forall_mem_append.mpr ⟨zm_MTo17, List.forall_mem_append.mpr ⟨zm_MTo18, zm_MTo19⟩⟩⟩⟩⟩⟩⟩⟩⟩⟩⟩⟩⟩⟩⟩⟩⟩⟩⟩
set_option maxRecDepth 100000 in
theorem zm_MT_ok : zm_MT.all zm_okD = true := by decide +kernel
theorem zm_cl_at (c : Nat) (h : c < 13) : vwCl[c]? = some (zm_cn c, zm_tx c, zm_fn c) := by
  rcases (show c = 0 ∨ c = 1 ∨ c = 2 ∨ c = 3 ∨ c = 4 ∨ c = 5 ∨ c = 6 ∨ c = 7 ∨ c = 8 ∨ c = 9 ∨ c = 10 ∨ c = 11 ∨ c = 12 by omega) with rfl | rfl | rfl | rfl | rfl | rfl | rfl | rfl | rfl | rfl | rfl | rfl | rfl <;> rfl
def zm_kt (k : Nat) (ty : FieldType) : Bool := match k, ty with
  | 0, .int => true
  | 1, .boolean => true
  | 2, .object _ => true
  | 2, .array _ => true
  | _, _ => false
set_option maxRecDepth 100000 in
theorem zm_fields : (List.range 13).all (fun c => (u_ws (zm_cn c) (zm_tx c) (zm_fn c)).all (fun w => decide (w ∈ lw_tbl)) && (List.range (zm_fn c)).all (fun k => decide (parseFieldDescriptor (zm_tx c k).2.2.1 = some (zm_ty c k)) && zm_kt (zm_fk c k) (zm_ty c k) && decide ((zm_tx c k).1 = zm_cn c) && (List.range (zm_fn c)).all (fun b => decide (k = b) || decide ((zm_tx c k).2.1 ≠ (zm_tx c b).2.1)))) = true := by decide +kernel
end
section
/-! the small machine: ints and references (virtual addresses), memory of int slots and reference slots, shapes that stay -/
abbrev zm_V : Type := Int32 ⊕ Option Nat
abbrev zm_M : Type := (Nat → Nat → Int32) × (Nat → Nat → Option Nat)
abbrev zm_T : Type := List (Nat × Nat)
abbrev zm_L : Type := List (Option zm_V)
abbrev zm_G : Type := ClassId × ClassId × ClassId
/-- place, instruction, two numbers, a constant, cases -/
abbrev zm_O : Type := Nat × Instr × Nat × Nat × Int32 × List (Int32 × Nat)
/-- a block: where it begins, its instructions, where it goes on -/
abbrev zm_B : Type := Nat × List zm_O × Nat
abbrev zm_R : Type := Option zm_V → zm_M → Prop
def zm_v (ad : Nat → Nat) : zm_V → Value
  | .inl x => .int x
  | .inr r => va_rf (r.map ad)
def zm_fv (ad : Nat → Nat) (c a : Nat) (h : zm_M) (k : Nat) : Value := if zm_fk c k = 2 then va_rf ((h.2 a k).map ad) else .int (h.1 a k)
/-- a cell by its shape: 0 ints, 1 bytes, 2 references to summaries, 3 + c an object of class c -/
def zm_e (G : zm_G) (ad : Nat → Nat) (sh : Nat × Nat) (a : Nat) (h : zm_M) : va_E := match sh.1 with
  | 0 => .inl (G.1, sh.2, .inl (h.1 a))
  | 1 => .inl (G.2.1, sh.2, .inl (h.1 a))
  | 2 => .inl (G.2.2, sh.2, .inr (.inr (.inr (.inr (fun j => (h.2 a j).map ad)))))
  | c + 3 => .inr (c, (List.range (zm_fn c)).map (zm_fv ad c a h))
def zm_sh (T : zm_T) (a : Nat) : Nat × Nat := T.getD a (1000, 0)
def zm_w (G : zm_G) (ad : Nat → Nat) (T : zm_T) (h : zm_M) : va_W := (List.range T.length).map (fun a => (ad a, zm_e G ad (zm_sh T a) a h))
def zm_tys (G : zm_G) : List (ClassId × FieldType) := [(G.1, .int), (G.2.1, .byte), (G.2.2, .object RX8)]
def zm_si (h : zm_M) (a k : Nat) (x : Int32) : zm_M := (fun b j => if b = a ∧ j = k then x else h.1 b j, h.2)
def zm_sr (h : zm_M) (a k : Nat) (r : Option Nat) : zm_M := (h.1, fun b j => if b = a ∧ j = k then r else h.2 b j)
def zm_cp (h : zm_M) (a0 sp a dp n : Nat) : zm_M := (fun b j => if b = a ∧ dp ≤ j ∧ j < dp + n then h.1 a0 (sp + (j - dp)) else h.1 b j, h.2)
theorem zm_lt {T : zm_T} {a : Nat} (h : (zm_sh T a).1 < 1000) : a < T.length := by
  rcases Nat.lt_or_ge a T.length with q | q
  · exact q
  · unfold zm_sh at h
    rw [List.getD_eq_getElem?_getD, List.getElem?_eq_none q] at h
    exact absurd h (by decide)
theorem zm_w_at {G : zm_G} {ad : Nat → Nat} {T : zm_T} {h : zm_M} {a : Nat} (ha : a < T.length) : (zm_w G ad T h)[a]? = some (ad a, zm_e G ad (zm_sh T a) a h) := by
  unfold zm_w
  rw [List.getElem?_map, List.getElem?_range ha]
  rfl
theorem zm_w_of {G : zm_G} {ad : Nat → Nat} {T : zm_T} {h : zm_M} {a : Nat} {q : Nat × va_E} (hq : (zm_w G ad T h)[a]? = some q) : a < T.length ∧ q = (ad a, zm_e G ad (zm_sh T a) a h) := by
  have hl : a < T.length := by
    have := (List.getElem?_eq_some_iff.mp hq).1
    unfold zm_w at this
    simpa using this
  rw [zm_w_at hl] at hq
  exact ⟨hl, (Option.some.inj hq).symm⟩
theorem zm_e_congr {G : zm_G} {ad : Nat → Nat} {sh : Nat × Nat} {b : Nat} {h h' : zm_M} (h1 : h'.1 b = h.1 b) (h2 : h'.2 b = h.2 b) : zm_e G ad sh b h' = zm_e G ad sh b h := by
  have e : zm_fv ad = zm_fv ad := rfl
  unfold zm_e
  split
  · rw [h1]
  · rw [h1]
  · rw [h2]
  · have : ∀ c, zm_fv ad c b h' = zm_fv ad c b h := fun c => by
      funext k
      unfold zm_fv
      rw [h1, h2]
    rw [this]
theorem zm_w_upd {G : zm_G} {ad : Nat → Nat} {T : zm_T} {h h' : zm_M} {a : Nat} {e' : va_E} (ho : ∀ b, b ≠ a → h'.1 b = h.1 b ∧ h'.2 b = h.2 b) (he : e' = zm_e G ad (zm_sh T a) a h') : (zm_w G ad T h).set a (ad a, e') = zm_w G ad T h' := by
  subst he
  apply List.ext_getElem?
  intro b
  by_cases hb : b < T.length
  · rw [zm_w_at hb]
    by_cases hab : a = b
    · subst hab
      rw [List.getElem?_set_self (by unfold zm_w; simpa using hb)]
    · rw [List.getElem?_set_ne hab, zm_w_at hb, zm_e_congr (ho b (Ne.symm hab)).1 (ho b (Ne.symm hab)).2]
  · rw [List.getElem?_eq_none (by unfold zm_w; simp; omega), List.getElem?_eq_none (by unfold zm_w; simp; omega)]
theorem zm_w_D {A : Nat → Prop} {G : zm_G} {ad : Nat → Nat} {T : zm_T} {h h' : zm_M} (hD : va_D A (zm_w G ad T h)) : va_D A (zm_w G ad T h') := by
  refine ⟨fun i j p q hi hj hpq => ?_, fun k q hk => ?_⟩
  · obtain ⟨l1, rfl⟩ := zm_w_of hi
    obtain ⟨l2, rfl⟩ := zm_w_of hj
    exact hD.1 i j _ _ (zm_w_at l1) (zm_w_at l2) hpq
  · obtain ⟨l1, rfl⟩ := zm_w_of hk
    exact hD.2 k (ad k, zm_e G ad (zm_sh T k) k h) (zm_w_at l1)
/-! room, words, contracts -/
def zm_rm (d : Nat) : Room := { frames := d + 1, cells := 0, slots := 0, locals := 64 * (d + 1) }
def zm_ws (q : zm_D) : List Cond := Cond.code q.1 q.2.1 q.2.2.1 q.2.2.2.1 :: lw_tbl.filter goodWord
def zm_N (U : State) : Prop := (∀ q ∈ zm_FL, q.2.2.2.2 ≠ 0 → va_Nw (zm_fw q) U) ∧ ∀ q ∈ zm_ML, q.2.2.2 ≠ 0 → va_Nw (zm_mw q) U
def zm_Q (D : va_G) (G : zm_G) (ad : Nat → Nat) (T : zm_T) (R : zm_R) (A : Nat → Prop) : Array Value → State → Outcome → State → Prop := fun _ st o t => (∃ (r : Option zm_V) (h' : zm_M), R r h' ∧ o = .returned (r.map (zm_v ad)) ∧ va_P D vwCl (zm_w G ad T h') t.heap) ∧ va_F A st t
def zm_Pr (D : va_G) (G : zm_G) (ad : Nat → Nat) (T : zm_T) (h : zm_M) (sz : Nat) (U : State) : Prop := U.heap.size = sz ∧ va_P D vwCl (zm_w G ad T h) U.heap ∧ va_K D vwCl (zm_tys G) U ∧ va_D (fun _ => True) (zm_w G ad T h) ∧ zm_N U
/-- from memory h, method j with these arguments returns, and R holds of its answer and the memory behind it; d calls deep at most -/
def zm_C (d : Nat) (T : zm_T) (j : Nat) (as : List zm_V) (h : zm_M) (R : zm_R) : Prop := ∃ (d0 : Nat) (R0 : zm_R), d0 ≤ d ∧ (∀ r h', R0 r h' → R r h') ∧ ∀ (l : Launch) (D : va_G) (G : zm_G) (ad : Nat → Nat) (sz : Nat), Met l (zm_md j).1 (zm_ws (zm_md j)) (zm_rm d0) (va_Pc (as.map (zm_v ad)) (zm_Pr D G ad T h sz)) (zm_Q D G ad T R0 (va_A (zm_w G ad T h) sz)) 0 0 (va_A (zm_w G ad T h) sz)
theorem zm_C.mono {d d' : Nat} {T : zm_T} {j : Nat} {as : List zm_V} {h : zm_M} {R R' : zm_R} (hc : zm_C d T j as h R) (hd : d ≤ d') (hR : ∀ r h', R r h' → R' r h') : zm_C d' T j as h R' := by
  obtain ⟨d0, R0, h1, h2, h3⟩ := hc
  exact ⟨d0, R0, Nat.le_trans h1 hd, fun r h' q => hR r h' (h2 r h' q), h3⟩
def zm_X (p : Program) (s : State) (m : MethodId) (args : Array Value) (meth : Method) (c : Code) (q : zm_D) (D : va_G) (G : zm_G) (A : Nat → Prop) : Prop :=
  p.tables.exec = Jvm.exec ∧ c.code = q.2.1 ∧ c.maxLocals = q.2.2.1 ∧ meth.sig.returnType = q.2.2.2.1 ∧ meth.locks = false ∧ s.vm.findClass q.1.cls = some m.cls ∧ (∀ w ∈ lw_tbl.filter goodWord, w.before args s = true) ∧ va_K D vwCl (zm_tys G) s ∧ zm_N s ∧ ∀ n : Nat, s.heap.size ≤ n → A n
def zm_lr (ad : Nat → Nat) (n : Nat) (ls : zm_L) (lr : Array Slot) : Prop := lr.size = n ∧ lv_wf lr ∧ ∀ (i : Nat) (v : zm_V), ls[i]? = some (some v) → lr[i]? = some (.val (zm_v ad v))
/-- the machine in a frame of method q at pc comes to its return with R -/
def zm_W (q : zm_D) (d : Nat) (T : zm_T) (R : zm_R) (pc : Nat) (ls : zm_L) (st : List zm_V) (h : zm_M) : Prop :=
  ∀ (p : Program) (l : Launch) (e : Env) (s : State) (m : MethodId) (args : Array Value) (below : List Frame) (meth : Method) (c : Code) (D : va_G) (G : zm_G) (ad : Nat → Nat) (A : Nat → Prop) (H : Heap) (locs : List Loc) (lr : Array Slot),
    zm_X p s m args meth c q D G A → va_P D vwCl (zm_w G ad T h) H → va_D A (zm_w G ad T h) → va_S A s.heap H locs → zm_lr ad q.2.2.1 ls lr →
    W p l e (zm_rm d) s m args below meth c H locs 0 0 (MQ below (zm_Q D G ad T R A) args s 0 0 A) (F0 m pc lr (st.map (zm_v ad)))
/-! what an instruction asks -/
def zm_li : zm_L → Nat → (Int32 → Prop) → Prop
  | some (.inl x) :: _, 0, K => K x
  | _ :: r, n + 1, K => zm_li r n K
  | _, _, _ => False
def zm_la : zm_L → Nat → (Option Nat → Prop) → Prop
  | some (.inr x) :: _, 0, K => K x
  | _ :: r, n + 1, K => zm_la r n K
  | _, _, _ => False
def zm_pk : Nat → List zm_V → List zm_V → (List zm_V → List zm_V → Prop) → Prop
  | 0, st, acc, K => K acc st
  | n + 1, v :: st, acc, K => zm_pk n st (v :: acc) K
  | _ + 1, [], _, _ => False
def zm_rc (T : zm_T) (c : Nat) : List zm_V → Prop
  | .inr (some a) :: _ => (zm_sh T a).1 = c + 3
  | _ => False
def zm_sw (J : Nat → Prop) (x : Int32) (dflt : Nat) : List (Int32 × Nat) → Prop
  | [] => J dflt
  | (k, t) :: r => (x = k → J t) ∧ (¬ x = k → zm_sw J x dflt r)
def zm_br (c : ClassFile.Cond) (x y : Int32) (A B : Prop) : Prop := match c with
  | .eq => (x = y → A) ∧ (¬ x = y → B)
  | .ne => (¬ x = y → A) ∧ (x = y → B)
  | .lt => (x < y → A) ∧ (¬ x < y → B)
  | .ge => (y ≤ x → A) ∧ (¬ y ≤ x → B)
  | .gt => (y < x → A) ∧ (¬ y < x → B)
  | .le => (x ≤ y → A) ∧ (¬ x ≤ y → B)
/-- one instruction: J where it jumps, K where it goes on, R where it returns -/
def zm_st (d : Nat) (T : zm_T) (R : zm_R) (J : Nat → zm_L → List zm_V → zm_M → Prop) (o : zm_O) (K : zm_L → List zm_V → zm_M → Prop) (ls : zm_L) (st : List zm_V) (h : zm_M) : Prop :=
  match o with
  | (_, i, a, b, v, cs) => match i with
    | .iconst _ => K ls (.inl v :: st) h
    | .bipush _ => K ls (.inl v :: st) h
    | .sipush _ => K ls (.inl v :: st) h
    | .ldc _ => K ls (.inl v :: st) h
    | .ldc_w _ => K ls (.inl v :: st) h
    | .aconst_null => K ls (.inr none :: st) h
    | .iload _ => zm_li ls a (fun x => K ls (.inl x :: st) h)
    | .iload_n _ => zm_li ls a (fun x => K ls (.inl x :: st) h)
    | .aload _ => zm_la ls a (fun x => K ls (.inr x :: st) h)
    | .aload_n _ => zm_la ls a (fun x => K ls (.inr x :: st) h)
    | .istore _ => match st with | .inl x :: r => K (ls.set a (some (.inl x))) r h | _ => False
    | .istore_n _ => match st with | .inl x :: r => K (ls.set a (some (.inl x))) r h | _ => False
    | .astore _ => match st with | .inr x :: r => K (ls.set a (some (.inr x))) r h | _ => False
    | .astore_n _ => match st with | .inr x :: r => K (ls.set a (some (.inr x))) r h | _ => False
    | .iinc _ _ => zm_li ls a (fun x => K (ls.set a (some (.inl (x + v)))) st h)
    | .iadd => match st with | .inl y :: .inl x :: r => K ls (.inl (x + y) :: r) h | _ => False
    | .isub => match st with | .inl y :: .inl x :: r => K ls (.inl (x - y) :: r) h | _ => False
    | .imul => match st with | .inl y :: .inl x :: r => K ls (.inl (x * y) :: r) h | _ => False
    | .iand => match st with | .inl y :: .inl x :: r => K ls (.inl (x &&& y) :: r) h | _ => False
    | .ior => match st with | .inl y :: .inl x :: r => K ls (.inl (x ||| y) :: r) h | _ => False
    | .ixor => match st with | .inl y :: .inl x :: r => K ls (.inl (x ^^^ y) :: r) h | _ => False
    | .idiv => match st with | .inl y :: .inl x :: r => ¬ y = 0 ∧ K ls (.inl (x / y) :: r) h | _ => False
    | .irem => match st with | .inl y :: .inl x :: r => ¬ y = 0 ∧ K ls (.inl (x - x / y * y) :: r) h | _ => False
    | .ishl => match st with | .inl y :: .inl x :: r => K ls (.inl (x <<< (y &&& 31)) :: r) h | _ => False
    | .ishr => match st with | .inl y :: .inl x :: r => K ls (.inl (x >>> (y &&& 31)) :: r) h | _ => False
    | .iushr => match st with | .inl y :: .inl x :: r => K ls (.inl (x.toUInt32 >>> (y.toUInt32 &&& Int32.toUInt32 31)).toInt32 :: r) h | _ => False
    | .i2b => match st with | .inl x :: r => K ls (.inl x.toInt8.toInt32 :: r) h | _ => False
    | .dup => match st with | x :: r => K ls (x :: x :: r) h | _ => False
    | .pop => match st with | _ :: r => K ls r h | _ => False
    | .dup2 => match st with | x :: y :: r => K ls (x :: y :: x :: y :: r) h | _ => False
    | .goto _ => J a ls st h
    | .ifCond c _ => match st with | .inl x :: r => zm_br c x 0 (J a ls r h) (K ls r h) | _ => False
    | .if_icmp c _ => match st with | .inl y :: .inl x :: r => zm_br c x y (J a ls r h) (K ls r h) | _ => False
    | .ifnull _ => match st with | .inr x :: r => (x = none → J a ls r h) ∧ (¬ x = none → K ls r h) | _ => False
    | .ifnonnull _ => match st with | .inr x :: r => (¬ x = none → J a ls r h) ∧ (x = none → K ls r h) | _ => False
    | .tableswitch _ _ _ _ => match st with | .inl x :: r => zm_sw (fun t => J t ls r h) x a cs | _ => False
    | .lookupswitch _ _ => match st with | .inl x :: r => zm_sw (fun t => J t ls r h) x a cs | _ => False
    | .getfield _ => match cs with
      | [] => match st with | .inr (some q) :: r => (zm_sh T q).1 = a + 3 ∧ K ls (.inl (h.1 q b) :: r) h | _ => False
      | _ :: _ => match st with | .inr (some q) :: r => (zm_sh T q).1 = a + 3 ∧ K ls (.inr (h.2 q b) :: r) h | _ => False
    | .putfield _ => match cs with
      | [] => match st with | .inl x :: .inr (some q) :: r => (zm_sh T q).1 = a + 3 ∧ K ls r (zm_si h q b x) | _ => False
      | [_] => match st with | .inr x :: .inr (some q) :: r => (zm_sh T q).1 = a + 3 ∧ K ls r (zm_sr h q b x) | _ => False
      | _ => match st with | .inl x :: .inr (some q) :: r => (zm_sh T q).1 = a + 3 ∧ (x = 0 ∨ x = 1) ∧ K ls r (zm_si h q b x) | _ => False
    | .arraylength => match st with | .inr (some q) :: r => (zm_sh T q).1 = 0 ∧ K ls (.inl (Int32.ofNat (zm_sh T q).2) :: r) h | _ => False
    | .iaload => match st with | .inl x :: .inr (some q) :: r => (zm_sh T q).1 = 0 ∧ vp_in x (zm_sh T q).2 ∧ K ls (.inl (h.1 q x.toNatClampNeg) :: r) h | _ => False
    | .baload => match st with | .inl x :: .inr (some q) :: r => (zm_sh T q).1 = 1 ∧ vp_in x (zm_sh T q).2 ∧ K ls (.inl (h.1 q x.toNatClampNeg) :: r) h | _ => False
    | .aaload => match st with | .inl x :: .inr (some q) :: r => (zm_sh T q).1 = 2 ∧ vp_in x (zm_sh T q).2 ∧ K ls (.inr (h.2 q x.toNatClampNeg) :: r) h | _ => False
    | .iastore => match st with | .inl y :: .inl x :: .inr (some q) :: r => (zm_sh T q).1 = 0 ∧ vp_in x (zm_sh T q).2 ∧ K ls r (zm_si h q x.toNatClampNeg y) | _ => False
    | .bastore => match st with | .inl y :: .inl x :: .inr (some q) :: r => (zm_sh T q).1 = 1 ∧ vp_in x (zm_sh T q).2 ∧ K ls r (zm_si h q x.toNatClampNeg (vp_nar .byte y)) | _ => False
    | .aastore => match st with | .inr (some y) :: .inl x :: .inr (some q) :: r => (zm_sh T q).1 = 2 ∧ (zm_sh T y).1 = 11 ∧ vp_in x (zm_sh T q).2 ∧ K ls r (zm_sr h q x.toNatClampNeg (some y)) | _ => False
    | .invokevirtual _ => match cs with
      | (_, c) :: _ => zm_pk (b + 1) st [] (fun as r => r.length ≤ 8 ∧ zm_rc T c as ∧ zm_C d T a as h (fun w h' => K ls (w.toList ++ r) h'))
      | [] => False
    | .invokestatic _ => match cs with
      | [] => zm_pk b st [] (fun as r => r.length ≤ 8 ∧ zm_C d T a as h (fun w h' => K ls (w.toList ++ r) h'))
      | [_, _] => match st with | .inl y :: .inl x :: r => r.length ≤ 8 ∧ K ls (.inl (if x < y then y else x) :: r) h | _ => False
      | [_, _, _] => match st with | .inl y :: .inl x :: r => r.length ≤ 8 ∧ K ls (.inl (if y < x then y else x) :: r) h | _ => False
      | _ => match st with | .inl n :: .inl y :: .inr (some q) :: .inl x :: .inr (some p) :: r => r.length ≤ 8 ∧ (zm_sh T q).1 = 0 ∧ (zm_sh T p).1 = 0 ∧ ¬ x < 0 ∧ ¬ y < 0 ∧ ¬ n < 0 ∧ x.toNatClampNeg + n.toNatClampNeg ≤ (zm_sh T p).2 ∧ y.toNatClampNeg + n.toNatClampNeg ≤ (zm_sh T q).2 ∧ K ls r (zm_cp h p x.toNatClampNeg q y.toNatClampNeg n.toNatClampNeg) | _ => False
    | .ireturn => match b with
      | 0 => match st with | [.inl x] => R (some (.inl x)) h | _ => False
      | _ + 1 => match st with | [.inl x] => (x = 0 ∨ x = 1) ∧ R (some (.inl x)) h | _ => False
    | .areturn => match st with | [.inr x] => R (some (.inr x)) h | _ => False
    | .return_ => match st with | [] => R none h | _ => False
    | _ => False
def zm_bl (d : Nat) (T : zm_T) (R : zm_R) (J : Nat → zm_L → List zm_V → zm_M → Prop) (fall : Nat) : List zm_O → zm_L → List zm_V → zm_M → Prop
  | [], ls, st, h => J fall ls st h
  | o :: r, ls, st, h => zm_st d T R J o (zm_bl d T R J fall r) ls st h
/-- what is looked at before a block is trusted -/
def zm_okI (q : zm_D) (o : zm_O) : Bool :=
  match o with
  | (pc, i, a, b, v, cs) => match i with
    | .iconst n => decide (Int32.ofInt n = v)
    | .bipush n => decide ((Int8.ofInt n).toInt32 = v)
    | .sipush n => decide ((Int16.ofInt n).toInt32 = v)
    | .ldc k => zm_CL.contains (q.2.2.2.2.1, k, v)
    | .ldc_w k => zm_CL.contains (q.2.2.2.2.1, k, v)
    | .iload k => decide (k = a)
    | .iload_n k => decide (k.val = a)
    | .aload k => decide (k = a)
    | .aload_n k => decide (k.val = a)
    | .istore k => decide (k = a) && decide (a < q.2.2.1)
    | .istore_n k => decide (k.val = a) && decide (a < q.2.2.1)
    | .astore k => decide (k = a) && decide (a < q.2.2.1)
    | .astore_n k => decide (k.val = a) && decide (a < q.2.2.1)
    | .iinc k n => decide (k = a) && decide (Int32.ofInt n = v) && decide (a < q.2.2.1)
    | .goto off => decide ((pc : Int) + off = (a : Int))
    | .ifCond _ off => decide ((pc : Int) + off = (a : Int))
    | .if_icmp _ off => decide ((pc : Int) + off = (a : Int))
    | .ifnull off => decide ((pc : Int) + off = (a : Int))
    | .ifnonnull off => decide ((pc : Int) + off = (a : Int))
    | .tableswitch dflt lo hi offs => decide ((pc : Int) + dflt = (a : Int)) && decide (hi = lo + (cs.length : Int) - 1) && (List.range cs.length).all (fun k => decide (((cs.getD k (0, 0)).1).toInt = lo + (k : Int)) && decide ((offs[k]?).map (fun off => (pc : Int) + off) = some ((cs.getD k (0, 0)).2 : Int)))
    | .lookupswitch dflt ps => decide ((pc : Int) + dflt = (a : Int)) && decide (ps.toList.map (fun z => (z.1, (pc : Int) + z.2)) = cs.map (fun z => (z.1.toInt, (z.2 : Int)))) && (ps.toList.zip (ps.toList.drop 1)).all (fun (x, y) => x.1 < y.1)
    | .getfield k => (zm_FL.contains (q.2.2.2.2.1, k, a, b, 0) || zm_FL.contains (q.2.2.2.2.1, k, a, b, 1)) && decide (a < 13) && decide (b < zm_fn a) && (if zm_fk a b = 2 then decide (cs.length = 1) else decide (cs.length = 0))
    | .putfield k => (zm_FL.contains (q.2.2.2.2.1, k, a, b, 0) || zm_FL.contains (q.2.2.2.2.1, k, a, b, 1)) && decide (a < 13) && decide (b < zm_fn a) && !(zm_ff a b) && (if zm_fk a b = 2 then decide (cs.length = 1) else if zm_fk a b = 1 then decide (cs.length = 2) else decide (cs.length = 0))
    | .invokevirtual k => (zm_ML.contains (q.2.2.2.2.1, k, a, 0) || zm_ML.contains (q.2.2.2.2.1, k, a, 1)) && decide (a < zm_MT.length) && decide ((zm_md a).2.2.2.2.2.1 = b) && !(zm_md a).2.2.2.2.2.2 && decide ((zm_md a).1.name ≠ "<init>") && decide (cs.map (fun z => z.2) = [(zm_md a).2.2.2.2.1]) && decide ((zm_md a).2.2.2.2.1 < 13)
    | .invokestatic k => match cs with
      | [] => (zm_ML.contains (q.2.2.2.2.1, k, a, 0) || zm_ML.contains (q.2.2.2.2.1, k, a, 1)) && decide (a < zm_MT.length) && decide ((zm_md a).2.2.2.2.2.1 = b) && (zm_md a).2.2.2.2.2.2
      | [_, _] => zm_MX.contains (q.2.2.2.2.1, k)
      | [_, _, _] => zm_MN.contains (q.2.2.2.2.1, k)
      | _ => zm_AC.contains (q.2.2.2.2.1, k)
    | .ireturn => if b = 0 then decide (q.2.2.2.1 = some .int) else decide (q.2.2.2.1 = some .boolean)
    | .areturn => match q.2.2.2.1 with | some (.object _) => true | _ => false
    | .return_ => decide (q.2.2.2.1 = none)
    | _ => true
def zm_ln : Instr → Nat
  | .bipush _ => 2
  | .sipush _ => 3
  | .ldc _ => 2
  | .ldc_w _ => 3
  | .iload _ => 2
  | .aload _ => 2
  | .istore _ => 2
  | .astore _ => 2
  | .iinc _ _ => 3
  | .goto _ => 3
  | .ifCond _ _ => 3
  | .if_icmp _ _ => 3
  | .ifnull _ => 3
  | .ifnonnull _ => 3
  | .getfield _ => 3
  | .putfield _ => 3
  | .invokevirtual _ => 3
  | .invokestatic _ => 3
  | .tableswitch _ _ _ _ => 0
  | .lookupswitch _ _ => 0
  | _ => 1
def zm_okL (q : zm_D) (fall : Nat) : Nat → List zm_O → Bool
  | pc, [] => decide (pc = fall)
  | pc, o :: r => match decode q.2.1 pc with
    | .ok (i, n) => decide (o.1 = pc) && decide (o.2.1 = i) && (decide (zm_ln i = 0) || decide (zm_ln i = n)) && zm_okI q o && zm_okL q fall (pc + n) r
    | _ => false
def zm_okG (q : zm_D) (g : List zm_B) : Bool := g.all (fun b => zm_okL q b.2.2 b.1 b.2.1)
end
section
/-! an instruction of the small machine is one of the machine -/
theorem zm_li_spec : ∀ (ls : zm_L) (i : Nat) (K : Int32 → Prop), zm_li ls i K → ∃ x, ls[i]? = some (some (.inl x)) ∧ K x
  | [], i, K, h => by cases i <;> exact h.elim
  | some (.inl x) :: _, 0, K, h => ⟨x, rfl, h⟩
  | some (.inr x) :: _, 0, K, h => h.elim
  | none :: _, 0, K, h => h.elim
  | o :: r, n + 1, K, h => by
    have h : zm_li r n K := by
      cases o with
      | none => exact h
      | some o => cases o <;> exact h
    obtain ⟨x, h1, h2⟩ := zm_li_spec r n K h
    exact ⟨x, by simpa using h1, h2⟩
theorem zm_la_spec : ∀ (ls : zm_L) (i : Nat) (K : Option Nat → Prop), zm_la ls i K → ∃ x, ls[i]? = some (some (.inr x)) ∧ K x
  | [], i, K, h => by cases i <;> exact h.elim
  | some (.inr x) :: _, 0, K, h => ⟨x, rfl, h⟩
  | some (.inl x) :: _, 0, K, h => h.elim
  | none :: _, 0, K, h => h.elim
  | o :: r, n + 1, K, h => by
    have h : zm_la r n K := by
      cases o with
      | none => exact h
      | some o => cases o <;> exact h
    obtain ⟨x, h1, h2⟩ := zm_la_spec r n K h
    exact ⟨x, by simpa using h1, h2⟩
theorem zm_pk_spec : ∀ (n : Nat) (st acc : List zm_V) (K : List zm_V → List zm_V → Prop), zm_pk n st acc K → ∃ as rest, st = as.reverse ++ rest ∧ as.length = n ∧ K (as ++ acc) rest
  | 0, st, acc, K, h => ⟨[], st, rfl, rfl, h⟩
  | n + 1, [], acc, K, h => h.elim
  | n + 1, v :: st, acc, K, h => by
    obtain ⟨as, rest, h1, h2, h3⟩ := zm_pk_spec n st (v :: acc) K h
    refine ⟨as ++ [v], rest, by rw [h1]; simp, by simp [h2], by simpa using h3⟩
theorem zm_cat1 (ad : Nat → Nat) (v : zm_V) : (zm_v ad v).category = 1 := by
  cases v with
  | inl x => rfl
  | inr r => cases r <;> rfl
theorem zm_cat (ad : Nat → Nat) : ∀ (r : List zm_V), ((r.map (zm_v ad)).map (fun v => v.category)).sum = r.length
  | [] => rfl
  | v :: r => by
    simp only [List.map_cons, List.sum_cons, List.length_cons]
    rw [zm_cat ad r, zm_cat1]
    omega
def zm_al (ad : Nat → Nat) (ls : zm_L) : List (Nat × Value) := (List.range ls.length).filterMap (fun i => match ls[i]? with
  | some (some v) => some (i, zm_v ad v)
  | _ => none)
theorem zm_al_in {ad : Nat → Nat} {ls : zm_L} {i : Nat} {v : zm_V} (h : ls[i]? = some (some v)) : (i, zm_v ad v) ∈ zm_al ad ls := by
  unfold zm_al
  rw [List.mem_filterMap]
  refine ⟨i, List.mem_range.mpr (List.getElem?_eq_some_iff.mp h).1, ?_⟩
  rw [h]
theorem zm_al_has {ad : Nat → Nat} {n : Nat} {ls : zm_L} {lr : Array Slot} (h : zm_lr ad n ls lr) : lv_has lr n (zm_al ad ls) := by
  refine ⟨h.1, h.2.1, fun q hq => ?_⟩
  unfold zm_al at hq
  obtain ⟨i, -, hi⟩ := List.mem_filterMap.mp hq
  split at hi
  · next v hv => cases hi; exact h.2.2 i v hv
  · cases hi
theorem zm_al_set {ad : Nat → Nat} {n i : Nat} {ls : zm_L} {v : zm_V} {lr' : Array Slot} (h : lv_has lr' n ((i, zm_v ad v) :: (zm_al ad ls).filter (fun q => !(q.1 == i) && !(q.1 + 1 == i && q.2.category == 2)))) : zm_lr ad n (ls.set i (some v)) lr' := by
  refine ⟨h.1, h.2.1, fun j u hj => ?_⟩
  by_cases hji : i = j
  · subst hji
    have hl : i < ls.length := by
      have := (List.getElem?_eq_some_iff.mp hj).1
      simpa using this
    rw [List.getElem?_set_self hl] at hj
    cases hj
    exact h.2.2 _ List.mem_cons_self
  · rw [List.getElem?_set_ne hji] at hj
    refine h.2.2 (j, zm_v ad u) (List.mem_cons_of_mem _ (List.mem_filter.mpr ⟨zm_al_in hj, ?_⟩))
    have : ¬ j = i := fun q => hji q.symm
    simp [this, zm_cat1]
theorem zm_sw_spec (J : Nat → Prop) (x : Int32) (d : Nat) : ∀ (cs : List (Int32 × Nat)), zm_sw J x d cs → (∃ k, k < cs.length ∧ x = (cs.getD k (0, 0)).1 ∧ J (cs.getD k (0, 0)).2) ∨ ((∀ k, k < cs.length → ¬ x = (cs.getD k (0, 0)).1) ∧ J d)
  | [], h => Or.inr ⟨fun k hk => absurd hk (Nat.not_lt_zero k), h⟩
  | (c, t) :: r, h => by
    by_cases hx : x = c
    · exact Or.inl ⟨0, by simp, hx, h.1 hx⟩
    · rcases zm_sw_spec J x d r (h.2 hx) with ⟨k, h1, h2, h3⟩ | ⟨h1, h2⟩
      · exact Or.inl ⟨k + 1, by simpa using h1, by simpa using h2, by simpa using h3⟩
      · refine Or.inr ⟨fun k hk => ?_, h2⟩
        cases k with
        | zero => exact hx
        | succ k => simpa using h1 k (by simpa using hk)
theorem zm_lk_spec (J : Nat → Prop) (x : Int32) (d pc : Nat) (dflt : Int) (hd : (pc : Int) + dflt = (d : Int)) : ∀ (ps : List (Int × Int)) (cs : List (Int32 × Nat)), ps.map (fun z => (z.1, (pc : Int) + z.2)) = cs.map (fun z => (z.1.toInt, (z.2 : Int))) → zm_sw J x d cs → ∃ t, J t ∧ (pc : Int) + Op.lookupswitch.offset ps dflt x.toInt = (t : Int)
  | [], [], _, h => ⟨d, h, hd⟩
  | [], _ :: _, e, _ => by simp at e
  | _ :: _, [], e, _ => by simp at e
  | (a, o) :: ps, (c, t) :: cs, e, h => by
    simp only [List.map_cons, List.cons.injEq, Prod.mk.injEq] at e
    rw [Op.lookupswitch.offset_cons]
    by_cases hx : x = c
    · rw [if_pos (by rw [e.1.1, hx])]
      exact ⟨t, h.1 hx, e.1.2⟩
    · rw [if_neg (by rw [e.1.1]; exact fun q => hx (Int32.toInt_inj.mp q.symm))]
      exact zm_lk_spec J x d pc dflt hd ps cs e.2 (h.2 hx)
/-! words -/
theorem zm_in {w : Cond} (h : w ∈ lw_tbl) (hg : goodWord w = true) : w ∈ lw_tbl.filter goodWord := List.mem_filter.mpr ⟨h, hg⟩
theorem zm_FLw {q : Nat × Nat × Nat × Nat × Nat} (h : zm_FL.contains q = true) : zm_fw q ∈ lw_tbl := by
  have h1 := List.all_eq_true.mp zm_FL_ok q (List.contains_iff_mem.mp h)
  simp only [Bool.and_eq_true, decide_eq_true_eq] at h1
  exact h1.1.1
theorem zm_MLw {q : Nat × Nat × Nat × Nat} (h : zm_ML.contains q = true) : zm_mw q ∈ lw_tbl := zm_ML_ok q (List.contains_iff_mem.mp h)
theorem zm_CLw {q : Nat × Nat × Int32} (h : zm_CL.contains q = true) : zm_cw q ∈ lw_tbl := by
  have h1 := List.all_eq_true.mp zm_CL_ok q (List.contains_iff_mem.mp h)
  simpa only [decide_eq_true_eq] using h1
theorem zm_N.warm {s U : State} (hW : s.WarmedH U.vm) (h : zm_N s) : zm_N U := by
  refine ⟨fun q hq hn => ?_, fun q hq hn => ?_⟩
  · have h1 := h.1 q hq hn
    unfold zm_fw at h1 ⊢
    rw [if_neg hn] at h1 ⊢
    exact va_Nw.warmF hW h1
  · have h1 := h.2 q hq hn
    unfold zm_mw at h1 ⊢
    rw [if_neg hn] at h1 ⊢
    exact va_Nw.warmM hW h1
theorem zm_N.same {s U : State} (hv : s.vm = U.vm) (h : zm_N s) : zm_N U := by
  refine ⟨fun q hq hn => ?_, fun q hq hn => ?_⟩
  · have h1 := h.1 q hq hn
    unfold zm_fw at h1 ⊢
    rw [if_neg hn] at h1 ⊢
    exact va_Nw.same rfl hv h1
  · have h1 := h.2 q hq hn
    unfold zm_mw at h1 ⊢
    rw [if_neg hn] at h1 ⊢
    exact va_Nw.same rfl hv h1
theorem zm_fields_at {c : Nat} (hc : c < 13) : (∀ w ∈ u_ws (zm_cn c) (zm_tx c) (zm_fn c), w ∈ lw_tbl) ∧ ∀ k, k < zm_fn c → parseFieldDescriptor (zm_tx c k).2.2.1 = some (zm_ty c k) ∧ zm_kt (zm_fk c k) (zm_ty c k) = true ∧ (zm_tx c k).1 = zm_cn c ∧ ∀ b, b < zm_fn c → k ≠ b → (zm_tx c k).2.1 ≠ (zm_tx c b).2.1 := by
  have h1 := List.all_eq_true.mp zm_fields c (List.mem_range.mpr hc)
  simp only [Bool.and_eq_true, List.all_eq_true, decide_eq_true_eq, Bool.or_eq_true, List.mem_range] at h1
  refine ⟨h1.1, fun k hk => ?_⟩
  obtain ⟨⟨⟨a1, a2⟩, a3⟩, a4⟩ := h1.2 k hk
  exact ⟨a1, a2, a3, fun b hb hn => (a4 b hb).resolve_left hn⟩
theorem zm_uin {c : Nat} (hc : c < 13) : ∀ w ∈ u_ws (zm_cn c) (zm_tx c) (zm_fn c), w ∈ lw_tbl.filter goodWord := by
  intro w hw
  refine zm_in ((zm_fields_at hc).1 w hw) ?_
  unfold u_ws at hw
  obtain ⟨k, -, rfl⟩ := List.mem_map.mp hw
  unfold u_lay
  split <;> rfl
theorem zm_e_obj {G : zm_G} {ad : Nat → Nat} {sh : Nat × Nat} {a c : Nat} {h : zm_M} (hs : sh.1 = c + 3) : zm_e G ad sh a h = .inr (c, (List.range (zm_fn c)).map (zm_fv ad c a h)) := by
  unfold zm_e
  rw [hs]
theorem zm_e_0 {G : zm_G} {ad : Nat → Nat} {sh : Nat × Nat} {a : Nat} {h : zm_M} (hs : sh.1 = 0) : zm_e G ad sh a h = .inl (G.1, sh.2, .inl (h.1 a)) := by
  unfold zm_e
  rw [hs]
theorem zm_e_1 {G : zm_G} {ad : Nat → Nat} {sh : Nat × Nat} {a : Nat} {h : zm_M} (hs : sh.1 = 1) : zm_e G ad sh a h = .inl (G.2.1, sh.2, .inl (h.1 a)) := by
  unfold zm_e
  rw [hs]
theorem zm_e_2 {G : zm_G} {ad : Nat → Nat} {sh : Nat × Nat} {a : Nat} {h : zm_M} (hs : sh.1 = 2) : zm_e G ad sh a h = .inl (G.2.2, sh.2, .inr (.inr (.inr (.inr (fun j => (h.2 a j).map ad))))) := by
  unfold zm_e
  rw [hs]
theorem zm_fs_at {n k : Nat} {f : Nat → Value} (h : k < n) : ((List.range n).map f)[k]? = some (f k) := by
  rw [List.getElem?_map, List.getElem?_range h]
  rfl
theorem zm_fs_set {n k : Nat} {f g : Nat → Value} {v : Value} (hk : g k = v) (ho : ∀ j, j ≠ k → g j = f j) : ((List.range n).map f).set k v = (List.range n).map g := by
  apply List.ext_getElem?
  intro j
  by_cases hj : j < n
  · rw [zm_fs_at hj]
    by_cases hjk : k = j
    · subst hjk
      rw [List.getElem?_set_self (by simpa using hj), hk]
    · rw [List.getElem?_set_ne hjk, zm_fs_at hj, ho j (Ne.symm hjk)]
  · rw [List.getElem?_eq_none (by simpa using hj), List.getElem?_eq_none (by simpa using hj)]
theorem zm_A_in {A : Nat → Prop} {ws : va_W} {H0 H : Heap} {locs : List Loc} (hD : va_D A ws) (hS : va_S A H0 H locs) (hA : ∀ n : Nat, H0.size ≤ n → A n) : ∀ q, va_A ws H.size q → A q := by
  intro q h
  rcases h with ⟨k, e, h⟩ | h
  · exact hD.2 k _ h
  · exact hA q (Nat.le_trans hS.1 h)
section ZMS
variable {p : Program} {l : Launch} {e : Env} {s : State} {m : MethodId} {args : Array Value} {below : List Frame} {meth : Method} {c : Code} {H : Heap} {locs : List Loc} {Q : State → Prop}
/-- behind a call -/
theorem zm_call {R : Room} {pc : Nat} {lr : Array Slot} {st0 rest : List Value} {a : Array Value} {D : va_G} {G : zm_G} {ad : Nat → Nat} {T : zm_T} {h : zm_M} {R0 : zm_R} {A : Nat → Prop} {H0 : Heap}
    (hr : va_Run p l e R s m args below meth c H locs 0 0 0 0 (F0 m pc lr st0) rest (zm_Q D G ad T R0 (va_A (zm_w G ad T h) H.size) a) (va_A (zm_w G ad T h) H.size)) (hD : va_D A (zm_w G ad T h)) (hS : va_S A H0 H locs) (hA : ∀ n : Nat, H0.size ≤ n → A n)
    (kk : ∀ (r : Option zm_V) (h' : zm_M) (H1 : Heap) (locs1 : List Loc), R0 r h' → va_P D vwCl (zm_w G ad T h') H1 → va_S A H0 H1 locs1 → W p l e R s m args below meth c H1 locs1 0 0 Q (F0 m (pc + 3) lr ((r.map (zm_v ad)).toList ++ rest))) : W p l e R s m args below meth c H locs 0 0 Q (F0 m pc lr st0) := by
  have hF := zm_A_in hD hS hA
  intro T0 hT X
  obtain ⟨v, st₀, t, T', L, h0, X', hL, e1, e2, ⟨⟨r, h', hR, hv, hP1⟩, hz, hk⟩, st⟩ := hr T0 hT X
  rw [h0] at hz hk
  have hv : v = r.map (zm_v ad) := by cases hv; rfl
  subst hv
  obtain ⟨t2, a1, b1⟩ := kk r h' T'.heap (locs ++ L) hR (by rw [e1]; exact hP1)
    ⟨Nat.le_trans hS.1 (by rw [e1]; exact hz), fun q h1 h2 => by rw [e1, hk q (Nat.lt_of_lt_of_le h1 hS.1) (fun z => h2 (hF q z))]; exact hS.2.1 q h1 h2, fun q hq => by
      rcases List.mem_append.mp hq with h | h
      · exact hS.2.2 q h
      · exact hF _ (hL q h)⟩ T' rfl X'
  exact ⟨t2, st t2 a1, b1⟩
end ZMS
theorem zm_blind {as : List Value} {D : va_G} {G : zm_G} {ad : Nat → Nat} {T : zm_T} {h : zm_M} {sz : Nat} : FrameBlind (va_Pc as (zm_Pr D G ad T h sz)) := fun a U g mk q => by
  obtain ⟨q0, q1, qP, qK, qD, qN⟩ := q
  exact ⟨q0, q1, qP, va_K.moved (u := U) (U := U.calling g mk a) (Vm.Alike.refl U.vm) qK, qD, zm_N.same (s := U) (U := U.calling g mk a) rfl qN⟩
theorem zm_okD_at {j : Nat} (hj : j < zm_MT.length) : zm_okD (zm_md j) = true ∧ zm_okP (zm_md j) := by
  have hm : zm_md j ∈ zm_MT := by
    unfold zm_md
    rw [List.getD_eq_getElem?_getD, List.getElem?_eq_getElem hj]
    exact List.getElem_mem hj
  exact ⟨List.all_eq_true.mp zm_MT_ok _ hm, zm_MT_okP _ hm⟩
theorem zm_params {y : MethodName} {n : Nat} (h : (parseMethodDescriptor y.desc).map (fun d => d.parameters.length) = some n) : ∀ sig, parseMethodDescriptor y.desc = some sig → n = sig.parameters.length := by
  intro sig hs
  rw [hs] at h
  exact (Option.some.inj h).symm
theorem zm_ws_good {args : Array Value} {s : State} {q : zm_D} (hts : ∀ w ∈ lw_tbl.filter goodWord, w.before args s = true) (hc : Cond.code q.1 q.2.1 q.2.2.1 q.2.2.2.1 ∈ lw_tbl) : ∀ w ∈ zm_ws q, ∀ (a' : Array Value) (U : State), s.WarmedH U.vm → w.before a' U = true := by
  refine pay_in hts (fun w hw => ?_)
  have : w ∈ lw_tbl.filter goodWord := by
    rcases List.mem_cons.mp hw with h | h
    · subst h
      exact zm_in hc rfl
    · exact h
  exact ⟨this, good_of_word (List.mem_filter.mp this).2⟩
end
section
/-! the frames of the small machine, instruction by instruction -/
theorem zm_dec {q : zm_D} {pc n k : Nat} {i : Instr} (h : decode q.2.1 pc = .ok (i, n)) (hn : zm_ln i = 0 ∨ zm_ln i = n) (hk : zm_ln i = k) (h0 : k ≠ 0) : decode q.2.1 pc = .ok (i, k) ∧ n = k := by
  rcases hn with hn | hn
  · exact absurd (hk.symm.trans hn) h0
  · have e : n = k := hn.symm.trans hk
    subst e
    exact ⟨h, rfl⟩
theorem zm_ref (ad : Nat → Nat) (r : Option Nat) : va_rf (r.map ad) = .null ∧ r = none ∨ ∃ a, r = some a ∧ va_rf (r.map ad) = .ref (ad a) := by
  cases r with
  | none => exact Or.inl ⟨rfl, rfl⟩
  | some a => exact Or.inr ⟨a, rfl, rfl⟩
theorem zm_si_o {h : zm_M} {a k : Nat} {x : Int32} : ∀ b, b ≠ a → (zm_si h a k x).1 b = h.1 b ∧ (zm_si h a k x).2 b = h.2 b := fun b hb => ⟨by funext j; simp [zm_si, hb], rfl⟩
theorem zm_sr_o {h : zm_M} {a k : Nat} {x : Option Nat} : ∀ b, b ≠ a → (zm_sr h a k x).1 b = h.1 b ∧ (zm_sr h a k x).2 b = h.2 b := fun b hb => ⟨rfl, by funext j; simp [zm_sr, hb]⟩
theorem zm_cp_o {h : zm_M} {a0 sp a dp n : Nat} : ∀ b, b ≠ a → (zm_cp h a0 sp a dp n).1 b = h.1 b ∧ (zm_cp h a0 sp a dp n).2 b = h.2 b := fun b hb => ⟨by funext j; simp [zm_cp, hb], rfl⟩
theorem zm_si_up {h : zm_M} {a k : Nat} {x : Int32} : upd (h.1 a) k x = (zm_si h a k x).1 a := by funext j; simp [zm_si, upd]
theorem zm_sr_up {h : zm_M} {ad : Nat → Nat} {a k y : Nat} : va_up (fun j => (h.2 a j).map ad) k (some (ad y)) = fun j => ((zm_sr h a k (some y)).2 a j).map ad := by
  funext j
  by_cases hj : j = k
  · simp [zm_sr, va_up, hj]
  · simp [zm_sr, va_up, hj]
theorem zm_cp_up {h : zm_M} {a0 sp a dp n : Nat} : va_cpy (h.1 a0) (h.1 a) sp dp n = (zm_cp h a0 sp a dp n).1 a := by funext j; simp [zm_cp, va_cpy]
set_option maxHeartbeats 4000000 in
set_option maxRecDepth 100000 in
theorem zm_one {q : zm_D} {d : Nat} {T : zm_T} {R : zm_R} {pc n : Nat} {i : Instr} {a b : Nat} {v : Int32} {cs : List (Int32 × Nat)} (hqd : zm_okD q = true) (hdec : decode q.2.1 pc = .ok (i, n)) (hn : zm_ln i = 0 ∨ zm_ln i = n) (hok : zm_okI q (pc, i, a, b, v, cs) = true)
    {K : zm_L → List zm_V → zm_M → Prop} (hK : ∀ ls st h, K ls st h → zm_W q (d + 1) T R (pc + n) ls st h) {ls : zm_L} {st : List zm_V} {h : zm_M} (hs : zm_st d T R (fun t ls st h => zm_W q (d + 1) T R t ls st h) (pc, i, a, b, v, cs) K ls st h) : zm_W q (d + 1) T R pc ls st h := by
  intro p l e s m args below meth c D G ad A H locs lr hX hP hD hS hl
  obtain ⟨hx, hb, hml, hr, hlocks, hown, hts, hKK, hN, hA⟩ := id hX
  simp only [zm_okD, Bool.and_eq_true, decide_eq_true_eq] at hqd
  obtain ⟨⟨⟨⟨-, -⟩, -⟩, -⟩, hcls⟩ := hqd
  rw [hcls] at hown
  have go : ∀ {ls : zm_L} {st : List zm_V} {h : zm_M} {H : Heap} {locs : List Loc} {lr : Array Slot}, K ls st h → va_P D vwCl (zm_w G ad T h) H → va_D A (zm_w G ad T h) → va_S A s.heap H locs → zm_lr ad q.2.2.1 ls lr → W p l e (zm_rm (d + 1)) s m args below meth c H locs 0 0 (MQ below (zm_Q D G ad T R A) args s 0 0 A) (F0 m (pc + n) lr (st.map (zm_v ad))) := fun k hP hD hS hl => hK _ _ _ k p l e s m args below meth c D G ad A _ _ _ hX hP hD hS hl
  cases i
  case iconst k =>
    obtain ⟨hd, rfl⟩ := zm_dec (k := 1) hdec hn rfl (by decide)
    exact lv_iconst hx hb hd (of_decide_eq_true hok) (go hs hP hD hS hl)
  case bipush k =>
    obtain ⟨hd, rfl⟩ := zm_dec (k := 2) hdec hn rfl (by decide)
    exact lv_bipush hx hb hd (of_decide_eq_true hok) (go hs hP hD hS hl)
  case sipush k =>
    obtain ⟨hd, rfl⟩ := zm_dec (k := 3) hdec hn rfl (by decide)
    exact lv_sipush hx hb hd (of_decide_eq_true hok) (go hs hP hD hS hl)
  case ldc k =>
    obtain ⟨hd, rfl⟩ := zm_dec (k := 2) hdec hn rfl (by decide)
    exact lv_ldc hx hb hown (hts _ (zm_in (zm_CLw hok) rfl)) hd (go hs hP hD hS hl)
  case ldc_w k =>
    obtain ⟨hd, rfl⟩ := zm_dec (k := 3) hdec hn rfl (by decide)
    exact lv_ldcw hx hb hown (hts _ (zm_in (zm_CLw hok) rfl)) hd (go hs hP hD hS hl)
  case aconst_null =>
    obtain ⟨hd, rfl⟩ := zm_dec (k := 1) hdec hn rfl (by decide)
    exact lv_null hx hb hd (go hs hP hD hS hl)
  case iload k =>
    obtain ⟨hd, rfl⟩ := zm_dec (k := 2) hdec hn rfl (by decide)
    obtain rfl := of_decide_eq_true hok
    obtain ⟨x, h1, h2⟩ := zm_li_spec _ _ _ hs
    exact lv_iload hx hb hd (hl.2.2 _ _ h1) (go h2 hP hD hS hl)
  case iload_n k =>
    obtain ⟨hd, rfl⟩ := zm_dec (k := 1) hdec hn rfl (by decide)
    have ha := of_decide_eq_true hok
    obtain ⟨x, h1, h2⟩ := zm_li_spec _ _ _ hs
    exact lv_iload_n hx hb hd ha (hl.2.2 _ _ h1) (go h2 hP hD hS hl)
  case aload k =>
    obtain ⟨hd, rfl⟩ := zm_dec (k := 2) hdec hn rfl (by decide)
    obtain rfl := of_decide_eq_true hok
    obtain ⟨x, h1, h2⟩ := zm_la_spec _ _ _ hs
    have h3 := hl.2.2 _ _ h1
    cases x with
    | none => exact lv_aloadN hx hb hd h3 (go h2 hP hD hS hl)
    | some x => exact lv_aload hx hb hd h3 (go h2 hP hD hS hl)
  case aload_n k =>
    obtain ⟨hd, rfl⟩ := zm_dec (k := 1) hdec hn rfl (by decide)
    have ha := of_decide_eq_true hok
    obtain ⟨x, h1, h2⟩ := zm_la_spec _ _ _ hs
    have h3 := hl.2.2 _ _ h1
    cases x with
    | none => exact lv_aload_nN hx hb hd ha h3 (go h2 hP hD hS hl)
    | some x => exact lv_aload_n hx hb hd ha h3 (go h2 hP hD hS hl)
  case istore k =>
    obtain ⟨hd, rfl⟩ := zm_dec (k := 2) hdec hn rfl (by decide)
    simp only [zm_okI, Bool.and_eq_true, decide_eq_true_eq] at hok
    obtain ⟨rfl, ha⟩ := hok
    simp only [zm_st] at hs
    split at hs
    · exact lv_istore hx hb hd (zm_al_has hl) ha rfl (fun lr' hl' => go hs hP hD hS (zm_al_set (v := .inl _) hl'))
    · exact hs.elim
  case istore_n k =>
    obtain ⟨hd, rfl⟩ := zm_dec (k := 1) hdec hn rfl (by decide)
    simp only [zm_okI, Bool.and_eq_true, decide_eq_true_eq] at hok
    obtain ⟨ha1, ha⟩ := hok
    simp only [zm_st] at hs
    split at hs
    · exact lv_istore_n hx hb hd ha1 (zm_al_has hl) ha rfl (fun lr' hl' => go hs hP hD hS (zm_al_set (v := .inl _) hl'))
    · exact hs.elim
  case astore k =>
    obtain ⟨hd, rfl⟩ := zm_dec (k := 2) hdec hn rfl (by decide)
    simp only [zm_okI, Bool.and_eq_true, decide_eq_true_eq] at hok
    obtain ⟨rfl, ha⟩ := hok
    simp only [zm_st] at hs
    split at hs
    · next x r =>
      cases x with
      | none => exact lv_astoreN hx hb hd (zm_al_has hl) ha rfl (fun lr' hl' => go hs hP hD hS (zm_al_set (v := .inr none) hl'))
      | some x => exact lv_astore hx hb hd (zm_al_has hl) ha rfl (fun lr' hl' => go hs hP hD hS (zm_al_set (v := .inr (some x)) hl'))
    · exact hs.elim
  case astore_n k =>
    obtain ⟨hd, rfl⟩ := zm_dec (k := 1) hdec hn rfl (by decide)
    simp only [zm_okI, Bool.and_eq_true, decide_eq_true_eq] at hok
    obtain ⟨ha1, ha⟩ := hok
    simp only [zm_st] at hs
    split at hs
    · next x r =>
      cases x with
      | none => exact lv_astore_nN hx hb hd ha1 (zm_al_has hl) ha rfl (fun lr' hl' => go hs hP hD hS (zm_al_set (v := .inr none) hl'))
      | some x => exact lv_astore_n hx hb hd ha1 (zm_al_has hl) ha rfl (fun lr' hl' => go hs hP hD hS (zm_al_set (v := .inr (some x)) hl'))
    · exact hs.elim
  case iinc k z =>
    obtain ⟨hd, rfl⟩ := zm_dec (k := 3) hdec hn rfl (by decide)
    simp only [zm_okI, Bool.and_eq_true, decide_eq_true_eq] at hok
    obtain ⟨⟨rfl, hv⟩, ha⟩ := hok
    obtain ⟨x, h1, h2⟩ := zm_li_spec _ _ _ hs
    obtain ⟨k2, hk2⟩ := List.getElem?_of_mem (zm_al_in (ad := ad) h1)
    exact lv_iinc (v := x + v) hx hb hd (zm_al_has hl) hk2 (by rw [hv]) ha rfl (fun lr' hl' => go h2 hP hD hS (zm_al_set (v := .inl _) hl'))
  case iadd =>
    obtain ⟨hd, rfl⟩ := zm_dec (k := 1) hdec hn rfl (by decide)
    simp only [zm_st] at hs
    split at hs
    · exact lv_iadd hx hb hd (go hs hP hD hS hl)
    · exact hs.elim
  case isub =>
    obtain ⟨hd, rfl⟩ := zm_dec (k := 1) hdec hn rfl (by decide)
    simp only [zm_st] at hs
    split at hs
    · exact lv_isub hx hb hd (go hs hP hD hS hl)
    · exact hs.elim
  case imul =>
    obtain ⟨hd, rfl⟩ := zm_dec (k := 1) hdec hn rfl (by decide)
    simp only [zm_st] at hs
    split at hs
    · exact lv_imul hx hb hd (go hs hP hD hS hl)
    · exact hs.elim
  case iand =>
    obtain ⟨hd, rfl⟩ := zm_dec (k := 1) hdec hn rfl (by decide)
    simp only [zm_st] at hs
    split at hs
    · exact lv_iand hx hb hd (go hs hP hD hS hl)
    · exact hs.elim
  case ior =>
    obtain ⟨hd, rfl⟩ := zm_dec (k := 1) hdec hn rfl (by decide)
    simp only [zm_st] at hs
    split at hs
    · exact lv_ior hx hb hd (go hs hP hD hS hl)
    · exact hs.elim
  case ixor =>
    obtain ⟨hd, rfl⟩ := zm_dec (k := 1) hdec hn rfl (by decide)
    simp only [zm_st] at hs
    split at hs
    · exact lv_ixor hx hb hd (go hs hP hD hS hl)
    · exact hs.elim
  case idiv =>
    obtain ⟨hd, rfl⟩ := zm_dec (k := 1) hdec hn rfl (by decide)
    simp only [zm_st] at hs
    split at hs
    · exact lv_idiv hx hb hd hs.1 (go hs.2 hP hD hS hl)
    · exact hs.elim
  case irem =>
    obtain ⟨hd, rfl⟩ := zm_dec (k := 1) hdec hn rfl (by decide)
    simp only [zm_st] at hs
    split at hs
    · exact lv_irem hx hb hd hs.1 (go hs.2 hP hD hS hl)
    · exact hs.elim
  case ishl =>
    obtain ⟨hd, rfl⟩ := zm_dec (k := 1) hdec hn rfl (by decide)
    simp only [zm_st] at hs
    split at hs
    · exact lv_ishl hx hb hd (go hs hP hD hS hl)
    · exact hs.elim
  case ishr =>
    obtain ⟨hd, rfl⟩ := zm_dec (k := 1) hdec hn rfl (by decide)
    simp only [zm_st] at hs
    split at hs
    · exact lv_ishr hx hb hd (go hs hP hD hS hl)
    · exact hs.elim
  case iushr =>
    obtain ⟨hd, rfl⟩ := zm_dec (k := 1) hdec hn rfl (by decide)
    simp only [zm_st] at hs
    split at hs
    · exact lv_iushr hx hb hd rfl (go hs hP hD hS hl)
    · exact hs.elim
  case i2b =>
    obtain ⟨hd, rfl⟩ := zm_dec (k := 1) hdec hn rfl (by decide)
    simp only [zm_st] at hs
    split at hs
    · exact lv_i2b hx hb hd rfl (go hs hP hD hS hl)
    · exact hs.elim
  case dup =>
    obtain ⟨hd, rfl⟩ := zm_dec (k := 1) hdec hn rfl (by decide)
    simp only [zm_st] at hs
    split at hs
    · exact lv_dup hx hb hd (zm_cat1 ad _) (go hs hP hD hS hl)
    · exact hs.elim
  case pop =>
    obtain ⟨hd, rfl⟩ := zm_dec (k := 1) hdec hn rfl (by decide)
    simp only [zm_st] at hs
    split at hs
    · exact lv_pop hx hb hd (zm_cat1 ad _) (go hs hP hD hS hl)
    · exact hs.elim
  case dup2 =>
    obtain ⟨hd, rfl⟩ := zm_dec (k := 1) hdec hn rfl (by decide)
    simp only [zm_st] at hs
    split at hs
    · exact lv_dup2_11 hx hb hd (zm_cat1 ad _) (zm_cat1 ad _) (go hs hP hD hS hl)
    · exact hs.elim
  case goto off =>
    obtain ⟨hd, rfl⟩ := zm_dec (k := 3) hdec hn rfl (by decide)
    exact lv_goto hx hb hd (of_decide_eq_true hok) (hs p l e s m args below meth c D G ad A _ _ _ hX hP hD hS hl)
  case ifCond k off =>
    obtain ⟨hd, rfl⟩ := zm_dec (k := 3) hdec hn rfl (by decide)
    simp only [zm_st] at hs
    split at hs
    · next x r =>
      have ht := of_decide_eq_true hok
      have j1 := fun (z : zm_W q (d + 1) T R a ls r h) => z p l e s m args below meth c D G ad A _ _ _ hX hP hD hS hl
      cases k
      · exact lv_if_eq hx hb hd ht (fun z => j1 (hs.1 z)) (fun z => go (hs.2 z) hP hD hS hl)
      · exact lv_if_ne hx hb hd ht (fun z => j1 (hs.1 z)) (fun z => go (hs.2 z) hP hD hS hl)
      · exact lv_if_lt hx hb hd ht (fun z => j1 (hs.1 z)) (fun z => go (hs.2 z) hP hD hS hl)
      · exact lv_if_ge hx hb hd ht (fun z => j1 (hs.1 z)) (fun z => go (hs.2 z) hP hD hS hl)
      · exact lv_if_gt hx hb hd ht (fun z => j1 (hs.1 z)) (fun z => go (hs.2 z) hP hD hS hl)
      · exact lv_if_le hx hb hd ht (fun z => j1 (hs.1 z)) (fun z => go (hs.2 z) hP hD hS hl)
    · exact hs.elim
  case if_icmp k off =>
    obtain ⟨hd, rfl⟩ := zm_dec (k := 3) hdec hn rfl (by decide)
    simp only [zm_st] at hs
    split at hs
    · next y x r =>
      have ht := of_decide_eq_true hok
      have j1 := fun (z : zm_W q (d + 1) T R a ls r h) => z p l e s m args below meth c D G ad A _ _ _ hX hP hD hS hl
      cases k
      · exact lv_icmp_eq hx hb hd ht (fun z => j1 (hs.1 z)) (fun z => go (hs.2 z) hP hD hS hl)
      · exact lv_icmp_ne hx hb hd ht (fun z => j1 (hs.1 z)) (fun z => go (hs.2 z) hP hD hS hl)
      · exact lv_icmp_lt hx hb hd ht (fun z => j1 (hs.1 z)) (fun z => go (hs.2 z) hP hD hS hl)
      · exact lv_icmp_ge hx hb hd ht (fun z => j1 (hs.1 z)) (fun z => go (hs.2 z) hP hD hS hl)
      · exact lv_icmp_gt hx hb hd ht (fun z => j1 (hs.1 z)) (fun z => go (hs.2 z) hP hD hS hl)
      · exact lv_icmp_le hx hb hd ht (fun z => j1 (hs.1 z)) (fun z => go (hs.2 z) hP hD hS hl)
    · exact hs.elim
  case ifnull off =>
    obtain ⟨hd, rfl⟩ := zm_dec (k := 3) hdec hn rfl (by decide)
    simp only [zm_st] at hs
    split at hs
    · next x r =>
      cases x with
      | none => exact lv_ifnullN hx hb hd (of_decide_eq_true hok) (hs.1 rfl p l e s m args below meth c D G ad A _ _ _ hX hP hD hS hl)
      | some x => exact lv_ifnull hx hb hd (go (hs.2 (by simp)) hP hD hS hl)
    · exact hs.elim
  case ifnonnull off =>
    obtain ⟨hd, rfl⟩ := zm_dec (k := 3) hdec hn rfl (by decide)
    simp only [zm_st] at hs
    split at hs
    · next x r =>
      cases x with
      | none => exact lv_ifnonnullN hx hb hd (go (hs.2 rfl) hP hD hS hl)
      | some x => exact lv_ifnonnull hx hb hd (of_decide_eq_true hok) (hs.1 (by simp) p l e s m args below meth c D G ad A _ _ _ hX hP hD hS hl)
    · exact hs.elim
  case tableswitch dflt lo hi offs =>
    simp only [zm_okI, Bool.and_eq_true, decide_eq_true_eq, List.all_eq_true, List.mem_range] at hok
    obtain ⟨⟨h1, h2⟩, h3⟩ := hok
    simp only [zm_st] at hs
    split at hs
    · next x r =>
      rcases zm_sw_spec _ _ _ _ hs with ⟨k, k1, k2, k3⟩ | ⟨k1, k2⟩
      · obtain ⟨h4, h5⟩ := h3 k k1
        obtain ⟨off, h6, h7⟩ := Option.map_eq_some_iff.mp h5
        rw [← k2] at h4
        exact lv_tableIn hx hb hdec (by omega) (by omega) (by rw [show (x.toInt - lo).toNat = k by omega]; exact h6) h7 (k3 p l e s m args below meth c D G ad A _ _ _ hX hP hD hS hl)
      · refine lv_tableOut hx hb hdec ?_ h1 (k2 p l e s m args below meth c D G ad A _ _ _ hX hP hD hS hl)
        rcases Int.lt_or_le x.toInt lo with z | z
        · exact Or.inl z
        · rcases Int.lt_or_le hi x.toInt with z2 | z2
          · exact Or.inr z2
          · exfalso
            have hk : (x.toInt - lo).toNat < cs.length := by omega
            refine k1 _ hk (Int32.toInt_inj.mp ?_)
            rw [(h3 _ hk).1]
            omega
    · exact hs.elim
  case lookupswitch dflt ps =>
    simp only [zm_okI, Bool.and_eq_true, decide_eq_true_eq] at hok
    obtain ⟨⟨h1, h2⟩, h3⟩ := hok
    simp only [zm_st] at hs
    split at hs
    · next x r =>
      obtain ⟨t, k1, k2⟩ := zm_lk_spec _ _ _ _ _ h1 _ _ h2 hs
      exact lv_lookup hx hb hdec h3 rfl k2 (k1 p l e s m args below meth c D G ad A _ _ _ hX hP hD hS hl)
    · exact hs.elim
  case getfield k =>
    obtain ⟨hd, rfl⟩ := zm_dec (k := 3) hdec hn rfl (by decide)
    simp only [zm_okI, Bool.and_eq_true, decide_eq_true_eq, Bool.or_eq_true] at hok
    obtain ⟨⟨⟨hL, hc⟩, hbN⟩, hkd⟩ := hok
    have main : ∀ (qq : Nat) (r : List zm_V) (z : zm_V), (zm_sh T qq).1 = a + 3 → zm_v ad z = zm_fv ad a qq h b → K ls (z :: r) h → W p l e (zm_rm (d + 1)) s m args below meth c H locs 0 0 (MQ below (zm_Q D G ad T R A) args s 0 0 A) (F0 m pc lr ((.inr (some qq) :: r : List zm_V).map (zm_v ad))) := by
      intro qq r z h1 h2 h3
      have he := zm_w_at (G := G) (ad := ad) (T := T) (h := h) (zm_lt (by rw [h1]; omega))
      rw [zm_e_obj h1] at he
      have hv : ((List.range (zm_fn a)).map (zm_fv ad a qq h))[b]? = some (zm_v ad z) := by rw [zm_fs_at hbN, h2]
      rcases hL with hL | hL
      · have hw := zm_FLw hL
        exact va_get hx hb hts (zm_uin hc) hown hKK hP qq he (zm_cl_at a hc) b hbN (hts _ (zm_in hw rfl)) (fun _ h9 => h9) hv hd (go h3 hP hD hS hl)
      · have hw := hN.1 _ (List.contains_iff_mem.mp hL) Nat.one_ne_zero
        exact va_getN hx hb hts (zm_uin hc) hown hKK hP qq he (zm_cl_at a hc) b hbN (va_Nw.use rfl hw) (fun _ h9 => h9) hv hd (go h3 hP hD hS hl)
    simp only [zm_st] at hs
    split at hs
    · have hf : ¬ zm_fk a b = 2 := fun q => by rw [if_pos q] at hkd; simp at hkd
      split at hs
      · next qq r => exact main qq r (.inl _) hs.1 (by rw [zm_fv, if_neg hf]; rfl) hs.2
      · exact hs.elim
    · have hf : zm_fk a b = 2 := by
        rcases Nat.decEq (zm_fk a b) 2 with q | q
        · rw [if_neg q] at hkd; simp at hkd
        · exact q
      split at hs
      · next qq r => exact main qq r (.inr _) hs.1 (by rw [zm_fv, if_pos hf]; rfl) hs.2
      · exact hs.elim
  case putfield k =>
    obtain ⟨hd, rfl⟩ := zm_dec (k := 3) hdec hn rfl (by decide)
    simp only [zm_okI, Bool.and_eq_true, decide_eq_true_eq, Bool.or_eq_true, Bool.not_eq_true'] at hok
    obtain ⟨⟨⟨⟨hL, hc⟩, hbN⟩, hfin⟩, hkd⟩ := hok
    obtain ⟨hty, hkt, -, -⟩ := (zm_fields_at hc).2 b hbN
    have main : ∀ (qq : Nat) (r : List zm_V) (z : zm_V) (h' : zm_M), (zm_sh T qq).1 = a + 3 → narrow (zm_ty a b) (zm_v ad z) = zm_v ad z → fits (zm_ty a b) (zm_v ad z) = true → zm_fv ad a qq h' b = zm_v ad z → (∀ j, j ≠ b → zm_fv ad a qq h' j = zm_fv ad a qq h j) → (∀ x, x ≠ qq → h'.1 x = h.1 x ∧ h'.2 x = h.2 x) → K ls r h' → W p l e (zm_rm (d + 1)) s m args below meth c H locs 0 0 (MQ below (zm_Q D G ad T R A) args s 0 0 A) (F0 m pc lr ((z :: .inr (some qq) :: r : List zm_V).map (zm_v ad))) := by
      intro qq r z h' h1 hnr hft hv1 hv2 ho h3
      have he := zm_w_at (G := G) (ad := ad) (T := T) (h := h) (zm_lt (by rw [h1]; omega))
      rw [zm_e_obj h1] at he
      have hset : (zm_w G ad T h).set qq (ad qq, .inr (a, ((List.range (zm_fn a)).map (zm_fv ad a qq h)).set b (zm_v ad z))) = zm_w G ad T h' := zm_w_upd ho (by rw [zm_e_obj h1, zm_fs_set hv1 hv2])
      have kk : ∀ (H1 : Heap) (locs1 : List Loc), va_P D vwCl ((zm_w G ad T h).set qq (ad qq, .inr (a, ((List.range (zm_fn a)).map (zm_fv ad a qq h)).set b (zm_v ad z)))) H1 → va_D A ((zm_w G ad T h).set qq (ad qq, .inr (a, ((List.range (zm_fn a)).map (zm_fv ad a qq h)).set b (zm_v ad z)))) → va_S A s.heap H1 locs1 → W p l e (zm_rm (d + 1)) s m args below meth c H1 locs1 0 0 (MQ below (zm_Q D G ad T R A) args s 0 0 A) (F0 m (pc + 3) lr (r.map (zm_v ad))) := by
        rw [hset]
        exact fun H1 locs1 hP1 hD1 hS1 => go h3 hP1 hD1 hS1 hl
      rcases hL with hL | hL
      · have hw := zm_FLw hL
        exact va_put hx hb hts (zm_uin hc) (zm_ty a) (fun k hk => ((zm_fields_at hc).2 k hk).1) (fun x hx y hy hxy => ((zm_fields_at hc).2 x hx).2.2.2 y hy hxy) hown hKK hP hD hS qq he (zm_cl_at a hc) b hbN (hts _ (zm_in hw rfl)) (fun _ h9 => h9) hfin hty hnr hft (by simpa using hbN) hd kk
      · have hw := hN.1 _ (List.contains_iff_mem.mp hL) Nat.one_ne_zero
        exact va_putN hx hb hts (zm_uin hc) (zm_ty a) (fun k hk => ((zm_fields_at hc).2 k hk).1) (fun x hx y hy hxy => ((zm_fields_at hc).2 x hx).2.2.2 y hy hxy) hown hKK hP hD hS qq he (zm_cl_at a hc) b hbN (va_Nw.use rfl hw) (fun _ h9 => h9) hfin hty hnr hft (by simpa using hbN) hd kk
    simp only [zm_st] at hs
    split at hs
    · have h2 : ¬ zm_fk a b = 2 := fun q => by rw [if_pos q] at hkd; simp at hkd
      have h1 : ¬ zm_fk a b = 1 := fun q => by rw [if_neg h2, if_pos q] at hkd; simp at hkd
      have hint : zm_ty a b = .int := by
        unfold zm_kt at hkt
        split at hkt
        · next e1 e2 => exact e2
        · next e1 e2 => exact absurd e1 h1
        · next e1 e2 => exact absurd e1 h2
        · next e1 e2 => exact absurd e1 h2
        · cases hkt
      split at hs
      · next x qq r => exact main qq r (.inl x) (zm_si h qq b x) hs.1 (by rw [hint]; rfl) (by rw [hint]; rfl) (by simp [zm_fv, h2, zm_si, zm_v]) (fun j hj => by simp [zm_fv, zm_si, hj]) zm_si_o hs.2
      · exact hs.elim
    · have h2 : zm_fk a b = 2 := by
        rcases Nat.decEq (zm_fk a b) 2 with q | q
        · rw [if_neg q] at hkd
          split at hkd <;> simp at hkd
        · exact q
      have hobj : (∃ n, zm_ty a b = .object n) ∨ ∃ t, zm_ty a b = .array t := by
        unfold zm_kt at hkt
        split at hkt
        · next e1 e2 => rw [e1] at h2; cases h2
        · next e1 e2 => rw [e1] at h2; cases h2
        · next e1 e2 => exact Or.inl ⟨_, e2⟩
        · next e1 e2 => exact Or.inr ⟨_, e2⟩
        · cases hkt
      split at hs
      · next x qq r =>
        refine main qq r (.inr x) (zm_sr h qq b x) hs.1 ?_ ?_ (by simp [zm_fv, h2, zm_sr, zm_v]) (fun j hj => by simp [zm_fv, zm_sr, hj]) zm_sr_o hs.2
        · rcases hobj with ⟨n, e⟩ | ⟨n, e⟩ <;> rw [e] <;> cases x <;> rfl
        · rcases hobj with ⟨n, e⟩ | ⟨n, e⟩ <;> rw [e] <;> cases x <;> rfl
      · exact hs.elim
    · next hne1 hne2 =>
      have h1 : zm_fk a b = 1 := by
        rcases Nat.decEq (zm_fk a b) 1 with q | q
        · exfalso
          split at hkd
          · obtain ⟨y, rfl⟩ := List.length_eq_one_iff.mp (of_decide_eq_true hkd)
            exact hne2 _ rfl
          · first | rw [if_neg q] at hkd | skip
            exact hne1 (List.length_eq_zero_iff.mp (of_decide_eq_true hkd))
        · exact q
      have h2 : ¬ zm_fk a b = 2 := by rw [h1]; decide
      have hbl : zm_ty a b = .boolean := by
        unfold zm_kt at hkt
        split at hkt
        · next e1 e2 => rw [e1] at h1; cases h1
        · next e1 e2 => exact e2
        · next e1 e2 => exact absurd e1 h2
        · next e1 e2 => exact absurd e1 h2
        · cases hkt
      split at hs
      · next x qq r =>
        refine main qq r (.inl x) (zm_si h qq b x) hs.1 ?_ ?_ (by simp [zm_fv, h2, zm_si, zm_v]) (fun j hj => by simp [zm_fv, zm_si, hj]) zm_si_o hs.2.2
        · rw [hbl]; rcases hs.2.1 with rfl | rfl <;> rfl
        · rw [hbl]; rcases hs.2.1 with rfl | rfl <;> rfl
      · exact hs.elim
  case arraylength =>
    obtain ⟨hd, rfl⟩ := zm_dec (k := 1) hdec hn rfl (by decide)
    simp only [zm_st] at hs
    split at hs
    · next qq r =>
      have he := zm_w_at (G := G) (ad := ad) (T := T) (h := h) (zm_lt (by rw [hs.1]; omega))
      rw [zm_e_0 hs.1] at he
      exact va_alen hx hb hKK hP qq 0 he rfl rfl hd (go hs.2 hP hD hS hl)
    · exact hs.elim
  case iaload =>
    obtain ⟨hd, rfl⟩ := zm_dec (k := 1) hdec hn rfl (by decide)
    simp only [zm_st] at hs
    split at hs
    · next x qq r =>
      have he := zm_w_at (G := G) (ad := ad) (T := T) (h := h) (zm_lt (by rw [hs.1]; omega))
      rw [zm_e_0 hs.1] at he
      exact va_iald hx hb hKK hP qq 0 he rfl hs.2.1 hd (go hs.2.2 hP hD hS hl)
    · exact hs.elim
  case baload =>
    obtain ⟨hd, rfl⟩ := zm_dec (k := 1) hdec hn rfl (by decide)
    simp only [zm_st] at hs
    split at hs
    · next x qq r =>
      have he := zm_w_at (G := G) (ad := ad) (T := T) (h := h) (zm_lt (by rw [hs.1]; omega))
      rw [zm_e_1 hs.1] at he
      exact va_bald hx hb hKK hP qq 1 he rfl hs.2.1 hd (go hs.2.2 hP hD hS hl)
    · exact hs.elim
  case aaload =>
    obtain ⟨hd, rfl⟩ := zm_dec (k := 1) hdec hn rfl (by decide)
    simp only [zm_st] at hs
    split at hs
    · next x qq r =>
      have he := zm_w_at (G := G) (ad := ad) (T := T) (h := h) (zm_lt (by rw [hs.1]; omega))
      rw [zm_e_2 hs.1] at he
      exact va_aldq hx hb hKK hP qq 2 he rfl hs.2.1 hd (go hs.2.2 hP hD hS hl)
    · exact hs.elim
  case iastore =>
    obtain ⟨hd, rfl⟩ := zm_dec (k := 1) hdec hn rfl (by decide)
    simp only [zm_st] at hs
    split at hs
    · next y x qq r =>
      have he := zm_w_at (G := G) (ad := ad) (T := T) (h := h) (zm_lt (by rw [hs.1]; omega))
      rw [zm_e_0 hs.1] at he
      refine va_iast hx hb hKK hP hD hS qq 0 he rfl hs.2.1 hd ?_
      rw [zm_si_up, zm_w_upd (h' := zm_si h qq x.toNatClampNeg y) zm_si_o (by rw [zm_e_0 hs.1])]
      exact fun H1 locs1 hP1 hD1 hS1 => go hs.2.2 hP1 hD1 hS1 hl
    · exact hs.elim
  case bastore =>
    obtain ⟨hd, rfl⟩ := zm_dec (k := 1) hdec hn rfl (by decide)
    simp only [zm_st] at hs
    split at hs
    · next y x qq r =>
      have he := zm_w_at (G := G) (ad := ad) (T := T) (h := h) (zm_lt (by rw [hs.1]; omega))
      rw [zm_e_1 hs.1] at he
      refine va_bast hx hb hKK hP hD hS qq 1 he rfl hs.2.1 hd ?_
      rw [zm_si_up, zm_w_upd (h' := zm_si h qq x.toNatClampNeg (vp_nar .byte y)) zm_si_o (by rw [zm_e_1 hs.1])]
      exact fun H1 locs1 hP1 hD1 hS1 => go hs.2.2 hP1 hD1 hS1 hl
    · exact hs.elim
  case aastore =>
    obtain ⟨hd, rfl⟩ := zm_dec (k := 1) hdec hn rfl (by decide)
    simp only [zm_st] at hs
    split at hs
    · next y x qq r =>
      have he := zm_w_at (G := G) (ad := ad) (T := T) (h := h) (zm_lt (by rw [hs.1]; omega))
      rw [zm_e_2 hs.1] at he
      have hy := zm_w_at (G := G) (ad := ad) (T := T) (h := h) (zm_lt (by rw [hs.2.1]; omega))
      rw [zm_e_obj (c := 8) hs.2.1] at hy
      refine va_astq (r := (RX8, TX8, 3)) hx hb hKK hP hD hS qq 2 y 8 he rfl hy rfl hs.2.2.1 hd ?_
      rw [zm_sr_up, zm_w_upd (h' := zm_sr h qq x.toNatClampNeg (some y)) zm_sr_o (by rw [zm_e_2 hs.1])]
      exact fun H1 locs1 hP1 hD1 hS1 => go hs.2.2.2 hP1 hD1 hS1 hl
    · exact hs.elim
  case ireturn =>
    obtain ⟨hd, rfl⟩ := zm_dec (k := 1) hdec hn rfl (by decide)
    simp only [zm_st] at hs
    split at hs
    · have hr1 : q.2.2.2.1 = some .int := of_decide_eq_true hok
      split at hs
      · next x => exact W.iret hx hb (hr.trans hr1) (fun t ht hW => ⟨⟨some (.inl x), h, hs, rfl, by rw [ht]; exact hP⟩, hS.F ht⟩) hS.2.2 hd hlocks
      · exact hs.elim
    · next bb =>
      have hr1 : q.2.2.2.1 = some .boolean := by
        simp only [zm_okI] at hok
        rw [if_neg (Nat.succ_ne_zero _)] at hok
        exact of_decide_eq_true hok
      split at hs
      · next x => exact W.zret hx hb (hr.trans hr1) (by rcases hs.1 with rfl | rfl <;> rfl) (fun t ht hW => ⟨⟨some (.inl x), h, hs.2, rfl, by rw [ht]; exact hP⟩, hS.F ht⟩) hS.2.2 hd hlocks
      · exact hs.elim
  case areturn =>
    obtain ⟨hd, rfl⟩ := zm_dec (k := 1) hdec hn rfl (by decide)
    simp only [zm_okI] at hok
    split at hok
    · next nme hr1 =>
      simp only [zm_st] at hs
      split at hs
      · next x => exact W.aret hx hb (hr.trans hr1) (Or.inl ⟨_, rfl⟩) (by cases x <;> simp [zm_v, va_rf]) (fun t ht hW => ⟨⟨some (.inr x), h, hs, rfl, by rw [ht]; exact hP⟩, hS.F ht⟩) hS.2.2 hd hlocks
      · exact hs.elim
    · cases hok
  case return_ =>
    obtain ⟨hd, rfl⟩ := zm_dec (k := 1) hdec hn rfl (by decide)
    simp only [zm_st] at hs
    split at hs
    · exact W.vret hx hb (hr.trans (of_decide_eq_true hok)) (fun t ht hW => ⟨⟨none, h, hs, rfl, by rw [ht]; exact hP⟩, hS.F ht⟩) hS.2.2 hd hlocks
    · exact hs.elim
  case invokevirtual k =>
    obtain ⟨hd, rfl⟩ := zm_dec (k := 3) hdec hn rfl (by decide)
    simp only [zm_okI, Bool.and_eq_true, decide_eq_true_eq, Bool.or_eq_true, Bool.not_eq_true'] at hok
    obtain ⟨⟨⟨⟨⟨⟨hL, hj⟩, hnp⟩, hst⟩, hni⟩, hcs⟩, hcc⟩ := hok
    obtain ⟨hmd, hmp⟩ := zm_okD_at hj
    simp only [zm_okD, Bool.and_eq_true, decide_eq_true_eq] at hmd
    obtain ⟨⟨⟨⟨hne, hpar⟩, -⟩, hmax⟩, hmc⟩ := hmd
    obtain ⟨hwc, hwi, -, hwv⟩ := hmp
    obtain ⟨hwv1, hwv2⟩ := hwv hst
    have hwv2 := hwv2.resolve_left hni
    simp only [zm_st] at hs
    split at hs
    · next z cl cs' =>
      obtain ⟨rfl, -⟩ : cl = (zm_md a).2.2.2.2.1 ∧ cs'.map (fun z => z.2) = [] := by simpa using hcs
      obtain ⟨as, r, rfl, has, hr8, hrc, d0, R0, hd0, hR0, hM⟩ := zm_pk_spec _ _ _ _ hs
      rw [List.append_nil] at hrc hM
      unfold zm_rc at hrc
      split at hrc
      · next qq As =>
        have hM := hM l D G ad H.size
        have he := zm_w_at (G := G) (ad := ad) (T := T) (h := h) (zm_lt (by rw [hrc]; omega))
        rw [zm_e_obj hrc] at he
        have hrv := va_recv hKK hP (zm_cl_at _ hcc) he
        rw [← hmc] at hrv
        have hpre : PreV s H (zm_md a).1.cls (ad qq) (va_Pc ((.inr (some qq) :: As : List zm_V).map (zm_v ad)) (zm_Pr D G ad T h H.size)) (As.map (zm_v ad)) := ⟨zm_blind, hrv, fun U hU hW => ⟨rfl, by rw [hU], by rw [hU]; exact hP, va_K.moved hW.alike hKK, hD.weaken (fun _ _ _ _ => trivial), hN.warm hW⟩⟩
        have hstk : (F0 m pc lr (((.inr (some qq) :: As : List zm_V).reverse ++ r).map (zm_v ad))).stack = (As.map (zm_v ad)).reverse ++ .ref (ad qq) :: r.map (zm_v ad) := by
          show ((.inr (some qq) :: As : List zm_V).reverse ++ r).map (zm_v ad) = _
          simp [zm_v, va_rf]
        have hwd := zm_ws_good (q := zm_md a) hts hwc
        have hfr : (zm_rm d0).frames + 1 ≤ (zm_rm (d + 1)).frames := by simp only [zm_rm]; omega
        have hlo : 8 + ((zm_md a).2.2.1 + 11) + (zm_rm d0).locals ≤ (zm_rm (d + 1)).locals := by simp only [zm_rm]; omega
        have hlen : (As.map (zm_v ad)).length = b := by
          have : As.length + 1 = b + 1 := has
          simp; omega
        have hroom : 2 * (F0 m pc lr (((.inr (some qq) :: As : List zm_V).reverse ++ r).map (zm_v ad))).monitorRoom + ((r.map (zm_v ad)).map fun v => v.category).sum ≤ 8 := lv_room (by rw [zm_cat]; exact hr8)
        have hrun : va_Run p l e (zm_rm (d + 1)) s m args below meth c H locs 0 0 0 0 (F0 m pc lr (((.inr (some qq) :: As : List zm_V).reverse ++ r).map (zm_v ad))) (r.map (zm_v ad)) (zm_Q D G ad T R0 (va_A (zm_w G ad T h) H.size) (Value.ref (ad qq) :: As.map (zm_v ad)).toArray) (va_A (zm_w G ad T h) H.size) := by
          rcases hL with hL | hL
          · exact va_runV ⟨hx, hb, hml, hown, hts⟩ hM ⟨⟨rfl, rfl, hfr, hlo, hwd, List.mem_cons_self, hts _ (zm_in hwc rfl), hts _ (zm_in hwi rfl), hne, zm_params (by rw [hpar, hnp]), hts _ (zm_in (zm_MLw hL) rfl)⟩, hts _ (zm_in hwv1 rfl), hts _ (zm_in hwv2 rfl)⟩ hpre rfl hlen hl.1 hstk hroom hd ⟨Nat.zero_le _, Nat.zero_le _⟩
          · have hw := hN.2 _ (List.contains_iff_mem.mp hL) Nat.one_ne_zero
            exact va_runVN ⟨hx, hb, hml, hown, hts⟩ hM ⟨⟨⟨rfl, rfl, hfr, hlo, hwd, List.mem_cons_self⟩, hts _ (zm_in hwc rfl), hts _ (zm_in hwi rfl), hne, zm_params (by rw [hpar, hnp]), va_Nw.use rfl hw⟩, hts _ (zm_in hwv1 rfl), hts _ (zm_in hwv2 rfl)⟩ hpre rfl hlen hl.1 hstk hroom hd ⟨Nat.zero_le _, Nat.zero_le _⟩
        refine zm_call hrun hD hS hA (fun w h' H1 locs1 hRw hP1 hS1 => ?_)
        refine W.eq ?_ (go (hR0 _ _ hRw) hP1 (zm_w_D hD) hS1 hl)
        cases w <;> simp
      · exact hrc.elim
    · exact hs.elim
  case invokestatic k =>
    obtain ⟨hd, rfl⟩ := zm_dec (k := 3) hdec hn rfl (by decide)
    simp only [zm_st] at hs
    split at hs
    · simp only [zm_okI, Bool.and_eq_true, decide_eq_true_eq, Bool.or_eq_true] at hok
      obtain ⟨⟨⟨hL, hj⟩, hnp⟩, hst⟩ := hok
      obtain ⟨hmd, hmp⟩ := zm_okD_at hj
      simp only [zm_okD, Bool.and_eq_true, decide_eq_true_eq] at hmd
      obtain ⟨⟨⟨⟨hne, hpar⟩, -⟩, hmax⟩, hmc⟩ := hmd
      obtain ⟨hwc, hwi, hwv, -⟩ := hmp
      have hwv1 := hwv hst
      obtain ⟨as, r, rfl, has, hr8, d0, R0, hd0, hR0, hM⟩ := zm_pk_spec _ _ _ _ hs
      rw [List.append_nil] at hM
      have hM := hM l D G ad H.size
      have hpre : PreS s H (va_Pc (as.map (zm_v ad)) (zm_Pr D G ad T h H.size)) (as.map (zm_v ad)) := ⟨zm_blind, fun U hU hW => ⟨rfl, by rw [hU], by rw [hU]; exact hP, va_K.moved hW.alike hKK, hD.weaken (fun _ _ _ _ => trivial), hN.warm hW⟩⟩
      have hstk : (F0 m pc lr ((as.reverse ++ r).map (zm_v ad))).stack = (as.map (zm_v ad)).reverse ++ r.map (zm_v ad) := by
        show (as.reverse ++ r).map (zm_v ad) = _
        simp
      have hwd := zm_ws_good (q := zm_md a) hts hwc
      have hfr : (zm_rm d0).frames + 1 ≤ (zm_rm (d + 1)).frames := by simp only [zm_rm]; omega
      have hlo : 8 + ((zm_md a).2.2.1 + 11) + (zm_rm d0).locals ≤ (zm_rm (d + 1)).locals := by simp only [zm_rm]; omega
      have hlen : (as.map (zm_v ad)).length = b := by simpa using has
      have hroom : 2 * (F0 m pc lr ((as.reverse ++ r).map (zm_v ad))).monitorRoom + ((r.map (zm_v ad)).map fun v => v.category).sum ≤ 8 := lv_room (by rw [zm_cat]; exact hr8)
      have hrun : va_Run p l e (zm_rm (d + 1)) s m args below meth c H locs 0 0 0 0 (F0 m pc lr ((as.reverse ++ r).map (zm_v ad))) (r.map (zm_v ad)) (zm_Q D G ad T R0 (va_A (zm_w G ad T h) H.size) (as.map (zm_v ad)).toArray) (va_A (zm_w G ad T h) H.size) := by
        rcases hL with hL | hL
        · exact va_runS ⟨hx, hb, hml, hown, hts⟩ hM ⟨⟨rfl, rfl, hfr, hlo, hwd, List.mem_cons_self, hts _ (zm_in hwc rfl), hts _ (zm_in hwi rfl), hne, zm_params (by rw [hpar, hnp]), hts _ (zm_in (zm_MLw hL) rfl)⟩, hts _ (zm_in hwv1 rfl)⟩ hpre rfl hlen hl.1 hstk hroom hd ⟨Nat.zero_le _, Nat.zero_le _⟩
        · have hw := hN.2 _ (List.contains_iff_mem.mp hL) Nat.one_ne_zero
          exact va_runSN ⟨hx, hb, hml, hown, hts⟩ hM ⟨⟨⟨rfl, rfl, hfr, hlo, hwd, List.mem_cons_self⟩, hts _ (zm_in hwc rfl), hts _ (zm_in hwi rfl), hne, zm_params (by rw [hpar, hnp]), va_Nw.use rfl hw⟩, hts _ (zm_in hwv1 rfl), trivial⟩ hpre rfl hlen hl.1 hstk hroom hd ⟨Nat.zero_le _, Nat.zero_le _⟩
      refine zm_call hrun hD hS hA (fun w h' H1 locs1 hRw hP1 hS1 => ?_)
      refine W.eq ?_ (go (hR0 _ _ hRw) hP1 (zm_w_D hD) hS1 hl)
      cases w <;> simp
    · have ok := zm_MX_ok
      simp only [Bool.and_eq_true, decide_eq_true_eq, List.all_eq_true] at ok
      obtain ⟨⟨⟨o1, o2⟩, o3⟩, o4⟩ := ok
      have o1 := o1 _ (List.contains_iff_mem.mp hok)
      split at hs
      · next y x r => exact va_mmax hx hb (hml.trans hl.1.symm) hown (hts _ (zm_in o1 rfl)) (hts _ (zm_in o2 rfl)) (hts _ (zm_in o4 rfl)) (hts _ (zm_in o3 rfl)) (by simp only [zm_rm]; omega) (by rw [zm_cat]; simp only [zm_rm]; omega) (Nat.zero_le _) (Nat.zero_le _) hd (go hs.2 hP hD hS hl)
      · exact hs.elim
    · have ok := zm_MX_ok
      simp only [Bool.and_eq_true, decide_eq_true_eq, List.all_eq_true] at ok
      obtain ⟨-, o4⟩ := ok
      have ok := zm_MN_ok
      simp only [Bool.and_eq_true, decide_eq_true_eq, List.all_eq_true] at ok
      obtain ⟨⟨o1, o2⟩, o3⟩ := ok
      have o1 := o1 _ (List.contains_iff_mem.mp hok)
      split at hs
      · next y x r => exact va_mmin hx hb (hml.trans hl.1.symm) hown (hts _ (zm_in o1 rfl)) (hts _ (zm_in o2 rfl)) (hts _ (zm_in o4 rfl)) (hts _ (zm_in o3 rfl)) (by simp only [zm_rm]; omega) (by rw [zm_cat]; simp only [zm_rm]; omega) (Nat.zero_le _) (Nat.zero_le _) hd (go hs.2 hP hD hS hl)
      · exact hs.elim
    · next n1 n2 n3 =>
      have hok : zm_AC.contains (q.2.2.2.2.1, k) = true := by
        simp only [zm_okI] at hok
        exact hok
      have ok := zm_AC_ok
      simp only [Bool.and_eq_true, decide_eq_true_eq, List.all_eq_true] at ok
      obtain ⟨⟨⟨o1, o2⟩, o3⟩, o4⟩ := ok
      have o1 := o1 _ (List.contains_iff_mem.mp hok)
      split at hs
      · next nn y qq x pp r =>
        obtain ⟨h8, s1, s2, g1, g2, g3, g4, g5, hs⟩ := hs
        have he := zm_w_at (G := G) (ad := ad) (T := T) (h := h) (zm_lt (by rw [s1]; omega))
        rw [zm_e_0 s1] at he
        have hp := zm_w_at (G := G) (ad := ad) (T := T) (h := h) (zm_lt (by rw [s2]; omega))
        rw [zm_e_0 s2] at hp
        have hfr : 1 ≤ (zm_rm (d + 1)).frames := by simp only [zm_rm]; omega
        have hlo : ((r.map (zm_v ad)).map fun v => v.category).sum + (nativeFrameWords "java/lang/System" "arraycopy" 5 + 11) ≤ (zm_rm (d + 1)).locals := by
          have h20 : nativeFrameWords "java/lang/System" "arraycopy" 5 ≤ 20 := by decide
          rw [zm_cat]
          simp only [zm_rm]
          omega
        refine va_copyi hx hb (hml.trans hl.1.symm) hown (hts _ (zm_in o1 rfl)) (hts _ (zm_in o2 rfl)) (hts _ (zm_in o3 rfl)) (hts _ (zm_in o4 rfl)) hKK hP hD hS pp qq 0 0 hp he rfl rfl rfl g1 g2 g3 g4 g5 (fun _ _ => rfl) hfr hlo hd ?_
        rw [zm_cp_up, zm_w_upd (h' := zm_cp h pp x.toNatClampNeg qq y.toNatClampNeg nn.toNatClampNeg) zm_cp_o (by rw [zm_e_0 s1])]
        exact fun H1 locs1 hP1 hD1 hS1 => go hs hP1 hD1 hS1 hl
      · exact hs.elim
  all_goals exact hs.elim
end
