section
-- ===== PART A: goes FIRST, ahead of the names: the tables' words, and 'selects' of the private methods out of them =====
/-- a private method of a class that the tables say can be made, by its rows of tables_1 -/
def lw_okq (q : MethodName × Nat) : Prop := (q.1.cls ≠ "java/lang/invoke/MethodHandle" ∧ q.1.cls ≠ "java/lang/invoke/VarHandle") ∧ Cond.instantiable q.1.cls q.2 ∈ tables_1 ∧ Cond.privateMethod q.1 ∈ tables_1 ∧ Cond.instanceMethod q.1 ∈ tables_1
theorem lw_p0 : lw_okq (⟨"MarkToBoard", "refuse", "(I)I"⟩, 18) := ⟨⟨by decide +kernel, by decide +kernel⟩, List.mem_of_getElem? (i := 17) (by decide +kernel), List.mem_of_getElem? (i := 279) (by decide +kernel), List.mem_of_getElem? (i := 280) (by decide +kernel)⟩
theorem lw_p1 : lw_okq (⟨"MarkToBoard", "firstBadLetter", "()I"⟩, 18) := ⟨⟨by decide +kernel, by decide +kernel⟩, List.mem_of_getElem? (i := 17) (by decide +kernel), List.mem_of_getElem? (i := 287) (by decide +kernel), List.mem_of_getElem? (i := 288) (by decide +kernel)⟩
theorem lw_p2 : lw_okq (⟨"MarkToBoard", "statementsInMind", "()I"⟩, 18) := ⟨⟨by decide +kernel, by decide +kernel⟩, List.mem_of_getElem? (i := 17) (by decide +kernel), List.mem_of_getElem? (i := 294) (by decide +kernel), List.mem_of_getElem? (i := 295) (by decide +kernel)⟩
theorem lw_p3 : lw_okq (⟨"MarkToBoard", "comes", "(I)Z"⟩, 18) := ⟨⟨by decide +kernel, by decide +kernel⟩, List.mem_of_getElem? (i := 17) (by decide +kernel), List.mem_of_getElem? (i := 309) (by decide +kernel), List.mem_of_getElem? (i := 310) (by decide +kernel)⟩
theorem lw_p4 : lw_okq (⟨"MarkToBoard", "number", "(II)I"⟩, 18) := ⟨⟨by decide +kernel, by decide +kernel⟩, List.mem_of_getElem? (i := 17) (by decide +kernel), List.mem_of_getElem? (i := 313) (by decide +kernel), List.mem_of_getElem? (i := 314) (by decide +kernel)⟩
theorem lw_p5 : lw_okq (⟨"MarkToBoard", "stridesCome", "(I)Z"⟩, 18) := ⟨⟨by decide +kernel, by decide +kernel⟩, List.mem_of_getElem? (i := 17) (by decide +kernel), List.mem_of_getElem? (i := 317) (by decide +kernel), List.mem_of_getElem? (i := 318) (by decide +kernel)⟩
theorem lw_p6 : lw_okq (⟨"MarkToBoard", "isMinus", "(I)Z"⟩, 18) := ⟨⟨by decide +kernel, by decide +kernel⟩, List.mem_of_getElem? (i := 17) (by decide +kernel), List.mem_of_getElem? (i := 321) (by decide +kernel), List.mem_of_getElem? (i := 322) (by decide +kernel)⟩
theorem lw_p7 : lw_okq (⟨"MarkToBoard", "windComes", "(ZI)Z"⟩, 18) := ⟨⟨by decide +kernel, by decide +kernel⟩, List.mem_of_getElem? (i := 17) (by decide +kernel), List.mem_of_getElem? (i := 325) (by decide +kernel), List.mem_of_getElem? (i := 326) (by decide +kernel)⟩
theorem lw_p8 : lw_okq (⟨"MarkToBoard", "goOnComes", "(I)Z"⟩, 18) := ⟨⟨by decide +kernel, by decide +kernel⟩, List.mem_of_getElem? (i := 17) (by decide +kernel), List.mem_of_getElem? (i := 329) (by decide +kernel), List.mem_of_getElem? (i := 330) (by decide +kernel)⟩
theorem lw_p9 : lw_okq (⟨"MarkToBoard", "jumperComes", "(I)Z"⟩, 18) := ⟨⟨by decide +kernel, by decide +kernel⟩, List.mem_of_getElem? (i := 17) (by decide +kernel), List.mem_of_getElem? (i := 333) (by decide +kernel), List.mem_of_getElem? (i := 334) (by decide +kernel)⟩
theorem lw_p10 : lw_okq (⟨"MarkToBoard", "tryComes", "(I)Z"⟩, 18) := ⟨⟨by decide +kernel, by decide +kernel⟩, List.mem_of_getElem? (i := 17) (by decide +kernel), List.mem_of_getElem? (i := 341) (by decide +kernel), List.mem_of_getElem? (i := 342) (by decide +kernel)⟩
theorem lw_p11 : lw_okq (⟨"MarkToBoard", "nobody", "(I)I"⟩, 18) := ⟨⟨by decide +kernel, by decide +kernel⟩, List.mem_of_getElem? (i := 17) (by decide +kernel), List.mem_of_getElem? (i := 427) (by decide +kernel), List.mem_of_getElem? (i := 428) (by decide +kernel)⟩
theorem lw_p12 : lw_okq (⟨"MarkToBoard", "placeOf", "(I)I"⟩, 18) := ⟨⟨by decide +kernel, by decide +kernel⟩, List.mem_of_getElem? (i := 17) (by decide +kernel), List.mem_of_getElem? (i := 517) (by decide +kernel), List.mem_of_getElem? (i := 518) (by decide +kernel)⟩
theorem lw_p13 : lw_okq (⟨"MarkToBoard", "spreadNow", "(II)V"⟩, 18) := ⟨⟨by decide +kernel, by decide +kernel⟩, List.mem_of_getElem? (i := 17) (by decide +kernel), List.mem_of_getElem? (i := 542) (by decide +kernel), List.mem_of_getElem? (i := 543) (by decide +kernel)⟩
theorem lw_p14 : lw_okq (⟨"MarkToBoard$Chances", "spreadLast", "(LMarkToBoard$Jumper;IIIIJ)V"⟩, 5) := ⟨⟨by decide +kernel, by decide +kernel⟩, List.mem_of_getElem? (i := 44) (by decide +kernel), List.mem_of_getElem? (i := 557) (by decide +kernel), List.mem_of_getElem? (i := 558) (by decide +kernel)⟩
theorem lw_p15 : lw_okq (⟨"MarkToBoard", "spreadAt", "(LMarkToBoard$Jumper;I)V"⟩, 18) := ⟨⟨by decide +kernel, by decide +kernel⟩, List.mem_of_getElem? (i := 17) (by decide +kernel), List.mem_of_getElem? (i := 588) (by decide +kernel), List.mem_of_getElem? (i := 589) (by decide +kernel)⟩
def lw_privs_1 : List (MethodName × Nat) := [(⟨"MarkToBoard", "refuse", "(I)I"⟩, 18), (⟨"MarkToBoard", "firstBadLetter", "()I"⟩, 18), (⟨"MarkToBoard", "statementsInMind", "()I"⟩, 18), (⟨"MarkToBoard", "comes", "(I)Z"⟩, 18), (⟨"MarkToBoard", "number", "(II)I"⟩, 18), (⟨"MarkToBoard", "stridesCome", "(I)Z"⟩, 18), (⟨"MarkToBoard", "isMinus", "(I)Z"⟩, 18), (⟨"MarkToBoard", "windComes", "(ZI)Z"⟩, 18), (⟨"MarkToBoard", "goOnComes", "(I)Z"⟩, 18), (⟨"MarkToBoard", "jumperComes", "(I)Z"⟩, 18), (⟨"MarkToBoard", "tryComes", "(I)Z"⟩, 18), (⟨"MarkToBoard", "nobody", "(I)I"⟩, 18), (⟨"MarkToBoard", "placeOf", "(I)I"⟩, 18), (⟨"MarkToBoard", "spreadNow", "(II)V"⟩, 18), (⟨"MarkToBoard$Chances", "spreadLast", "(LMarkToBoard$Jumper;IIIIJ)V"⟩, 5), (⟨"MarkToBoard", "spreadAt", "(LMarkToBoard$Jumper;I)V"⟩, 18)]
theorem lw_r1 : ∀ q ∈ lw_privs_1, lw_okq q := List.forall_mem_cons.mpr ⟨lw_p0, List.forall_mem_cons.mpr ⟨lw_p1, List.forall_mem_cons.mpr ⟨lw_p2, List.forall_mem_cons.mpr ⟨lw_p3, List.forall_mem_cons.mpr ⟨lw_p4, List.forall_mem_cons.mpr ⟨lw_p5, List.forall_mem_cons.mpr ⟨lw_p6, List.forall_mem_cons.mpr ⟨lw_p7, List.forall_mem_cons.mpr ⟨lw_p8, List.forall_mem_cons.mpr ⟨lw_p9, List.forall_mem_cons.mpr ⟨lw_p10, List.forall_mem_cons.mpr ⟨lw_p11, List.forall_mem_cons.mpr ⟨lw_p12, List.forall_mem_cons.mpr ⟨lw_p13, List.forall_mem_cons.mpr ⟨lw_p14, List.forall_mem_cons.mpr ⟨lw_p15, fun _ h => absurd h List.not_mem_nil⟩⟩⟩⟩⟩⟩⟩⟩⟩⟩⟩⟩⟩⟩⟩⟩
theorem lw_p16 : lw_okq (⟨"MarkToBoard", "notInTurn", "(I)I"⟩, 18) := ⟨⟨by decide +kernel, by decide +kernel⟩, List.mem_of_getElem? (i := 17) (by decide +kernel), List.mem_of_getElem? (i := 610) (by decide +kernel), List.mem_of_getElem? (i := 611) (by decide +kernel)⟩
theorem lw_p17 : lw_okq (⟨"MarkToBoard", "leastFor", "(II)I"⟩, 18) := ⟨⟨by decide +kernel, by decide +kernel⟩, List.mem_of_getElem? (i := 17) (by decide +kernel), List.mem_of_getElem? (i := 635) (by decide +kernel), List.mem_of_getElem? (i := 636) (by decide +kernel)⟩
theorem lw_p18 : lw_okq (⟨"MarkToBoard", "greatestFrom", "(I)I"⟩, 18) := ⟨⟨by decide +kernel, by decide +kernel⟩, List.mem_of_getElem? (i := 17) (by decide +kernel), List.mem_of_getElem? (i := 677) (by decide +kernel), List.mem_of_getElem? (i := 678) (by decide +kernel)⟩
theorem lw_p19 : lw_okq (⟨"MarkToBoard", "leastAhead", "(I)I"⟩, 18) := ⟨⟨by decide +kernel, by decide +kernel⟩, List.mem_of_getElem? (i := 17) (by decide +kernel), List.mem_of_getElem? (i := 681) (by decide +kernel), List.mem_of_getElem? (i := 682) (by decide +kernel)⟩
theorem lw_p20 : lw_okq (⟨"MarkToBoard", "judged", "()I"⟩, 18) := ⟨⟨by decide +kernel, by decide +kernel⟩, List.mem_of_getElem? (i := 17) (by decide +kernel), List.mem_of_getElem? (i := 707) (by decide +kernel), List.mem_of_getElem? (i := 708) (by decide +kernel)⟩
theorem lw_p21 : lw_okq (⟨"MarkToBoard", "playToTheEnd", "(I)I"⟩, 18) := ⟨⟨by decide +kernel, by decide +kernel⟩, List.mem_of_getElem? (i := 17) (by decide +kernel), List.mem_of_getElem? (i := 719) (by decide +kernel), List.mem_of_getElem? (i := 720) (by decide +kernel)⟩
theorem lw_p22 : lw_okq (⟨"MarkToBoard", "runByDraws", "(I)I"⟩, 18) := ⟨⟨by decide +kernel, by decide +kernel⟩, List.mem_of_getElem? (i := 17) (by decide +kernel), List.mem_of_getElem? (i := 723) (by decide +kernel), List.mem_of_getElem? (i := 724) (by decide +kernel)⟩
theorem lw_p23 : lw_okq (⟨"MarkToBoard", "drawBelow", "(I)I"⟩, 18) := ⟨⟨by decide +kernel, by decide +kernel⟩, List.mem_of_getElem? (i := 17) (by decide +kernel), List.mem_of_getElem? (i := 729) (by decide +kernel), List.mem_of_getElem? (i := 730) (by decide +kernel)⟩
theorem lw_p24 : lw_okq (⟨"MarkToBoard", "nobodyOfTwo", "(II)I"⟩, 18) := ⟨⟨by decide +kernel, by decide +kernel⟩, List.mem_of_getElem? (i := 17) (by decide +kernel), List.mem_of_getElem? (i := 744) (by decide +kernel), List.mem_of_getElem? (i := 745) (by decide +kernel)⟩
theorem lw_p25 : lw_okq (⟨"MarkToBoard", "fillParts", "([III)V"⟩, 18) := ⟨⟨by decide +kernel, by decide +kernel⟩, List.mem_of_getElem? (i := 17) (by decide +kernel), List.mem_of_getElem? (i := 748) (by decide +kernel), List.mem_of_getElem? (i := 749) (by decide +kernel)⟩
theorem lw_p26 : lw_okq (⟨"MarkToBoard", "moreByParts", "()I"⟩, 18) := ⟨⟨by decide +kernel, by decide +kernel⟩, List.mem_of_getElem? (i := 17) (by decide +kernel), List.mem_of_getElem? (i := 752) (by decide +kernel), List.mem_of_getElem? (i := 753) (by decide +kernel)⟩
theorem lw_p27 : lw_okq (⟨"MarkToBoard", "sure", "()I"⟩, 18) := ⟨⟨by decide +kernel, by decide +kernel⟩, List.mem_of_getElem? (i := 17) (by decide +kernel), List.mem_of_getElem? (i := 761) (by decide +kernel), List.mem_of_getElem? (i := 762) (by decide +kernel)⟩
theorem lw_p28 : lw_okq (⟨"MarkToBoard", "leastOfRow", "(I)I"⟩, 18) := ⟨⟨by decide +kernel, by decide +kernel⟩, List.mem_of_getElem? (i := 17) (by decide +kernel), List.mem_of_getElem? (i := 765) (by decide +kernel), List.mem_of_getElem? (i := 766) (by decide +kernel)⟩
theorem lw_p29 : lw_okq (⟨"MarkToBoard", "calmPair", "(I)I"⟩, 18) := ⟨⟨by decide +kernel, by decide +kernel⟩, List.mem_of_getElem? (i := 17) (by decide +kernel), List.mem_of_getElem? (i := 769) (by decide +kernel), List.mem_of_getElem? (i := 770) (by decide +kernel)⟩
theorem lw_p30 : lw_okq (⟨"MarkToBoard", "mostOfColumn", "(I)I"⟩, 18) := ⟨⟨by decide +kernel, by decide +kernel⟩, List.mem_of_getElem? (i := 17) (by decide +kernel), List.mem_of_getElem? (i := 773) (by decide +kernel), List.mem_of_getElem? (i := 774) (by decide +kernel)⟩
theorem lw_p31 : lw_okq (⟨"MarkToBoard", "practised", "(I)Z"⟩, 18) := ⟨⟨by decide +kernel, by decide +kernel⟩, List.mem_of_getElem? (i := 17) (by decide +kernel), List.mem_of_getElem? (i := 781) (by decide +kernel), List.mem_of_getElem? (i := 782) (by decide +kernel)⟩
def lw_privs_2 : List (MethodName × Nat) := [(⟨"MarkToBoard", "notInTurn", "(I)I"⟩, 18), (⟨"MarkToBoard", "leastFor", "(II)I"⟩, 18), (⟨"MarkToBoard", "greatestFrom", "(I)I"⟩, 18), (⟨"MarkToBoard", "leastAhead", "(I)I"⟩, 18), (⟨"MarkToBoard", "judged", "()I"⟩, 18), (⟨"MarkToBoard", "playToTheEnd", "(I)I"⟩, 18), (⟨"MarkToBoard", "runByDraws", "(I)I"⟩, 18), (⟨"MarkToBoard", "drawBelow", "(I)I"⟩, 18), (⟨"MarkToBoard", "nobodyOfTwo", "(II)I"⟩, 18), (⟨"MarkToBoard", "fillParts", "([III)V"⟩, 18), (⟨"MarkToBoard", "moreByParts", "()I"⟩, 18), (⟨"MarkToBoard", "sure", "()I"⟩, 18), (⟨"MarkToBoard", "leastOfRow", "(I)I"⟩, 18), (⟨"MarkToBoard", "calmPair", "(I)I"⟩, 18), (⟨"MarkToBoard", "mostOfColumn", "(I)I"⟩, 18), (⟨"MarkToBoard", "practised", "(I)Z"⟩, 18)]
theorem lw_r2 : ∀ q ∈ lw_privs_2, lw_okq q := List.forall_mem_cons.mpr ⟨lw_p16, List.forall_mem_cons.mpr ⟨lw_p17, List.forall_mem_cons.mpr ⟨lw_p18, List.forall_mem_cons.mpr ⟨lw_p19, List.forall_mem_cons.mpr ⟨lw_p20, List.forall_mem_cons.mpr ⟨lw_p21, List.forall_mem_cons.mpr ⟨lw_p22, List.forall_mem_cons.mpr ⟨lw_p23, List.forall_mem_cons.mpr ⟨lw_p24, List.forall_mem_cons.mpr ⟨lw_p25, List.forall_mem_cons.mpr ⟨lw_p26, List.forall_mem_cons.mpr ⟨lw_p27, List.forall_mem_cons.mpr ⟨lw_p28, List.forall_mem_cons.mpr ⟨lw_p29, List.forall_mem_cons.mpr ⟨lw_p30, List.forall_mem_cons.mpr ⟨lw_p31, fun _ h => absurd h List.not_mem_nil⟩⟩⟩⟩⟩⟩⟩⟩⟩⟩⟩⟩⟩⟩⟩⟩
theorem lw_p32 : lw_okq (⟨"MarkToBoard", "meanAt", "(I)J"⟩, 18) := ⟨⟨by decide +kernel, by decide +kernel⟩, List.mem_of_getElem? (i := 17) (by decide +kernel), List.mem_of_getElem? (i := 785) (by decide +kernel), List.mem_of_getElem? (i := 786) (by decide +kernel)⟩
theorem lw_p33 : lw_okq (⟨"MarkToBoard", "fullLength", "(I)I"⟩, 18) := ⟨⟨by decide +kernel, by decide +kernel⟩, List.mem_of_getElem? (i := 17) (by decide +kernel), List.mem_of_getElem? (i := 816) (by decide +kernel), List.mem_of_getElem? (i := 817) (by decide +kernel)⟩
theorem lw_p34 : lw_okq (⟨"MarkToBoardModel", "no", "(I)I"⟩, 41) := ⟨⟨by decide +kernel, by decide +kernel⟩, List.mem_of_getElem? (i := 840) (by decide +kernel), List.mem_of_getElem? (i := 977) (by decide +kernel), List.mem_of_getElem? (i := 978) (by decide +kernel)⟩
theorem lw_p35 : lw_okq (⟨"MarkToBoardModel", "statement", "()Z"⟩, 41) := ⟨⟨by decide +kernel, by decide +kernel⟩, List.mem_of_getElem? (i := 840) (by decide +kernel), List.mem_of_getElem? (i := 985) (by decide +kernel), List.mem_of_getElem? (i := 986) (by decide +kernel)⟩
theorem lw_p36 : lw_okq (⟨"MarkToBoardModel", "next", "()I"⟩, 41) := ⟨⟨by decide +kernel, by decide +kernel⟩, List.mem_of_getElem? (i := 840) (by decide +kernel), List.mem_of_getElem? (i := 989) (by decide +kernel), List.mem_of_getElem? (i := 990) (by decide +kernel)⟩
theorem lw_p37 : lw_okq (⟨"MarkToBoardModel", "readsAll", "(II)Z"⟩, 41) := ⟨⟨by decide +kernel, by decide +kernel⟩, List.mem_of_getElem? (i := 840) (by decide +kernel), List.mem_of_getElem? (i := 993) (by decide +kernel), List.mem_of_getElem? (i := 994) (by decide +kernel)⟩
theorem lw_p38 : lw_okq (⟨"MarkToBoardModel", "readsDigits", "(II)Z"⟩, 41) := ⟨⟨by decide +kernel, by decide +kernel⟩, List.mem_of_getElem? (i := 840) (by decide +kernel), List.mem_of_getElem? (i := 997) (by decide +kernel), List.mem_of_getElem? (i := 998) (by decide +kernel)⟩
theorem lw_p39 : lw_okq (⟨"MarkToBoardModel", "readsWind", "(I)Z"⟩, 41) := ⟨⟨by decide +kernel, by decide +kernel⟩, List.mem_of_getElem? (i := 840) (by decide +kernel), List.mem_of_getElem? (i := 1004) (by decide +kernel), List.mem_of_getElem? (i := 1005) (by decide +kernel)⟩
theorem lw_p40 : lw_okq (⟨"MarkToBoardModel", "readsJumper", "(I)Z"⟩, 41) := ⟨⟨by decide +kernel, by decide +kernel⟩, List.mem_of_getElem? (i := 840) (by decide +kernel), List.mem_of_getElem? (i := 1008) (by decide +kernel), List.mem_of_getElem? (i := 1009) (by decide +kernel)⟩
theorem lw_p41 : lw_okq (⟨"MarkToBoardModel", "passesAll", "(IZ)V"⟩, 41) := ⟨⟨by decide +kernel, by decide +kernel⟩, List.mem_of_getElem? (i := 840) (by decide +kernel), List.mem_of_getElem? (i := 1012) (by decide +kernel), List.mem_of_getElem? (i := 1013) (by decide +kernel)⟩
theorem lw_p42 : lw_okq (⟨"MarkToBoardModel", "passes", "([I)V"⟩, 41) := ⟨⟨by decide +kernel, by decide +kernel⟩, List.mem_of_getElem? (i := 840) (by decide +kernel), List.mem_of_getElem? (i := 1016) (by decide +kernel), List.mem_of_getElem? (i := 1017) (by decide +kernel)⟩
theorem lw_p43 : lw_okq (⟨"MarkToBoardModel", "passOne", "(I)I"⟩, 41) := ⟨⟨by decide +kernel, by decide +kernel⟩, List.mem_of_getElem? (i := 840) (by decide +kernel), List.mem_of_getElem? (i := 1020) (by decide +kernel), List.mem_of_getElem? (i := 1021) (by decide +kernel)⟩
theorem lw_p44 : lw_okq (⟨"MarkToBoardModel", "comes", "(I)Z"⟩, 41) := ⟨⟨by decide +kernel, by decide +kernel⟩, List.mem_of_getElem? (i := 840) (by decide +kernel), List.mem_of_getElem? (i := 1024) (by decide +kernel), List.mem_of_getElem? (i := 1025) (by decide +kernel)⟩
theorem lw_p45 : lw_okq (⟨"MarkToBoardModel", "comesJumper", "(I)Z"⟩, 41) := ⟨⟨by decide +kernel, by decide +kernel⟩, List.mem_of_getElem? (i := 840) (by decide +kernel), List.mem_of_getElem? (i := 1028) (by decide +kernel), List.mem_of_getElem? (i := 1029) (by decide +kernel)⟩
theorem lw_p46 : lw_okq (⟨"MarkToBoardModel", "turnNow", "()I"⟩, 41) := ⟨⟨by decide +kernel, by decide +kernel⟩, List.mem_of_getElem? (i := 840) (by decide +kernel), List.mem_of_getElem? (i := 1032) (by decide +kernel), List.mem_of_getElem? (i := 1033) (by decide +kernel)⟩
theorem lw_p47 : lw_okq (⟨"MarkToBoardModel", "finalists", "()I"⟩, 41) := ⟨⟨by decide +kernel, by decide +kernel⟩, List.mem_of_getElem? (i := 840) (by decide +kernel), List.mem_of_getElem? (i := 1036) (by decide +kernel), List.mem_of_getElem? (i := 1037) (by decide +kernel)⟩
def lw_privs_3 : List (MethodName × Nat) := [(⟨"MarkToBoard", "meanAt", "(I)J"⟩, 18), (⟨"MarkToBoard", "fullLength", "(I)I"⟩, 18), (⟨"MarkToBoardModel", "no", "(I)I"⟩, 41), (⟨"MarkToBoardModel", "statement", "()Z"⟩, 41), (⟨"MarkToBoardModel", "next", "()I"⟩, 41), (⟨"MarkToBoardModel", "readsAll", "(II)Z"⟩, 41), (⟨"MarkToBoardModel", "readsDigits", "(II)Z"⟩, 41), (⟨"MarkToBoardModel", "readsWind", "(I)Z"⟩, 41), (⟨"MarkToBoardModel", "readsJumper", "(I)Z"⟩, 41), (⟨"MarkToBoardModel", "passesAll", "(IZ)V"⟩, 41), (⟨"MarkToBoardModel", "passes", "([I)V"⟩, 41), (⟨"MarkToBoardModel", "passOne", "(I)I"⟩, 41), (⟨"MarkToBoardModel", "comes", "(I)Z"⟩, 41), (⟨"MarkToBoardModel", "comesJumper", "(I)Z"⟩, 41), (⟨"MarkToBoardModel", "turnNow", "()I"⟩, 41), (⟨"MarkToBoardModel", "finalists", "()I"⟩, 41)]
theorem lw_r3 : ∀ q ∈ lw_privs_3, lw_okq q := List.forall_mem_cons.mpr ⟨lw_p32, List.forall_mem_cons.mpr ⟨lw_p33, List.forall_mem_cons.mpr ⟨lw_p34, List.forall_mem_cons.mpr ⟨lw_p35, List.forall_mem_cons.mpr ⟨lw_p36, List.forall_mem_cons.mpr ⟨lw_p37, List.forall_mem_cons.mpr ⟨lw_p38, List.forall_mem_cons.mpr ⟨lw_p39, List.forall_mem_cons.mpr ⟨lw_p40, List.forall_mem_cons.mpr ⟨lw_p41, List.forall_mem_cons.mpr ⟨lw_p42, List.forall_mem_cons.mpr ⟨lw_p43, List.forall_mem_cons.mpr ⟨lw_p44, List.forall_mem_cons.mpr ⟨lw_p45, List.forall_mem_cons.mpr ⟨lw_p46, List.forall_mem_cons.mpr ⟨lw_p47, fun _ h => absurd h List.not_mem_nil⟩⟩⟩⟩⟩⟩⟩⟩⟩⟩⟩⟩⟩⟩⟩⟩
theorem lw_p48 : lw_okq (⟨"MarkToBoardModel", "findBest", "(II)V"⟩, 41) := ⟨⟨by decide +kernel, by decide +kernel⟩, List.mem_of_getElem? (i := 840) (by decide +kernel), List.mem_of_getElem? (i := 1040) (by decide +kernel), List.mem_of_getElem? (i := 1041) (by decide +kernel)⟩
theorem lw_p49 : lw_okq (⟨"MarkToBoardModel", "triedAs", "(II)I"⟩, 41) := ⟨⟨by decide +kernel, by decide +kernel⟩, List.mem_of_getElem? (i := 840) (by decide +kernel), List.mem_of_getElem? (i := 1044) (by decide +kernel), List.mem_of_getElem? (i := 1045) (by decide +kernel)⟩
theorem lw_p50 : lw_okq (⟨"MarkToBoardModel", "lengthOf", "(III)I"⟩, 41) := ⟨⟨by decide +kernel, by decide +kernel⟩, List.mem_of_getElem? (i := 840) (by decide +kernel), List.mem_of_getElem? (i := 1048) (by decide +kernel), List.mem_of_getElem? (i := 1049) (by decide +kernel)⟩
theorem lw_p51 : lw_okq (⟨"MarkToBoardModel", "comesLength", "(II)V"⟩, 41) := ⟨⟨by decide +kernel, by decide +kernel⟩, List.mem_of_getElem? (i := 840) (by decide +kernel), List.mem_of_getElem? (i := 1055) (by decide +kernel), List.mem_of_getElem? (i := 1056) (by decide +kernel)⟩
theorem lw_p52 : lw_okq (⟨"MarkToBoardModel", "sorts", "()V"⟩, 41) := ⟨⟨by decide +kernel, by decide +kernel⟩, List.mem_of_getElem? (i := 840) (by decide +kernel), List.mem_of_getElem? (i := 1059) (by decide +kernel), List.mem_of_getElem? (i := 1060) (by decide +kernel)⟩
theorem lw_p53 : lw_okq (⟨"MarkToBoardModel", "isAhead", "(II)Z"⟩, 41) := ⟨⟨by decide +kernel, by decide +kernel⟩, List.mem_of_getElem? (i := 840) (by decide +kernel), List.mem_of_getElem? (i := 1063) (by decide +kernel), List.mem_of_getElem? (i := 1064) (by decide +kernel)⟩
theorem lw_p54 : lw_okq (⟨"MarkToBoardModel", "comesTry", "(II)Z"⟩, 41) := ⟨⟨by decide +kernel, by decide +kernel⟩, List.mem_of_getElem? (i := 840) (by decide +kernel), List.mem_of_getElem? (i := 1067) (by decide +kernel), List.mem_of_getElem? (i := 1068) (by decide +kernel)⟩
theorem lw_p55 : lw_okq (⟨"MarkToBoardModel", "putsTry", "(III)V"⟩, 41) := ⟨⟨by decide +kernel, by decide +kernel⟩, List.mem_of_getElem? (i := 840) (by decide +kernel), List.mem_of_getElem? (i := 1071) (by decide +kernel), List.mem_of_getElem? (i := 1072) (by decide +kernel)⟩
theorem lw_p56 : lw_okq (⟨"MarkToBoardModel", "isJumper", "(I)Z"⟩, 41) := ⟨⟨by decide +kernel, by decide +kernel⟩, List.mem_of_getElem? (i := 840) (by decide +kernel), List.mem_of_getElem? (i := 1087) (by decide +kernel), List.mem_of_getElem? (i := 1088) (by decide +kernel)⟩
theorem lw_p57 : lw_okq (⟨"MarkToBoardModel", "aimOf", "(I)I"⟩, 41) := ⟨⟨by decide +kernel, by decide +kernel⟩, List.mem_of_getElem? (i := 840) (by decide +kernel), List.mem_of_getElem? (i := 1091) (by decide +kernel), List.mem_of_getElem? (i := 1092) (by decide +kernel)⟩
theorem lw_p58 : lw_okq (⟨"MarkToBoardModel", "triesOf", "(I)I"⟩, 41) := ⟨⟨by decide +kernel, by decide +kernel⟩, List.mem_of_getElem? (i := 840) (by decide +kernel), List.mem_of_getElem? (i := 1095) (by decide +kernel), List.mem_of_getElem? (i := 1096) (by decide +kernel)⟩
theorem lw_p59 : lw_okq (⟨"MarkToBoardModel", "lower", "(I)I"⟩, 41) := ⟨⟨by decide +kernel, by decide +kernel⟩, List.mem_of_getElem? (i := 840) (by decide +kernel), List.mem_of_getElem? (i := 1115) (by decide +kernel), List.mem_of_getElem? (i := 1116) (by decide +kernel)⟩
theorem lw_p60 : lw_okq (⟨"MarkToBoardModel", "strideIn", "(III)I"⟩, 41) := ⟨⟨by decide +kernel, by decide +kernel⟩, List.mem_of_getElem? (i := 840) (by decide +kernel), List.mem_of_getElem? (i := 1124) (by decide +kernel), List.mem_of_getElem? (i := 1125) (by decide +kernel)⟩
theorem lw_p61 : lw_okq (⟨"MarkToBoardModel", "placeOf", "(I)I"⟩, 41) := ⟨⟨by decide +kernel, by decide +kernel⟩, List.mem_of_getElem? (i := 840) (by decide +kernel), List.mem_of_getElem? (i := 1132) (by decide +kernel), List.mem_of_getElem? (i := 1133) (by decide +kernel)⟩
theorem lw_p62 : lw_okq (⟨"MarkToBoardModel", "allStrides", "(II)I"⟩, 41) := ⟨⟨by decide +kernel, by decide +kernel⟩, List.mem_of_getElem? (i := 840) (by decide +kernel), List.mem_of_getElem? (i := 1136) (by decide +kernel), List.mem_of_getElem? (i := 1137) (by decide +kernel)⟩
theorem lw_p63 : lw_okq (⟨"MarkToBoardModel", "lowest", "(I)J"⟩, 41) := ⟨⟨by decide +kernel, by decide +kernel⟩, List.mem_of_getElem? (i := 840) (by decide +kernel), List.mem_of_getElem? (i := 1148) (by decide +kernel), List.mem_of_getElem? (i := 1149) (by decide +kernel)⟩
def lw_privs_4 : List (MethodName × Nat) := [(⟨"MarkToBoardModel", "findBest", "(II)V"⟩, 41), (⟨"MarkToBoardModel", "triedAs", "(II)I"⟩, 41), (⟨"MarkToBoardModel", "lengthOf", "(III)I"⟩, 41), (⟨"MarkToBoardModel", "comesLength", "(II)V"⟩, 41), (⟨"MarkToBoardModel", "sorts", "()V"⟩, 41), (⟨"MarkToBoardModel", "isAhead", "(II)Z"⟩, 41), (⟨"MarkToBoardModel", "comesTry", "(II)Z"⟩, 41), (⟨"MarkToBoardModel", "putsTry", "(III)V"⟩, 41), (⟨"MarkToBoardModel", "isJumper", "(I)Z"⟩, 41), (⟨"MarkToBoardModel", "aimOf", "(I)I"⟩, 41), (⟨"MarkToBoardModel", "triesOf", "(I)I"⟩, 41), (⟨"MarkToBoardModel", "lower", "(I)I"⟩, 41), (⟨"MarkToBoardModel", "strideIn", "(III)I"⟩, 41), (⟨"MarkToBoardModel", "placeOf", "(I)I"⟩, 41), (⟨"MarkToBoardModel", "allStrides", "(II)I"⟩, 41), (⟨"MarkToBoardModel", "lowest", "(I)J"⟩, 41)]
theorem lw_r4 : ∀ q ∈ lw_privs_4, lw_okq q := List.forall_mem_cons.mpr ⟨lw_p48, List.forall_mem_cons.mpr ⟨lw_p49, List.forall_mem_cons.mpr ⟨lw_p50, List.forall_mem_cons.mpr ⟨lw_p51, List.forall_mem_cons.mpr ⟨lw_p52, List.forall_mem_cons.mpr ⟨lw_p53, List.forall_mem_cons.mpr ⟨lw_p54, List.forall_mem_cons.mpr ⟨lw_p55, List.forall_mem_cons.mpr ⟨lw_p56, List.forall_mem_cons.mpr ⟨lw_p57, List.forall_mem_cons.mpr ⟨lw_p58, List.forall_mem_cons.mpr ⟨lw_p59, List.forall_mem_cons.mpr ⟨lw_p60, List.forall_mem_cons.mpr ⟨lw_p61, List.forall_mem_cons.mpr ⟨lw_p62, List.forall_mem_cons.mpr ⟨lw_p63, fun _ h => absurd h List.not_mem_nil⟩⟩⟩⟩⟩⟩⟩⟩⟩⟩⟩⟩⟩⟩⟩⟩
theorem lw_p64 : lw_okq (⟨"MarkToBoardModel", "counted", "(IIII)J"⟩, 41) := ⟨⟨by decide +kernel, by decide +kernel⟩, List.mem_of_getElem? (i := 840) (by decide +kernel), List.mem_of_getElem? (i := 1153) (by decide +kernel), List.mem_of_getElem? (i := 1154) (by decide +kernel)⟩
theorem lw_p65 : lw_okq (⟨"MarkToBoardModel", "countedOne", "(IIIII)I"⟩, 41) := ⟨⟨by decide +kernel, by decide +kernel⟩, List.mem_of_getElem? (i := 840) (by decide +kernel), List.mem_of_getElem? (i := 1160) (by decide +kernel), List.mem_of_getElem? (i := 1161) (by decide +kernel)⟩
theorem lw_p66 : lw_okq (⟨"MarkToBoardModel", "allWays", "()J"⟩, 41) := ⟨⟨by decide +kernel, by decide +kernel⟩, List.mem_of_getElem? (i := 840) (by decide +kernel), List.mem_of_getElem? (i := 1164) (by decide +kernel), List.mem_of_getElem? (i := 1165) (by decide +kernel)⟩
theorem lw_p67 : lw_okq (⟨"MarkToBoardModel", "meanParts", "(I)J"⟩, 41) := ⟨⟨by decide +kernel, by decide +kernel⟩, List.mem_of_getElem? (i := 840) (by decide +kernel), List.mem_of_getElem? (i := 1178) (by decide +kernel), List.mem_of_getElem? (i := 1179) (by decide +kernel)⟩
theorem lw_p68 : lw_okq (⟨"MarkToBoardModel", "isEnough", "(III)Z"⟩, 41) := ⟨⟨by decide +kernel, by decide +kernel⟩, List.mem_of_getElem? (i := 840) (by decide +kernel), List.mem_of_getElem? (i := 1223) (by decide +kernel), List.mem_of_getElem? (i := 1224) (by decide +kernel)⟩
theorem lw_p69 : lw_okq (⟨"MarkToBoardModel", "rankOf", "(I)I"⟩, 41) := ⟨⟨by decide +kernel, by decide +kernel⟩, List.mem_of_getElem? (i := 840) (by decide +kernel), List.mem_of_getElem? (i := 1227) (by decide +kernel), List.mem_of_getElem? (i := 1228) (by decide +kernel)⟩
theorem lw_p70 : lw_okq (⟨"MarkToBoardModel", "leader", "()I"⟩, 41) := ⟨⟨by decide +kernel, by decide +kernel⟩, List.mem_of_getElem? (i := 840) (by decide +kernel), List.mem_of_getElem? (i := 1239) (by decide +kernel), List.mem_of_getElem? (i := 1240) (by decide +kernel)⟩
theorem lw_p71 : lw_okq (⟨"MarkToBoardModel", "ranksNow", "()V"⟩, 41) := ⟨⟨by decide +kernel, by decide +kernel⟩, List.mem_of_getElem? (i := 840) (by decide +kernel), List.mem_of_getElem? (i := 1243) (by decide +kernel), List.mem_of_getElem? (i := 1244) (by decide +kernel)⟩
theorem lw_p72 : lw_okq (⟨"MarkToBoardModel", "goOnBits", "()I"⟩, 41) := ⟨⟨by decide +kernel, by decide +kernel⟩, List.mem_of_getElem? (i := 840) (by decide +kernel), List.mem_of_getElem? (i := 1251) (by decide +kernel), List.mem_of_getElem? (i := 1252) (by decide +kernel)⟩
theorem lw_p73 : lw_okq (⟨"MarkToBoardModel", "tenThousandths", "(IIII)I"⟩, 41) := ⟨⟨by decide +kernel, by decide +kernel⟩, List.mem_of_getElem? (i := 840) (by decide +kernel), List.mem_of_getElem? (i := 1259) (by decide +kernel), List.mem_of_getElem? (i := 1260) (by decide +kernel)⟩
theorem lw_p74 : lw_okq (⟨"MarkToBoardModel", "isMovedFrom", "(II)Z"⟩, 41) := ⟨⟨by decide +kernel, by decide +kernel⟩, List.mem_of_getElem? (i := 840) (by decide +kernel), List.mem_of_getElem? (i := 1276) (by decide +kernel), List.mem_of_getElem? (i := 1277) (by decide +kernel)⟩
theorem lw_p75 : lw_okq (⟨"MarkToBoardModel", "roundNow", "()I"⟩, 41) := ⟨⟨by decide +kernel, by decide +kernel⟩, List.mem_of_getElem? (i := 840) (by decide +kernel), List.mem_of_getElem? (i := 1288) (by decide +kernel), List.mem_of_getElem? (i := 1289) (by decide +kernel)⟩
theorem lw_p76 : lw_okq (⟨"MarkToBoardModel", "isOther", "(I)Z"⟩, 41) := ⟨⟨by decide +kernel, by decide +kernel⟩, List.mem_of_getElem? (i := 840) (by decide +kernel), List.mem_of_getElem? (i := 1300) (by decide +kernel), List.mem_of_getElem? (i := 1301) (by decide +kernel)⟩
theorem lw_p77 : lw_okq (⟨"MarkToBoardModel", "findLengths", "(II[J)V"⟩, 41) := ⟨⟨by decide +kernel, by decide +kernel⟩, List.mem_of_getElem? (i := 840) (by decide +kernel), List.mem_of_getElem? (i := 1312) (by decide +kernel), List.mem_of_getElem? (i := 1313) (by decide +kernel)⟩
theorem lw_p78 : lw_okq (⟨"MarkToBoardModel", "partOfWays", "(J)J"⟩, 41) := ⟨⟨by decide +kernel, by decide +kernel⟩, List.mem_of_getElem? (i := 840) (by decide +kernel), List.mem_of_getElem? (i := 1316) (by decide +kernel), List.mem_of_getElem? (i := 1317) (by decide +kernel)⟩
theorem lw_p79 : lw_okq (⟨"MarkToBoardModel", "areTwo", "(II)Z"⟩, 41) := ⟨⟨by decide +kernel, by decide +kernel⟩, List.mem_of_getElem? (i := 840) (by decide +kernel), List.mem_of_getElem? (i := 1324) (by decide +kernel), List.mem_of_getElem? (i := 1325) (by decide +kernel)⟩
def lw_privs_5 : List (MethodName × Nat) := [(⟨"MarkToBoardModel", "counted", "(IIII)J"⟩, 41), (⟨"MarkToBoardModel", "countedOne", "(IIIII)I"⟩, 41), (⟨"MarkToBoardModel", "allWays", "()J"⟩, 41), (⟨"MarkToBoardModel", "meanParts", "(I)J"⟩, 41), (⟨"MarkToBoardModel", "isEnough", "(III)Z"⟩, 41), (⟨"MarkToBoardModel", "rankOf", "(I)I"⟩, 41), (⟨"MarkToBoardModel", "leader", "()I"⟩, 41), (⟨"MarkToBoardModel", "ranksNow", "()V"⟩, 41), (⟨"MarkToBoardModel", "goOnBits", "()I"⟩, 41), (⟨"MarkToBoardModel", "tenThousandths", "(IIII)I"⟩, 41), (⟨"MarkToBoardModel", "isMovedFrom", "(II)Z"⟩, 41), (⟨"MarkToBoardModel", "roundNow", "()I"⟩, 41), (⟨"MarkToBoardModel", "isOther", "(I)Z"⟩, 41), (⟨"MarkToBoardModel", "findLengths", "(II[J)V"⟩, 41), (⟨"MarkToBoardModel", "partOfWays", "(J)J"⟩, 41), (⟨"MarkToBoardModel", "areTwo", "(II)Z"⟩, 41)]
theorem lw_r5 : ∀ q ∈ lw_privs_5, lw_okq q := List.forall_mem_cons.mpr ⟨lw_p64, List.forall_mem_cons.mpr ⟨lw_p65, List.forall_mem_cons.mpr ⟨lw_p66, List.forall_mem_cons.mpr ⟨lw_p67, List.forall_mem_cons.mpr ⟨lw_p68, List.forall_mem_cons.mpr ⟨lw_p69, List.forall_mem_cons.mpr ⟨lw_p70, List.forall_mem_cons.mpr ⟨lw_p71, List.forall_mem_cons.mpr ⟨lw_p72, List.forall_mem_cons.mpr ⟨lw_p73, List.forall_mem_cons.mpr ⟨lw_p74, List.forall_mem_cons.mpr ⟨lw_p75, List.forall_mem_cons.mpr ⟨lw_p76, List.forall_mem_cons.mpr ⟨lw_p77, List.forall_mem_cons.mpr ⟨lw_p78, List.forall_mem_cons.mpr ⟨lw_p79, fun _ h => absurd h List.not_mem_nil⟩⟩⟩⟩⟩⟩⟩⟩⟩⟩⟩⟩⟩⟩⟩⟩
theorem lw_p80 : lw_okq (⟨"MarkToBoardModel", "moreFrom", "(IIII)I"⟩, 41) := ⟨⟨by decide +kernel, by decide +kernel⟩, List.mem_of_getElem? (i := 840) (by decide +kernel), List.mem_of_getElem? (i := 1328) (by decide +kernel), List.mem_of_getElem? (i := 1329) (by decide +kernel)⟩
theorem lw_p81 : lw_okq (⟨"MarkToBoardModel", "sureMore", "()I"⟩, 41) := ⟨⟨by decide +kernel, by decide +kernel⟩, List.mem_of_getElem? (i := 840) (by decide +kernel), List.mem_of_getElem? (i := 1336) (by decide +kernel), List.mem_of_getElem? (i := 1337) (by decide +kernel)⟩
theorem lw_p82 : lw_okq (⟨"MarkToBoardModel", "rests", "(I)Z"⟩, 41) := ⟨⟨by decide +kernel, by decide +kernel⟩, List.mem_of_getElem? (i := 840) (by decide +kernel), List.mem_of_getElem? (i := 1340) (by decide +kernel), List.mem_of_getElem? (i := 1341) (by decide +kernel)⟩
theorem lw_p83 : lw_okq (⟨"MarkToBoardModel", "canPractise", "(II)Z"⟩, 41) := ⟨⟨by decide +kernel, by decide +kernel⟩, List.mem_of_getElem? (i := 840) (by decide +kernel), List.mem_of_getElem? (i := 1348) (by decide +kernel), List.mem_of_getElem? (i := 1349) (by decide +kernel)⟩
theorem lw_p84 : lw_okq (⟨"MarkToBoardModel", "practises", "(III)V"⟩, 41) := ⟨⟨by decide +kernel, by decide +kernel⟩, List.mem_of_getElem? (i := 840) (by decide +kernel), List.mem_of_getElem? (i := 1352) (by decide +kernel), List.mem_of_getElem? (i := 1353) (by decide +kernel)⟩
theorem lw_p85 : lw_okq (⟨"MarkToBoardModel", "triesBy", "(II)I"⟩, 41) := ⟨⟨by decide +kernel, by decide +kernel⟩, List.mem_of_getElem? (i := 840) (by decide +kernel), List.mem_of_getElem? (i := 1368) (by decide +kernel), List.mem_of_getElem? (i := 1369) (by decide +kernel)⟩
theorem lw_p86 : lw_okq (⟨"MarkToBoardModel", "triesByLot", "(I)V"⟩, 41) := ⟨⟨by decide +kernel, by decide +kernel⟩, List.mem_of_getElem? (i := 840) (by decide +kernel), List.mem_of_getElem? (i := 1392) (by decide +kernel), List.mem_of_getElem? (i := 1393) (by decide +kernel)⟩
theorem lw_p87 : lw_okq (⟨"MarkToBoardModel", "drawnSlip", "(I)I"⟩, 41) := ⟨⟨by decide +kernel, by decide +kernel⟩, List.mem_of_getElem? (i := 840) (by decide +kernel), List.mem_of_getElem? (i := 1396) (by decide +kernel), List.mem_of_getElem? (i := 1397) (by decide +kernel)⟩
theorem lw_p88 : lw_okq (⟨"MarkToBoardModel", "triesAs", "(I)I"⟩, 41) := ⟨⟨by decide +kernel, by decide +kernel⟩, List.mem_of_getElem? (i := 840) (by decide +kernel), List.mem_of_getElem? (i := 1407) (by decide +kernel), List.mem_of_getElem? (i := 1408) (by decide +kernel)⟩
def lw_privs_6 : List (MethodName × Nat) := [(⟨"MarkToBoardModel", "moreFrom", "(IIII)I"⟩, 41), (⟨"MarkToBoardModel", "sureMore", "()I"⟩, 41), (⟨"MarkToBoardModel", "rests", "(I)Z"⟩, 41), (⟨"MarkToBoardModel", "canPractise", "(II)Z"⟩, 41), (⟨"MarkToBoardModel", "practises", "(III)V"⟩, 41), (⟨"MarkToBoardModel", "triesBy", "(II)I"⟩, 41), (⟨"MarkToBoardModel", "triesByLot", "(I)V"⟩, 41), (⟨"MarkToBoardModel", "drawnSlip", "(I)I"⟩, 41), (⟨"MarkToBoardModel", "triesAs", "(I)I"⟩, 41)]
theorem lw_r6 : ∀ q ∈ lw_privs_6, lw_okq q := List.forall_mem_cons.mpr ⟨lw_p80, List.forall_mem_cons.mpr ⟨lw_p81, List.forall_mem_cons.mpr ⟨lw_p82, List.forall_mem_cons.mpr ⟨lw_p83, List.forall_mem_cons.mpr ⟨lw_p84, List.forall_mem_cons.mpr ⟨lw_p85, List.forall_mem_cons.mpr ⟨lw_p86, List.forall_mem_cons.mpr ⟨lw_p87, List.forall_mem_cons.mpr ⟨lw_p88, fun _ h => absurd h List.not_mem_nil⟩⟩⟩⟩⟩⟩⟩⟩⟩
def lw_privs : List (MethodName × Nat) := lw_privs_1 ++ (lw_privs_2 ++ (lw_privs_3 ++ (lw_privs_4 ++ (lw_privs_5 ++ (lw_privs_6)))))
def lw_tbl : List Cond := k2_sels lw_privs ++ tables_1
theorem lw_privs_ok : ∀ q ∈ lw_privs, lw_okq q := by
  show ∀ q ∈ lw_privs_1 ++ (lw_privs_2 ++ (lw_privs_3 ++ (lw_privs_4 ++ (lw_privs_5 ++ (lw_privs_6))))), lw_okq q
  exact List.forall_mem_append.mpr ⟨lw_r1, List.forall_mem_append.mpr ⟨lw_r2, List.forall_mem_append.mpr ⟨lw_r3, List.forall_mem_append.mpr ⟨lw_r4, List.forall_mem_append.mpr ⟨lw_r5, lw_r6⟩⟩⟩⟩⟩
end
section
def RX0 : String := "MarkToBoard$Bold"
def TX0 : u_T := fun k => match k with
  | _ => ("", "", "", false)
def tyX0 : Nat → FieldType := fun k => match k with
  | _ => .int
abbrev wsX00 : List Cond := u_ws RX0 TX0 0
theorem nmX0 : ∀ a, a < 0 → ∀ b, b < 0 → a ≠ b → (TX0 a).2.1 ≠ (TX0 b).2.1 := by decide +kernel
theorem tyX0_ok : ∀ k, k < 0 → parseFieldDescriptor (TX0 k).2.2.1 = some (tyX0 k) := by decide +kernel
abbrev cX0_init : ByteArray := prog_2_method_1_code
def yX0_init : MethodName := ⟨RX0, "<init>", "()V"⟩
abbrev cX0_aimOf : ByteArray := prog_2_method_2_code
def yX0_aimOf : MethodName := ⟨RX0, "aimOf", "(LMarkToBoard$Jumper;)I"⟩
abbrev cX0_strideOf : ByteArray := prog_2_method_3_code
def yX0_strideOf : MethodName := ⟨RX0, "strideOf", "(LMarkToBoard$Jumper;II)I"⟩
abbrev cX0_lengthOf : ByteArray := prog_2_method_4_code
def yX0_lengthOf : MethodName := ⟨RX0, "lengthOf", "(LMarkToBoard$Jumper;III)I"⟩
def RX1 : String := "MarkToBoard$Chances"
def TX1 : u_T := fun k => match k with
  | 0 => ("MarkToBoard$Chances", "ways", "[[J", true)
  | 1 => ("MarkToBoard$Chances", "byLength", "[J", true)
  | 2 => ("MarkToBoard$Chances", "all", "J", false)
  | 3 => ("MarkToBoard$Chances", "fouls", "J", false)
  | _ => ("MarkToBoard$Chances", "off", "J", false)
def tyX1 : Nat → FieldType := fun k => match k with
  | 0 => .array (.array .long)
  | 1 => .array .long
  | 2 => .long
  | 3 => .long
  | _ => .long
abbrev wsX10 : List Cond := u_ws RX1 TX1 5
theorem nmX1 : ∀ a, a < 5 → ∀ b, b < 5 → a ≠ b → (TX1 a).2.1 ≠ (TX1 b).2.1 := by decide +kernel
theorem tyX1_ok : ∀ k, k < 5 → parseFieldDescriptor (TX1 k).2.2.1 = some (tyX1 k) := by decide +kernel
abbrev cX1_init : ByteArray := prog_3_method_1_code
def yX1_init : MethodName := ⟨RX1, "<init>", "()V"⟩
abbrev cX1_spread : ByteArray := prog_3_method_2_code
def yX1_spread : MethodName := ⟨RX1, "spread", "(LMarkToBoard$Jumper;IIII)V"⟩
abbrev cX1_spreadLast : ByteArray := prog_3_method_3_code
def yX1_spreadLast : MethodName := ⟨RX1, "spreadLast", "(LMarkToBoard$Jumper;IIIIJ)V"⟩
abbrev cX1_meanWays : ByteArray := prog_3_method_4_code
def yX1_meanWays : MethodName := ⟨RX1, "meanWays", "()J"⟩
abbrev cX1_waysPast : ByteArray := prog_3_method_5_code
def yX1_waysPast : MethodName := ⟨RX1, "waysPast", "(I)J"⟩
abbrev cX1_share : ByteArray := prog_3_method_6_code
def yX1_share : MethodName := ⟨RX1, "share", "(J)I"⟩
def RX2 : String := "MarkToBoard$Jumper"
def TX2 : u_T := fun k => match k with
  | 0 => ("MarkToBoard$Jumper", "way", "LMarkToBoard$Kind;", false)
  | 1 => ("MarkToBoard$Jumper", "kind", "I", false)
  | 2 => ("MarkToBoard$Jumper", "figure", "I", false)
  | 3 => ("MarkToBoard$Jumper", "stride", "I", false)
  | 4 => ("MarkToBoard$Jumper", "grow", "I", false)
  | 5 => ("MarkToBoard$Jumper", "slip", "I", false)
  | 6 => ("MarkToBoard$Jumper", "pace", "I", false)
  | 7 => ("MarkToBoard$Jumper", "look", "I", false)
  | _ => ("MarkToBoard$Jumper", "mark", "I", false)
def tyX2 : Nat → FieldType := fun k => match k with
  | 0 => .object "MarkToBoard$Kind"
  | 1 => .int
  | 2 => .int
  | 3 => .int
  | 4 => .int
  | 5 => .int
  | 6 => .int
  | 7 => .int
  | _ => .int
abbrev wsX20 : List Cond := u_ws RX2 TX2 9
theorem nmX2 : ∀ a, a < 9 → ∀ b, b < 9 → a ≠ b → (TX2 a).2.1 ≠ (TX2 b).2.1 := by decide +kernel
theorem tyX2_ok : ∀ k, k < 9 → parseFieldDescriptor (TX2 k).2.2.1 = some (tyX2 k) := by decide +kernel
abbrev cX2_init : ByteArray := prog_4_method_1_code
def yX2_init : MethodName := ⟨RX2, "<init>", "(LMarkToBoard$Kind;)V"⟩
abbrev cX2_copyFrom : ByteArray := prog_4_method_2_code
def yX2_copyFrom : MethodName := ⟨RX2, "copyFrom", "(LMarkToBoard$Jumper;)V"⟩
abbrev cX2_property : ByteArray := prog_4_method_3_code
def yX2_property : MethodName := ⟨RX2, "property", "(I)I"⟩
abbrev cX2_path : ByteArray := prog_4_method_4_code
def yX2_path : MethodName := ⟨RX2, "path", "(II)I"⟩
def RX3 : String := "MarkToBoard$Kind"
def TX3 : u_T := fun k => match k with
  | _ => ("", "", "", false)
def tyX3 : Nat → FieldType := fun k => match k with
  | _ => .int
abbrev wsX30 : List Cond := u_ws RX3 TX3 0
theorem nmX3 : ∀ a, a < 0 → ∀ b, b < 0 → a ≠ b → (TX3 a).2.1 ≠ (TX3 b).2.1 := by decide +kernel
theorem tyX3_ok : ∀ k, k < 0 → parseFieldDescriptor (TX3 k).2.2.1 = some (tyX3 k) := by decide +kernel
abbrev cX3_init : ByteArray := prog_5_method_1_code
def yX3_init : MethodName := ⟨RX3, "<init>", "()V"⟩
abbrev cX3_aimOf : ByteArray := prog_5_method_2_code
def yX3_aimOf : MethodName := ⟨RX3, "aimOf", "(LMarkToBoard$Jumper;)I"⟩
abbrev cX3_strideOf : ByteArray := prog_5_method_3_code
def yX3_strideOf : MethodName := ⟨RX3, "strideOf", "(LMarkToBoard$Jumper;II)I"⟩
abbrev cX3_lengthOf : ByteArray := prog_5_method_4_code
def yX3_lengthOf : MethodName := ⟨RX3, "lengthOf", "(LMarkToBoard$Jumper;III)I"⟩
def RX4 : String := "MarkToBoard$Looker"
def TX4 : u_T := fun k => match k with
  | _ => ("", "", "", false)
def tyX4 : Nat → FieldType := fun k => match k with
  | _ => .int
abbrev wsX40 : List Cond := u_ws RX4 TX4 0
theorem nmX4 : ∀ a, a < 0 → ∀ b, b < 0 → a ≠ b → (TX4 a).2.1 ≠ (TX4 b).2.1 := by decide +kernel
theorem tyX4_ok : ∀ k, k < 0 → parseFieldDescriptor (TX4 k).2.2.1 = some (tyX4 k) := by decide +kernel
abbrev cX4_init : ByteArray := prog_6_method_1_code
def yX4_init : MethodName := ⟨RX4, "<init>", "()V"⟩
abbrev cX4_aimOf : ByteArray := prog_6_method_2_code
def yX4_aimOf : MethodName := ⟨RX4, "aimOf", "(LMarkToBoard$Jumper;)I"⟩
def RX5 : String := "MarkToBoard$Meet"
def TX5 : u_T := fun k => match k with
  | 0 => ("MarkToBoard$Meet", "strides", "I", false)
  | 1 => ("MarkToBoard$Meet", "wind", "I", false)
  | 2 => ("MarkToBoard$Meet", "goOn", "I", false)
  | 3 => ("MarkToBoard$Meet", "size", "I", false)
  | 4 => ("MarkToBoard$Meet", "tries", "I", false)
  | 5 => ("MarkToBoard$Meet", "jumpers", "[LMarkToBoard$Jumper;", true)
  | 6 => ("MarkToBoard$Meet", "who", "[I", true)
  | 7 => ("MarkToBoard$Meet", "off", "[I", true)
  | 8 => ("MarkToBoard$Meet", "result", "[I", true)
  | _ => ("MarkToBoard$Meet", "clean", "[I", true)
def tyX5 : Nat → FieldType := fun k => match k with
  | 0 => .int
  | 1 => .int
  | 2 => .int
  | 3 => .int
  | 4 => .int
  | 5 => .array (.object "MarkToBoard$Jumper")
  | 6 => .array .int
  | 7 => .array .int
  | 8 => .array .int
  | _ => .array .int
abbrev wsX50 : List Cond := u_ws RX5 TX5 10
theorem nmX5 : ∀ a, a < 10 → ∀ b, b < 10 → a ≠ b → (TX5 a).2.1 ≠ (TX5 b).2.1 := by decide +kernel
theorem tyX5_ok : ∀ k, k < 10 → parseFieldDescriptor (TX5 k).2.2.1 = some (tyX5 k) := by decide +kernel
abbrev cX5_init : ByteArray := prog_7_method_1_code
def yX5_init : MethodName := ⟨RX5, "<init>", "(LMarkToBoard$Kind;)V"⟩
abbrev cX5_copyFrom : ByteArray := prog_7_method_2_code
def yX5_copyFrom : MethodName := ⟨RX5, "copyFrom", "(LMarkToBoard$Meet;)V"⟩
abbrev cX5_at : ByteArray := prog_7_method_3_code
def yX5_at : MethodName := ⟨RX5, "at", "(I)LMarkToBoard$Jumper;"⟩
abbrev cX5_finalists : ByteArray := prog_7_method_4_code
def yX5_finalists : MethodName := ⟨RX5, "finalists", "()I"⟩
abbrev cX5_round : ByteArray := prog_7_method_5_code
def yX5_round : MethodName := ⟨RX5, "round", "()I"⟩
abbrev cX5_inTurn : ByteArray := prog_7_method_6_code
def yX5_inTurn : MethodName := ⟨RX5, "inTurn", "(LMarkToBoard$Ranking;)I"⟩
abbrev cX5_record : ByteArray := prog_7_method_7_code
def yX5_record : MethodName := ⟨RX5, "record", "(III)I"⟩
abbrev cX5_lengthBy : ByteArray := prog_7_method_8_code
def yX5_lengthBy : MethodName := ⟨RX5, "lengthBy", "(II)I"⟩
abbrev cX5_rank : ByteArray := prog_7_method_9_code
def yX5_rank : MethodName := ⟨RX5, "rank", "(LMarkToBoard$Ranking;II)V"⟩
abbrev cX5_leader : ByteArray := prog_7_method_10_code
def yX5_leader : MethodName := ⟨RX5, "leader", "(LMarkToBoard$Ranking;)I"⟩
abbrev cX5_triesOf : ByteArray := prog_7_method_11_code
def yX5_triesOf : MethodName := ⟨RX5, "triesOf", "(I)I"⟩
abbrev cX5_triesWith : ByteArray := prog_7_method_12_code
def yX5_triesWith : MethodName := ⟨RX5, "triesWith", "(I)I"⟩
abbrev cX5_find : ByteArray := prog_7_method_13_code
def yX5_find : MethodName := ⟨RX5, "find", "(II)I"⟩
def RX6 : String := "MarkToBoard$Ranking"
def TX6 : u_T := fun k => match k with
  | 0 => ("MarkToBoard$Ranking", "size", "I", false)
  | 1 => ("MarkToBoard$Ranking", "longest", "[I", true)
  | _ => ("MarkToBoard$Ranking", "second", "[I", true)
def tyX6 : Nat → FieldType := fun k => match k with
  | 0 => .int
  | 1 => .array .int
  | _ => .array .int
abbrev wsX60 : List Cond := u_ws RX6 TX6 3
theorem nmX6 : ∀ a, a < 3 → ∀ b, b < 3 → a ≠ b → (TX6 a).2.1 ≠ (TX6 b).2.1 := by decide +kernel
theorem tyX6_ok : ∀ k, k < 3 → parseFieldDescriptor (TX6 k).2.2.1 = some (tyX6 k) := by decide +kernel
abbrev cX6_init : ByteArray := prog_8_method_1_code
def yX6_init : MethodName := ⟨RX6, "<init>", "()V"⟩
abbrev cX6_start : ByteArray := prog_8_method_2_code
def yX6_start : MethodName := ⟨RX6, "start", "(I)V"⟩
abbrev cX6_add : ByteArray := prog_8_method_3_code
def yX6_add : MethodName := ⟨RX6, "add", "(II)V"⟩
abbrev cX6_longest : ByteArray := prog_8_method_4_code
def yX6_longest : MethodName := ⟨RX6, "longest", "(I)I"⟩
abbrev cX6_secondLongest : ByteArray := prog_8_method_5_code
def yX6_secondLongest : MethodName := ⟨RX6, "secondLongest", "(I)I"⟩
abbrev cX6_ahead : ByteArray := prog_8_method_6_code
def yX6_ahead : MethodName := ⟨RX6, "ahead", "(II)I"⟩
abbrev cX6_at : ByteArray := prog_8_method_7_code
def yX6_at : MethodName := ⟨RX6, "at", "(I)I"⟩
def RX7 : String := "MarkToBoard$Safe"
def TX7 : u_T := fun k => match k with
  | _ => ("", "", "", false)
def tyX7 : Nat → FieldType := fun k => match k with
  | _ => .int
abbrev wsX70 : List Cond := u_ws RX7 TX7 0
theorem nmX7 : ∀ a, a < 0 → ∀ b, b < 0 → a ≠ b → (TX7 a).2.1 ≠ (TX7 b).2.1 := by decide +kernel
theorem tyX7_ok : ∀ k, k < 0 → parseFieldDescriptor (TX7 k).2.2.1 = some (tyX7 k) := by decide +kernel
abbrev cX7_init : ByteArray := prog_9_method_1_code
def yX7_init : MethodName := ⟨RX7, "<init>", "()V"⟩
abbrev cX7_aimOf : ByteArray := prog_9_method_2_code
def yX7_aimOf : MethodName := ⟨RX7, "aimOf", "(LMarkToBoard$Jumper;)I"⟩
abbrev cX7_lengthOf : ByteArray := prog_9_method_3_code
def yX7_lengthOf : MethodName := ⟨RX7, "lengthOf", "(LMarkToBoard$Jumper;III)I"⟩
def RX8 : String := "MarkToBoard$Steady"
def TX8 : u_T := fun k => match k with
  | _ => ("", "", "", false)
def tyX8 : Nat → FieldType := fun k => match k with
  | _ => .int
abbrev wsX80 : List Cond := u_ws RX8 TX8 0
theorem nmX8 : ∀ a, a < 0 → ∀ b, b < 0 → a ≠ b → (TX8 a).2.1 ≠ (TX8 b).2.1 := by decide +kernel
theorem tyX8_ok : ∀ k, k < 0 → parseFieldDescriptor (TX8 k).2.2.1 = some (tyX8 k) := by decide +kernel
abbrev cX8_init : ByteArray := prog_10_method_1_code
def yX8_init : MethodName := ⟨RX8, "<init>", "()V"⟩
abbrev cX8_aimOf : ByteArray := prog_10_method_2_code
def yX8_aimOf : MethodName := ⟨RX8, "aimOf", "(LMarkToBoard$Jumper;)I"⟩
abbrev cX8_strideOf : ByteArray := prog_10_method_3_code
def yX8_strideOf : MethodName := ⟨RX8, "strideOf", "(LMarkToBoard$Jumper;II)I"⟩
abbrev cX8_lengthOf : ByteArray := prog_10_method_4_code
def yX8_lengthOf : MethodName := ⟨RX8, "lengthOf", "(LMarkToBoard$Jumper;III)I"⟩
def RX9 : String := "MarkToBoard$Winded"
def TX9 : u_T := fun k => match k with
  | _ => ("", "", "", false)
def tyX9 : Nat → FieldType := fun k => match k with
  | _ => .int
abbrev wsX90 : List Cond := u_ws RX9 TX9 0
theorem nmX9 : ∀ a, a < 0 → ∀ b, b < 0 → a ≠ b → (TX9 a).2.1 ≠ (TX9 b).2.1 := by decide +kernel
theorem tyX9_ok : ∀ k, k < 0 → parseFieldDescriptor (TX9 k).2.2.1 = some (tyX9 k) := by decide +kernel
abbrev cX9_init : ByteArray := prog_11_method_1_code
def yX9_init : MethodName := ⟨RX9, "<init>", "()V"⟩
abbrev cX9_strideOf : ByteArray := prog_11_method_2_code
def yX9_strideOf : MethodName := ⟨RX9, "strideOf", "(LMarkToBoard$Jumper;II)I"⟩
abbrev cX9_lengthOf : ByteArray := prog_11_method_3_code
def yX9_lengthOf : MethodName := ⟨RX9, "lengthOf", "(LMarkToBoard$Jumper;III)I"⟩
def RX10 : String := "MarkToBoard"
def TX10 : u_T := fun k => match k with
  | 0 => ("MarkToBoard", "kinds", "[LMarkToBoard$Kind;", true)
  | 1 => ("MarkToBoard", "now", "LMarkToBoard$Meet;", true)
  | 2 => ("MarkToBoard", "mind", "LMarkToBoard$Meet;", true)
  | 3 => ("MarkToBoard", "kept", "LMarkToBoard$Meet;", true)
  | 4 => ("MarkToBoard", "imaged", "Z", false)
  | 5 => ("MarkToBoard", "letters", "[I", true)
  | 6 => ("MarkToBoard", "letterCount", "I", false)
  | 7 => ("MarkToBoard", "row", "[I", true)
  | 8 => ("MarkToBoard", "rowCount", "I", false)
  | 9 => ("MarkToBoard", "refusals", "[I", true)
  | 10 => ("MarkToBoard", "ranking", "LMarkToBoard$Ranking;", true)
  | 11 => ("MarkToBoard", "chances", "LMarkToBoard$Chances;", true)
  | 12 => ("MarkToBoard", "spare", "LMarkToBoard$Jumper;", true)
  | 13 => ("MarkToBoard", "partsOne", "[I", true)
  | 14 => ("MarkToBoard", "partsOther", "[I", true)
  | 15 => ("MarkToBoard", "pairs", "[I", true)
  | 16 => ("MarkToBoard", "means", "[I", true)
  | _ => ("MarkToBoard", "seed", "I", false)
def tyX10 : Nat → FieldType := fun k => match k with
  | 0 => .array (.object "MarkToBoard$Kind")
  | 1 => .object "MarkToBoard$Meet"
  | 2 => .object "MarkToBoard$Meet"
  | 3 => .object "MarkToBoard$Meet"
  | 4 => .boolean
  | 5 => .array .int
  | 6 => .int
  | 7 => .array .int
  | 8 => .int
  | 9 => .array .int
  | 10 => .object "MarkToBoard$Ranking"
  | 11 => .object "MarkToBoard$Chances"
  | 12 => .object "MarkToBoard$Jumper"
  | 13 => .array .int
  | 14 => .array .int
  | 15 => .array .int
  | 16 => .array .int
  | _ => .int
abbrev wsX100 : List Cond := u_ws RX10 TX10 18
theorem nmX10 : ∀ a, a < 18 → ∀ b, b < 18 → a ≠ b → (TX10 a).2.1 ≠ (TX10 b).2.1 := by decide +kernel
theorem tyX10_ok : ∀ k, k < 18 → parseFieldDescriptor (TX10 k).2.2.1 = some (tyX10 k) := by decide +kernel
abbrev cX10_init : ByteArray := prog_1_method_1_code
def yX10_init : MethodName := ⟨RX10, "<init>", "()V"⟩
abbrev cX10_refuse : ByteArray := prog_1_method_2_code
def yX10_refuse : MethodName := ⟨RX10, "refuse", "(I)I"⟩
abbrev cX10_first : ByteArray := prog_1_method_3_code
def yX10_first : MethodName := ⟨RX10, "first", "(II)I"⟩
abbrev cX10_nobody : ByteArray := prog_1_method_4_code
def yX10_nobody : MethodName := ⟨RX10, "nobody", "(I)I"⟩
abbrev cX10_nobodyOfTwo : ByteArray := prog_1_method_5_code
def yX10_nobodyOfTwo : MethodName := ⟨RX10, "nobodyOfTwo", "(II)I"⟩
abbrev cX10_noSuch : ByteArray := prog_1_method_6_code
def yX10_noSuch : MethodName := ⟨RX10, "noSuch", "(II)I"⟩
abbrev cX10_outside : ByteArray := prog_1_method_7_code
def yX10_outside : MethodName := ⟨RX10, "outside", "(III)I"⟩
abbrev cX10_noPart : ByteArray := prog_1_method_8_code
def yX10_noPart : MethodName := ⟨RX10, "noPart", "(I)I"⟩
abbrev cX10_outsideTwo : ByteArray := prog_1_method_9_code
def yX10_outsideTwo : MethodName := ⟨RX10, "outsideTwo", "(II)I"⟩
abbrev cX10_feed : ByteArray := prog_1_method_10_code
def yX10_feed : MethodName := ⟨RX10, "feed", "(I)I"⟩
abbrev cX10_ground : ByteArray := prog_1_method_11_code
def yX10_ground : MethodName := ⟨RX10, "ground", "()I"⟩
abbrev cX10_digitsBehind : ByteArray := prog_1_method_12_code
def yX10_digitsBehind : MethodName := ⟨RX10, "digitsBehind", "(I)I"⟩
abbrev cX10_firstBadLetter : ByteArray := prog_1_method_13_code
def yX10_firstBadLetter : MethodName := ⟨RX10, "firstBadLetter", "()I"⟩
abbrev cX10_span : ByteArray := prog_1_method_14_code
def yX10_span : MethodName := ⟨RX10, "span", "(I)I"⟩
abbrev cX10_statementsInMind : ByteArray := prog_1_method_15_code
def yX10_statementsInMind : MethodName := ⟨RX10, "statementsInMind", "()I"⟩
abbrev cX10_comes : ByteArray := prog_1_method_16_code
def yX10_comes : MethodName := ⟨RX10, "comes", "(I)Z"⟩
abbrev cX10_isMinus : ByteArray := prog_1_method_17_code
def yX10_isMinus : MethodName := ⟨RX10, "isMinus", "(I)Z"⟩
abbrev cX10_number : ByteArray := prog_1_method_18_code
def yX10_number : MethodName := ⟨RX10, "number", "(II)I"⟩
abbrev cX10_windComes : ByteArray := prog_1_method_19_code
def yX10_windComes : MethodName := ⟨RX10, "windComes", "(ZI)Z"⟩
abbrev cX10_stridesCome : ByteArray := prog_1_method_20_code
def yX10_stridesCome : MethodName := ⟨RX10, "stridesCome", "(I)Z"⟩
abbrev cX10_goOnComes : ByteArray := prog_1_method_21_code
def yX10_goOnComes : MethodName := ⟨RX10, "goOnComes", "(I)Z"⟩
abbrev cX10_jumperComes : ByteArray := prog_1_method_22_code
def yX10_jumperComes : MethodName := ⟨RX10, "jumperComes", "(I)Z"⟩
abbrev cX10_tryComes : ByteArray := prog_1_method_23_code
def yX10_tryComes : MethodName := ⟨RX10, "tryComes", "(I)Z"⟩
abbrev cX10_jumper : ByteArray := prog_1_method_24_code
def yX10_jumper : MethodName := ⟨RX10, "jumper", "(II)I"⟩
abbrev cX10_mark : ByteArray := prog_1_method_25_code
def yX10_mark : MethodName := ⟨RX10, "mark", "(II)I"⟩
abbrev cX10_look : ByteArray := prog_1_method_26_code
def yX10_look : MethodName := ⟨RX10, "look", "(II)I"⟩
abbrev cX10_set : ByteArray := prog_1_method_27_code
def yX10_set : MethodName := ⟨RX10, "set", "(II)I"⟩
abbrev cX10_wind : ByteArray := prog_1_method_28_code
def yX10_wind : MethodName := ⟨RX10, "wind", "(I)I"⟩
abbrev cX10_stride : ByteArray := prog_1_method_29_code
def yX10_stride : MethodName := ⟨RX10, "stride", "(II)I"⟩
abbrev cX10_place : ByteArray := prog_1_method_30_code
def yX10_place : MethodName := ⟨RX10, "place", "(I)I"⟩
abbrev cX10_placeOf : ByteArray := prog_1_method_31_code
def yX10_placeOf : MethodName := ⟨RX10, "placeOf", "(I)I"⟩
abbrev cX10_length : ByteArray := prog_1_method_32_code
def yX10_length : MethodName := ⟨RX10, "length", "(III)I"⟩
abbrev cX10_fraction : ByteArray := prog_1_method_33_code
def yX10_fraction : MethodName := ⟨RX10, "fraction", "(JJI)J"⟩
abbrev cX10_spreadNow : ByteArray := prog_1_method_34_code
def yX10_spreadNow : MethodName := ⟨RX10, "spreadNow", "(II)V"⟩
abbrev cX10_spreadAt : ByteArray := prog_1_method_35_code
def yX10_spreadAt : MethodName := ⟨RX10, "spreadAt", "(LMarkToBoard$Jumper;I)V"⟩
abbrev cX10_off : ByteArray := prog_1_method_36_code
def yX10_off : MethodName := ⟨RX10, "off", "(III)J"⟩
abbrev cX10_mean : ByteArray := prog_1_method_37_code
def yX10_mean : MethodName := ⟨RX10, "mean", "(III)J"⟩
abbrev cX10_past : ByteArray := prog_1_method_38_code
def yX10_past : MethodName := ⟨RX10, "past", "(III)J"⟩
abbrev cX10_bestLook : ByteArray := prog_1_method_39_code
def yX10_bestLook : MethodName := ⟨RX10, "bestLook", "(I)I"⟩
abbrev cX10_bestMark : ByteArray := prog_1_method_40_code
def yX10_bestMark : MethodName := ⟨RX10, "bestMark", "(II)I"⟩
abbrev cX10_back : ByteArray := prog_1_method_41_code
def yX10_back : MethodName := ⟨RX10, "back", "(II)I"⟩
abbrev cX10_turn : ByteArray := prog_1_method_42_code
def yX10_turn : MethodName := ⟨RX10, "turn", "()I"⟩
abbrev cX10_notInTurn : ByteArray := prog_1_method_43_code
def yX10_notInTurn : MethodName := ⟨RX10, "notInTurn", "(I)I"⟩
abbrev cX10_jump : ByteArray := prog_1_method_44_code
def yX10_jump : MethodName := ⟨RX10, "jump", "(II)I"⟩
abbrev cX10_none : ByteArray := prog_1_method_45_code
def yX10_none : MethodName := ⟨RX10, "none", "(II)I"⟩
abbrev cX10_undo : ByteArray := prog_1_method_46_code
def yX10_undo : MethodName := ⟨RX10, "undo", "()I"⟩
abbrev cX10_tried : ByteArray := prog_1_method_47_code
def yX10_tried : MethodName := ⟨RX10, "tried", "(II)I"⟩
abbrev cX10_needs : ByteArray := prog_1_method_48_code
def yX10_needs : MethodName := ⟨RX10, "needs", "(II)I"⟩
abbrev cX10_leastFor : ByteArray := prog_1_method_49_code
def yX10_leastFor : MethodName := ⟨RX10, "leastFor", "(II)I"⟩
abbrev cX10_ranks : ByteArray := prog_1_method_50_code
def yX10_ranks : MethodName := ⟨RX10, "ranks", "(I)I"⟩
abbrev cX10_leads : ByteArray := prog_1_method_51_code
def yX10_leads : MethodName := ⟨RX10, "leads", "()I"⟩
abbrev cX10_goOn : ByteArray := prog_1_method_52_code
def yX10_goOn : MethodName := ⟨RX10, "goOn", "()I"⟩
abbrev cX10_aim : ByteArray := prog_1_method_53_code
def yX10_aim : MethodName := ⟨RX10, "aim", "(IIII)I"⟩
abbrev cX10_leftOf : ByteArray := prog_1_method_54_code
def yX10_leftOf : MethodName := ⟨RX10, "leftOf", "(II)I"⟩
abbrev cX10_tooLong : ByteArray := prog_1_method_55_code
def yX10_tooLong : MethodName := ⟨RX10, "tooLong", "()I"⟩
abbrev cX10_unlike : ByteArray := prog_1_method_56_code
def yX10_unlike : MethodName := ⟨RX10, "unlike", "()I"⟩
abbrev cX10_greatestFrom : ByteArray := prog_1_method_57_code
def yX10_greatestFrom : MethodName := ⟨RX10, "greatestFrom", "(I)I"⟩
abbrev cX10_leastAhead : ByteArray := prog_1_method_58_code
def yX10_leastAhead : MethodName := ⟨RX10, "leastAhead", "(I)I"⟩
abbrev cX10_moved : ByteArray := prog_1_method_59_code
def yX10_moved : MethodName := ⟨RX10, "moved", "(I)I"⟩
abbrev cX10_gusts : ByteArray := prog_1_method_60_code
def yX10_gusts : MethodName := ⟨RX10, "gusts", "(I)I"⟩
abbrev cX10_on : ByteArray := prog_1_method_61_code
def yX10_on : MethodName := ⟨RX10, "on", "(II)J"⟩
abbrev cX10_row : ByteArray := prog_1_method_62_code
def yX10_row : MethodName := ⟨RX10, "row", "(I)I"⟩
abbrev cX10_judge : ByteArray := prog_1_method_63_code
def yX10_judge : MethodName := ⟨RX10, "judge", "()I"⟩
abbrev cX10_judged : ByteArray := prog_1_method_64_code
def yX10_judged : MethodName := ⟨RX10, "judged", "()I"⟩
abbrev cX10_clear : ByteArray := prog_1_method_65_code
def yX10_clear : MethodName := ⟨RX10, "clear", "()I"⟩
abbrev cX10_seeds : ByteArray := prog_1_method_66_code
def yX10_seeds : MethodName := ⟨RX10, "seeds", "(IIII)I"⟩
abbrev cX10_playToTheEnd : ByteArray := prog_1_method_67_code
def yX10_playToTheEnd : MethodName := ⟨RX10, "playToTheEnd", "(I)I"⟩
abbrev cX10_runByDraws : ByteArray := prog_1_method_68_code
def yX10_runByDraws : MethodName := ⟨RX10, "runByDraws", "(I)I"⟩
abbrev cX10_drawBelow : ByteArray := prog_1_method_69_code
def yX10_drawBelow : MethodName := ⟨RX10, "drawBelow", "(I)I"⟩
abbrev cX10_parts : ByteArray := prog_1_method_70_code
def yX10_parts : MethodName := ⟨RX10, "parts", "(II)I"⟩
abbrev cX10_fillParts : ByteArray := prog_1_method_71_code
def yX10_fillParts : MethodName := ⟨RX10, "fillParts", "([III)V"⟩
abbrev cX10_moreByParts : ByteArray := prog_1_method_72_code
def yX10_moreByParts : MethodName := ⟨RX10, "moreByParts", "()I"⟩
abbrev cX10_more : ByteArray := prog_1_method_73_code
def yX10_more : MethodName := ⟨RX10, "more", "(II)I"⟩
abbrev cX10_duel : ByteArray := prog_1_method_74_code
def yX10_duel : MethodName := ⟨RX10, "duel", "(III)I"⟩
abbrev cX10_leastOfRow : ByteArray := prog_1_method_75_code
def yX10_leastOfRow : MethodName := ⟨RX10, "leastOfRow", "(I)I"⟩
abbrev cX10_mostOfColumn : ByteArray := prog_1_method_76_code
def yX10_mostOfColumn : MethodName := ⟨RX10, "mostOfColumn", "(I)I"⟩
abbrev cX10_sure : ByteArray := prog_1_method_77_code
def yX10_sure : MethodName := ⟨RX10, "sure", "()I"⟩
abbrev cX10_calmPair : ByteArray := prog_1_method_78_code
def yX10_calmPair : MethodName := ⟨RX10, "calmPair", "(I)I"⟩
abbrev cX10_practice : ByteArray := prog_1_method_79_code
def yX10_practice : MethodName := ⟨RX10, "practice", "(I)I"⟩
abbrev cX10_meanAt : ByteArray := prog_1_method_80_code
def yX10_meanAt : MethodName := ⟨RX10, "meanAt", "(I)J"⟩
abbrev cX10_practised : ByteArray := prog_1_method_81_code
def yX10_practised : MethodName := ⟨RX10, "practised", "(I)Z"⟩
abbrev cX10_bestRun : ByteArray := prog_1_method_82_code
def yX10_bestRun : MethodName := ⟨RX10, "bestRun", "(I)I"⟩
abbrev cX10_markIn : ByteArray := prog_1_method_83_code
def yX10_markIn : MethodName := ⟨RX10, "markIn", "(II)I"⟩
abbrev cX10_fouled : ByteArray := prog_1_method_84_code
def yX10_fouled : MethodName := ⟨RX10, "fouled", "(II)J"⟩
abbrev cX10_better : ByteArray := prog_1_method_85_code
def yX10_better : MethodName := ⟨RX10, "better", "(I)I"⟩
abbrev cX10_half : ByteArray := prog_1_method_86_code
def yX10_half : MethodName := ⟨RX10, "half", "(I)I"⟩
abbrev cX10_insert : ByteArray := prog_1_method_87_code
def yX10_insert : MethodName := ⟨RX10, "insert", "([III)V"⟩
abbrev cX10_fullLength : ByteArray := prog_1_method_88_code
def yX10_fullLength : MethodName := ⟨RX10, "fullLength", "(I)I"⟩
abbrev cX10_safe : ByteArray := prog_1_method_89_code
def yX10_safe : MethodName := ⟨RX10, "safe", "(I)I"⟩
abbrev cX10_mayStill : ByteArray := prog_1_method_90_code
def yX10_mayStill : MethodName := ⟨RX10, "mayStill", "()I"⟩
abbrev cX10_image : ByteArray := prog_1_method_91_code
def yX10_image : MethodName := ⟨RX10, "image", "()I"⟩
abbrev cX10_restore : ByteArray := prog_1_method_92_code
def yX10_restore : MethodName := ⟨RX10, "restore", "()I"⟩
abbrev cX10_count : ByteArray := prog_1_method_93_code
def yX10_count : MethodName := ⟨RX10, "count", "(I)I"⟩
def RX11 : String := "MarkToBoardModel"
def TX11 : u_T := fun k => match k with
  | 0 => ("MarkToBoardModel", "refused", "[I", true)
  | 1 => ("MarkToBoardModel", "kind", "[I", true)
  | 2 => ("MarkToBoardModel", "figure", "[I", true)
  | 3 => ("MarkToBoardModel", "step", "[I", true)
  | 4 => ("MarkToBoardModel", "grow", "[I", true)
  | 5 => ("MarkToBoardModel", "slip", "[I", true)
  | 6 => ("MarkToBoardModel", "pace", "[I", true)
  | 7 => ("MarkToBoardModel", "look", "[I", true)
  | 8 => ("MarkToBoardModel", "mark", "[I", true)
  | 9 => ("MarkToBoardModel", "triedBy", "[I", true)
  | 10 => ("MarkToBoardModel", "triedIs", "[I", true)
  | 11 => ("MarkToBoardModel", "triedOff", "[I", true)
  | 12 => ("MarkToBoardModel", "strides", "I", false)
  | 13 => ("MarkToBoardModel", "goOn", "I", false)
  | 14 => ("MarkToBoardModel", "wind", "I", false)
  | 15 => ("MarkToBoardModel", "jumpers", "I", false)
  | 16 => ("MarkToBoardModel", "tries", "I", false)
  | 17 => ("MarkToBoardModel", "tape", "[I", true)
  | 18 => ("MarkToBoardModel", "letter", "[I", true)
  | 19 => ("MarkToBoardModel", "letterAt", "[I", true)
  | 20 => ("MarkToBoardModel", "told", "[I", true)
  | 21 => ("MarkToBoardModel", "taped", "I", false)
  | 22 => ("MarkToBoardModel", "at", "I", false)
  | 23 => ("MarkToBoardModel", "statements", "I", false)
  | 24 => ("MarkToBoardModel", "kept", "[I", true)
  | 25 => ("MarkToBoardModel", "hasImage", "Z", false)
  | 26 => ("MarkToBoardModel", "isKeeping", "Z", false)
  | 27 => ("MarkToBoardModel", "cursor", "I", false)
  | 28 => ("MarkToBoardModel", "ahead", "[J", true)
  | 29 => ("MarkToBoardModel", "behind", "[J", true)
  | 30 => ("MarkToBoardModel", "longest", "[I", true)
  | 31 => ("MarkToBoardModel", "second", "[I", true)
  | 32 => ("MarkToBoardModel", "order", "[I", true)
  | 33 => ("MarkToBoardModel", "row", "[I", true)
  | 34 => ("MarkToBoardModel", "rowMany", "I", false)
  | 35 => ("MarkToBoardModel", "meanCut", "[I", true)
  | 36 => ("MarkToBoardModel", "lengthWays", "[J", true)
  | 37 => ("MarkToBoardModel", "otherWays", "[J", true)
  | 38 => ("MarkToBoardModel", "duelMore", "[I", true)
  | 39 => ("MarkToBoardModel", "lengths", "[I", true)
  | _ => ("MarkToBoardModel", "lots", "I", false)
def tyX11 : Nat → FieldType := fun k => match k with
  | 0 => .array .int
  | 1 => .array .int
  | 2 => .array .int
  | 3 => .array .int
  | 4 => .array .int
  | 5 => .array .int
  | 6 => .array .int
  | 7 => .array .int
  | 8 => .array .int
  | 9 => .array .int
  | 10 => .array .int
  | 11 => .array .int
  | 12 => .int
  | 13 => .int
  | 14 => .int
  | 15 => .int
  | 16 => .int
  | 17 => .array .int
  | 18 => .array .int
  | 19 => .array .int
  | 20 => .array .int
  | 21 => .int
  | 22 => .int
  | 23 => .int
  | 24 => .array .int
  | 25 => .boolean
  | 26 => .boolean
  | 27 => .int
  | 28 => .array .long
  | 29 => .array .long
  | 30 => .array .int
  | 31 => .array .int
  | 32 => .array .int
  | 33 => .array .int
  | 34 => .int
  | 35 => .array .int
  | 36 => .array .long
  | 37 => .array .long
  | 38 => .array .int
  | 39 => .array .int
  | _ => .int
abbrev wsX110 : List Cond := u_ws RX11 TX11 41
theorem nmX11 : ∀ a, a < 41 → ∀ b, b < 41 → a ≠ b → (TX11 a).2.1 ≠ (TX11 b).2.1 := by decide +kernel
theorem tyX11_ok : ∀ k, k < 41 → parseFieldDescriptor (TX11 k).2.2.1 = some (tyX11 k) := by decide +kernel
abbrev cX11_init : ByteArray := prog_13_method_1_code
def yX11_init : MethodName := ⟨RX11, "<init>", "()V"⟩
abbrev cX11_no : ByteArray := prog_13_method_2_code
def yX11_no : MethodName := ⟨RX11, "no", "(I)I"⟩
abbrev cX11_lower : ByteArray := prog_13_method_3_code
def yX11_lower : MethodName := ⟨RX11, "lower", "(I)I"⟩
abbrev cX11_lowest : ByteArray := prog_13_method_4_code
def yX11_lowest : MethodName := ⟨RX11, "lowest", "(I)J"⟩
abbrev cX11_isIn : ByteArray := prog_13_method_5_code
def yX11_isIn : MethodName := ⟨RX11, "isIn", "(III)Z"⟩
abbrev cX11_bound : ByteArray := prog_13_method_6_code
def yX11_bound : MethodName := ⟨RX11, "bound", "(III)I"⟩
abbrev cX11_atLeast0 : ByteArray := prog_13_method_7_code
def yX11_atLeast0 : MethodName := ⟨RX11, "atLeast0", "(I)I"⟩
abbrev cX11_isJumper : ByteArray := prog_13_method_8_code
def yX11_isJumper : MethodName := ⟨RX11, "isJumper", "(I)Z"⟩
abbrev cX11_feed : ByteArray := prog_13_method_9_code
def yX11_feed : MethodName := ⟨RX11, "feed", "(I)I"⟩
abbrev cX11_next : ByteArray := prog_13_method_10_code
def yX11_next : MethodName := ⟨RX11, "next", "()I"⟩
abbrev cX11_readsDigits : ByteArray := prog_13_method_11_code
def yX11_readsDigits : MethodName := ⟨RX11, "readsDigits", "(II)Z"⟩
abbrev cX11_readsWind : ByteArray := prog_13_method_12_code
def yX11_readsWind : MethodName := ⟨RX11, "readsWind", "(I)Z"⟩
abbrev cX11_readsJumper : ByteArray := prog_13_method_13_code
def yX11_readsJumper : MethodName := ⟨RX11, "readsJumper", "(I)Z"⟩
abbrev cX11_readsAll : ByteArray := prog_13_method_14_code
def yX11_readsAll : MethodName := ⟨RX11, "readsAll", "(II)Z"⟩
abbrev cX11_statement : ByteArray := prog_13_method_15_code
def yX11_statement : MethodName := ⟨RX11, "statement", "()Z"⟩
abbrev cX11_comesJumper : ByteArray := prog_13_method_16_code
def yX11_comesJumper : MethodName := ⟨RX11, "comesJumper", "(I)Z"⟩
abbrev cX11_comesTry : ByteArray := prog_13_method_17_code
def yX11_comesTry : MethodName := ⟨RX11, "comesTry", "(II)Z"⟩
abbrev cX11_comes : ByteArray := prog_13_method_18_code
def yX11_comes : MethodName := ⟨RX11, "comes", "(I)Z"⟩
abbrev cX11_ground : ByteArray := prog_13_method_19_code
def yX11_ground : MethodName := ⟨RX11, "ground", "()I"⟩
abbrev cX11_passes : ByteArray := prog_13_method_20_code
def yX11_passes : MethodName := ⟨RX11, "passes", "([I)V"⟩
abbrev cX11_passOne : ByteArray := prog_13_method_21_code
def yX11_passOne : MethodName := ⟨RX11, "passOne", "(I)I"⟩
abbrev cX11_passesAll : ByteArray := prog_13_method_22_code
def yX11_passesAll : MethodName := ⟨RX11, "passesAll", "(IZ)V"⟩
abbrev cX11_image : ByteArray := prog_13_method_23_code
def yX11_image : MethodName := ⟨RX11, "image", "()I"⟩
abbrev cX11_restore : ByteArray := prog_13_method_24_code
def yX11_restore : MethodName := ⟨RX11, "restore", "()I"⟩
abbrev cX11_strideIn : ByteArray := prog_13_method_25_code
def yX11_strideIn : MethodName := ⟨RX11, "strideIn", "(III)I"⟩
abbrev cX11_allStrides : ByteArray := prog_13_method_26_code
def yX11_allStrides : MethodName := ⟨RX11, "allStrides", "(II)I"⟩
abbrev cX11_placeOf : ByteArray := prog_13_method_27_code
def yX11_placeOf : MethodName := ⟨RX11, "placeOf", "(I)I"⟩
abbrev cX11_aimOf : ByteArray := prog_13_method_28_code
def yX11_aimOf : MethodName := ⟨RX11, "aimOf", "(I)I"⟩
abbrev cX11_lengthOf : ByteArray := prog_13_method_29_code
def yX11_lengthOf : MethodName := ⟨RX11, "lengthOf", "(III)I"⟩
abbrev cX11_jumper : ByteArray := prog_13_method_30_code
def yX11_jumper : MethodName := ⟨RX11, "jumper", "(II)I"⟩
abbrev cX11_mark : ByteArray := prog_13_method_31_code
def yX11_mark : MethodName := ⟨RX11, "mark", "(II)I"⟩
abbrev cX11_look : ByteArray := prog_13_method_32_code
def yX11_look : MethodName := ⟨RX11, "look", "(II)I"⟩
abbrev cX11_set : ByteArray := prog_13_method_33_code
def yX11_set : MethodName := ⟨RX11, "set", "(II)I"⟩
abbrev cX11_wind : ByteArray := prog_13_method_34_code
def yX11_wind : MethodName := ⟨RX11, "wind", "(I)I"⟩
abbrev cX11_stride : ByteArray := prog_13_method_35_code
def yX11_stride : MethodName := ⟨RX11, "stride", "(II)I"⟩
abbrev cX11_place : ByteArray := prog_13_method_36_code
def yX11_place : MethodName := ⟨RX11, "place", "(I)I"⟩
abbrev cX11_length : ByteArray := prog_13_method_37_code
def yX11_length : MethodName := ⟨RX11, "length", "(III)I"⟩
abbrev cX11_findWays : ByteArray := prog_13_method_38_code
def yX11_findWays : MethodName := ⟨RX11, "findWays", "([JI)V"⟩
abbrev cX11_counted : ByteArray := prog_13_method_39_code
def yX11_counted : MethodName := ⟨RX11, "counted", "(IIII)J"⟩
abbrev cX11_countedOne : ByteArray := prog_13_method_40_code
def yX11_countedOne : MethodName := ⟨RX11, "countedOne", "(IIIII)I"⟩
abbrev cX11_allWays : ByteArray := prog_13_method_41_code
def yX11_allWays : MethodName := ⟨RX11, "allWays", "()J"⟩
abbrev cX11_divisor : ByteArray := prog_13_method_42_code
def yX11_divisor : MethodName := ⟨RX11, "divisor", "(JJ)J"⟩
abbrev cX11_partOf : ByteArray := prog_13_method_43_code
def yX11_partOf : MethodName := ⟨RX11, "partOf", "(JJI)J"⟩
abbrev cX11_off : ByteArray := prog_13_method_44_code
def yX11_off : MethodName := ⟨RX11, "off", "(III)J"⟩
abbrev cX11_meanParts : ByteArray := prog_13_method_45_code
def yX11_meanParts : MethodName := ⟨RX11, "meanParts", "(I)J"⟩
abbrev cX11_mean : ByteArray := prog_13_method_46_code
def yX11_mean : MethodName := ⟨RX11, "mean", "(III)J"⟩
abbrev cX11_past : ByteArray := prog_13_method_47_code
def yX11_past : MethodName := ⟨RX11, "past", "(III)J"⟩
abbrev cX11_bestLook : ByteArray := prog_13_method_48_code
def yX11_bestLook : MethodName := ⟨RX11, "bestLook", "(I)I"⟩
abbrev cX11_bestMark : ByteArray := prog_13_method_49_code
def yX11_bestMark : MethodName := ⟨RX11, "bestMark", "(II)I"⟩
abbrev cX11_back : ByteArray := prog_13_method_50_code
def yX11_back : MethodName := ⟨RX11, "back", "(II)I"⟩
abbrev cX11_triedAs : ByteArray := prog_13_method_51_code
def yX11_triedAs : MethodName := ⟨RX11, "triedAs", "(II)I"⟩
abbrev cX11_findBest : ByteArray := prog_13_method_52_code
def yX11_findBest : MethodName := ⟨RX11, "findBest", "(II)V"⟩
abbrev cX11_comesLength : ByteArray := prog_13_method_53_code
def yX11_comesLength : MethodName := ⟨RX11, "comesLength", "(II)V"⟩
abbrev cX11_isAhead : ByteArray := prog_13_method_54_code
def yX11_isAhead : MethodName := ⟨RX11, "isAhead", "(II)Z"⟩
abbrev cX11_sorts : ByteArray := prog_13_method_55_code
def yX11_sorts : MethodName := ⟨RX11, "sorts", "()V"⟩
abbrev cX11_ranksNow : ByteArray := prog_13_method_56_code
def yX11_ranksNow : MethodName := ⟨RX11, "ranksNow", "()V"⟩
abbrev cX11_finalists : ByteArray := prog_13_method_57_code
def yX11_finalists : MethodName := ⟨RX11, "finalists", "()I"⟩
abbrev cX11_turnNow : ByteArray := prog_13_method_58_code
def yX11_turnNow : MethodName := ⟨RX11, "turnNow", "()I"⟩
abbrev cX11_roundNow : ByteArray := prog_13_method_59_code
def yX11_roundNow : MethodName := ⟨RX11, "roundNow", "()I"⟩
abbrev cX11_putsTry : ByteArray := prog_13_method_60_code
def yX11_putsTry : MethodName := ⟨RX11, "putsTry", "(III)V"⟩
abbrev cX11_triesOf : ByteArray := prog_13_method_61_code
def yX11_triesOf : MethodName := ⟨RX11, "triesOf", "(I)I"⟩
abbrev cX11_turn : ByteArray := prog_13_method_62_code
def yX11_turn : MethodName := ⟨RX11, "turn", "()I"⟩
abbrev cX11_jump : ByteArray := prog_13_method_63_code
def yX11_jump : MethodName := ⟨RX11, "jump", "(II)I"⟩
abbrev cX11_none : ByteArray := prog_13_method_64_code
def yX11_none : MethodName := ⟨RX11, "none", "(II)I"⟩
abbrev cX11_undo : ByteArray := prog_13_method_65_code
def yX11_undo : MethodName := ⟨RX11, "undo", "()I"⟩
abbrev cX11_tried : ByteArray := prog_13_method_66_code
def yX11_tried : MethodName := ⟨RX11, "tried", "(II)I"⟩
abbrev cX11_rankOf : ByteArray := prog_13_method_67_code
def yX11_rankOf : MethodName := ⟨RX11, "rankOf", "(I)I"⟩
abbrev cX11_isEnough : ByteArray := prog_13_method_68_code
def yX11_isEnough : MethodName := ⟨RX11, "isEnough", "(III)Z"⟩
abbrev cX11_needs : ByteArray := prog_13_method_69_code
def yX11_needs : MethodName := ⟨RX11, "needs", "(II)I"⟩
abbrev cX11_ranks : ByteArray := prog_13_method_70_code
def yX11_ranks : MethodName := ⟨RX11, "ranks", "(I)I"⟩
abbrev cX11_leader : ByteArray := prog_13_method_71_code
def yX11_leader : MethodName := ⟨RX11, "leader", "()I"⟩
abbrev cX11_leads : ByteArray := prog_13_method_72_code
def yX11_leads : MethodName := ⟨RX11, "leads", "()I"⟩
abbrev cX11_goOnBits : ByteArray := prog_13_method_73_code
def yX11_goOnBits : MethodName := ⟨RX11, "goOnBits", "()I"⟩
abbrev cX11_goOn : ByteArray := prog_13_method_74_code
def yX11_goOn : MethodName := ⟨RX11, "goOn", "()I"⟩
abbrev cX11_tenThousandths : ByteArray := prog_13_method_75_code
def yX11_tenThousandths : MethodName := ⟨RX11, "tenThousandths", "(IIII)I"⟩
abbrev cX11_aim : ByteArray := prog_13_method_76_code
def yX11_aim : MethodName := ⟨RX11, "aim", "(IIII)I"⟩
abbrev cX11_tooLong : ByteArray := prog_13_method_77_code
def yX11_tooLong : MethodName := ⟨RX11, "tooLong", "()I"⟩
abbrev cX11_unlike : ByteArray := prog_13_method_78_code
def yX11_unlike : MethodName := ⟨RX11, "unlike", "()I"⟩
abbrev cX11_isMovedFrom : ByteArray := prog_13_method_79_code
def yX11_isMovedFrom : MethodName := ⟨RX11, "isMovedFrom", "(II)Z"⟩
abbrev cX11_moved : ByteArray := prog_13_method_80_code
def yX11_moved : MethodName := ⟨RX11, "moved", "(I)I"⟩
abbrev cX11_gusts : ByteArray := prog_13_method_81_code
def yX11_gusts : MethodName := ⟨RX11, "gusts", "(I)I"⟩
abbrev cX11_on : ByteArray := prog_13_method_82_code
def yX11_on : MethodName := ⟨RX11, "on", "(II)J"⟩
abbrev cX11_row : ByteArray := prog_13_method_83_code
def yX11_row : MethodName := ⟨RX11, "row", "(I)I"⟩
abbrev cX11_isOther : ByteArray := prog_13_method_84_code
def yX11_isOther : MethodName := ⟨RX11, "isOther", "(I)Z"⟩
abbrev cX11_judge : ByteArray := prog_13_method_85_code
def yX11_judge : MethodName := ⟨RX11, "judge", "()I"⟩
abbrev cX11_clear : ByteArray := prog_13_method_86_code
def yX11_clear : MethodName := ⟨RX11, "clear", "()I"⟩
abbrev cX11_findLengths : ByteArray := prog_13_method_87_code
def yX11_findLengths : MethodName := ⟨RX11, "findLengths", "(II[J)V"⟩
abbrev cX11_partOfWays : ByteArray := prog_13_method_88_code
def yX11_partOfWays : MethodName := ⟨RX11, "partOfWays", "(J)J"⟩
abbrev cX11_parts : ByteArray := prog_13_method_89_code
def yX11_parts : MethodName := ⟨RX11, "parts", "(II)I"⟩
abbrev cX11_areTwo : ByteArray := prog_13_method_90_code
def yX11_areTwo : MethodName := ⟨RX11, "areTwo", "(II)Z"⟩
abbrev cX11_moreFrom : ByteArray := prog_13_method_91_code
def yX11_moreFrom : MethodName := ⟨RX11, "moreFrom", "(IIII)I"⟩
abbrev cX11_more : ByteArray := prog_13_method_92_code
def yX11_more : MethodName := ⟨RX11, "more", "(II)I"⟩
abbrev cX11_rests : ByteArray := prog_13_method_93_code
def yX11_rests : MethodName := ⟨RX11, "rests", "(I)Z"⟩
abbrev cX11_sureMore : ByteArray := prog_13_method_94_code
def yX11_sureMore : MethodName := ⟨RX11, "sureMore", "()I"⟩
abbrev cX11_duel : ByteArray := prog_13_method_95_code
def yX11_duel : MethodName := ⟨RX11, "duel", "(III)I"⟩
abbrev cX11_canPractise : ByteArray := prog_13_method_96_code
def yX11_canPractise : MethodName := ⟨RX11, "canPractise", "(II)Z"⟩
abbrev cX11_practises : ByteArray := prog_13_method_97_code
def yX11_practises : MethodName := ⟨RX11, "practises", "(III)V"⟩
abbrev cX11_practice : ByteArray := prog_13_method_98_code
def yX11_practice : MethodName := ⟨RX11, "practice", "(I)I"⟩
abbrev cX11_bestRun : ByteArray := prog_13_method_99_code
def yX11_bestRun : MethodName := ⟨RX11, "bestRun", "(I)I"⟩
abbrev cX11_markIn : ByteArray := prog_13_method_100_code
def yX11_markIn : MethodName := ⟨RX11, "markIn", "(II)I"⟩
abbrev cX11_triesBy : ByteArray := prog_13_method_101_code
def yX11_triesBy : MethodName := ⟨RX11, "triesBy", "(II)I"⟩
abbrev cX11_fouled : ByteArray := prog_13_method_102_code
def yX11_fouled : MethodName := ⟨RX11, "fouled", "(II)J"⟩
abbrev cX11_better : ByteArray := prog_13_method_103_code
def yX11_better : MethodName := ⟨RX11, "better", "(I)I"⟩
abbrev cX11_half : ByteArray := prog_13_method_104_code
def yX11_half : MethodName := ⟨RX11, "half", "(I)I"⟩
abbrev cX11_safe : ByteArray := prog_13_method_105_code
def yX11_safe : MethodName := ⟨RX11, "safe", "(I)I"⟩
abbrev cX11_mayStill : ByteArray := prog_13_method_106_code
def yX11_mayStill : MethodName := ⟨RX11, "mayStill", "()I"⟩
abbrev cX11_drawnSlip : ByteArray := prog_13_method_107_code
def yX11_drawnSlip : MethodName := ⟨RX11, "drawnSlip", "(I)I"⟩
abbrev cX11_triesByLot : ByteArray := prog_13_method_108_code
def yX11_triesByLot : MethodName := ⟨RX11, "triesByLot", "(I)V"⟩
abbrev cX11_seeds : ByteArray := prog_13_method_109_code
def yX11_seeds : MethodName := ⟨RX11, "seeds", "(IIII)I"⟩
abbrev cX11_triesAs : ByteArray := prog_13_method_110_code
def yX11_triesAs : MethodName := ⟨RX11, "triesAs", "(I)I"⟩
abbrev cX11_count : ByteArray := prog_13_method_111_code
def yX11_count : MethodName := ⟨RX11, "count", "(I)I"⟩
def RJ9 : String := "java/lang/Math"
def TJ9 : u_T := fun k => match k with
  | _ => ("", "", "", false)
def tyJ9 : Nat → FieldType := fun k => match k with
  | _ => .int
theorem nmJ9 : ∀ a, a < 0 → ∀ b, b < 0 → a ≠ b → (TJ9 a).2.1 ≠ (TJ9 b).2.1 := by decide +kernel
theorem tyJ9_ok : ∀ k, k < 0 → parseFieldDescriptor (TJ9 k).2.2.1 = some (tyJ9 k) := by decide +kernel
abbrev cJ9_abs_0f7a4 : ByteArray := prog_14_method_59_code
def yJ9_abs_0f7a4 : MethodName := ⟨RJ9, "abs", "(I)I"⟩
abbrev cJ9_max_7cf53 : ByteArray := prog_14_method_65_code
def yJ9_max_7cf53 : MethodName := ⟨RJ9, "max", "(II)I"⟩
abbrev cJ9_min_7cf53 : ByteArray := prog_14_method_69_code
def yJ9_min_7cf53 : MethodName := ⟨RJ9, "min", "(II)I"⟩
def RJ10 : String := "java/lang/System"
def TJ10 : u_T := fun k => match k with
  | _ => ("", "", "", false)
def tyJ10 : Nat → FieldType := fun k => match k with
  | _ => .int
theorem nmJ10 : ∀ a, a < 0 → ∀ b, b < 0 → a ≠ b → (TJ10 a).2.1 ≠ (TJ10 b).2.1 := by decide +kernel
theorem tyJ10_ok : ∀ k, k < 0 → parseFieldDescriptor (TJ10 k).2.2.1 = some (tyJ10 k) := by decide +kernel
def RJ7 : String := "java/util/Arrays"
def TJ7 : u_T := fun k => match k with
  | _ => ("", "", "", false)
def tyJ7 : Nat → FieldType := fun k => match k with
  | _ => .int
theorem nmJ7 : ∀ a, a < 0 → ∀ b, b < 0 → a ≠ b → (TJ7 a).2.1 ≠ (TJ7 b).2.1 := by decide +kernel
theorem tyJ7_ok : ∀ k, k < 0 → parseFieldDescriptor (TJ7 k).2.2.1 = some (tyJ7 k) := by decide +kernel
abbrev cJ7_fill_d0a16 : ByteArray := prog_16_method_101_code
def yJ7_fill_d0a16 : MethodName := ⟨RJ7, "fill", "([JJ)V"⟩
abbrev cJ7_fill_53178 : ByteArray := prog_16_method_103_code
def yJ7_fill_53178 : MethodName := ⟨RJ7, "fill", "([II)V"⟩
def RL : String := "MarkToBoardLaw"
abbrev cL_law : ByteArray := code
def yL_law : MethodName := ⟨RL, "law", "([I)Z"⟩
abbrev vwCl : List vw_C := [(RX0, TX0, 0), (RX1, TX1, 5), (RX2, TX2, 9), (RX3, TX3, 0), (RX4, TX4, 0), (RX5, TX5, 10), (RX6, TX6, 3), (RX7, TX7, 0), (RX8, TX8, 0), (RX9, TX9, 0), (RX10, TX10, 18), (RX11, TX11, 41)]
end
section
/-! THE ABSTRACT HEAP: whole numbers by object and slot; what a reference field holds for good stands in the static table -/
abbrev AH : Type := (Nat → Nat → Int32) × (Nat → Nat → Int64) × (Nat → Nat)
abbrev Shp : Type := (Nat × Nat × Nat) ⊕ Nat
abbrev Stc : Type := List Shp × (Nat → Nat → Nat) × Nat × List FieldType
abbrev Dyn : Type := (Nat → Nat) × va_G × List (ClassId × FieldType)
def sI (h : AH) (o k : Nat) (v : Int32) : AH := (fun o' k' => if o' = o ∧ k' = k then v else h.1 o' k', h.2)
def sL (h : AH) (o k : Nat) (v : Int64) : AH := (h.1, fun o' k' => if o' = o ∧ k' = k then v else h.2.1 o' k', h.2.2)
def sK (h : AH) (o v : Nat) : AH := (h.1, h.2.1, fun o' => if o' = o then v else h.2.2 o')
/-- the words of the tables that a call keeps -/
def TB : List Cond := lw_tbl.filter goodWord
theorem tb_in {w : Cond} (i : Nat) (h : lw_tbl[i]? = some w) (g : goodWord w = true) : w ∈ TB := List.mem_filter.mpr ⟨List.mem_of_getElem? h, g⟩
theorem tb_good {w : Cond} (h : w ∈ TB) : goodWord w = true := (List.mem_filter.mp h).2
/-- the kinds of a class's fields, by slots: 0 int, 1 long, 2 a reference for good, 3 a jumper's way -/
def fty (ci : Nat) : List Nat := match ci with
  | 1 => [2, 2, 1, 1, 1]
  | 2 => [3, 0, 0, 0, 0, 0, 0, 0, 0]
  | 5 => [0, 0, 0, 0, 0, 2, 2, 2, 2, 2]
  | 6 => [0, 2, 2]
  | 10 => [2, 2, 2, 2, 0, 2, 0, 2, 0, 2, 2, 2, 2, 2, 2, 2, 2, 0]
  | 11 => [2, 2, 2, 2, 2, 2, 2, 2, 2, 2, 2, 2, 0, 0, 0, 0, 0, 2, 2, 2, 2, 0, 0, 0, 2, 0, 0, 0, 2, 2, 2, 2, 2, 2, 0, 2, 2, 2, 2, 2, 0]
  | _ => []
def eF (Z : Stc) (ad : Nat → Nat) (h : AH) (o k t : Nat) : Value := match t with
  | 0 => .int (h.1 o k)
  | 1 => .long (h.2.1 o k)
  | 2 => .ref (ad (Z.2.1 o k))
  | _ => .ref (ad (Z.2.2.1 + h.2.2 o % 6))
def eFs (Z : Stc) (ad : Nat → Nat) (h : AH) (o : Nat) : Nat → List Nat → List Value
  | _, [] => []
  | k, t :: l => eF Z ad h o k t :: eFs Z ad h o (k + 1) l
def eA (Z : Stc) (ad : Nat → Nat) (h : AH) (o kd n : Nat) : vp_A := match kd with
  | 0 => (n, .inl (h.1 o))
  | 1 => (n, .inr (.inl (h.2.1 o)))
  | _ => (n, .inr (.inr (.inr (.inr (fun j => some (ad (Z.2.1 o j)))))))
def tcl (yd : Dyn) (t : Nat) : ClassId := ((yd.2.2[t]?).map (·.1)).getD 0
def ent (Z : Stc) (yd : Dyn) (h : AH) (o : Nat) (s : Shp) : va_E := match s with
  | .inl q => .inl (tcl yd q.1, eA Z yd.1 h o q.2.1 q.2.2)
  | .inr ci => .inr (ci, eFs Z yd.1 h o 0 (fty ci))
def wld (Z : Stc) (yd : Dyn) (h : AH) : va_W := (List.range Z.1.length).map (fun o => (yd.1 o, ent Z yd h o ((Z.1[o]?).getD (.inr 0))))
theorem wld_len (Z : Stc) (yd : Dyn) (h : AH) : (wld Z yd h).length = Z.1.length := by simp [wld]
theorem wld_at {Z : Stc} {yd : Dyn} {h : AH} {o : Nat} {s : Shp} (e : Z.1[o]? = some s) : (wld Z yd h)[o]? = some (yd.1 o, ent Z yd h o s) := by
  have hl : o < Z.1.length := (List.getElem?_eq_some_iff.mp e).1
  simp [wld, List.getElem?_map, List.getElem?_range hl, e]
theorem wld_set {Z : Stc} {yd : Dyn} {h h' : AH} {o : Nat} {s : Shp} {x : va_E} (e : Z.1[o]? = some s) (hx : ent Z yd h' o s = x) (ho : ∀ o' s', o' ≠ o → ent Z yd h' o' s' = ent Z yd h o' s') : (wld Z yd h).set o (yd.1 o, x) = wld Z yd h' := by
  have hl : o < Z.1.length := (List.getElem?_eq_some_iff.mp e).1
  apply List.ext_getElem?
  intro j
  by_cases hj : j = o
  · subst hj
    rw [List.getElem?_set_self (by rw [wld_len]; exact hl), wld_at e, hx]
  · rw [List.getElem?_set_ne (Ne.symm hj)]
    by_cases hjl : j < Z.1.length
    · obtain ⟨t, ht⟩ : ∃ t, Z.1[j]? = some t := ⟨_, List.getElem?_eq_getElem hjl⟩
      rw [wld_at ht, wld_at ht, ho j t hj]
    · rw [List.getElem?_eq_none (by rw [wld_len]; omega), List.getElem?_eq_none (by rw [wld_len]; omega)]
theorem eFs_get (Z : Stc) (ad : Nat → Nat) (h : AH) (o : Nat) : ∀ (l : List Nat) (k i : Nat), (eFs Z ad h o k l)[i]? = (l[i]?).map (eF Z ad h o (k + i))
  | [], _, _ => by simp [eFs]
  | t :: l, k, 0 => by simp [eFs]
  | t :: l, k, i + 1 => by simp only [eFs, List.getElem?_cons_succ]; rw [eFs_get Z ad h o l (k + 1) i, Nat.add_assoc, Nat.add_comm 1 i]
theorem eFs_len (Z : Stc) (ad : Nat → Nat) (h : AH) (o : Nat) : ∀ (l : List Nat) (k : Nat), (eFs Z ad h o k l).length = l.length
  | [], _ => rfl
  | _ :: l, k => by simp only [eFs, List.length_cons]; rw [eFs_len Z ad h o l (k + 1)]
theorem eFs_set {Z : Stc} {ad : Nat → Nat} {h h' : AH} {o i t : Nat} {l : List Nat} {v : Value} (ht : l[i]? = some t) (hv : eF Z ad h' o i t = v) (ho : ∀ k t', k ≠ i → eF Z ad h' o k t' = eF Z ad h o k t') (hi : ∀ t', l[i]? = some t' → t' = t) : eFs Z ad h' o 0 l = (eFs Z ad h o 0 l).set i v := by
  have hl : i < l.length := (List.getElem?_eq_some_iff.mp ht).1
  apply List.ext_getElem?
  intro j
  by_cases hj : j = i
  · subst hj
    rw [List.getElem?_set_self (by rw [eFs_len]; exact hl), eFs_get, ht, Nat.zero_add]
    simp [hv]
  · rw [List.getElem?_set_ne (Ne.symm hj), eFs_get, eFs_get, Nat.zero_add]
    cases l[j]? with
    | none => rfl
    | some t' => simp [ho j t' hj]
theorem eFs_same {Z : Stc} {ad : Nat → Nat} {h h' : AH} {o : Nat} (he : ∀ k t, eF Z ad h' o k t = eF Z ad h o k t) : ∀ (l : List Nat) (k : Nat), eFs Z ad h' o k l = eFs Z ad h o k l
  | [], _ => rfl
  | t :: l, k => by simp only [eFs]; rw [he k t, eFs_same he l (k + 1)]
theorem ent_same {Z : Stc} {yd : Dyn} {h h' : AH} {o : Nat} {s : Shp} (h1 : ∀ k, h'.1 o k = h.1 o k) (h2 : ∀ k, h'.2.1 o k = h.2.1 o k) (h3 : h'.2.2 o = h.2.2 o) : ent Z yd h' o s = ent Z yd h o s := by
  have g1 : h'.1 o = h.1 o := funext h1
  have g2 : h'.2.1 o = h.2.1 o := funext h2
  have he : ∀ k t, eF Z yd.1 h' o k t = eF Z yd.1 h o k t := by
    intro k t
    unfold eF
    split <;> simp [g1, g2, h3]
  cases s with
  | inl q =>
    unfold ent eA
    simp only
    split <;> simp [g1, g2]
  | inr ci => simp only [ent]; rw [eFs_same he]
theorem sI_self (h : AH) (o k : Nat) (v : Int32) : (sI h o k v).1 o k = v := by simp [sI]
theorem sI_ne {h : AH} {o k o' k' : Nat} (v : Int32) (hn : ¬ (o' = o ∧ k' = k)) : (sI h o k v).1 o' k' = h.1 o' k' := by simp only [sI, if_neg hn]
theorem sL_self (h : AH) (o k : Nat) (v : Int64) : (sL h o k v).2.1 o k = v := by simp [sL]
theorem sL_ne {h : AH} {o k o' k' : Nat} (v : Int64) (hn : ¬ (o' = o ∧ k' = k)) : (sL h o k v).2.1 o' k' = h.2.1 o' k' := by simp only [sL, if_neg hn]
theorem sI_2 (h : AH) (o k : Nat) (v : Int32) : (sI h o k v).2 = h.2 := rfl
theorem sL_1 (h : AH) (o k : Nat) (v : Int64) : (sL h o k v).1 = h.1 := rfl
theorem sL_22 (h : AH) (o k : Nat) (v : Int64) : (sL h o k v).2.2 = h.2.2 := rfl
theorem sK_1 (h : AH) (o v : Nat) : (sK h o v).1 = h.1 := rfl
theorem sK_21 (h : AH) (o v : Nat) : (sK h o v).2.1 = h.2.1 := rfl
theorem ent_sI_ne (Z : Stc) (yd : Dyn) (h : AH) {o o' : Nat} (k : Nat) (v : Int32) (s : Shp) (hn : o' ≠ o) : ent Z yd (sI h o k v) o' s = ent Z yd h o' s :=
  ent_same (fun _ => sI_ne v (fun q => hn q.1)) (fun _ => rfl) rfl
theorem ent_sL_ne (Z : Stc) (yd : Dyn) (h : AH) {o o' : Nat} (k : Nat) (v : Int64) (s : Shp) (hn : o' ≠ o) : ent Z yd (sL h o k v) o' s = ent Z yd h o' s :=
  ent_same (fun _ => rfl) (fun _ => sL_ne v (fun q => hn q.1)) rfl
theorem ent_sK_ne (Z : Stc) (yd : Dyn) (h : AH) {o o' : Nat} (v : Nat) (s : Shp) (hn : o' ≠ o) : ent Z yd (sK h o v) o' s = ent Z yd h o' s :=
  ent_same (fun _ => rfl) (fun _ => rfl) (by simp [sK, hn])
theorem wld_putI {Z : Stc} {yd : Dyn} {h : AH} {o ci k : Nat} (v : Int32) (e : Z.1[o]? = some (.inr ci)) (hk : (fty ci)[k]? = some 0) : (wld Z yd h).set o (yd.1 o, .inr (ci, (eFs Z yd.1 h o 0 (fty ci)).set k (.int v))) = wld Z yd (sI h o k v) := by
  refine wld_set e ?_ (fun o' s' hn => ent_sI_ne Z yd h k v s' hn)
  show Sum.inr (ci, _) = _
  rw [eFs_set (h := h) hk (v := .int v) (by show Value.int _ = _; rw [sI_self]) (fun k' t' hn => by unfold eF; split <;> simp [sI, hn]) (fun t' ht => by rw [hk] at ht; exact (Option.some.inj ht).symm)]
theorem wld_putL {Z : Stc} {yd : Dyn} {h : AH} {o ci k : Nat} (v : Int64) (e : Z.1[o]? = some (.inr ci)) (hk : (fty ci)[k]? = some 1) : (wld Z yd h).set o (yd.1 o, .inr (ci, (eFs Z yd.1 h o 0 (fty ci)).set k (.long v))) = wld Z yd (sL h o k v) := by
  refine wld_set e ?_ (fun o' s' hn => ent_sL_ne Z yd h k v s' hn)
  show Sum.inr (ci, _) = _
  rw [eFs_set (h := h) hk (v := .long v) (by show Value.long _ = _; rw [sL_self]) (fun k' t' hn => by unfold eF; split <;> simp [sL, hn]) (fun t' ht => by rw [hk] at ht; exact (Option.some.inj ht).symm)]
theorem wld_putK {Z : Stc} {yd : Dyn} {h : AH} {o ci : Nat} (v : Nat) (e : Z.1[o]? = some (.inr ci)) (hk : (fty ci)[0]? = some 3) (h3 : ∀ k, k ≠ 0 → (fty ci)[k]? ≠ some 3) (hm : ∀ (k t : Nat), (fty ci)[k]? = some t → t ≤ 3) : (wld Z yd h).set o (yd.1 o, .inr (ci, (eFs Z yd.1 h o 0 (fty ci)).set 0 (.ref (yd.1 (Z.2.2.1 + v % 6))))) = wld Z yd (sK h o v) := by
  refine wld_set e ?_ (fun o' s' hn => ent_sK_ne Z yd h v s' hn)
  show Sum.inr (ci, _) = Sum.inr (ci, _)
  congr 2
  have hl : 0 < (fty ci).length := (List.getElem?_eq_some_iff.mp hk).1
  apply List.ext_getElem?
  intro j
  by_cases hj : j = 0
  · subst hj
    rw [List.getElem?_set_self (by rw [eFs_len]; exact hl), eFs_get, hk]
    simp [eF, sK]
  · rw [List.getElem?_set_ne (Ne.symm hj), eFs_get, eFs_get]
    cases ht : (fty ci)[j]? with
    | none => rfl
    | some t =>
      have h1 := hm j t ht
      have h2 : t ≠ 3 := fun q => h3 j hj (by rw [ht, q])
      match t, h1, h2 with
      | 0, _, _ => rfl
      | 1, _, _ => rfl
      | 2, _, _ => rfl
      | t + 3, h1, h2 => exact absurd (by omega : t + 3 = 3) h2
theorem wld_astI {Z : Stc} {yd : Dyn} {h : AH} {o t n k : Nat} (v : Int32) (e : Z.1[o]? = some (.inl (t, 0, n))) : (wld Z yd h).set o (yd.1 o, .inl (tcl yd t, n, .inl (upd (h.1 o) k v))) = wld Z yd (sI h o k v) := by
  refine wld_set e ?_ (fun o' s' hn => ent_sI_ne Z yd h k v s' hn)
  show Sum.inl (tcl yd t, n, Sum.inl _) = _
  rw [show (sI h o k v).1 o = upd (h.1 o) k v from funext fun j => by simp [sI, upd]]
theorem wld_astL {Z : Stc} {yd : Dyn} {h : AH} {o t n k : Nat} (v : Int64) (e : Z.1[o]? = some (.inl (t, 1, n))) : (wld Z yd h).set o (yd.1 o, .inl (tcl yd t, n, .inr (.inl (vp_updL (h.2.1 o) k v)))) = wld Z yd (sL h o k v) := by
  refine wld_set e ?_ (fun o' s' hn => ent_sL_ne Z yd h k v s' hn)
  show Sum.inl (tcl yd t, n, Sum.inr (Sum.inl _)) = _
  rw [show (sL h o k v).2.1 o = vp_updL (h.2.1 o) k v from funext fun j => by simp [sL, vp_updL]]
/-! abstract values: a reference is the number of an object -/
def cv (ad : Nat → Nat) (v : Value) : Value := match v with
  | .ref i => .ref (ad i)
  | w => w
theorem cv_cat (ad : Nat → Nat) (v : Value) : (cv ad v).category = v.category := by cases v <;> rfl
def lvc (ad : Nat → Nat) (lv : List (Nat × Value)) : List (Nat × Value) := lv.map (fun q => (q.1, cv ad q.2))
def lget : List (Nat × Value) → Nat → Option Value
  | [], _ => none
  | q :: l, i => match Nat.beq q.1 i with
    | true => some q.2
    | false => lget l i
theorem lget_mem : ∀ {l : List (Nat × Value)} {i : Nat} {v : Value}, lget l i = some v → (i, v) ∈ l
  | q :: l, i, v, h => by
    unfold lget at h
    split at h
    next e => cases h; rw [← Nat.eq_of_beq_eq_true e]; exact List.mem_cons_self
    next e => exact List.mem_cons_of_mem _ (lget_mem h)
/-- a new value at a place: what else is kept, by places -/
def two (v : Value) : Bool := match v with
  | .long _ => true
  | .double _ => true
  | _ => false
theorem two_cat {v : Value} (h : two v = false) : ¬ v.category = 2 := by cases v <;> simp [two, Value.category] at h ⊢
def lin1 (i : Nat) (v : Value) : List (Nat × Value) → List (Nat × Value)
  | [] => [(i, v)]
  | q :: l => match Nat.blt i q.1 with
    | true => (i, v) :: q :: l
    | false => match Nat.beq q.1 i with
      | true => (i, v) :: l
      | false => match Nat.beq (q.1 + 1) i with
        | true => match two q.2 with
          | true => lin1 i v l
          | false => q :: lin1 i v l
        | false => q :: lin1 i v l
/-- sorted by places -/
def srt : Nat → List (Nat × Value) → Bool
  | _, [] => true
  | k, q :: l => Nat.ble k q.1 && srt (q.1 + 1) l
theorem srt_ge : ∀ {l : List (Nat × Value)} {k : Nat} {q : Nat × Value}, srt k l = true → q ∈ l → k ≤ q.1
  | a :: l, k, q, h, hq => by
    simp only [srt, Bool.and_eq_true] at h
    have h1 : k ≤ a.1 := Nat.le_of_ble_eq_true h.1
    rcases List.mem_cons.mp hq with e | e
    · rw [e]; exact h1
    · have := srt_ge h.2 e
      omega
theorem srt_tail {a : Nat × Value} {l : List (Nat × Value)} {k : Nat} (h : srt k (a :: l) = true) : srt (a.1 + 1) l = true := by
  simp only [srt, Bool.and_eq_true] at h
  exact h.2
theorem lin1_mem {i : Nat} {v : Value} : ∀ {l : List (Nat × Value)} {k : Nat} {q : Nat × Value}, srt k l = true → q ∈ lin1 i v l → q = (i, v) ∨ (q ∈ l ∧ ¬ q.1 = i ∧ ¬ (q.1 + 1 = i ∧ q.2.category = 2))
  | [], _, q, _, h => by simp [lin1] at h; exact Or.inl h
  | a :: l, k, q, hs, h => by
    have ht := srt_tail hs
    unfold lin1 at h
    split at h
    next e =>
      have hlt : i < a.1 := Nat.le_of_ble_eq_true e
      rcases List.mem_cons.mp h with h | h
      · exact Or.inl h
      · refine Or.inr ⟨h, ?_⟩
        have hge : a.1 ≤ q.1 := by
          rcases List.mem_cons.mp h with e2 | e2
          · rw [e2]; exact Nat.le_refl _
          · have := srt_ge ht e2
            omega
        exact ⟨by omega, fun z => by omega⟩
    next e =>
      split at h
      next e2 =>
        have e3 := Nat.eq_of_beq_eq_true e2
        rcases List.mem_cons.mp h with h | h
        · exact Or.inl h
        · have := srt_ge ht h
          exact Or.inr ⟨List.mem_cons_of_mem _ h, by omega, fun z => by omega⟩
      next e2 =>
        have n2 : ¬ a.1 = i := fun z => by rw [z, Nat.beq_refl] at e2; cases e2
        have keep : ∀ {q : Nat × Value}, q ∈ lin1 i v l → q = (i, v) ∨ (q ∈ a :: l ∧ ¬ q.1 = i ∧ ¬ (q.1 + 1 = i ∧ q.2.category = 2)) := by
          intro q hq
          rcases lin1_mem ht hq with h | h
          · exact Or.inl h
          · exact Or.inr ⟨List.mem_cons_of_mem _ h.1, h.2⟩
        split at h
        next e3 =>
          split at h
          next e4 => exact keep h
          next e4 =>
            rcases List.mem_cons.mp h with h | h
            · subst h
              exact Or.inr ⟨List.mem_cons_self, n2, fun z => two_cat e4 z.2⟩
            · exact keep h
        next e3 =>
          have n3 : ¬ a.1 + 1 = i := fun z => by rw [z, Nat.beq_refl] at e3; cases e3
          rcases List.mem_cons.mp h with h | h
          · subst h
            exact Or.inr ⟨List.mem_cons_self, n2, fun z => n3 z.1⟩
          · exact keep h
/-- the place behind is lost too -/
def ldel (i : Nat) : List (Nat × Value) → List (Nat × Value)
  | [] => []
  | q :: l => match Nat.beq q.1 i with
    | true => l
    | false => q :: ldel i l
theorem ldel_mem {i : Nat} : ∀ {l : List (Nat × Value)} {k : Nat} {q : Nat × Value}, srt k l = true → q ∈ ldel i l → q ∈ l ∧ ¬ q.1 = i
  | a :: l, k, q, hs, h => by
    have ht := srt_tail hs
    unfold ldel at h
    split at h
    next e =>
      have e3 := Nat.eq_of_beq_eq_true e
      have := srt_ge ht h
      exact ⟨List.mem_cons_of_mem _ h, by omega⟩
    next e =>
      have n2 : ¬ a.1 = i := fun z => by rw [z, Nat.beq_refl] at e; cases e
      rcases List.mem_cons.mp h with h | h
      · subst h
        exact ⟨List.mem_cons_self, n2⟩
      · have := ldel_mem ht h
        exact ⟨List.mem_cons_of_mem _ this.1, this.2⟩
def lup1 (lv : List (Nat × Value)) (i : Nat) (v : Value) : List (Nat × Value) := match srt 0 lv with
  | true => lin1 i v lv
  | false => []
def lup2 (lv : List (Nat × Value)) (i : Nat) (v : Value) : List (Nat × Value) := match srt 0 lv with
  | true => match srt 0 (ldel (i + 1) lv) with
    | true => lin1 i v (ldel (i + 1) lv)
    | false => []
  | false => []
theorem lup1_has {ls : Array Slot} {nL i : Nat} {ad : Nat → Nat} {lv : List (Nat × Value)} {v : Value} (h : lv_has ls nL ((i, cv ad v) :: (lvc ad lv).filter (fun q => !(q.1 == i) && !(q.1 + 1 == i && q.2.category == 2)))) : lv_has ls nL (lvc ad (lup1 lv i v)) := by
  refine ⟨h.1, h.2.1, fun q hq => ?_⟩
  unfold lup1 at hq
  split at hq
  next hs =>
    obtain ⟨a, ha, rfl⟩ := List.mem_map.mp hq
    rcases lin1_mem hs ha with e | e
    · subst e
      exact h.2.2 (i, cv ad v) List.mem_cons_self
    · refine h.2.2 (a.1, cv ad a.2) (List.mem_cons_of_mem _ (List.mem_filter.mpr ⟨List.mem_map.mpr ⟨a, e.1, rfl⟩, ?_⟩))
      have h1 := e.2.1
      have h2 := e.2.2
      simp only [cv_cat, Bool.and_eq_true, Bool.not_eq_true', beq_eq_false_iff_ne, ne_eq, Bool.and_eq_false_iff]
      refine ⟨h1, ?_⟩
      by_cases z : a.1 + 1 = i
      · exact Or.inr (fun z2 => h2 ⟨z, z2⟩)
      · exact Or.inl z
  next hs => cases hq
theorem lup2_has {ls : Array Slot} {nL i : Nat} {ad : Nat → Nat} {lv : List (Nat × Value)} {v : Value} (h : lv_has ls nL ((i, cv ad v) :: (lvc ad lv).filter (fun q => !(q.1 == i) && (!(q.1 == i + 1) && !(q.1 + 1 == i && q.2.category == 2))))) : lv_has ls nL (lvc ad (lup2 lv i v)) := by
  refine ⟨h.1, h.2.1, fun q hq => ?_⟩
  unfold lup2 at hq
  split at hq
  next hs =>
    split at hq
    next hs2 =>
      obtain ⟨a, ha, rfl⟩ := List.mem_map.mp hq
      rcases lin1_mem hs2 ha with e | e
      · subst e
        exact h.2.2 (i, cv ad v) List.mem_cons_self
      · have hd := ldel_mem hs e.1
        refine h.2.2 (a.1, cv ad a.2) (List.mem_cons_of_mem _ (List.mem_filter.mpr ⟨List.mem_map.mpr ⟨a, hd.1, rfl⟩, ?_⟩))
        have h1 := e.2.1
        have h2 := e.2.2
        have h3 := hd.2
        simp only [cv_cat, Bool.and_eq_true, Bool.not_eq_true', beq_eq_false_iff_ne, ne_eq, Bool.and_eq_false_iff]
        refine ⟨h1, h3, ?_⟩
        by_cases z : a.1 + 1 = i
        · exact Or.inr (fun z2 => h2 ⟨z, z2⟩)
        · exact Or.inl z
    next hs2 => cases hq
  next hs => cases hq
theorem lv_get {ls : Array Slot} {nL i : Nat} {ad : Nat → Nat} {lv : List (Nat × Value)} {v : Value} (h : lv_has ls nL (lvc ad lv)) (e : lget lv i = some v) : ls[i]? = some (.val (cv ad v)) := h.2.2 (i, cv ad v) (List.mem_map.mpr ⟨(i, v), lget_mem e, rfl⟩)
theorem lv_drop {ls : Array Slot} {nL : Nat} {ad : Nat → Nat} {lv : List (Nat × Value)} (ks : List Nat) (h : lv_has ls nL (lvc ad lv)) : lv_has ls nL (lvc ad (lv_pick lv ks)) := by
  refine ⟨h.1, h.2.1, fun q hq => ?_⟩
  obtain ⟨a, ha, rfl⟩ := List.mem_map.mp hq
  obtain ⟨k, -, hk⟩ := List.mem_filterMap.mp ha
  exact h.2.2 _ (List.mem_map.mpr ⟨a, List.mem_of_getElem? hk, rfl⟩)
end
section
/-! THE WALK: the machine at a frame with abstract locals, stack and heap does what the option says, if it says anything -/
abbrev MCx : Type := Program × Launch × Env × Room × State × MethodId × Array Value × List Frame × Method × Code
abbrev WX (X : MCx) (H : Heap) (locs : List Loc) (k n : Nat) (Q : State → Prop) (g : JFrame) : Prop := W X.1 X.2.1 X.2.2.1 X.2.2.2.1 X.2.2.2.2.1 X.2.2.2.2.2.1 X.2.2.2.2.2.2.1 X.2.2.2.2.2.2.2.1 X.2.2.2.2.2.2.2.2.1 X.2.2.2.2.2.2.2.2.2 H locs k n Q g
abbrev xS (X : MCx) : State := X.2.2.2.2.1
abbrev xM (X : MCx) : MethodId := X.2.2.2.2.2.1
def WR (X : MCx) (Z : Stc) (yd : Dyn) (A : Nat → Prop) (h : AH) (H : Heap) (locs : List Loc) : Prop :=
  va_P yd.2.1 vwCl (wld Z yd h) H ∧ va_D A (wld Z yd h) ∧ va_S A (xS X).heap H locs ∧ va_K yd.2.1 vwCl yd.2.2 (xS X) ∧ yd.2.2.map (·.2) = Z.2.2.2
def AW (X : MCx) (nL : Nat) (Z : Stc) (yd : Dyn) (A : Nat → Prop) (k n : Nat) {α : Type} (Qf : α → AH → State → Prop) (pc : Nat) (lv : List (Nat × Value)) (st : List Value) (h : AH) (o : Option (α × AH)) : Prop :=
  ∀ (r : α) (h' : AH), o = some (r, h') → ∀ (ls : Array Slot) (H : Heap) (locs : List Loc), lv_has ls nL (lvc yd.1 lv) → WR X Z yd A h H locs → WX X H locs k n (Qf r h') (F0 (xM X) pc ls (st.map (cv yd.1)))
def OK (X : MCx) (cc : ByteArray) (own : String) (nL : Nat) (ret : Option FieldType) (rm : Room) (A : Nat → Prop) : Prop :=
  X.1.tables.exec = Jvm.exec ∧ X.2.2.2.2.2.2.2.2.2.code = cc ∧ X.2.2.2.2.2.2.2.2.2.maxLocals = nL ∧ (xS X).vm.findClass own = some (xM X).cls ∧ (∀ w ∈ TB, w.before X.2.2.2.2.2.2.1 (xS X) = true) ∧ X.2.2.2.2.2.2.2.2.1.locks = false ∧ X.2.2.2.2.2.2.2.2.1.sig.returnType = ret ∧ (∀ q, (xS X).heap.size ≤ q → A q) ∧ X.2.2.2.1 = rm
/-- a step named; a value named; a call's end; an index looked at; a check -/
def vl {α β : Type} (e : α) (f : α → β) : β := f e
def bd {α β : Type} (o : Option (α × AH)) (f : α → AH → Option β) : Option β := match o with
  | none => none
  | some p => f p.1 p.2
def ck {β : Type} (i : Int32) (n : Nat) (o : Option β) : Option β := if i < 0 ∨ n ≤ i.toNatClampNeg then none else o
def cs {β : Type} (Z : Stc) (a : Nat) (s : Shp) (o : Option β) : Option β := if Z.1[a]? = some s then o else none
def cz {β : Type} (x : Int32) (o : Option β) : Option β := if x = 0 ∨ x = 1 then o else none
section AWS
variable {X : MCx} {cc : ByteArray} {own : String} {nL : Nat} {ret : Option FieldType} {rm : Room} {Z : Stc} {yd : Dyn} {A : Nat → Prop} {k n : Nat} {α : Type} {Qf : α → AH → State → Prop} {pc : Nat} {lv : List (Nat × Value)} {st : List Value} {h : AH} {o o1 o2 : Option (α × AH)}
theorem aw_none : AW X nL Z yd A k n Qf pc lv st h none := fun _ _ e => by cases e
theorem aw_drop (ks : List Nat) (q : AW X nL Z yd A k n Qf pc (lv_pick lv ks) st h o) : AW X nL Z yd A k n Qf pc lv st h o := fun r h' e ls H locs hl hw => q r h' e ls H locs (lv_drop ks hl) hw
theorem aw_eq {lv' : List (Nat × Value)} {st' : List Value} (e1 : lv = lv') (e2 : st = st') (q : AW X nL Z yd A k n Qf pc lv' st' h o) : AW X nL Z yd A k n Qf pc lv st h o := by subst e1; subst e2; exact q
theorem aw_if {c : Prop} [Decidable c] (q1 : c → AW X nL Z yd A k n Qf pc lv st h o1) (q2 : ¬ c → AW X nL Z yd A k n Qf pc lv st h o2) : AW X nL Z yd A k n Qf pc lv st h (if c then o1 else o2) := by
  by_cases e : c
  · rw [if_pos e]; exact q1 e
  · rw [if_neg e]; exact q2 e
theorem aw_cs {a : Nat} {s : Shp} (q : Z.1[a]? = some s → AW X nL Z yd A k n Qf pc lv st h o) : AW X nL Z yd A k n Qf pc lv st h (cs Z a s o) := aw_if q (fun _ => aw_none)
theorem aw_vlI {e : Int32} {f : Int32 → Option (α × AH)} (q : ∀ x, AW X nL Z yd A k n Qf pc lv (.int x :: st) h (f x)) : AW X nL Z yd A k n Qf pc lv (.int e :: st) h (vl e f) := q e
theorem aw_vlL {e : Int64} {f : Int64 → Option (α × AH)} (q : ∀ x, AW X nL Z yd A k n Qf pc lv (.long x :: st) h (f x)) : AW X nL Z yd A k n Qf pc lv (.long e :: st) h (vl e f) := q e
theorem aw_iconst (C : OK X cc own nL ret rm A) {z : Int} {v : Int32} (d : decode cc pc = .ok (.iconst z, 1)) (hv : Int32.ofInt z = v) (q : AW X nL Z yd A k n Qf (pc + 1) lv (.int v :: st) h o) : AW X nL Z yd A k n Qf pc lv st h o := fun r h' e ls H locs hl hw => lv_iconst C.1 C.2.1 d hv (q r h' e ls H locs hl hw)
theorem aw_bipush (C : OK X cc own nL ret rm A) {z : Int} {v : Int32} (d : decode cc pc = .ok (.bipush z, 2)) (hv : (Int8.ofInt z).toInt32 = v) (q : AW X nL Z yd A k n Qf (pc + 2) lv (.int v :: st) h o) : AW X nL Z yd A k n Qf pc lv st h o := fun r h' e ls H locs hl hw => lv_bipush C.1 C.2.1 d hv (q r h' e ls H locs hl hw)
theorem aw_sipush (C : OK X cc own nL ret rm A) {z : Int} {v : Int32} (d : decode cc pc = .ok (.sipush z, 3)) (hv : (Int16.ofInt z).toInt32 = v) (q : AW X nL Z yd A k n Qf (pc + 3) lv (.int v :: st) h o) : AW X nL Z yd A k n Qf pc lv st h o := fun r h' e ls H locs hl hw => lv_sipush C.1 C.2.1 d hv (q r h' e ls H locs hl hw)
theorem aw_lconst (C : OK X cc own nL ret rm A) {z : Fin 2} {v : Int64} (d : decode cc pc = .ok (.lconst z, 1)) (hv : Int64.ofNat (z : Nat) = v) (q : AW X nL Z yd A k n Qf (pc + 1) lv (.long v :: st) h o) : AW X nL Z yd A k n Qf pc lv st h o := fun r h' e ls H locs hl hw => lv_lconst C.1 C.2.1 d hv (q r h' e ls H locs hl hw)
theorem aw_iload_n (C : OK X cc own nL ret rm A) {z : Fin 4} {i : Nat} {x : Int32} (d : decode cc pc = .ok (.iload_n z, 1)) (hi : (z : Nat) = i) (g : lget lv i = some (.int x)) (q : AW X nL Z yd A k n Qf (pc + 1) lv (.int x :: st) h o) : AW X nL Z yd A k n Qf pc lv st h o := fun r h' e ls H locs hl hw => lv_iload_n C.1 C.2.1 d hi (lv_get hl g) (q r h' e ls H locs hl hw)
theorem aw_iload (C : OK X cc own nL ret rm A) {i : Nat} {x : Int32} (d : decode cc pc = .ok (.iload i, 2)) (g : lget lv i = some (.int x)) (q : AW X nL Z yd A k n Qf (pc + 2) lv (.int x :: st) h o) : AW X nL Z yd A k n Qf pc lv st h o := fun r h' e ls H locs hl hw => lv_iload C.1 C.2.1 d (lv_get hl g) (q r h' e ls H locs hl hw)
theorem aw_lload_n (C : OK X cc own nL ret rm A) {z : Fin 4} {i : Nat} {x : Int64} (d : decode cc pc = .ok (.lload_n z, 1)) (hi : (z : Nat) = i) (g : lget lv i = some (.long x)) (q : AW X nL Z yd A k n Qf (pc + 1) lv (.long x :: st) h o) : AW X nL Z yd A k n Qf pc lv st h o := fun r h' e ls H locs hl hw => lv_lload_n C.1 C.2.1 d hi (lv_get hl g) (q r h' e ls H locs hl hw)
theorem aw_lload (C : OK X cc own nL ret rm A) {i : Nat} {x : Int64} (d : decode cc pc = .ok (.lload i, 2)) (g : lget lv i = some (.long x)) (q : AW X nL Z yd A k n Qf (pc + 2) lv (.long x :: st) h o) : AW X nL Z yd A k n Qf pc lv st h o := fun r h' e ls H locs hl hw => lv_lload C.1 C.2.1 d (lv_get hl g) (q r h' e ls H locs hl hw)
theorem aw_aload_n (C : OK X cc own nL ret rm A) {z : Fin 4} {i : Nat} {x : Nat} (d : decode cc pc = .ok (.aload_n z, 1)) (hi : (z : Nat) = i) (g : lget lv i = some (.ref x)) (q : AW X nL Z yd A k n Qf (pc + 1) lv (.ref x :: st) h o) : AW X nL Z yd A k n Qf pc lv st h o := fun r h' e ls H locs hl hw => lv_aload_n C.1 C.2.1 d hi (lv_get hl g) (q r h' e ls H locs hl hw)
theorem aw_aload (C : OK X cc own nL ret rm A) {i : Nat} {x : Nat} (d : decode cc pc = .ok (.aload i, 2)) (g : lget lv i = some (.ref x)) (q : AW X nL Z yd A k n Qf (pc + 2) lv (.ref x :: st) h o) : AW X nL Z yd A k n Qf pc lv st h o := fun r h' e ls H locs hl hw => lv_aload C.1 C.2.1 d (lv_get hl g) (q r h' e ls H locs hl hw)
theorem aw_istore_n (C : OK X cc own nL ret rm A) {z : Fin 4} {i : Nat} {x : Int32} {lv' : List (Nat × Value)} (d : decode cc pc = .ok (.istore_n z, 1)) (hi : (z : Nat) = i) (hn : i < nL) (hv : lup1 lv i (.int x) = lv') (q : AW X nL Z yd A k n Qf (pc + 1) lv' st h o) : AW X nL Z yd A k n Qf pc lv (.int x :: st) h o := fun r h' e ls H locs hl hw => lv_istore_n C.1 C.2.1 d hi hl hn rfl (fun ls' hl' => q r h' e ls' H locs (by rw [← hv]; exact lup1_has hl') hw)
theorem aw_istore (C : OK X cc own nL ret rm A) {i : Nat} {x : Int32} {lv' : List (Nat × Value)} (d : decode cc pc = .ok (.istore i, 2)) (hn : i < nL) (hv : lup1 lv i (.int x) = lv') (q : AW X nL Z yd A k n Qf (pc + 2) lv' st h o) : AW X nL Z yd A k n Qf pc lv (.int x :: st) h o := fun r h' e ls H locs hl hw => lv_istore C.1 C.2.1 d hl hn rfl (fun ls' hl' => q r h' e ls' H locs (by rw [← hv]; exact lup1_has hl') hw)
theorem aw_lstore_n (C : OK X cc own nL ret rm A) {z : Fin 4} {i : Nat} {x : Int64} {lv' : List (Nat × Value)} (d : decode cc pc = .ok (.lstore_n z, 1)) (hi : (z : Nat) = i) (hn : i + 1 < nL) (hv : lup2 lv i (.long x) = lv') (q : AW X nL Z yd A k n Qf (pc + 1) lv' st h o) : AW X nL Z yd A k n Qf pc lv (.long x :: st) h o := fun r h' e ls H locs hl hw => lv_lstore_n C.1 C.2.1 d hi hl hn rfl (fun ls' hl' => q r h' e ls' H locs (by rw [← hv]; exact lup2_has hl') hw)
theorem aw_lstore (C : OK X cc own nL ret rm A) {i : Nat} {x : Int64} {lv' : List (Nat × Value)} (d : decode cc pc = .ok (.lstore i, 2)) (hn : i + 1 < nL) (hv : lup2 lv i (.long x) = lv') (q : AW X nL Z yd A k n Qf (pc + 2) lv' st h o) : AW X nL Z yd A k n Qf pc lv (.long x :: st) h o := fun r h' e ls H locs hl hw => lv_lstore C.1 C.2.1 d hl hn rfl (fun ls' hl' => q r h' e ls' H locs (by rw [← hv]; exact lup2_has hl') hw)
theorem aw_astore_n (C : OK X cc own nL ret rm A) {z : Fin 4} {i : Nat} {x : Nat} {lv' : List (Nat × Value)} (d : decode cc pc = .ok (.astore_n z, 1)) (hi : (z : Nat) = i) (hn : i < nL) (hv : lup1 lv i (.ref x) = lv') (q : AW X nL Z yd A k n Qf (pc + 1) lv' st h o) : AW X nL Z yd A k n Qf pc lv (.ref x :: st) h o := fun r h' e ls H locs hl hw => lv_astore_n C.1 C.2.1 d hi hl hn rfl (fun ls' hl' => q r h' e ls' H locs (by rw [← hv]; exact lup1_has hl') hw)
theorem aw_astore (C : OK X cc own nL ret rm A) {i : Nat} {x : Nat} {lv' : List (Nat × Value)} (d : decode cc pc = .ok (.astore i, 2)) (hn : i < nL) (hv : lup1 lv i (.ref x) = lv') (q : AW X nL Z yd A k n Qf (pc + 2) lv' st h o) : AW X nL Z yd A k n Qf pc lv (.ref x :: st) h o := fun r h' e ls H locs hl hw => lv_astore C.1 C.2.1 d hl hn rfl (fun ls' hl' => q r h' e ls' H locs (by rw [← hv]; exact lup1_has hl') hw)
theorem aw_iinc (C : OK X cc own nL ret rm A) {i : Nat} {z : Int} {x : Int32} {lv' : List (Nat × Value)} (d : decode cc pc = .ok (.iinc i z, 3)) (g : lget lv i = some (.int x)) (hn : i < nL) (hv : lup1 lv i (.int (x + Int32.ofInt z)) = lv') (q : AW X nL Z yd A k n Qf (pc + 3) lv' st h o) : AW X nL Z yd A k n Qf pc lv st h o := fun r h' e ls H locs hl hw => by
  obtain ⟨j, hj⟩ := List.getElem?_of_mem (List.mem_map.mpr ⟨(i, .int x), lget_mem g, rfl⟩ : (i, cv yd.1 (.int x)) ∈ lvc yd.1 lv)
  exact lv_iinc C.1 C.2.1 d hl hj rfl hn rfl (fun ls' hl' => q r h' e ls' H locs (by rw [← hv]; exact lup1_has hl') hw)
theorem aw_iincV (C : OK X cc own nL ret rm A) {i : Nat} {z : Int} {x : Int32} {f : Int32 → Option (α × AH)} (lv' : Int32 → List (Nat × Value)) (d : decode cc pc = .ok (.iinc i z, 3)) (g : lget lv i = some (.int x)) (hn : i < nL) (hv : ∀ y, lup1 lv i (.int y) = lv' y) (q : ∀ y : Int32, AW X nL Z yd A k n Qf (pc + 3) (lv' y) st h (f y)) : AW X nL Z yd A k n Qf pc lv st h (vl (x + Int32.ofInt z) f) := aw_iinc C d g hn (hv _) (q _)
theorem aw_istoreV_n (C : OK X cc own nL ret rm A) {z : Fin 4} {i : Nat} {x : Int32} {f : Int32 → Option (α × AH)} (lv' : Int32 → List (Nat × Value)) (d : decode cc pc = .ok (.istore_n z, 1)) (hi : (z : Nat) = i) (hn : i < nL) (hv : ∀ y, lup1 lv i (.int y) = lv' y) (q : ∀ y : Int32, AW X nL Z yd A k n Qf (pc + 1) (lv' y) st h (f y)) : AW X nL Z yd A k n Qf pc lv (.int x :: st) h (vl x f) := aw_istore_n C d hi hn (hv _) (q _)
theorem aw_istoreV (C : OK X cc own nL ret rm A) {i : Nat} {x : Int32} {f : Int32 → Option (α × AH)} (lv' : Int32 → List (Nat × Value)) (d : decode cc pc = .ok (.istore i, 2)) (hn : i < nL) (hv : ∀ y, lup1 lv i (.int y) = lv' y) (q : ∀ y : Int32, AW X nL Z yd A k n Qf (pc + 2) (lv' y) st h (f y)) : AW X nL Z yd A k n Qf pc lv (.int x :: st) h (vl x f) := aw_istore C d hn (hv _) (q _)
theorem aw_lstoreV_n (C : OK X cc own nL ret rm A) {z : Fin 4} {i : Nat} {x : Int64} {f : Int64 → Option (α × AH)} (lv' : Int64 → List (Nat × Value)) (d : decode cc pc = .ok (.lstore_n z, 1)) (hi : (z : Nat) = i) (hn : i + 1 < nL) (hv : ∀ y, lup2 lv i (.long y) = lv' y) (q : ∀ y : Int64, AW X nL Z yd A k n Qf (pc + 1) (lv' y) st h (f y)) : AW X nL Z yd A k n Qf pc lv (.long x :: st) h (vl x f) := aw_lstore_n C d hi hn (hv _) (q _)
theorem aw_lstoreV (C : OK X cc own nL ret rm A) {i : Nat} {x : Int64} {f : Int64 → Option (α × AH)} (lv' : Int64 → List (Nat × Value)) (d : decode cc pc = .ok (.lstore i, 2)) (hn : i + 1 < nL) (hv : ∀ y, lup2 lv i (.long y) = lv' y) (q : ∀ y : Int64, AW X nL Z yd A k n Qf (pc + 2) (lv' y) st h (f y)) : AW X nL Z yd A k n Qf pc lv (.long x :: st) h (vl x f) := aw_lstore C d hn (hv _) (q _)
theorem aw_iadd (C : OK X cc own nL ret rm A) {x y : Int32} (d : decode cc pc = .ok (.iadd, 1)) (q : AW X nL Z yd A k n Qf (pc + 1) lv (.int (x + y) :: st) h o) : AW X nL Z yd A k n Qf pc lv (.int y :: .int x :: st) h o := fun r h' e ls H locs hl hw => lv_iadd C.1 C.2.1 d (q r h' e ls H locs hl hw)
theorem aw_isub (C : OK X cc own nL ret rm A) {x y : Int32} (d : decode cc pc = .ok (.isub, 1)) (q : AW X nL Z yd A k n Qf (pc + 1) lv (.int (x - y) :: st) h o) : AW X nL Z yd A k n Qf pc lv (.int y :: .int x :: st) h o := fun r h' e ls H locs hl hw => lv_isub C.1 C.2.1 d (q r h' e ls H locs hl hw)
theorem aw_imul (C : OK X cc own nL ret rm A) {x y : Int32} (d : decode cc pc = .ok (.imul, 1)) (q : AW X nL Z yd A k n Qf (pc + 1) lv (.int (x * y) :: st) h o) : AW X nL Z yd A k n Qf pc lv (.int y :: .int x :: st) h o := fun r h' e ls H locs hl hw => lv_imul C.1 C.2.1 d (q r h' e ls H locs hl hw)
theorem aw_iand (C : OK X cc own nL ret rm A) {x y : Int32} (d : decode cc pc = .ok (.iand, 1)) (q : AW X nL Z yd A k n Qf (pc + 1) lv (.int (x &&& y) :: st) h o) : AW X nL Z yd A k n Qf pc lv (.int y :: .int x :: st) h o := fun r h' e ls H locs hl hw => lv_iand C.1 C.2.1 d (q r h' e ls H locs hl hw)
theorem aw_ior (C : OK X cc own nL ret rm A) {x y : Int32} (d : decode cc pc = .ok (.ior, 1)) (q : AW X nL Z yd A k n Qf (pc + 1) lv (.int (x ||| y) :: st) h o) : AW X nL Z yd A k n Qf pc lv (.int y :: .int x :: st) h o := fun r h' e ls H locs hl hw => lv_ior C.1 C.2.1 d (q r h' e ls H locs hl hw)
theorem aw_ishl (C : OK X cc own nL ret rm A) {x y : Int32} (d : decode cc pc = .ok (.ishl, 1)) (q : AW X nL Z yd A k n Qf (pc + 1) lv (.int (x <<< (y &&& 31)) :: st) h o) : AW X nL Z yd A k n Qf pc lv (.int y :: .int x :: st) h o := fun r h' e ls H locs hl hw => lv_ishl C.1 C.2.1 d (q r h' e ls H locs hl hw)
theorem aw_ishr (C : OK X cc own nL ret rm A) {x y : Int32} (d : decode cc pc = .ok (.ishr, 1)) (q : AW X nL Z yd A k n Qf (pc + 1) lv (.int (x >>> (y &&& 31)) :: st) h o) : AW X nL Z yd A k n Qf pc lv (.int y :: .int x :: st) h o := fun r h' e ls H locs hl hw => lv_ishr C.1 C.2.1 d (q r h' e ls H locs hl hw)
theorem aw_ladd (C : OK X cc own nL ret rm A) {x y : Int64} (d : decode cc pc = .ok (.ladd, 1)) (q : AW X nL Z yd A k n Qf (pc + 1) lv (.long (x + y) :: st) h o) : AW X nL Z yd A k n Qf pc lv (.long y :: .long x :: st) h o := fun r h' e ls H locs hl hw => lv_ladd C.1 C.2.1 d (q r h' e ls H locs hl hw)
theorem aw_lsub (C : OK X cc own nL ret rm A) {x y : Int64} (d : decode cc pc = .ok (.lsub, 1)) (q : AW X nL Z yd A k n Qf (pc + 1) lv (.long (x - y) :: st) h o) : AW X nL Z yd A k n Qf pc lv (.long y :: .long x :: st) h o := fun r h' e ls H locs hl hw => lv_lsub C.1 C.2.1 d (q r h' e ls H locs hl hw)
theorem aw_lmul (C : OK X cc own nL ret rm A) {x y : Int64} (d : decode cc pc = .ok (.lmul, 1)) (q : AW X nL Z yd A k n Qf (pc + 1) lv (.long (x * y) :: st) h o) : AW X nL Z yd A k n Qf pc lv (.long y :: .long x :: st) h o := fun r h' e ls H locs hl hw => lv_lmul C.1 C.2.1 d (q r h' e ls H locs hl hw)
theorem aw_lshl (C : OK X cc own nL ret rm A) {x : Int64} {y : Int32} (d : decode cc pc = .ok (.lshl, 1)) (q : AW X nL Z yd A k n Qf (pc + 1) lv (.long (x <<< (y.toInt64 &&& 63)) :: st) h o) : AW X nL Z yd A k n Qf pc lv (.int y :: .long x :: st) h o := fun r h' e ls H locs hl hw => lv_lshl C.1 C.2.1 d rfl (q r h' e ls H locs hl hw)
theorem aw_lshr (C : OK X cc own nL ret rm A) {x : Int64} {y : Int32} (d : decode cc pc = .ok (.lshr, 1)) (q : AW X nL Z yd A k n Qf (pc + 1) lv (.long (x >>> (y.toInt64 &&& 63)) :: st) h o) : AW X nL Z yd A k n Qf pc lv (.int y :: .long x :: st) h o := fun r h' e ls H locs hl hw => lv_lshr C.1 C.2.1 d rfl (q r h' e ls H locs hl hw)
theorem aw_ineg (C : OK X cc own nL ret rm A) {x : Int32} (d : decode cc pc = .ok (.ineg, 1)) (q : AW X nL Z yd A k n Qf (pc + 1) lv (.int (-x) :: st) h o) : AW X nL Z yd A k n Qf pc lv (.int x :: st) h o := fun r h' e ls H locs hl hw => lv_ineg C.1 C.2.1 d (q r h' e ls H locs hl hw)
theorem aw_i2l (C : OK X cc own nL ret rm A) {x : Int32} (d : decode cc pc = .ok (.i2l, 1)) (q : AW X nL Z yd A k n Qf (pc + 1) lv (.long x.toInt64 :: st) h o) : AW X nL Z yd A k n Qf pc lv (.int x :: st) h o := fun r h' e ls H locs hl hw => lv_i2l C.1 C.2.1 d rfl (q r h' e ls H locs hl hw)
theorem aw_l2i (C : OK X cc own nL ret rm A) {x : Int64} (d : decode cc pc = .ok (.l2i, 1)) (q : AW X nL Z yd A k n Qf (pc + 1) lv (.int x.toInt32 :: st) h o) : AW X nL Z yd A k n Qf pc lv (.long x :: st) h o := fun r h' e ls H locs hl hw => lv_l2i C.1 C.2.1 d rfl (q r h' e ls H locs hl hw)
theorem aw_idiv (C : OK X cc own nL ret rm A) {x y : Int32} (d : decode cc pc = .ok (.idiv, 1)) (q : AW X nL Z yd A k n Qf (pc + 1) lv (.int (x / y) :: st) h o) : AW X nL Z yd A k n Qf pc lv (.int y :: .int x :: st) h (if y = 0 then none else o) := aw_if (fun _ => aw_none) (fun hy => fun r h' e ls H locs hl hw => lv_idiv C.1 C.2.1 d hy (q r h' e ls H locs hl hw))
theorem aw_idivK (C : OK X cc own nL ret rm A) {x y : Int32} (d : decode cc pc = .ok (.idiv, 1)) (hy : ¬ y = 0) (q : AW X nL Z yd A k n Qf (pc + 1) lv (.int (x / y) :: st) h o) : AW X nL Z yd A k n Qf pc lv (.int y :: .int x :: st) h o := fun r h' e ls H locs hl hw => lv_idiv C.1 C.2.1 d hy (q r h' e ls H locs hl hw)
theorem aw_irem (C : OK X cc own nL ret rm A) {x y : Int32} (d : decode cc pc = .ok (.irem, 1)) (q : AW X nL Z yd A k n Qf (pc + 1) lv (.int (x - x / y * y) :: st) h o) : AW X nL Z yd A k n Qf pc lv (.int y :: .int x :: st) h (if y = 0 then none else o) := aw_if (fun _ => aw_none) (fun hy => fun r h' e ls H locs hl hw => lv_irem C.1 C.2.1 d hy (q r h' e ls H locs hl hw))
theorem aw_iremK (C : OK X cc own nL ret rm A) {x y : Int32} (d : decode cc pc = .ok (.irem, 1)) (hy : ¬ y = 0) (q : AW X nL Z yd A k n Qf (pc + 1) lv (.int (x - x / y * y) :: st) h o) : AW X nL Z yd A k n Qf pc lv (.int y :: .int x :: st) h o := fun r h' e ls H locs hl hw => lv_irem C.1 C.2.1 d hy (q r h' e ls H locs hl hw)
theorem aw_ldiv (C : OK X cc own nL ret rm A) {x y : Int64} (d : decode cc pc = .ok (.ldiv, 1)) (q : AW X nL Z yd A k n Qf (pc + 1) lv (.long (x / y) :: st) h o) : AW X nL Z yd A k n Qf pc lv (.long y :: .long x :: st) h (if y = 0 then none else o) := aw_if (fun _ => aw_none) (fun hy => fun r h' e ls H locs hl hw => lv_ldiv C.1 C.2.1 d hy (q r h' e ls H locs hl hw))
theorem aw_ldivK (C : OK X cc own nL ret rm A) {x y : Int64} (d : decode cc pc = .ok (.ldiv, 1)) (hy : ¬ y = 0) (q : AW X nL Z yd A k n Qf (pc + 1) lv (.long (x / y) :: st) h o) : AW X nL Z yd A k n Qf pc lv (.long y :: .long x :: st) h o := fun r h' e ls H locs hl hw => lv_ldiv C.1 C.2.1 d hy (q r h' e ls H locs hl hw)
theorem aw_lrem (C : OK X cc own nL ret rm A) {x y : Int64} (d : decode cc pc = .ok (.lrem, 1)) (q : AW X nL Z yd A k n Qf (pc + 1) lv (.long (x - x / y * y) :: st) h o) : AW X nL Z yd A k n Qf pc lv (.long y :: .long x :: st) h (if y = 0 then none else o) := aw_if (fun _ => aw_none) (fun hy => fun r h' e ls H locs hl hw => lv_lrem C.1 C.2.1 d hy (q r h' e ls H locs hl hw))
theorem aw_lremK (C : OK X cc own nL ret rm A) {x y : Int64} (d : decode cc pc = .ok (.lrem, 1)) (hy : ¬ y = 0) (q : AW X nL Z yd A k n Qf (pc + 1) lv (.long (x - x / y * y) :: st) h o) : AW X nL Z yd A k n Qf pc lv (.long y :: .long x :: st) h o := fun r h' e ls H locs hl hw => lv_lrem C.1 C.2.1 d hy (q r h' e ls H locs hl hw)
def lcmpV (x y : Int64) : Int32 := if y < x then 1 else if x = y then 0 else -1
theorem aw_dup (C : OK X cc own nL ret rm A) {v : Value} (d : decode cc pc = .ok (.dup, 1)) (hv : v.category = 1) (q : AW X nL Z yd A k n Qf (pc + 1) lv (v :: v :: st) h o) : AW X nL Z yd A k n Qf pc lv (v :: st) h o := fun r h' e ls H locs hl hw => lv_dup C.1 C.2.1 d (by rw [cv_cat]; exact hv) (q r h' e ls H locs hl hw)
theorem aw_pop (C : OK X cc own nL ret rm A) {v : Value} (d : decode cc pc = .ok (.pop, 1)) (hv : v.category = 1) (q : AW X nL Z yd A k n Qf (pc + 1) lv st h o) : AW X nL Z yd A k n Qf pc lv (v :: st) h o := fun r h' e ls H locs hl hw => lv_pop C.1 C.2.1 d (by rw [cv_cat]; exact hv) (q r h' e ls H locs hl hw)
theorem aw_dup2 (C : OK X cc own nL ret rm A) {v u : Value} (d : decode cc pc = .ok (.dup2, 1)) (hv : v.category = 1) (hu : u.category = 1) (q : AW X nL Z yd A k n Qf (pc + 1) lv (v :: u :: v :: u :: st) h o) : AW X nL Z yd A k n Qf pc lv (v :: u :: st) h o := fun r h' e ls H locs hl hw => lv_dup2_11 C.1 C.2.1 d (by rw [cv_cat]; exact hv) (by rw [cv_cat]; exact hu) (q r h' e ls H locs hl hw)
theorem aw_dup2L (C : OK X cc own nL ret rm A) {v : Value} (d : decode cc pc = .ok (.dup2, 1)) (hv : v.category = 2) (q : AW X nL Z yd A k n Qf (pc + 1) lv (v :: v :: st) h o) : AW X nL Z yd A k n Qf pc lv (v :: st) h o := fun r h' e ls H locs hl hw => lv_dup2_2 C.1 C.2.1 d (by rw [cv_cat]; exact hv) (q r h' e ls H locs hl hw)
theorem aw_goto (C : OK X cc own nL ret rm A) {off : Int} {tgt : Nat} (d : decode cc pc = .ok (.goto off, 3)) (ht : (pc : Int) + off = (tgt : Int)) (q : AW X nL Z yd A k n Qf tgt lv st h o) : AW X nL Z yd A k n Qf pc lv st h o := fun r h' e ls H locs hl hw => lv_goto C.1 C.2.1 d ht (q r h' e ls H locs hl hw)
theorem aw_icmp_eq (C : OK X cc own nL ret rm A) {x y : Int32} {off : Int} {tgt : Nat} (d : decode cc pc = .ok (.if_icmp .eq off, 3)) (ht : (pc : Int) + off = (tgt : Int)) (q1 : x = y → AW X nL Z yd A k n Qf tgt lv st h o1) (q2 : ¬ x = y → AW X nL Z yd A k n Qf (pc + 3) lv st h o2) : AW X nL Z yd A k n Qf pc lv (.int y :: .int x :: st) h (if x = y then o1 else o2) := fun r h' e ls H locs hl hw => lv_icmp_eq C.1 C.2.1 d ht (fun c => q1 c r h' (by rw [if_pos c] at e; exact e) ls H locs hl hw) (fun c => q2 c r h' (by rw [if_neg c] at e; exact e) ls H locs hl hw)
theorem aw_if_eq (C : OK X cc own nL ret rm A) {x : Int32} {off : Int} {tgt : Nat} (d : decode cc pc = .ok (.ifCond .eq off, 3)) (ht : (pc : Int) + off = (tgt : Int)) (q1 : x = 0 → AW X nL Z yd A k n Qf tgt lv st h o1) (q2 : ¬ x = 0 → AW X nL Z yd A k n Qf (pc + 3) lv st h o2) : AW X nL Z yd A k n Qf pc lv (.int x :: st) h (if x = 0 then o1 else o2) := fun r h' e ls H locs hl hw => lv_if_eq C.1 C.2.1 d ht (fun c => q1 c r h' (by rw [if_pos c] at e; exact e) ls H locs hl hw) (fun c => q2 c r h' (by rw [if_neg c] at e; exact e) ls H locs hl hw)
theorem aw_icmp_ne (C : OK X cc own nL ret rm A) {x y : Int32} {off : Int} {tgt : Nat} (d : decode cc pc = .ok (.if_icmp .ne off, 3)) (ht : (pc : Int) + off = (tgt : Int)) (q1 : x = y → AW X nL Z yd A k n Qf (pc + 3) lv st h o1) (q2 : ¬ x = y → AW X nL Z yd A k n Qf tgt lv st h o2) : AW X nL Z yd A k n Qf pc lv (.int y :: .int x :: st) h (if x = y then o1 else o2) := fun r h' e ls H locs hl hw => lv_icmp_ne C.1 C.2.1 d ht (fun c => q2 c r h' (by rw [if_neg c] at e; exact e) ls H locs hl hw) (fun c => q1 c r h' (by rw [if_pos c] at e; exact e) ls H locs hl hw)
theorem aw_if_ne (C : OK X cc own nL ret rm A) {x : Int32} {off : Int} {tgt : Nat} (d : decode cc pc = .ok (.ifCond .ne off, 3)) (ht : (pc : Int) + off = (tgt : Int)) (q1 : x = 0 → AW X nL Z yd A k n Qf (pc + 3) lv st h o1) (q2 : ¬ x = 0 → AW X nL Z yd A k n Qf tgt lv st h o2) : AW X nL Z yd A k n Qf pc lv (.int x :: st) h (if x = 0 then o1 else o2) := fun r h' e ls H locs hl hw => lv_if_ne C.1 C.2.1 d ht (fun c => q2 c r h' (by rw [if_neg c] at e; exact e) ls H locs hl hw) (fun c => q1 c r h' (by rw [if_pos c] at e; exact e) ls H locs hl hw)
theorem aw_icmp_lt (C : OK X cc own nL ret rm A) {x y : Int32} {off : Int} {tgt : Nat} (d : decode cc pc = .ok (.if_icmp .lt off, 3)) (ht : (pc : Int) + off = (tgt : Int)) (q1 : x < y → AW X nL Z yd A k n Qf tgt lv st h o1) (q2 : ¬ x < y → AW X nL Z yd A k n Qf (pc + 3) lv st h o2) : AW X nL Z yd A k n Qf pc lv (.int y :: .int x :: st) h (if x < y then o1 else o2) := fun r h' e ls H locs hl hw => lv_icmp_lt C.1 C.2.1 d ht (fun c => q1 c r h' (by rw [if_pos c] at e; exact e) ls H locs hl hw) (fun c => q2 c r h' (by rw [if_neg c] at e; exact e) ls H locs hl hw)
theorem aw_if_lt (C : OK X cc own nL ret rm A) {x : Int32} {off : Int} {tgt : Nat} (d : decode cc pc = .ok (.ifCond .lt off, 3)) (ht : (pc : Int) + off = (tgt : Int)) (q1 : x < 0 → AW X nL Z yd A k n Qf tgt lv st h o1) (q2 : ¬ x < 0 → AW X nL Z yd A k n Qf (pc + 3) lv st h o2) : AW X nL Z yd A k n Qf pc lv (.int x :: st) h (if x < 0 then o1 else o2) := fun r h' e ls H locs hl hw => lv_if_lt C.1 C.2.1 d ht (fun c => q1 c r h' (by rw [if_pos c] at e; exact e) ls H locs hl hw) (fun c => q2 c r h' (by rw [if_neg c] at e; exact e) ls H locs hl hw)
theorem aw_icmp_ge (C : OK X cc own nL ret rm A) {x y : Int32} {off : Int} {tgt : Nat} (d : decode cc pc = .ok (.if_icmp .ge off, 3)) (ht : (pc : Int) + off = (tgt : Int)) (q1 : y ≤ x → AW X nL Z yd A k n Qf tgt lv st h o1) (q2 : ¬ y ≤ x → AW X nL Z yd A k n Qf (pc + 3) lv st h o2) : AW X nL Z yd A k n Qf pc lv (.int y :: .int x :: st) h (if y ≤ x then o1 else o2) := fun r h' e ls H locs hl hw => lv_icmp_ge C.1 C.2.1 d ht (fun c => q1 c r h' (by rw [if_pos c] at e; exact e) ls H locs hl hw) (fun c => q2 c r h' (by rw [if_neg c] at e; exact e) ls H locs hl hw)
theorem aw_if_ge (C : OK X cc own nL ret rm A) {x : Int32} {off : Int} {tgt : Nat} (d : decode cc pc = .ok (.ifCond .ge off, 3)) (ht : (pc : Int) + off = (tgt : Int)) (q1 : 0 ≤ x → AW X nL Z yd A k n Qf tgt lv st h o1) (q2 : ¬ 0 ≤ x → AW X nL Z yd A k n Qf (pc + 3) lv st h o2) : AW X nL Z yd A k n Qf pc lv (.int x :: st) h (if 0 ≤ x then o1 else o2) := fun r h' e ls H locs hl hw => lv_if_ge C.1 C.2.1 d ht (fun c => q1 c r h' (by rw [if_pos c] at e; exact e) ls H locs hl hw) (fun c => q2 c r h' (by rw [if_neg c] at e; exact e) ls H locs hl hw)
theorem aw_icmp_gt (C : OK X cc own nL ret rm A) {x y : Int32} {off : Int} {tgt : Nat} (d : decode cc pc = .ok (.if_icmp .gt off, 3)) (ht : (pc : Int) + off = (tgt : Int)) (q1 : y < x → AW X nL Z yd A k n Qf tgt lv st h o1) (q2 : ¬ y < x → AW X nL Z yd A k n Qf (pc + 3) lv st h o2) : AW X nL Z yd A k n Qf pc lv (.int y :: .int x :: st) h (if y < x then o1 else o2) := fun r h' e ls H locs hl hw => lv_icmp_gt C.1 C.2.1 d ht (fun c => q1 c r h' (by rw [if_pos c] at e; exact e) ls H locs hl hw) (fun c => q2 c r h' (by rw [if_neg c] at e; exact e) ls H locs hl hw)
theorem aw_if_gt (C : OK X cc own nL ret rm A) {x : Int32} {off : Int} {tgt : Nat} (d : decode cc pc = .ok (.ifCond .gt off, 3)) (ht : (pc : Int) + off = (tgt : Int)) (q1 : 0 < x → AW X nL Z yd A k n Qf tgt lv st h o1) (q2 : ¬ 0 < x → AW X nL Z yd A k n Qf (pc + 3) lv st h o2) : AW X nL Z yd A k n Qf pc lv (.int x :: st) h (if 0 < x then o1 else o2) := fun r h' e ls H locs hl hw => lv_if_gt C.1 C.2.1 d ht (fun c => q1 c r h' (by rw [if_pos c] at e; exact e) ls H locs hl hw) (fun c => q2 c r h' (by rw [if_neg c] at e; exact e) ls H locs hl hw)
theorem aw_icmp_le (C : OK X cc own nL ret rm A) {x y : Int32} {off : Int} {tgt : Nat} (d : decode cc pc = .ok (.if_icmp .le off, 3)) (ht : (pc : Int) + off = (tgt : Int)) (q1 : x ≤ y → AW X nL Z yd A k n Qf tgt lv st h o1) (q2 : ¬ x ≤ y → AW X nL Z yd A k n Qf (pc + 3) lv st h o2) : AW X nL Z yd A k n Qf pc lv (.int y :: .int x :: st) h (if x ≤ y then o1 else o2) := fun r h' e ls H locs hl hw => lv_icmp_le C.1 C.2.1 d ht (fun c => q1 c r h' (by rw [if_pos c] at e; exact e) ls H locs hl hw) (fun c => q2 c r h' (by rw [if_neg c] at e; exact e) ls H locs hl hw)
theorem aw_if_le (C : OK X cc own nL ret rm A) {x : Int32} {off : Int} {tgt : Nat} (d : decode cc pc = .ok (.ifCond .le off, 3)) (ht : (pc : Int) + off = (tgt : Int)) (q1 : x ≤ 0 → AW X nL Z yd A k n Qf tgt lv st h o1) (q2 : ¬ x ≤ 0 → AW X nL Z yd A k n Qf (pc + 3) lv st h o2) : AW X nL Z yd A k n Qf pc lv (.int x :: st) h (if x ≤ 0 then o1 else o2) := fun r h' e ls H locs hl hw => lv_if_le C.1 C.2.1 d ht (fun c => q1 c r h' (by rw [if_pos c] at e; exact e) ls H locs hl hw) (fun c => q2 c r h' (by rw [if_neg c] at e; exact e) ls H locs hl hw)
theorem aw_tsw (C : OK X cc own nL ret rm A) {dflt lo hi : Int} {offs : Array Int} {len : Nat} {x : Int32} {td : Nat} {tg : Nat → Nat} {N : Nat} {f : Nat → Option (α × AH)} (d : decode cc pc = .ok (.tableswitch dflt lo hi offs, len)) (hN : hi - lo + 1 = (N : Int)) (htd : (pc : Int) + dflt = (td : Int)) (htg : ∀ j, j < N → ∃ off, offs[j]? = some off ∧ (pc : Int) + off = (tg j : Int)) (q1 : ∀ j, j < N → AW X nL Z yd A k n Qf (tg j) lv st h (f j)) (q2 : AW X nL Z yd A k n Qf td lv st h o) : AW X nL Z yd A k n Qf pc lv (.int x :: st) h (if x.toInt < lo ∨ hi < x.toInt then o else f (x.toInt - lo).toNat) := fun r h' e ls H locs hl hw => by
  by_cases c : x.toInt < lo ∨ hi < x.toInt
  · rw [if_pos c] at e
    exact lv_tableOut C.1 C.2.1 d c htd (q2 r h' e ls H locs hl hw)
  · rw [if_neg c] at e
    have c1 : ¬ x.toInt < lo := fun z => c (Or.inl z)
    have c2 : ¬ hi < x.toInt := fun z => c (Or.inr z)
    have hj : (x.toInt - lo).toNat < N := by omega
    obtain ⟨off, h1, h2⟩ := htg _ hj
    exact lv_tableIn C.1 C.2.1 d c1 c2 h1 h2 (q1 _ hj r h' e ls H locs hl hw)
theorem aw_lsw (C : OK X cc own nL ret rm A) {dflt : Int} {ps : Array (Int × Int)} {len : Nat} {x : Int32} {tg : Nat} (d : decode cc pc = .ok (.lookupswitch dflt ps, len)) (hp : (ps.toList.zip (ps.toList.drop 1)).all (fun (a, next) => a.1 < next.1) = true) {off : Int} (ho : Op.lookupswitch.offset ps.toList dflt x.toInt = off) (ht : (pc : Int) + off = (tg : Int)) (q : AW X nL Z yd A k n Qf tg lv st h o) : AW X nL Z yd A k n Qf pc lv (.int x :: st) h o := fun r h' e ls H locs hl hw => lv_lookup C.1 C.2.1 d hp ho ht (q r h' e ls H locs hl hw)
theorem aw_ldc (C : OK X cc own nL ret rm A) {ix : Nat} {v : Int32} (d : decode cc pc = .ok (.ldc ix, 2)) (hc : Cond.constant own ix v ∈ TB) (q : AW X nL Z yd A k n Qf (pc + 2) lv (.int v :: st) h o) : AW X nL Z yd A k n Qf pc lv st h o := fun r h' e ls H locs hl hw => lv_ldc C.1 C.2.1 C.2.2.2.1 (C.2.2.2.2.1 _ hc) d (q r h' e ls H locs hl hw)
theorem aw_ldc_w (C : OK X cc own nL ret rm A) {ix : Nat} {v : Int32} (d : decode cc pc = .ok (.ldc_w ix, 3)) (hc : Cond.constant own ix v ∈ TB) (q : AW X nL Z yd A k n Qf (pc + 3) lv (.int v :: st) h o) : AW X nL Z yd A k n Qf pc lv st h o := fun r h' e ls H locs hl hw => lv_ldcw C.1 C.2.1 C.2.2.2.1 (C.2.2.2.2.1 _ hc) d (q r h' e ls H locs hl hw)
theorem aw_ldc2_w (C : OK X cc own nL ret rm A) {ix : Nat} {v : Int64} (d : decode cc pc = .ok (.ldc2_w ix, 3)) (hc : Cond.constantLong own ix v ∈ TB) (q : AW X nL Z yd A k n Qf (pc + 3) lv (.long v :: st) h o) : AW X nL Z yd A k n Qf pc lv st h o := fun r h' e ls H locs hl hw => lv_ldc2 C.1 C.2.1 C.2.2.2.1 (C.2.2.2.2.1 _ hc) d (q r h' e ls H locs hl hw)
theorem aw_lcmp (C : OK X cc own nL ret rm A) {x y : Int64} (d : decode cc pc = .ok (.lcmp, 1)) (q : AW X nL Z yd A k n Qf (pc + 1) lv (.int (lcmpV x y) :: st) h o) : AW X nL Z yd A k n Qf pc lv (.long y :: .long x :: st) h o := fun r h' e ls H locs hl hw => W.lcmp C.1 C.2.1 d (q r h' e ls H locs hl hw)
end AWS
end
section
/-! fields, arrays, calls, ends of the walk -/
/-- a field by a pool number: the class's number, the slot -/
def FL (own : String) (ix ci k : Nat) : Prop := ∃ (D : String) (T : u_T) (N : Nat), vwCl[ci]? = some (D, T, N) ∧ k < N ∧ (∀ w ∈ u_ws D T N, w ∈ TB) ∧ Cond.fieldLink own ix (T k).1 (T k).2.1 (T k).2.2.1 ∈ TB
/-- a field that is written, of a type -/
def FP (own : String) (ix ci k : Nat) (ty : FieldType) : Prop := ∃ (D : String) (T : u_T) (N : Nat) (ty0 : Nat → FieldType), vwCl[ci]? = some (D, T, N) ∧ k < N ∧ (∀ w ∈ u_ws D T N, w ∈ TB) ∧ Cond.fieldLink own ix (T k).1 (T k).2.1 (T k).2.2.1 ∈ TB ∧ (∀ j, j < N → parseFieldDescriptor (T j).2.2.1 = some (ty0 j)) ∧ (∀ a, a < N → ∀ b, b < N → a ≠ b → (T a).2.1 ≠ (T b).2.1) ∧ (T k).2.2.2 = false ∧ parseFieldDescriptor (T k).2.2.1 = some ty
theorem tyAt {yd : Dyn} {tl : List FieldType} {t : Nat} {ty : FieldType} (h : yd.2.2.map (·.2) = tl) (e : tl[t]? = some ty) : yd.2.2[t]? = some (tcl yd t, ty) := by
  rw [← h, List.getElem?_map] at e
  unfold tcl
  cases hq : yd.2.2[t]? with
  | none => rw [hq] at e; cases e
  | some q => rw [hq] at e; cases e; rfl
section AWH
variable {X : MCx} {cc : ByteArray} {own : String} {nL : Nat} {ret : Option FieldType} {rm : Room} {Z : Stc} {yd : Dyn} {A : Nat → Prop} {k n : Nat} {α : Type} {Qf : α → AH → State → Prop} {pc : Nat} {lv : List (Nat × Value)} {st : List Value} {h : AH} {o o1 o2 : Option (α × AH)} {a ix ci j t N : Nat}
theorem aw_getV (C : OK X cc own nL ret rm A) {v w : Value} {c : Nat} (d : decode cc pc = .ok (.getfield ix, 3)) (hf : FL own ix ci j) (hs : Z.1[a]? = some (.inr ci)) (hk : (fty ci)[j]? = some c) (hv : eF Z yd.1 h a j c = cv yd.1 v) (q : AW X nL Z yd A k n Qf (pc + 3) lv (v :: st) h o) : AW X nL Z yd A k n Qf pc lv (.ref a :: st) h o := fun r h' e ls H locs hl hw => by
  obtain ⟨D, T, N, e1, e2, e3, e4⟩ := hf
  have he := wld_at (yd := yd) (h := h) hs
  refine va_get (v := cv yd.1 v) C.1 C.2.1 C.2.2.2.2.1 e3 C.2.2.2.1 hw.2.2.2.1 hw.1 a he e1 j e2 (C.2.2.2.2.1 _ e4) (fun _ h9 => h9) ?_ d (q r h' e ls H locs hl hw)
  rw [eFs_get, hk, Nat.zero_add]
  simp [hv]
theorem aw_getI (C : OK X cc own nL ret rm A) (d : decode cc pc = .ok (.getfield ix, 3)) (hf : FL own ix ci j) (hs : Z.1[a]? = some (.inr ci)) (hk : (fty ci)[j]? = some 0) (q : AW X nL Z yd A k n Qf (pc + 3) lv (.int (h.1 a j) :: st) h o) : AW X nL Z yd A k n Qf pc lv (.ref a :: st) h o := aw_getV (w := .null) C d hf hs hk rfl q
theorem aw_getL (C : OK X cc own nL ret rm A) (d : decode cc pc = .ok (.getfield ix, 3)) (hf : FL own ix ci j) (hs : Z.1[a]? = some (.inr ci)) (hk : (fty ci)[j]? = some 1) (q : AW X nL Z yd A k n Qf (pc + 3) lv (.long (h.2.1 a j) :: st) h o) : AW X nL Z yd A k n Qf pc lv (.ref a :: st) h o := aw_getV (w := .null) C d hf hs hk rfl q
theorem aw_getR (C : OK X cc own nL ret rm A) {b : Nat} (d : decode cc pc = .ok (.getfield ix, 3)) (hf : FL own ix ci j) (hs : Z.1[a]? = some (.inr ci)) (hk : (fty ci)[j]? = some 2) (hr : Z.2.1 a j = b) (q : AW X nL Z yd A k n Qf (pc + 3) lv (.ref b :: st) h o) : AW X nL Z yd A k n Qf pc lv (.ref a :: st) h o := aw_getV (w := .null) (v := .ref b) C d hf hs hk (by rw [← hr]; rfl) q
theorem aw_getW (C : OK X cc own nL ret rm A) {b : Nat} (d : decode cc pc = .ok (.getfield ix, 3)) (hf : FL own ix ci j) (hs : Z.1[a]? = some (.inr ci)) (hk : (fty ci)[j]? = some 3) (hr : Z.2.2.1 + h.2.2 a % 6 = b) (q : AW X nL Z yd A k n Qf (pc + 3) lv (.ref b :: st) h o) : AW X nL Z yd A k n Qf pc lv (.ref a :: st) h o := aw_getV (w := .null) (v := .ref b) C d hf hs hk (by rw [← hr]; rfl) q
theorem aw_putI (C : OK X cc own nL ret rm A) {x : Int32} {f : AH → Option (α × AH)} (d : decode cc pc = .ok (.putfield ix, 3)) (hf : FP own ix ci j .int) (hs : Z.1[a]? = some (.inr ci)) (hk : (fty ci)[j]? = some 0) (q : ∀ h1, AW X nL Z yd A k n Qf (pc + 3) lv st h1 (f h1)) : AW X nL Z yd A k n Qf pc lv (.int x :: .ref a :: st) h (vl (sI h a j x) f) := fun r h' e ls H locs hl hw => by
  obtain ⟨D, T, N, ty0, e1, e2, e3, e4, e5, e6, e7, e8⟩ := hf
  have he := wld_at (yd := yd) (h := h) hs
  refine va_put (v := .int x) (ty := .int) C.1 C.2.1 C.2.2.2.2.1 e3 ty0 e5 e6 C.2.2.2.1 hw.2.2.2.1 hw.1 hw.2.1 hw.2.2.1 a he e1 j e2 (C.2.2.2.2.1 _ e4) (fun _ h9 => h9) e7 e8 rfl rfl (by rw [eFs_len]; exact (List.getElem?_eq_some_iff.mp hk).1) d (fun H1 locs1 p1 p2 p3 => ?_)
  rw [wld_putI x hs hk] at p1 p2
  exact q _ r h' e ls H1 locs1 hl ⟨p1, p2, p3, hw.2.2.2⟩
theorem aw_putZ (C : OK X cc own nL ret rm A) {x : Int32} {f : AH → Option (α × AH)} (d : decode cc pc = .ok (.putfield ix, 3)) (hf : FP own ix ci j .boolean) (hs : Z.1[a]? = some (.inr ci)) (hk : (fty ci)[j]? = some 0) (q : ∀ h1, AW X nL Z yd A k n Qf (pc + 3) lv st h1 (f h1)) : AW X nL Z yd A k n Qf pc lv (.int x :: .ref a :: st) h (cz x (vl (sI h a j x) f)) := aw_if (fun c r h' e ls H locs hl hw => by
  obtain ⟨D, T, N, ty0, e1, e2, e3, e4, e5, e6, e7, e8⟩ := hf
  have he := wld_at (yd := yd) (h := h) hs
  refine va_put (v := .int x) (ty := .boolean) C.1 C.2.1 C.2.2.2.2.1 e3 ty0 e5 e6 C.2.2.2.1 hw.2.2.2.1 hw.1 hw.2.1 hw.2.2.1 a he e1 j e2 (C.2.2.2.2.1 _ e4) (fun _ h9 => h9) e7 e8 (by rcases c with c | c <;> subst c <;> rfl) (by rcases c with c | c <;> subst c <;> rfl) (by rw [eFs_len]; exact (List.getElem?_eq_some_iff.mp hk).1) d (fun H1 locs1 p1 p2 p3 => ?_)
  rw [wld_putI x hs hk] at p1 p2
  exact q _ r h' e ls H1 locs1 hl ⟨p1, p2, p3, hw.2.2.2⟩) (fun _ => aw_none)
theorem aw_putL (C : OK X cc own nL ret rm A) {x : Int64} {f : AH → Option (α × AH)} (d : decode cc pc = .ok (.putfield ix, 3)) (hf : FP own ix ci j .long) (hs : Z.1[a]? = some (.inr ci)) (hk : (fty ci)[j]? = some 1) (q : ∀ h1, AW X nL Z yd A k n Qf (pc + 3) lv st h1 (f h1)) : AW X nL Z yd A k n Qf pc lv (.long x :: .ref a :: st) h (vl (sL h a j x) f) := fun r h' e ls H locs hl hw => by
  obtain ⟨D, T, N, ty0, e1, e2, e3, e4, e5, e6, e7, e8⟩ := hf
  have he := wld_at (yd := yd) (h := h) hs
  refine va_put (v := .long x) (ty := .long) C.1 C.2.1 C.2.2.2.2.1 e3 ty0 e5 e6 C.2.2.2.1 hw.2.2.2.1 hw.1 hw.2.1 hw.2.2.1 a he e1 j e2 (C.2.2.2.2.1 _ e4) (fun _ h9 => h9) e7 e8 rfl rfl (by rw [eFs_len]; exact (List.getElem?_eq_some_iff.mp hk).1) d (fun H1 locs1 p1 p2 p3 => ?_)
  rw [wld_putL x hs hk] at p1 p2
  exact q _ r h' e ls H1 locs1 hl ⟨p1, p2, p3, hw.2.2.2⟩
theorem aw_putW (C : OK X cc own nL ret rm A) {b v : Nat} {D0 : String} {f : AH → Option (α × AH)} (d : decode cc pc = .ok (.putfield ix, 3)) (hf : FP own ix ci 0 (.object D0)) (hs : Z.1[a]? = some (.inr ci)) (hk : (fty ci)[0]? = some 3) (h3 : ∀ k, k ≠ 0 → (fty ci)[k]? ≠ some 3) (hm : ∀ (k t : Nat), (fty ci)[k]? = some t → t ≤ 3) (hb : Z.2.2.1 + v % 6 = b) (q : ∀ h1, AW X nL Z yd A k n Qf (pc + 3) lv st h1 (f h1)) : AW X nL Z yd A k n Qf pc lv (.ref b :: .ref a :: st) h (vl (sK h a v) f) := fun r h' e ls H locs hl hw => by
  obtain ⟨D, T, N, ty0, e1, e2, e3, e4, e5, e6, e7, e8⟩ := hf
  have he := wld_at (yd := yd) (h := h) hs
  subst hb
  refine va_put (v := .ref (yd.1 (Z.2.2.1 + v % 6))) (ty := .object D0) C.1 C.2.1 C.2.2.2.2.1 e3 ty0 e5 e6 C.2.2.2.1 hw.2.2.2.1 hw.1 hw.2.1 hw.2.2.1 a he e1 0 e2 (C.2.2.2.2.1 _ e4) (fun _ h9 => h9) e7 e8 rfl rfl (by rw [eFs_len]; exact (List.getElem?_eq_some_iff.mp hk).1) d (fun H1 locs1 p1 p2 p3 => ?_)
  rw [wld_putK v hs hk h3 hm] at p1 p2
  exact q _ r h' e ls H1 locs1 hl ⟨p1, p2, p3, hw.2.2.2⟩
theorem aw_iald (C : OK X cc own nL ret rm A) {i : Int32} (d : decode cc pc = .ok (.iaload, 1)) (hs : Z.1[a]? = some (.inl (t, 0, N))) (ht : Z.2.2.2[t]? = some .int) (q : AW X nL Z yd A k n Qf (pc + 1) lv (.int (h.1 a i.toNatClampNeg) :: st) h o) : AW X nL Z yd A k n Qf pc lv (.int i :: .ref a :: st) h (ck i N o) := aw_if (fun _ => aw_none) (fun hi r h' e ls H locs hl hw => va_iald C.1 C.2.1 hw.2.2.2.1 hw.1 a t (wld_at hs) (tyAt hw.2.2.2.2 ht) hi d (q r h' e ls H locs hl hw))
theorem aw_lald (C : OK X cc own nL ret rm A) {i : Int32} (d : decode cc pc = .ok (.laload, 1)) (hs : Z.1[a]? = some (.inl (t, 1, N))) (ht : Z.2.2.2[t]? = some .long) (q : AW X nL Z yd A k n Qf (pc + 1) lv (.long (h.2.1 a i.toNatClampNeg) :: st) h o) : AW X nL Z yd A k n Qf pc lv (.int i :: .ref a :: st) h (ck i N o) := aw_if (fun _ => aw_none) (fun hi r h' e ls H locs hl hw => va_lald C.1 C.2.1 hw.2.2.2.1 hw.1 a t (wld_at hs) (tyAt hw.2.2.2.2 ht) hi d (q r h' e ls H locs hl hw))
theorem aw_aald (C : OK X cc own nL ret rm A) {i : Int32} {b : Nat} {ty : FieldType} (d : decode cc pc = .ok (.aaload, 1)) (hs : Z.1[a]? = some (.inl (t, 2, N))) (ht : Z.2.2.2[t]? = some ty) (hty : ty.isReference = true) (hr : Z.2.1 a i.toNatClampNeg = b) (q : AW X nL Z yd A k n Qf (pc + 1) lv (.ref b :: st) h o) : AW X nL Z yd A k n Qf pc lv (.int i :: .ref a :: st) h (ck i N o) := aw_if (fun _ => aw_none) (fun hin r h' e ls H locs hl hw => by
  have hlt : i.toNatClampNeg < N := Nat.not_le.mp fun q => hin (Or.inr q)
  have hP : H[yd.1 a]? = some (arrV (tcl yd t) N (fun j => va_rf (some (yd.1 (Z.2.1 a j))))) := hw.1 a _ (wld_at hs)
  exact W.aald (v := va_rf (some (yd.1 (Z.2.1 a i.toNatClampNeg)))) (ty := ty) C.1 C.2.1 hP ((hw.2.2.2.1.2 t _ (tyAt hw.2.2.2.2 ht)).1 N (fun j => va_rf (some (yd.1 (Z.2.1 a j))))) hty (fun q => by cases q) (by rw [arrV_size]; exact hin) (by rw [arrV_read _ _ hlt]) rfl rfl d (by rw [hr]; exact q r h' e ls H locs hl hw))
theorem aw_iast (C : OK X cc own nL ret rm A) {i x : Int32} {f : AH → Option (α × AH)} (d : decode cc pc = .ok (.iastore, 1)) (hs : Z.1[a]? = some (.inl (t, 0, N))) (ht : Z.2.2.2[t]? = some .int) (q : ∀ h1, AW X nL Z yd A k n Qf (pc + 1) lv st h1 (f h1)) : AW X nL Z yd A k n Qf pc lv (.int x :: .int i :: .ref a :: st) h (ck i N (vl (sI h a i.toNatClampNeg x) f)) := aw_if (fun _ => aw_none) (fun hi r h' e ls H locs hl hw => by
  refine va_iast C.1 C.2.1 hw.2.2.2.1 hw.1 hw.2.1 hw.2.2.1 a t (wld_at hs) (tyAt hw.2.2.2.2 ht) hi d (fun H1 locs1 p1 p2 p3 => ?_)
  rw [wld_astI x hs] at p1 p2
  exact q _ r h' e ls H1 locs1 hl ⟨p1, p2, p3, hw.2.2.2⟩)
theorem aw_last (C : OK X cc own nL ret rm A) {i : Int32} {x : Int64} {f : AH → Option (α × AH)} (d : decode cc pc = .ok (.lastore, 1)) (hs : Z.1[a]? = some (.inl (t, 1, N))) (ht : Z.2.2.2[t]? = some .long) (q : ∀ h1, AW X nL Z yd A k n Qf (pc + 1) lv st h1 (f h1)) : AW X nL Z yd A k n Qf pc lv (.long x :: .int i :: .ref a :: st) h (ck i N (vl (sL h a i.toNatClampNeg x) f)) := aw_if (fun _ => aw_none) (fun hi r h' e ls H locs hl hw => by
  refine va_last C.1 C.2.1 hw.2.2.2.1 hw.1 hw.2.1 hw.2.2.1 a t (wld_at hs) (tyAt hw.2.2.2.2 ht) hi d (fun H1 locs1 p1 p2 p3 => ?_)
  rw [wld_astL x hs] at p1 p2
  exact q _ r h' e ls H1 locs1 hl ⟨p1, p2, p3, hw.2.2.2⟩)
theorem aw_alenI (C : OK X cc own nL ret rm A) {v : Int32} {ty : FieldType} {kd : Nat} (d : decode cc pc = .ok (.arraylength, 1)) (hs : Z.1[a]? = some (.inl (t, kd, N))) (ht : Z.2.2.2[t]? = some ty) (hv : Int32.ofNat N = v) (q : AW X nL Z yd A k n Qf (pc + 1) lv (.int v :: st) h o) : AW X nL Z yd A k n Qf pc lv (.ref a :: st) h o := fun r h' e ls H locs hl hw => by
  have hx : (eA Z yd.1 h a kd N).1 = N := by unfold eA; split <;> rfl
  exact va_alen C.1 C.2.1 hw.2.2.2.1 hw.1 a t (wld_at hs) (tyAt hw.2.2.2.2 ht) (by rw [hx]; exact hv) d (q r h' e ls H locs hl hw)
end AWH
/-! contracts: any caller, the whole world of the object -/
def AA (yd : Dyn) (Z : Stc) (sz : Nat) : Nat → Prop := fun q => (∃ o, o < Z.1.length ∧ q = yd.1 o) ∨ sz ≤ q
def PreB (Z : Stc) (yd : Dyn) (h : AH) (sz : Nat) : State → Prop := fun U => U.heap.size = sz ∧ va_P yd.2.1 vwCl (wld Z yd h) U.heap ∧ va_K yd.2.1 vwCl yd.2.2 U ∧ va_D (fun _ => True) (wld Z yd h) ∧ yd.2.2.map (·.2) = Z.2.2.2
def PostB (Z : Stc) (yd : Dyn) {α : Type} (rv : α → Option Value) (A : Nat → Prop) (r : α) (h' : AH) : Array Value → State → Outcome → State → Prop := fun _ s o t => o = .returned ((rv r).map (cv yd.1)) ∧ va_P yd.2.1 vwCl (wld Z yd h') t.heap ∧ va_F A s t
def MC (l : Launch) (y : MethodName) (cc : ByteArray) (nL : Nat) (ret : Option FieldType) (rm : Room) (Z : Stc) (avs : List Value) {α : Type} (rv : α → Option Value) (F : AH → Option (α × AH)) : Prop :=
  ∀ (yd : Dyn) (h : AH) (r : α) (h' : AH) (sz : Nat), F h = some (r, h') → Met l y (.code y cc nL ret :: TB) rm (va_Pc (avs.map (cv yd.1)) (PreB Z yd h sz)) (PostB Z yd rv (AA yd Z sz) r h') rm.cells rm.slots (AA yd Z sz)
def QF (X : MCx) (rm : Room) (Z : Stc) (yd : Dyn) {α : Type} (rv : α → Option Value) (A : Nat → Prop) (r : α) (h' : AH) : State → Prop := MQ X.2.2.2.2.2.2.2.1 (PostB Z yd rv A r h') X.2.2.2.2.2.2.1 (xS X) rm.cells rm.slots A
def rvI (x : Int32) : Option Value := some (.int x)
def rvL (x : Int64) : Option Value := some (.long x)
def rvV (_ : Unit) : Option Value := none
def rvR (x : Nat) : Option Value := some (.ref x)
theorem AA_D {yd : Dyn} {Z : Stc} {h : AH} {sz : Nat} (hD : va_D (fun _ => True) (wld Z yd h)) : va_D (AA yd Z sz) (wld Z yd h) := by
  refine hD.weaken (fun k q hk _ => Or.inl ?_)
  obtain ⟨o, ho, rfl⟩ := List.mem_map.mp (List.mem_of_getElem? hk)
  exact ⟨o, List.mem_range.mp ho, rfl⟩
theorem lvc_args (ad : Nat → Nat) : ∀ (avs : List Value) (i : Nat), lv_args i (avs.map (cv ad)) = lvc ad (lv_args i avs)
  | [], _ => rfl
  | v :: l, i => by
    simp only [List.map_cons, lv_args, cv_cat]
    rw [lvc_args ad l]
    rfl
theorem sl_len (ad : Nat → Nat) : ∀ (avs : List Value), (lg_sl (avs.map (cv ad))).length = (lg_sl avs).length
  | [] => rfl
  | v :: l => by
    have ih := sl_len ad l
    simp only [lg_sl, List.map_cons, List.flatMap_cons, List.length_append] at ih ⊢
    rw [ih]
    cases v <;> rfl
theorem MC.of {l : Launch} {y : MethodName} {cc : ByteArray} {nL : Nat} {ret : Option FieldType} {rm : Room} {Z : Stc} {avs : List Value} {α : Type} {rv : α → Option Value} {F : AH → Option (α × AH)} {own : String} (hy : plainName y.cls = true) (hown : y.cls = own) (hl : (lg_sl avs).length ≤ nL)
    (body : ∀ (X : MCx) (yd : Dyn) (A : Nat → Prop) (h : AH), X.2.1 = l → OK X cc own nL ret rm A → AW X nL Z yd A 0 0 (QF X rm Z yd rv A) 0 (lv_args 0 avs) [] h (F h)) : MC l y cc nL ret rm Z avs rv F := by
  intro yd h r h' sz hF
  refine Met.ofW (cc := cc) (maxL := nL) (ret := ret) hy rfl ?_
  intro p e s m args below meth c s₁ B hml hv
  obtain ⟨rfl, hsz, hP, hK, hD0, hT⟩ := hv
  have hts := atoms_spec (ws := .code y cc nL ret :: TB) B.pre
  have hown2 : s.vm.findClass y.cls = some m.cls := findClass_of_methodNamed B.named
  have hlv := lv_entry (avs.map (cv yd.1)) (n := nL) (by rw [sl_len]; exact hl)
  rw [lg_entry_eq]
  rw [lvc_args] at hlv
  have hA : ∀ q, s.heap.size ≤ q → AA yd Z sz q := fun q hq => Or.inr (hsz ▸ hq)
  exact body (p, l, e, (headSpec (.code y cc nL ret :: TB) rm).room, s, m, (avs.map (cv yd.1)).toArray, below, meth, c) yd (AA yd Z sz) h rfl ⟨B.exec, B.bytes, hml, hown ▸ hown2, fun w hw => hts w (List.mem_cons_of_mem _ hw), B.notSynchronized, B.returns, hA, rfl⟩ r h' hF _ s.heap [] hlv ⟨hP, AA_D hD0, va_S.rf, hK, hT⟩
section AWE
variable {X : MCx} {cc : ByteArray} {own : String} {nL : Nat} {ret : Option FieldType} {rm : Room} {Z : Stc} {yd : Dyn} {A : Nat → Prop} {k n : Nat} {pc : Nat} {lv : List (Nat × Value)} {st : List Value} {h : AH}
theorem aw_iret (C : OK X cc own nL (some .int) rm A) {x : Int32} (d : decode cc pc = .ok (.ireturn, 1)) (hc : k = rm.cells) (hs : n = rm.slots) : AW X nL Z yd A k n (QF X rm Z yd rvI A) pc lv [.int x] h (some (x, h)) := fun r h' e ls H locs hl hw => by
  cases e; subst hc; subst hs
  exact W.iret (v := x) C.1 C.2.1 C.2.2.2.2.2.2.1 (fun t ht hW => ⟨rfl, by rw [ht]; exact hw.1, hw.2.2.1.F ht⟩) hw.2.2.1.2.2 d C.2.2.2.2.2.1
theorem aw_zret (C : OK X cc own nL (some .boolean) rm A) {x : Int32} (d : decode cc pc = .ok (.ireturn, 1)) (hc : k = rm.cells) (hs : n = rm.slots) : AW X nL Z yd A k n (QF X rm Z yd rvI A) pc lv [.int x] h (cz x (some (x, h))) := aw_if (fun c r h' e ls H locs hl hw => by
  cases e; subst hc; subst hs
  exact W.zret (v := x) (ty := .boolean) C.1 C.2.1 C.2.2.2.2.2.2.1 (by rcases c with c | c <;> subst c <;> rfl) (fun t ht hW => ⟨rfl, by rw [ht]; exact hw.1, hw.2.2.1.F ht⟩) hw.2.2.1.2.2 d C.2.2.2.2.2.1) (fun _ => aw_none)
theorem aw_lret (C : OK X cc own nL (some .long) rm A) {x : Int64} (d : decode cc pc = .ok (.lreturn, 1)) (hc : k = rm.cells) (hs : n = rm.slots) : AW X nL Z yd A k n (QF X rm Z yd rvL A) pc lv [.long x] h (some (x, h)) := fun r h' e ls H locs hl hw => by
  cases e; subst hc; subst hs
  exact W.lret (v := x) C.1 C.2.1 C.2.2.2.2.2.2.1 (fun t ht hW => ⟨rfl, by rw [ht]; exact hw.1, hw.2.2.1.F ht⟩) hw.2.2.1.2.2 d C.2.2.2.2.2.1
theorem aw_vret (C : OK X cc own nL none rm A) (d : decode cc pc = .ok (.return_, 1)) (hc : k = rm.cells) (hs : n = rm.slots) : AW X nL Z yd A k n (QF X rm Z yd rvV A) pc lv [] h (some ((), h)) := fun r h' e ls H locs hl hw => by
  cases e; subst hc; subst hs
  exact W.vret C.1 C.2.1 C.2.2.2.2.2.2.1 (fun t ht hW => ⟨rfl, by rw [ht]; exact hw.1, hw.2.2.1.F ht⟩) hw.2.2.1.2.2 d C.2.2.2.2.2.1
end AWE
end
section
/-! calls -/
def CR (X : MCx) (nL : Nat) (Z : Stc) (yd : Dyn) (A : Nat → Prop) (mc ms pc : Nat) (st rest : List Value) {β : Type} (rv : β → Option Value) (F : AH → Option (β × AH)) : Prop :=
  ∀ (h : AH) (r : β) (h' : AH), F h = some (r, h') → ∀ (ls : Array Slot) (H : Heap) (locs : List Loc) (k n : Nat), ls.size = nL → WR X Z yd A h H locs → k + mc ≤ X.2.2.2.1.cells ∧ n + ms ≤ X.2.2.2.1.slots →
    va_Run X.1 X.2.1 X.2.2.1 X.2.2.2.1 (xS X) (xM X) X.2.2.2.2.2.2.1 X.2.2.2.2.2.2.2.1 X.2.2.2.2.2.2.2.2.1 X.2.2.2.2.2.2.2.2.2 H locs k n mc ms (F0 (xM X) pc ls (st.map (cv yd.1))) (rest.map (cv yd.1)) (PostB Z yd rv (AA yd Z H.size) r h' #[]) (AA yd Z H.size)
theorem wld_D {A : Nat → Prop} {Z : Stc} {yd : Dyn} {h h' : AH} (hD : va_D A (wld Z yd h)) : va_D A (wld Z yd h') := by
  have key : ∀ (k : Nat) (q : Nat × va_E), (wld Z yd h')[k]? = some q → ∃ e, (wld Z yd h)[k]? = some (q.1, e) := by
    intro k q hk
    have hl : k < Z.1.length := by
      have := (List.getElem?_eq_some_iff.mp hk).1
      rwa [wld_len] at this
    obtain ⟨t, ht⟩ : ∃ t, Z.1[k]? = some t := ⟨_, List.getElem?_eq_getElem hl⟩
    rw [wld_at ht] at hk
    cases hk
    exact ⟨_, wld_at ht⟩
  refine ⟨fun i j p q hi hj e => ?_, fun k q hk => ?_⟩
  · obtain ⟨e1, h1⟩ := key i p hi
    obtain ⟨e2, h2⟩ := key j q hj
    exact hD.1 i j _ _ h1 h2 e
  · obtain ⟨e1, h1⟩ := key k q hk
    exact hD.2 k (q.1, e1) h1
theorem AA_in {X : MCx} {Z : Stc} {yd : Dyn} {A : Nat → Prop} {h : AH} {H : Heap} {locs : List Loc} (hw : WR X Z yd A h H locs) (hA : ∀ q, (xS X).heap.size ≤ q → A q) : ∀ q, AA yd Z H.size q → A q := by
  intro q hq
  rcases hq with ⟨o, ho, rfl⟩ | hq
  · obtain ⟨t, ht⟩ : ∃ t, Z.1[o]? = some t := ⟨_, List.getElem?_eq_getElem ho⟩
    exact hw.2.1.2 o _ (wld_at ht)
  · exact hA q (Nat.le_trans hw.2.2.1.1 hq)
section AWC
variable {X : MCx} {cc : ByteArray} {own : String} {nL : Nat} {ret : Option FieldType} {rm : Room} {Z : Stc} {yd : Dyn} {A : Nat → Prop} {k n : Nat} {α β : Type} {Qf : α → AH → State → Prop} {pc : Nat} {lv : List (Nat × Value)} {st rest : List Value} {h : AH} {rv : β → Option Value} {F : AH → Option (β × AH)}
theorem aw_callN (C : OK X cc own nL ret rm A) {mc ms : Nat} (R : CR X nL Z yd A mc ms pc st rest rv F) {f : β → AH → Option (α × AH)} (hc : k + mc ≤ rm.cells) (hs : n + ms ≤ rm.slots) (q : ∀ r h1, AW X nL Z yd A (k + mc) (n + ms) Qf (pc + 3) lv ((rv r).toList ++ rest) h1 (f r h1)) : AW X nL Z yd A k n Qf pc lv st h (bd (F h) f) := by
  intro r h' e ls H locs hl hw
  cases hF : F h with
  | none => rw [hF] at e; cases e
  | some p =>
    rw [hF] at e
    have e : f p.1 p.2 = some (r, h') := e
    have run := R h p.1 p.2 hF ls H locs k n hl.1 hw (by rw [C.2.2.2.2.2.2.2.2]; exact ⟨hc, hs⟩)
    intro T hT XX
    obtain ⟨v, st₀, t, T', L, h0, X', hL, e1, e2, ⟨hv, hP1, hz, hk⟩, stp⟩ := run T hT XX
    cases hv
    rw [h0] at hz hk
    have hin := AA_in hw C.2.2.2.2.2.2.2.1
    have hS : va_S A (xS X).heap T'.heap (locs ++ L) := ⟨Nat.le_trans hw.2.2.1.1 (by rw [e1]; exact hz), fun q h1 h2 => by rw [e1, hk q (Nat.lt_of_lt_of_le h1 hw.2.2.1.1) (fun z => h2 (hin q z))]; exact hw.2.2.1.2.1 q h1 h2, fun q hq => by
      rcases List.mem_append.mp hq with h | h
      · exact hw.2.2.1.2.2 q h
      · exact hin _ (hL q h)⟩
    have hst : ((rv p.1).map (cv yd.1)).toList ++ rest.map (cv yd.1) = ((rv p.1).toList ++ rest).map (cv yd.1) := by
      cases rv p.1 <;> simp
    obtain ⟨t2, a1, b1⟩ := q p.1 p.2 r h' e ls T'.heap (locs ++ L) hl ⟨by rw [e1]; exact hP1, wld_D hw.2.1, hS, hw.2.2.2⟩ T' rfl X'
    refine ⟨t2, stp t2 ?_, b1⟩
    show Steps _ _ _ (T'.setTop (F0 (xM X) (pc + 3) ls (((rv p.1).map (cv yd.1)).toList ++ rest.map (cv yd.1)))) _
    rw [hst]
    exact a1
theorem aw_call (C : OK X cc own nL ret rm A) (R : CR X nL Z yd A 0 0 pc st rest rv F) {f : β → AH → Option (α × AH)} (hc : k ≤ rm.cells) (hs : n ≤ rm.slots) (q : ∀ r h1, AW X nL Z yd A k n Qf (pc + 3) lv ((rv r).toList ++ rest) h1 (f r h1)) : AW X nL Z yd A k n Qf pc lv st h (bd (F h) f) := aw_callN (mc := 0) (ms := 0) C R hc hs q
end AWC
/-- a method's own facts: its class is there, its code, how many arguments -/
def MF (y : MethodName) (bytes : ByteArray) (maxL : Nat) (ret : Option FieldType) (np : Nat) : Prop := Cond.initialized y.cls ∈ TB ∧ Cond.code y bytes maxL ret ∈ TB ∧ (y.cls ≠ "java/lang/invoke/MethodHandle" ∧ y.cls ≠ "java/lang/invoke/VarHandle") ∧ (parseMethodDescriptor y.desc).map (fun d => d.parameters.length) = some np
theorem MF.n {y : MethodName} {bytes : ByteArray} {maxL np : Nat} {ret : Option FieldType} (h : MF y bytes maxL ret np) : ∀ sig, parseMethodDescriptor y.desc = some sig → np = sig.parameters.length := by
  intro sig hs
  have h2 := h.2.2.2
  rw [hs] at h2
  exact (Option.some.inj h2).symm
/-- the room of a call -/
def RmOk (rm' rm : Room) (maxL : Nat) : Prop := rm'.frames + 1 ≤ rm.frames ∧ 8 + (maxL + 11) + rm'.locals ≤ rm.locals
section AWR
variable {X : MCx} {cc bytes : ByteArray} {own : String} {nL maxL np : Nat} {ret ret' : Option FieldType} {rm rm' : Room} {Z : Stc} {yd : Dyn} {A : Nat → Prop} {k n : Nat} {β : Type} {pc ix : Nat} {st rest As : List Value} {h : AH} {rv : β → Option Value} {F : AH → Option (β × AH)} {y : MethodName}
theorem OK.warm (C : OK X cc own nL ret rm A) (hc : Cond.code y bytes maxL ret' ∈ TB) : ∀ w ∈ (Cond.code y bytes maxL ret' :: TB), ∀ (a' : Array Value) (U : State), (xS X).WarmedH U.vm → w.before a' U = true := by
  intro w hw a' U hW
  have hw2 : w ∈ TB := by
    rcases List.mem_cons.mp hw with e | e
    · rw [e]; exact hc
    · exact e
  exact word_at hW (good_of_word (tb_good hw2)) (C.2.2.2.2.1 w hw2)
theorem pre_blind {avs : List Value} {sz : Nat} : FrameBlind (va_Pc avs (PreB Z yd h sz)) := fun a U g mk q => by
  obtain ⟨q0, q1, qP, qK, qD⟩ := q
  exact ⟨q0, q1, qP, va_K.moved (u := U) (U := U.calling g mk a) (Vm.Alike.refl U.vm) qK, qD⟩
theorem pre_at {H : Heap} {locs : List Loc} {avs : List Value} (hw : WR X Z yd A h H locs) : ∀ U : State, U.heap = H → (xS X).WarmedH U.vm → va_Pc avs (PreB Z yd h H.size) avs.toArray U := fun U hU hW => ⟨rfl, by rw [hU], by rw [hU]; exact hw.1, va_K.moved hW.alike hw.2.2.2.1, hw.2.1.weaken (fun _ _ _ _ => trivial), hw.2.2.2.2⟩
theorem OK.callB (C : OK X cc own nL ret rm A) (M : MF y bytes maxL ret' np) (hl : Cond.methodLink own ix y ∈ TB) (hR : RmOk rm' rm maxL) : CallB X.2.2.2.1 (xS X) X.2.2.2.2.2.2.1 own ix y bytes maxL ret' (Cond.code y bytes maxL ret' :: TB) rm' rm'.cells rm'.slots np :=
  ⟨rfl, rfl, by rw [C.2.2.2.2.2.2.2.2]; exact hR.1, by rw [C.2.2.2.2.2.2.2.2]; exact hR.2, C.warm M.2.1, List.mem_cons_self, C.2.2.2.2.1 _ M.2.1, C.2.2.2.2.1 _ M.1, M.2.2.1, M.n, C.2.2.2.2.1 _ hl⟩
theorem recv_at {H : Heap} {locs : List Loc} {b ci : Nat} {q : vw_C} (hw : WR X Z yd A h H locs) (hs : Z.1[b]? = some (.inr ci)) (hc : vwCl[ci]? = some q) : ∃ cell : Cell, H[yd.1 b]? = some cell ∧ cell.vm.isStatics = false ∧ (xS X).vm.findClass q.1 = some cell.cls := va_recv hw.2.2.2.1 hw.1 hc (wld_at hs)
theorem cr_S (C : OK X cc own nL ret rm A) (hX : MC X.2.1 y bytes maxL ret' rm' Z As rv F) (d : decode cc pc = .ok (.invokestatic ix, 3)) (M : MF y bytes maxL ret' np) (hl : Cond.methodLink own ix y ∈ TB) (hst : Cond.static y ∈ TB) (hR : RmOk rm' rm maxL) (hn : As.length = np) (hs : st = As.reverse ++ rest) (hW : ((rest.map (cv yd.1)).map fun v => v.category).sum ≤ 8) : CR X nL Z yd A rm'.cells rm'.slots pc st rest rv F := by
  intro h r h' hF ls H locs k n hls hw hf
  exact va_runS (As := As.map (cv yd.1)) (Ts := TB) ⟨C.1, C.2.1, C.2.2.1, C.2.2.2.1, C.2.2.2.2.1⟩ (hX yd h r h' H.size hF) ⟨C.callB M hl hR, C.2.2.2.2.1 _ hst⟩ ⟨pre_blind, pre_at hw⟩ rfl (by rw [List.length_map]; exact hn) hls (by rw [hs]; simp) (lv_room hW) d hf
theorem cr_V (C : OK X cc own nL ret rm A) {b ci : Nat} {T : u_T} {N : Nat} (hX : MC X.2.1 y bytes maxL ret' rm' Z (.ref b :: As) rv F) (d : decode cc pc = .ok (.invokevirtual ix, 3)) (M : MF y bytes maxL ret' np) (hl : Cond.methodLink own ix y ∈ TB) (hi : Cond.instanceMethod y ∈ TB) (hsel : Cond.selects y.cls y y ∈ TB) (hb : Z.1[b]? = some (.inr ci)) (hc : vwCl[ci]? = some (y.cls, T, N)) (hR : RmOk rm' rm maxL) (hn : As.length = np) (hs : st = As.reverse ++ .ref b :: rest) (hW : ((rest.map (cv yd.1)).map fun v => v.category).sum ≤ 8) : CR X nL Z yd A rm'.cells rm'.slots pc st rest rv F := by
  intro h r h' hF ls H locs k n hls hw hf
  exact va_runV (C := y.cls) (b := yd.1 b) (As := As.map (cv yd.1)) (Ts := TB) ⟨C.1, C.2.1, C.2.2.1, C.2.2.2.1, C.2.2.2.2.1⟩ (hX yd h r h' H.size hF) ⟨C.callB M hl hR, C.2.2.2.2.1 _ hi, C.2.2.2.2.1 _ hsel⟩ ⟨pre_blind, recv_at hw hb hc, pre_at hw⟩ rfl (by rw [List.length_map]; exact hn) hls (by rw [hs]; simp [cv]) (lv_room hW) d hf
/-- a method of a class above: super's -/
theorem cr_SU (C : OK X cc own nL ret rm A) {b ci : Nat} {q : vw_C} (hX : MC X.2.1 y bytes maxL ret' rm' Z (.ref b :: As) rv F) (d : decode cc pc = .ok (.invokespecial ix, 3)) (M : MF y bytes maxL ret' np) (hl : Cond.methodLink own ix y ∈ TB) (hsm : Cond.sameMethod y.cls y.cls y.name y.desc ∈ TB) (hsup : Cond.superclass own y.cls ∈ TB) (hi : Cond.instanceMethod y ∈ TB) (hno : y.name ≠ "<init>") (hb : Z.1[b]? = some (.inr ci)) (hc : vwCl[ci]? = some q) (hR : RmOk rm' rm maxL) (hn : As.length = np) (hs : st = As.reverse ++ .ref b :: rest) (hW : ((rest.map (cv yd.1)).map fun v => v.category).sum ≤ 8) : CR X nL Z yd A rm'.cells rm'.slots pc st rest rv F := by
  intro h r h' hF ls H locs k n hls hw hf
  exact va_runSU (C := q.1) (b := yd.1 b) (As := As.map (cv yd.1)) (Ts := TB) (hw.2.2.2.1.1 ci q hc).2 ⟨C.1, C.2.1, C.2.2.1, C.2.2.2.1, C.2.2.2.2.1⟩ (hX yd h r h' H.size hF) ⟨⟨rfl, rfl, by rw [C.2.2.2.2.2.2.2.2]; exact hR.1, by rw [C.2.2.2.2.2.2.2.2]; exact hR.2, C.warm M.2.1, List.mem_cons_self⟩, C.2.2.2.2.1 _ hl, C.2.2.2.2.1 _ hsm, C.2.2.2.2.1 _ hsup, C.2.2.2.2.1 _ hi, C.2.2.2.2.1 _ M.1, C.2.2.2.2.1 _ M.2.1, hno, M.n⟩ ⟨pre_blind, recv_at hw hb hc, pre_at hw⟩ rfl (by rw [List.length_map]; exact hn) hls (by rw [hs]; simp [cv]) (lv_room hW) d hf
/-- a method that is overridden or inherited: the reference x, the class of the receiver, its code y -/
theorem cr_U (C : OK X cc own nL ret rm A) {b ci : Nat} {q : vw_C} {owner : String} {x : MethodName} {b0 : ByteArray} {m0 : Nat} {r0 : Option FieldType} (hX : MC X.2.1 y bytes maxL ret' rm' Z (.ref b :: As) rv F) (d : decode cc pc = .ok (.invokevirtual ix, 3)) (M : MF y bytes maxL ret' np) (hl : Cond.methodLink own ix x ∈ TB) (hsm : Cond.sameMethod x.cls owner x.name x.desc ∈ TB) (ho : Cond.instanceMethod ⟨owner, x.name, x.desc⟩ ∈ TB) (ho2 : Cond.code ⟨owner, x.name, x.desc⟩ b0 m0 r0 ∈ TB) (hmh : owner ≠ "java/lang/invoke/MethodHandle" ∧ owner ≠ "java/lang/invoke/VarHandle") (hnp : (parseMethodDescriptor x.desc).map (fun d => d.parameters.length) = some np) (hsel : Cond.selects q.1 x y ∈ TB) (hi : Cond.instanceMethod y ∈ TB) (hb : Z.1[b]? = some (.inr ci)) (hc : vwCl[ci]? = some q) (hR : RmOk rm' rm maxL) (hn : As.length = np) (hs : st = As.reverse ++ .ref b :: rest) (hW : ((rest.map (cv yd.1)).map fun v => v.category).sum ≤ 8) : CR X nL Z yd A rm'.cells rm'.slots pc st rest rv F := by
  intro h r h' hF ls H locs k n hls hw hf
  exact va_runU (C := q.1) (owner := owner) (b := yd.1 b) (As := As.map (cv yd.1)) (Ts := TB) ⟨C.1, C.2.1, C.2.2.1, C.2.2.2.1, C.2.2.2.2.1⟩ (hX yd h r h' H.size hF) ⟨⟨rfl, rfl, by rw [C.2.2.2.2.2.2.2.2]; exact hR.1, by rw [C.2.2.2.2.2.2.2.2]; exact hR.2, C.warm M.2.1, List.mem_cons_self⟩, C.2.2.2.2.1 _ M.2.1, C.2.2.2.2.1 _ M.1, hmh, fun sig h => (by rw [h] at hnp; exact (Option.some.inj hnp).symm), C.2.2.2.2.1 _ hl, C.2.2.2.2.1 _ hsm, va_Decl.of (C.2.2.2.2.1 _ ho) (C.2.2.2.2.1 _ ho2), C.2.2.2.2.1 _ hsel, C.2.2.2.2.1 _ hi⟩ ⟨pre_blind, recv_at hw hb hc, pre_at hw⟩ rfl (by rw [List.length_map]; exact hn) hls (by rw [hs]; simp [cv]) (lv_room hW) d hf
end AWR
end
section
/-! a reference answered; rows copied; a row made -/
def cpI (h : AH) (src dst n : Nat) : AH := (fun o k => if o = dst ∧ k < n then h.1 src k else h.1 o k, h.2)
section AWM
variable {X : MCx} {cc : ByteArray} {own : String} {nL : Nat} {ret : Option FieldType} {rm : Room} {Z : Stc} {yd : Dyn} {A : Nat → Prop} {k n : Nat} {α : Type} {Qf : α → AH → State → Prop} {pc ix : Nat} {lv : List (Nat × Value)} {st : List Value} {h : AH} {o : Option (α × AH)}
theorem aw_aret {D : String} (C : OK X cc own nL (some (.object D)) rm A) {x : Nat} (d : decode cc pc = .ok (.areturn, 1)) (hc : k = rm.cells) (hs : n = rm.slots) : AW X nL Z yd A k n (QF X rm Z yd rvR A) pc lv [.ref x] h (some (x, h)) := fun r h' e ls H locs hl hw => by
  cases e; subst hc; subst hs
  exact W.aret (v := .ref (yd.1 x)) C.1 C.2.1 C.2.2.2.2.2.2.1 (Or.inl ⟨_, rfl⟩) (Or.inr ⟨_, rfl⟩) (fun t ht hW => ⟨rfl, by rw [ht]; exact hw.1, hw.2.2.1.F ht⟩) hw.2.2.1.2.2 d C.2.2.2.2.2.1
theorem aw_copy (C : OK X cc own nL ret rm A) {a b t N M : Nat} {m : Int32} {f : AH → Option (α × AH)} (d : decode cc pc = .ok (.invokestatic ix, 3)) (hl : Cond.methodLink own ix arraycopyName ∈ TB) (hnat : Cond.native arraycopyName ∈ TB) (hst : Cond.static arraycopyName ∈ TB) (hini : Cond.initialized "java/lang/System" ∈ TB) (ha : Z.1[a]? = some (.inl (t, 0, N))) (hb : Z.1[b]? = some (.inl (t, 0, N))) (ht : Z.2.2.2[t]? = some .int) (h3 : ¬ m < 0) (hM : m.toNatClampNeg = M) (h4 : M ≤ N) (hR : 1 ≤ rm.frames ∧ ((st.map (cv yd.1)).map fun v => v.category).sum + (nativeFrameWords "java/lang/System" "arraycopy" 5 + 11) ≤ rm.locals) (q : ∀ h1, AW X nL Z yd A k n Qf (pc + 3) lv st h1 (f h1)) : AW X nL Z yd A k n Qf pc lv (.int m :: .int 0 :: .ref b :: .int 0 :: .ref a :: st) h (vl (cpI h a b M) f) := fun r h' e ls H locs hll hw => by
  have z0 : (0 : Int32).toNatClampNeg = 0 := rfl
  refine va_copyi (own := own) C.1 C.2.1 (by rw [C.2.2.1]; exact hll.1.symm) C.2.2.2.1 (C.2.2.2.2.1 _ hl) (C.2.2.2.2.1 _ hnat) (C.2.2.2.2.1 _ hst) (C.2.2.2.2.1 _ hini) hw.2.2.2.1 hw.1 hw.2.1 hw.2.2.1 a b t t (wld_at ha) (wld_at hb) (tyAt hw.2.2.2.2 ht) (tyAt hw.2.2.2.2 ht) rfl (by decide) (by decide) h3 (by rw [hM, z0, Nat.zero_add]; exact h4) (by rw [hM, z0, Nat.zero_add]; exact h4) (fun i _ => rfl) (by rw [C.2.2.2.2.2.2.2.2]; exact hR.1) (by rw [C.2.2.2.2.2.2.2.2]; exact hR.2) d (fun H1 locs1 p1 p2 p3 => ?_)
  have e1 : (wld Z yd h).set b (yd.1 b, .inl (tcl yd t, N, .inl (va_cpy (h.1 a) (h.1 b) (0 : Int32).toNatClampNeg (0 : Int32).toNatClampNeg m.toNatClampNeg))) = wld Z yd (cpI h a b M) := by
    refine wld_set hb ?_ (fun o' s' hn => ent_same (fun j => by simp [cpI, hn]) (fun _ => rfl) rfl)
    show Sum.inl (tcl yd t, N, Sum.inl _) = _
    rw [show (cpI h a b M).1 b = va_cpy (h.1 a) (h.1 b) (0 : Int32).toNatClampNeg (0 : Int32).toNatClampNeg m.toNatClampNeg from funext fun j => by simp [cpI, va_cpy, hM, z0]]
  rw [e1] at p1 p2
  exact q _ r h' e ls H1 locs1 hll ⟨p1, p2, p3, hw.2.2.2⟩
end AWM
/-- what a call's end gives for either of some cases -/
def kd {β : Type} (j : Nat) (o0 o1 o2 o3 o4 o5 : β) : β := if j % 6 = 0 then o0 else if j % 6 = 1 then o1 else if j % 6 = 2 then o2 else if j % 6 = 3 then o3 else if j % 6 = 4 then o4 else o5
theorem cr_kd {X : MCx} {nL : Nat} {Z : Stc} {yd : Dyn} {A : Nat → Prop} {mc ms pc : Nat} {st rest : List Value} {β : Type} {rv : β → Option Value} {F0 F1 F2 F3 F4 F5 : AH → Option (β × AH)} (j : Nat) (R0 : j % 6 = 0 → CR X nL Z yd A mc ms pc st rest rv F0) (R1 : j % 6 = 1 → CR X nL Z yd A mc ms pc st rest rv F1) (R2 : j % 6 = 2 → CR X nL Z yd A mc ms pc st rest rv F2) (R3 : j % 6 = 3 → CR X nL Z yd A mc ms pc st rest rv F3) (R4 : j % 6 = 4 → CR X nL Z yd A mc ms pc st rest rv F4) (R5 : j % 6 = 5 → CR X nL Z yd A mc ms pc st rest rv F5) : CR X nL Z yd A mc ms pc st rest rv (fun h => kd j (F0 h) (F1 h) (F2 h) (F3 h) (F4 h) (F5 h)) := by
  intro h r h' hF
  have hF : kd j (F0 h) (F1 h) (F2 h) (F3 h) (F4 h) (F5 h) = some (r, h') := hF
  unfold kd at hF
  split at hF
  next e => exact R0 e h r h' hF
  split at hF
  next e => exact R1 e h r h' hF
  split at hF
  next e => exact R2 e h r h' hF
  split at hF
  next e => exact R3 e h r h' hF
  split at hF
  next e => exact R4 e h r h' hF
  next => exact R5 (by omega) h r h' hF
theorem aw_callF {X : MCx} {cc : ByteArray} {own : String} {nL : Nat} {ret : Option FieldType} {rm : Room} {Z : Stc} {yd : Dyn} {A : Nat → Prop} {k n pc : Nat} {α β : Type} {Qf : α → AH → State → Prop} {lv : List (Nat × Value)} {st rest : List Value} {h : AH} {rv : β → Option Value} {F : AH → Option (β × AH)} {oc : Option (β × AH)} (C : OK X cc own nL ret rm A) {mc ms : Nat} (R : CR X nL Z yd A mc ms pc st rest rv F) (hF : F h = oc) {f : β → AH → Option (α × AH)} (h0 : mc = 0) (h1 : ms = 0) (hc : k ≤ rm.cells) (hs : n ≤ rm.slots) (q : ∀ r h1, AW X nL Z yd A k n Qf (pc + 3) lv ((rv r).toList ++ rest) h1 (f r h1)) : AW X nL Z yd A k n Qf pc lv st h (bd oc f) := by
  subst hF; subst h0; subst h1
  exact aw_call C R hc hs q
end
section
theorem zz_end : 1 + 1 = 2 := rfl
end
