section
-- ===== PART A: goes FIRST, ahead of the names: the tables' words, and 'selects' of the private methods out of them =====
/-- a private method of a class that the tables say can be made, by its rows of tables_1 -/
def lw_okq (q : MethodName × Nat) : Prop := (q.1.cls ≠ "java/lang/invoke/MethodHandle" ∧ q.1.cls ≠ "java/lang/invoke/VarHandle") ∧ Cond.instantiable q.1.cls q.2 ∈ tables_1 ∧ Cond.privateMethod q.1 ∈ tables_1 ∧ Cond.instanceMethod q.1 ∈ tables_1
theorem lw_p0 : lw_okq (⟨"LazyHeaps", "forgetRows", "()V"⟩, 9) := ⟨⟨by decide +kernel, by decide +kernel⟩, List.mem_of_getElem? (i := 18) (by decide +kernel), List.mem_of_getElem? (i := 307) (by decide +kernel), List.mem_of_getElem? (i := 308) (by decide +kernel)⟩
theorem lw_p1 : lw_okq (⟨"LazyHeaps", "namesKnown", "(IIII)Z"⟩, 9) := ⟨⟨by decide +kernel, by decide +kernel⟩, List.mem_of_getElem? (i := 18) (by decide +kernel), List.mem_of_getElem? (i := 363) (by decide +kernel), List.mem_of_getElem? (i := 364) (by decide +kernel)⟩
theorem lw_p2 : lw_okq (⟨"LazyHeaps", "sortsFit", "(IIII)Z"⟩, 9) := ⟨⟨by decide +kernel, by decide +kernel⟩, List.mem_of_getElem? (i := 18) (by decide +kernel), List.mem_of_getElem? (i := 375) (by decide +kernel), List.mem_of_getElem? (i := 376) (by decide +kernel)⟩
theorem lw_p3 : lw_okq (⟨"LazyHeaps$Heap", "waitFrom", "(I)V"⟩, 11) := ⟨⟨by decide +kernel, by decide +kernel⟩, List.mem_of_getElem? (i := 95) (by decide +kernel), List.mem_of_getElem? (i := 449) (by decide +kernel), List.mem_of_getElem? (i := 450) (by decide +kernel)⟩
theorem lw_p4 : lw_okq (⟨"LazyHeaps$Heap", "take", "(I)V"⟩, 11) := ⟨⟨by decide +kernel, by decide +kernel⟩, List.mem_of_getElem? (i := 95) (by decide +kernel), List.mem_of_getElem? (i := 466) (by decide +kernel), List.mem_of_getElem? (i := 467) (by decide +kernel)⟩
theorem lw_p5 : lw_okq (⟨"LazyHeaps$Heap", "objectOf", "(I)I"⟩, 11) := ⟨⟨by decide +kernel, by decide +kernel⟩, List.mem_of_getElem? (i := 95) (by decide +kernel), List.mem_of_getElem? (i := 471) (by decide +kernel), List.mem_of_getElem? (i := 472) (by decide +kernel)⟩
theorem lw_p6 : lw_okq (⟨"LazyHeaps$Heap", "backTo", "(I)V"⟩, 11) := ⟨⟨by decide +kernel, by decide +kernel⟩, List.mem_of_getElem? (i := 95) (by decide +kernel), List.mem_of_getElem? (i := 501) (by decide +kernel), List.mem_of_getElem? (i := 502) (by decide +kernel)⟩
theorem lw_p7 : lw_okq (⟨"LazyHeaps$Heap", "choiceAbove", "(I)I"⟩, 11) := ⟨⟨by decide +kernel, by decide +kernel⟩, List.mem_of_getElem? (i := 95) (by decide +kernel), List.mem_of_getElem? (i := 505) (by decide +kernel), List.mem_of_getElem? (i := 506) (by decide +kernel)⟩
theorem lw_p8 : lw_okq (⟨"LazyHeaps$Heap", "allows", "(I)Z"⟩, 11) := ⟨⟨by decide +kernel, by decide +kernel⟩, List.mem_of_getElem? (i := 95) (by decide +kernel), List.mem_of_getElem? (i := 509) (by decide +kernel), List.mem_of_getElem? (i := 510) (by decide +kernel)⟩
theorem lw_p9 : lw_okq (⟨"LazyHeaps$Heap", "countAlike", "(LLazyHeaps$Rows;I)I"⟩, 11) := ⟨⟨by decide +kernel, by decide +kernel⟩, List.mem_of_getElem? (i := 95) (by decide +kernel), List.mem_of_getElem? (i := 531) (by decide +kernel), List.mem_of_getElem? (i := 532) (by decide +kernel)⟩
theorem lw_p10 : lw_okq (⟨"LazyHeaps$Rule", "hasNoCycle", "(LLazyHeaps$Heap;)Z"⟩, 4) := ⟨⟨by decide +kernel, by decide +kernel⟩, List.mem_of_getElem? (i := 390) (by decide +kernel), List.mem_of_getElem? (i := 548) (by decide +kernel), List.mem_of_getElem? (i := 549) (by decide +kernel)⟩
theorem lw_p11 : lw_okq (⟨"LazyHeaps$Rule", "sharesNothing", "(LLazyHeaps$Heap;)Z"⟩, 4) := ⟨⟨by decide +kernel, by decide +kernel⟩, List.mem_of_getElem? (i := 390) (by decide +kernel), List.mem_of_getElem? (i := 563) (by decide +kernel), List.mem_of_getElem? (i := 564) (by decide +kernel)⟩
theorem lw_p12 : lw_okq (⟨"LazyHeaps$Rule", "holdsAt", "(LLazyHeaps$Heap;I)Z"⟩, 4) := ⟨⟨by decide +kernel, by decide +kernel⟩, List.mem_of_getElem? (i := 390) (by decide +kernel), List.mem_of_getElem? (i := 571) (by decide +kernel), List.mem_of_getElem? (i := 572) (by decide +kernel)⟩
theorem lw_p13 : lw_okq (⟨"LazyHeaps$Ends", "makeRoom", "(I)V"⟩, 10) := ⟨⟨by decide +kernel, by decide +kernel⟩, List.mem_of_getElem? (i := 231) (by decide +kernel), List.mem_of_getElem? (i := 684) (by decide +kernel), List.mem_of_getElem? (i := 685) (by decide +kernel)⟩
theorem lw_p14 : lw_okq (⟨"LazyHeaps$Play", "begin", "()V"⟩, 10) := ⟨⟨by decide +kernel, by decide +kernel⟩, List.mem_of_getElem? (i := 189) (by decide +kernel), List.mem_of_getElem? (i := 695) (by decide +kernel), List.mem_of_getElem? (i := 696) (by decide +kernel)⟩
theorem lw_p15 : lw_okq (⟨"LazyHeaps$Play", "leftOutBehind", "(LLazyHeaps$Step;)I"⟩, 10) := ⟨⟨by decide +kernel, by decide +kernel⟩, List.mem_of_getElem? (i := 189) (by decide +kernel), List.mem_of_getElem? (i := 707) (by decide +kernel), List.mem_of_getElem? (i := 708) (by decide +kernel)⟩
def lw_privs_1 : List (MethodName × Nat) := [(⟨"LazyHeaps", "forgetRows", "()V"⟩, 9), (⟨"LazyHeaps", "namesKnown", "(IIII)Z"⟩, 9), (⟨"LazyHeaps", "sortsFit", "(IIII)Z"⟩, 9), (⟨"LazyHeaps$Heap", "waitFrom", "(I)V"⟩, 11), (⟨"LazyHeaps$Heap", "take", "(I)V"⟩, 11), (⟨"LazyHeaps$Heap", "objectOf", "(I)I"⟩, 11), (⟨"LazyHeaps$Heap", "backTo", "(I)V"⟩, 11), (⟨"LazyHeaps$Heap", "choiceAbove", "(I)I"⟩, 11), (⟨"LazyHeaps$Heap", "allows", "(I)Z"⟩, 11), (⟨"LazyHeaps$Heap", "countAlike", "(LLazyHeaps$Rows;I)I"⟩, 11), (⟨"LazyHeaps$Rule", "hasNoCycle", "(LLazyHeaps$Heap;)Z"⟩, 4), (⟨"LazyHeaps$Rule", "sharesNothing", "(LLazyHeaps$Heap;)Z"⟩, 4), (⟨"LazyHeaps$Rule", "holdsAt", "(LLazyHeaps$Heap;I)Z"⟩, 4), (⟨"LazyHeaps$Ends", "makeRoom", "(I)V"⟩, 10), (⟨"LazyHeaps$Play", "begin", "()V"⟩, 10), (⟨"LazyHeaps$Play", "leftOutBehind", "(LLazyHeaps$Step;)I"⟩, 10)]
theorem lw_r1 : ∀ q ∈ lw_privs_1, lw_okq q := List.forall_mem_cons.mpr ⟨lw_p0, List.forall_mem_cons.mpr ⟨lw_p1, List.forall_mem_cons.mpr ⟨lw_p2, List.forall_mem_cons.mpr ⟨lw_p3, List.forall_mem_cons.mpr ⟨lw_p4, List.forall_mem_cons.mpr ⟨lw_p5, List.forall_mem_cons.mpr ⟨lw_p6, List.forall_mem_cons.mpr ⟨lw_p7, List.forall_mem_cons.mpr ⟨lw_p8, List.forall_mem_cons.mpr ⟨lw_p9, List.forall_mem_cons.mpr ⟨lw_p10, List.forall_mem_cons.mpr ⟨lw_p11, List.forall_mem_cons.mpr ⟨lw_p12, List.forall_mem_cons.mpr ⟨lw_p13, List.forall_mem_cons.mpr ⟨lw_p14, List.forall_mem_cons.mpr ⟨lw_p15, fun _ h => absurd h List.not_mem_nil⟩⟩⟩⟩⟩⟩⟩⟩⟩⟩⟩⟩⟩⟩⟩⟩
theorem lw_p16 : lw_okq (⟨"LazyHeaps$Play", "asked", "(I)I"⟩, 10) := ⟨⟨by decide +kernel, by decide +kernel⟩, List.mem_of_getElem? (i := 189) (by decide +kernel), List.mem_of_getElem? (i := 711) (by decide +kernel), List.mem_of_getElem? (i := 712) (by decide +kernel)⟩
theorem lw_p17 : lw_okq (⟨"LazyHeaps$Play", "note", "(IZI)V"⟩, 10) := ⟨⟨by decide +kernel, by decide +kernel⟩, List.mem_of_getElem? (i := 189) (by decide +kernel), List.mem_of_getElem? (i := 716) (by decide +kernel), List.mem_of_getElem? (i := 717) (by decide +kernel)⟩
theorem lw_p18 : lw_okq (⟨"LazyHeaps$Play", "change", "(II)V"⟩, 10) := ⟨⟨by decide +kernel, by decide +kernel⟩, List.mem_of_getElem? (i := 189) (by decide +kernel), List.mem_of_getElem? (i := 724) (by decide +kernel), List.mem_of_getElem? (i := 725) (by decide +kernel)⟩
theorem lw_p19 : lw_okq (⟨"LazyHeaps$Ends", "sort", "()V"⟩, 10) := ⟨⟨by decide +kernel, by decide +kernel⟩, List.mem_of_getElem? (i := 231) (by decide +kernel), List.mem_of_getElem? (i := 737) (by decide +kernel), List.mem_of_getElem? (i := 738) (by decide +kernel)⟩
theorem lw_p20 : lw_okq (⟨"LazyHeaps$Ends", "merge", "(III)V"⟩, 10) := ⟨⟨by decide +kernel, by decide +kernel⟩, List.mem_of_getElem? (i := 231) (by decide +kernel), List.mem_of_getElem? (i := 742) (by decide +kernel), List.mem_of_getElem? (i := 743) (by decide +kernel)⟩
theorem lw_p21 : lw_okq (⟨"LazyHeaps$Ends", "nameParts", "()V"⟩, 10) := ⟨⟨by decide +kernel, by decide +kernel⟩, List.mem_of_getElem? (i := 231) (by decide +kernel), List.mem_of_getElem? (i := 746) (by decide +kernel), List.mem_of_getElem? (i := 747) (by decide +kernel)⟩
theorem lw_p22 : lw_okq (⟨"LazyHeapsModel", "changed", "()V"⟩, 54) := ⟨⟨by decide +kernel, by decide +kernel⟩, List.mem_of_getElem? (i := 789) (by decide +kernel), List.mem_of_getElem? (i := 969) (by decide +kernel), List.mem_of_getElem? (i := 970) (by decide +kernel)⟩
theorem lw_p23 : lw_okq (⟨"LazyHeapsModel", "isField", "(II)Z"⟩, 54) := ⟨⟨by decide +kernel, by decide +kernel⟩, List.mem_of_getElem? (i := 789) (by decide +kernel), List.mem_of_getElem? (i := 989) (by decide +kernel), List.mem_of_getElem? (i := 990) (by decide +kernel)⟩
theorem lw_p24 : lw_okq (⟨"LazyHeapsModel", "isSort", "(III)Z"⟩, 54) := ⟨⟨by decide +kernel, by decide +kernel⟩, List.mem_of_getElem? (i := 789) (by decide +kernel), List.mem_of_getElem? (i := 993) (by decide +kernel), List.mem_of_getElem? (i := 994) (by decide +kernel)⟩
theorem lw_p25 : lw_okq (⟨"LazyHeapsModel", "freshen", "()Z"⟩, 54) := ⟨⟨by decide +kernel, by decide +kernel⟩, List.mem_of_getElem? (i := 789) (by decide +kernel), List.mem_of_getElem? (i := 1009) (by decide +kernel), List.mem_of_getElem? (i := 1010) (by decide +kernel)⟩
theorem lw_p26 : lw_okq (⟨"LazyHeapsModel", "fill", "(I)I"⟩, 54) := ⟨⟨by decide +kernel, by decide +kernel⟩, List.mem_of_getElem? (i := 789) (by decide +kernel), List.mem_of_getElem? (i := 1013) (by decide +kernel), List.mem_of_getElem? (i := 1014) (by decide +kernel)⟩
theorem lw_p27 : lw_okq (⟨"LazyHeapsModel", "goThrough", "(I)V"⟩, 54) := ⟨⟨by decide +kernel, by decide +kernel⟩, List.mem_of_getElem? (i := 789) (by decide +kernel), List.mem_of_getElem? (i := 1017) (by decide +kernel), List.mem_of_getElem? (i := 1018) (by decide +kernel)⟩
theorem lw_p28 : lw_okq (⟨"LazyHeapsModel", "tellOf", "(II)I"⟩, 54) := ⟨⟨by decide +kernel, by decide +kernel⟩, List.mem_of_getElem? (i := 789) (by decide +kernel), List.mem_of_getElem? (i := 1021) (by decide +kernel), List.mem_of_getElem? (i := 1022) (by decide +kernel)⟩
theorem lw_p29 : lw_okq (⟨"LazyHeapsModel", "nextChoice", "(I)I"⟩, 54) := ⟨⟨by decide +kernel, by decide +kernel⟩, List.mem_of_getElem? (i := 789) (by decide +kernel), List.mem_of_getElem? (i := 1025) (by decide +kernel), List.mem_of_getElem? (i := 1026) (by decide +kernel)⟩
theorem lw_p30 : lw_okq (⟨"LazyHeapsModel", "canBe", "(I)Z"⟩, 54) := ⟨⟨by decide +kernel, by decide +kernel⟩, List.mem_of_getElem? (i := 789) (by decide +kernel), List.mem_of_getElem? (i := 1029) (by decide +kernel), List.mem_of_getElem? (i := 1030) (by decide +kernel)⟩
theorem lw_p31 : lw_okq (⟨"LazyHeapsModel", "isUnder", "(II)Z"⟩, 54) := ⟨⟨by decide +kernel, by decide +kernel⟩, List.mem_of_getElem? (i := 789) (by decide +kernel), List.mem_of_getElem? (i := 1033) (by decide +kernel), List.mem_of_getElem? (i := 1034) (by decide +kernel)⟩
def lw_privs_2 : List (MethodName × Nat) := [(⟨"LazyHeaps$Play", "asked", "(I)I"⟩, 10), (⟨"LazyHeaps$Play", "note", "(IZI)V"⟩, 10), (⟨"LazyHeaps$Play", "change", "(II)V"⟩, 10), (⟨"LazyHeaps$Ends", "sort", "()V"⟩, 10), (⟨"LazyHeaps$Ends", "merge", "(III)V"⟩, 10), (⟨"LazyHeaps$Ends", "nameParts", "()V"⟩, 10), (⟨"LazyHeapsModel", "changed", "()V"⟩, 54), (⟨"LazyHeapsModel", "isField", "(II)Z"⟩, 54), (⟨"LazyHeapsModel", "isSort", "(III)Z"⟩, 54), (⟨"LazyHeapsModel", "freshen", "()Z"⟩, 54), (⟨"LazyHeapsModel", "fill", "(I)I"⟩, 54), (⟨"LazyHeapsModel", "goThrough", "(I)V"⟩, 54), (⟨"LazyHeapsModel", "tellOf", "(II)I"⟩, 54), (⟨"LazyHeapsModel", "nextChoice", "(I)I"⟩, 54), (⟨"LazyHeapsModel", "canBe", "(I)Z"⟩, 54), (⟨"LazyHeapsModel", "isUnder", "(II)Z"⟩, 54)]
theorem lw_r2 : ∀ q ∈ lw_privs_2, lw_okq q := List.forall_mem_cons.mpr ⟨lw_p16, List.forall_mem_cons.mpr ⟨lw_p17, List.forall_mem_cons.mpr ⟨lw_p18, List.forall_mem_cons.mpr ⟨lw_p19, List.forall_mem_cons.mpr ⟨lw_p20, List.forall_mem_cons.mpr ⟨lw_p21, List.forall_mem_cons.mpr ⟨lw_p22, List.forall_mem_cons.mpr ⟨lw_p23, List.forall_mem_cons.mpr ⟨lw_p24, List.forall_mem_cons.mpr ⟨lw_p25, List.forall_mem_cons.mpr ⟨lw_p26, List.forall_mem_cons.mpr ⟨lw_p27, List.forall_mem_cons.mpr ⟨lw_p28, List.forall_mem_cons.mpr ⟨lw_p29, List.forall_mem_cons.mpr ⟨lw_p30, List.forall_mem_cons.mpr ⟨lw_p31, fun _ h => absurd h List.not_mem_nil⟩⟩⟩⟩⟩⟩⟩⟩⟩⟩⟩⟩⟩⟩⟩⟩
theorem lw_p32 : lw_okq (⟨"LazyHeapsModel", "holds", "(I)Z"⟩, 54) := ⟨⟨by decide +kernel, by decide +kernel⟩, List.mem_of_getElem? (i := 789) (by decide +kernel), List.mem_of_getElem? (i := 1037) (by decide +kernel), List.mem_of_getElem? (i := 1038) (by decide +kernel)⟩
theorem lw_p33 : lw_okq (⟨"LazyHeapsModel", "holdsRing", "(I)Z"⟩, 54) := ⟨⟨by decide +kernel, by decide +kernel⟩, List.mem_of_getElem? (i := 789) (by decide +kernel), List.mem_of_getElem? (i := 1041) (by decide +kernel), List.mem_of_getElem? (i := 1042) (by decide +kernel)⟩
theorem lw_p34 : lw_okq (⟨"LazyHeapsModel", "isSuch", "(II)Z"⟩, 54) := ⟨⟨by decide +kernel, by decide +kernel⟩, List.mem_of_getElem? (i := 789) (by decide +kernel), List.mem_of_getElem? (i := 1045) (by decide +kernel), List.mem_of_getElem? (i := 1046) (by decide +kernel)⟩
theorem lw_p35 : lw_okq (⟨"LazyHeapsModel", "holdsApart", "(I)Z"⟩, 54) := ⟨⟨by decide +kernel, by decide +kernel⟩, List.mem_of_getElem? (i := 789) (by decide +kernel), List.mem_of_getElem? (i := 1049) (by decide +kernel), List.mem_of_getElem? (i := 1050) (by decide +kernel)⟩
theorem lw_p36 : lw_okq (⟨"LazyHeapsModel", "holdsAt", "(II)Z"⟩, 54) := ⟨⟨by decide +kernel, by decide +kernel⟩, List.mem_of_getElem? (i := 789) (by decide +kernel), List.mem_of_getElem? (i := 1053) (by decide +kernel), List.mem_of_getElem? (i := 1054) (by decide +kernel)⟩
theorem lw_p37 : lw_okq (⟨"LazyHeapsModel", "nextRow", "(I)I"⟩, 54) := ⟨⟨by decide +kernel, by decide +kernel⟩, List.mem_of_getElem? (i := 789) (by decide +kernel), List.mem_of_getElem? (i := 1057) (by decide +kernel), List.mem_of_getElem? (i := 1058) (by decide +kernel)⟩
theorem lw_p38 : lw_okq (⟨"LazyHeapsModel", "load", "(I)V"⟩, 54) := ⟨⟨by decide +kernel, by decide +kernel⟩, List.mem_of_getElem? (i := 789) (by decide +kernel), List.mem_of_getElem? (i := 1073) (by decide +kernel), List.mem_of_getElem? (i := 1074) (by decide +kernel)⟩
theorem lw_p39 : lw_okq (⟨"LazyHeapsModel", "playAll", "()Z"⟩, 54) := ⟨⟨by decide +kernel, by decide +kernel⟩, List.mem_of_getElem? (i := 789) (by decide +kernel), List.mem_of_getElem? (i := 1101) (by decide +kernel), List.mem_of_getElem? (i := 1102) (by decide +kernel)⟩
theorem lw_p40 : lw_okq (⟨"LazyHeapsModel", "playHeap", "()I"⟩, 54) := ⟨⟨by decide +kernel, by decide +kernel⟩, List.mem_of_getElem? (i := 789) (by decide +kernel), List.mem_of_getElem? (i := 1105) (by decide +kernel), List.mem_of_getElem? (i := 1106) (by decide +kernel)⟩
theorem lw_p41 : lw_okq (⟨"LazyHeapsModel", "doStep", "(I)I"⟩, 54) := ⟨⟨by decide +kernel, by decide +kernel⟩, List.mem_of_getElem? (i := 789) (by decide +kernel), List.mem_of_getElem? (i := 1109) (by decide +kernel), List.mem_of_getElem? (i := 1110) (by decide +kernel)⟩
theorem lw_p42 : lw_okq (⟨"LazyHeapsModel", "ask", "(I)V"⟩, 54) := ⟨⟨by decide +kernel, by decide +kernel⟩, List.mem_of_getElem? (i := 789) (by decide +kernel), List.mem_of_getElem? (i := 1113) (by decide +kernel), List.mem_of_getElem? (i := 1114) (by decide +kernel)⟩
theorem lw_p43 : lw_okq (⟨"LazyHeapsModel", "lookRef", "(I)V"⟩, 54) := ⟨⟨by decide +kernel, by decide +kernel⟩, List.mem_of_getElem? (i := 789) (by decide +kernel), List.mem_of_getElem? (i := 1117) (by decide +kernel), List.mem_of_getElem? (i := 1118) (by decide +kernel)⟩
theorem lw_p44 : lw_okq (⟨"LazyHeapsModel", "askField", "(III)V"⟩, 54) := ⟨⟨by decide +kernel, by decide +kernel⟩, List.mem_of_getElem? (i := 789) (by decide +kernel), List.mem_of_getElem? (i := 1121) (by decide +kernel), List.mem_of_getElem? (i := 1122) (by decide +kernel)⟩
theorem lw_p45 : lw_okq (⟨"LazyHeapsModel", "placeOf", "(I)I"⟩, 54) := ⟨⟨by decide +kernel, by decide +kernel⟩, List.mem_of_getElem? (i := 789) (by decide +kernel), List.mem_of_getElem? (i := 1125) (by decide +kernel), List.mem_of_getElem? (i := 1126) (by decide +kernel)⟩
theorem lw_p46 : lw_okq (⟨"LazyHeapsModel", "compareLooks", "(II)I"⟩, 54) := ⟨⟨by decide +kernel, by decide +kernel⟩, List.mem_of_getElem? (i := 789) (by decide +kernel), List.mem_of_getElem? (i := 1129) (by decide +kernel), List.mem_of_getElem? (i := 1130) (by decide +kernel)⟩
def lw_privs_3 : List (MethodName × Nat) := [(⟨"LazyHeapsModel", "holds", "(I)Z"⟩, 54), (⟨"LazyHeapsModel", "holdsRing", "(I)Z"⟩, 54), (⟨"LazyHeapsModel", "isSuch", "(II)Z"⟩, 54), (⟨"LazyHeapsModel", "holdsApart", "(I)Z"⟩, 54), (⟨"LazyHeapsModel", "holdsAt", "(II)Z"⟩, 54), (⟨"LazyHeapsModel", "nextRow", "(I)I"⟩, 54), (⟨"LazyHeapsModel", "load", "(I)V"⟩, 54), (⟨"LazyHeapsModel", "playAll", "()Z"⟩, 54), (⟨"LazyHeapsModel", "playHeap", "()I"⟩, 54), (⟨"LazyHeapsModel", "doStep", "(I)I"⟩, 54), (⟨"LazyHeapsModel", "ask", "(I)V"⟩, 54), (⟨"LazyHeapsModel", "lookRef", "(I)V"⟩, 54), (⟨"LazyHeapsModel", "askField", "(III)V"⟩, 54), (⟨"LazyHeapsModel", "placeOf", "(I)I"⟩, 54), (⟨"LazyHeapsModel", "compareLooks", "(II)I"⟩, 54)]
theorem lw_r3 : ∀ q ∈ lw_privs_3, lw_okq q := List.forall_mem_cons.mpr ⟨lw_p32, List.forall_mem_cons.mpr ⟨lw_p33, List.forall_mem_cons.mpr ⟨lw_p34, List.forall_mem_cons.mpr ⟨lw_p35, List.forall_mem_cons.mpr ⟨lw_p36, List.forall_mem_cons.mpr ⟨lw_p37, List.forall_mem_cons.mpr ⟨lw_p38, List.forall_mem_cons.mpr ⟨lw_p39, List.forall_mem_cons.mpr ⟨lw_p40, List.forall_mem_cons.mpr ⟨lw_p41, List.forall_mem_cons.mpr ⟨lw_p42, List.forall_mem_cons.mpr ⟨lw_p43, List.forall_mem_cons.mpr ⟨lw_p44, List.forall_mem_cons.mpr ⟨lw_p45, List.forall_mem_cons.mpr ⟨lw_p46, fun _ h => absurd h List.not_mem_nil⟩⟩⟩⟩⟩⟩⟩⟩⟩⟩⟩⟩⟩⟩⟩
def lw_privs : List (MethodName × Nat) := lw_privs_1 ++ (lw_privs_2 ++ (lw_privs_3))
def lw_tbl : List Cond := k2_sels lw_privs ++ tables_1
theorem lw_privs_ok : ∀ q ∈ lw_privs, lw_okq q := by
  show ∀ q ∈ lw_privs_1 ++ (lw_privs_2 ++ (lw_privs_3)), lw_okq q
  exact List.forall_mem_append.mpr ⟨lw_r1, List.forall_mem_append.mpr ⟨lw_r2, lw_r3⟩⟩
end
section
def RX0 : String := "LazyHeaps$Catalogue"
def TX0 : u_T := fun k => match k with
  | 0 => ("LazyHeaps$Catalogue", "heap", "LLazyHeaps$Heap;", true)
  | 1 => ("LazyHeaps$Catalogue", "rules", "LLazyHeaps$Rules;", true)
  | 2 => ("LazyHeaps$Catalogue", "rows", "LLazyHeaps$Rows;", true)
  | 3 => ("LazyHeaps$Catalogue", "listed", "Z", false)
  | 4 => ("LazyHeaps$Catalogue", "keptRows", "[I", false)
  | 5 => ("LazyHeaps$Catalogue", "keptCount", "I", false)
  | _ => ("LazyHeaps$Catalogue", "siftedRules", "I", false)
def tyX0 : Nat → FieldType := fun k => match k with
  | 0 => .object "LazyHeaps$Heap"
  | 1 => .object "LazyHeaps$Rules"
  | 2 => .object "LazyHeaps$Rows"
  | 3 => .boolean
  | 4 => .array .int
  | 5 => .int
  | _ => .int
theorem nmX0 : ∀ a, a < 7 → ∀ b, b < 7 → a ≠ b → (TX0 a).2.1 ≠ (TX0 b).2.1 := by decide +kernel
theorem tyX0_ok : ∀ k, k < 7 → parseFieldDescriptor (TX0 k).2.2.1 = some (tyX0 k) := by decide +kernel
abbrev cX0_init : ByteArray := prog_2_method_1_code
def yX0_init : MethodName := ⟨RX0, "<init>", "(LLazyHeaps$Heap;LLazyHeaps$Rules;)V"⟩
abbrev cX0_forget : ByteArray := prog_2_method_2_code
def yX0_forget : MethodName := ⟨RX0, "forget", "()V"⟩
abbrev cX0_list : ByteArray := prog_2_method_3_code
def yX0_list : MethodName := ⟨RX0, "list", "()Z"⟩
abbrev cX0_keepAll : ByteArray := prog_2_method_4_code
def yX0_keepAll : MethodName := ⟨RX0, "keepAll", "()V"⟩
abbrev cX0_sift : ByteArray := prog_2_method_5_code
def yX0_sift : MethodName := ⟨RX0, "sift", "()Z"⟩
abbrev cX0_isKeptNumber : ByteArray := prog_2_method_6_code
def yX0_isKeptNumber : MethodName := ⟨RX0, "isKeptNumber", "(I)Z"⟩
abbrev cX0_keptRow : ByteArray := prog_2_method_7_code
def yX0_keptRow : MethodName := ⟨RX0, "keptRow", "(I)I"⟩
abbrev cX0_loadKept : ByteArray := prog_2_method_8_code
def yX0_loadKept : MethodName := ⟨RX0, "loadKept", "(I)Z"⟩
abbrev cX0_keptNumber : ByteArray := prog_2_method_9_code
def yX0_keptNumber : MethodName := ⟨RX0, "keptNumber", "(I)I"⟩
def RX1 : String := "LazyHeaps$Ends"
def TX1 : u_T := fun k => match k with
  | 0 => ("LazyHeaps$Ends", "catalogue", "LLazyHeaps$Catalogue;", true)
  | 1 => ("LazyHeaps$Ends", "play", "LLazyHeaps$Play;", true)
  | 2 => ("LazyHeaps$Ends", "looks", "LLazyHeaps$Rows;", true)
  | 3 => ("LazyHeaps$Ends", "order", "[I", false)
  | 4 => ("LazyHeaps$Ends", "spare", "[I", false)
  | 5 => ("LazyHeaps$Ends", "lookOfRow", "[I", false)
  | 6 => ("LazyHeaps$Ends", "partOfLook", "[I", false)
  | 7 => ("LazyHeaps$Ends", "firstRows", "[I", false)
  | 8 => ("LazyHeaps$Ends", "gathered", "Z", false)
  | _ => ("LazyHeaps$Ends", "count", "I", false)
def tyX1 : Nat → FieldType := fun k => match k with
  | 0 => .object "LazyHeaps$Catalogue"
  | 1 => .object "LazyHeaps$Play"
  | 2 => .object "LazyHeaps$Rows"
  | 3 => .array .int
  | 4 => .array .int
  | 5 => .array .int
  | 6 => .array .int
  | 7 => .array .int
  | 8 => .boolean
  | _ => .int
theorem nmX1 : ∀ a, a < 10 → ∀ b, b < 10 → a ≠ b → (TX1 a).2.1 ≠ (TX1 b).2.1 := by decide +kernel
theorem tyX1_ok : ∀ k, k < 10 → parseFieldDescriptor (TX1 k).2.2.1 = some (tyX1 k) := by decide +kernel
abbrev cX1_init : ByteArray := prog_3_method_1_code
def yX1_init : MethodName := ⟨RX1, "<init>", "(LLazyHeaps$Catalogue;LLazyHeaps$Play;)V"⟩
abbrev cX1_forget : ByteArray := prog_3_method_2_code
def yX1_forget : MethodName := ⟨RX1, "forget", "()V"⟩
abbrev cX1_gather : ByteArray := prog_3_method_3_code
def yX1_gather : MethodName := ⟨RX1, "gather", "(LLazyHeaps$Program;)Z"⟩
abbrev cX1_replay : ByteArray := prog_3_method_4_code
def yX1_replay : MethodName := ⟨RX1, "replay", "(ILLazyHeaps$Program;)Z"⟩
abbrev cX1_partOf : ByteArray := prog_3_method_5_code
def yX1_partOf : MethodName := ⟨RX1, "partOf", "(I)I"⟩
abbrev cX1_sizeOf : ByteArray := prog_3_method_6_code
def yX1_sizeOf : MethodName := ⟨RX1, "sizeOf", "(I)I"⟩
abbrev cX1_keptIn : ByteArray := prog_3_method_7_code
def yX1_keptIn : MethodName := ⟨RX1, "keptIn", "(I)I"⟩
abbrev cX1_makeRoom : ByteArray := prog_3_method_8_code
def yX1_makeRoom : MethodName := ⟨RX1, "makeRoom", "(I)V"⟩
abbrev cX1_sort : ByteArray := prog_3_method_9_code
def yX1_sort : MethodName := ⟨RX1, "sort", "()V"⟩
abbrev cX1_merge : ByteArray := prog_3_method_10_code
def yX1_merge : MethodName := ⟨RX1, "merge", "(III)V"⟩
abbrev cX1_nameParts : ByteArray := prog_3_method_11_code
def yX1_nameParts : MethodName := ⟨RX1, "nameParts", "()V"⟩
def RX2 : String := "LazyHeaps$Heap"
def TX2 : u_T := fun k => match k with
  | 0 => ("LazyHeaps$Heap", "shape", "LLazyHeaps$Shape;", true)
  | 1 => ("LazyHeaps$Heap", "kinds", "[I", true)
  | 2 => ("LazyHeaps$Heap", "told", "[I", true)
  | 3 => ("LazyHeaps$Heap", "choices", "[I", true)
  | 4 => ("LazyHeaps$Heap", "slots", "[I", true)
  | 5 => ("LazyHeaps$Heap", "types", "[I", true)
  | 6 => ("LazyHeaps$Heap", "metBefore", "[I", true)
  | 7 => ("LazyHeaps$Heap", "length", "I", false)
  | 8 => ("LazyHeaps$Heap", "met", "I", false)
  | 9 => ("LazyHeaps$Heap", "slot", "I", false)
  | _ => ("LazyHeaps$Heap", "type", "I", false)
def tyX2 : Nat → FieldType := fun k => match k with
  | 0 => .object "LazyHeaps$Shape"
  | 1 => .array .int
  | 2 => .array .int
  | 3 => .array .int
  | 4 => .array .int
  | 5 => .array .int
  | 6 => .array .int
  | 7 => .int
  | 8 => .int
  | 9 => .int
  | _ => .int
theorem nmX2 : ∀ a, a < 11 → ∀ b, b < 11 → a ≠ b → (TX2 a).2.1 ≠ (TX2 b).2.1 := by decide +kernel
theorem tyX2_ok : ∀ k, k < 11 → parseFieldDescriptor (TX2 k).2.2.1 = some (tyX2 k) := by decide +kernel
abbrev cX2_init : ByteArray := prog_4_method_1_code
def yX2_init : MethodName := ⟨RX2, "<init>", "(LLazyHeaps$Shape;)V"⟩
abbrev cX2_isMet : ByteArray := prog_4_method_2_code
def yX2_isMet : MethodName := ⟨RX2, "isMet", "(I)Z"⟩
abbrev cX2_kindOf : ByteArray := prog_4_method_3_code
def yX2_kindOf : MethodName := ⟨RX2, "kindOf", "(I)I"⟩
abbrev cX2_isUnder : ByteArray := prog_4_method_4_code
def yX2_isUnder : MethodName := ⟨RX2, "isUnder", "(II)Z"⟩
abbrev cX2_choiceAt : ByteArray := prog_4_method_5_code
def yX2_choiceAt : MethodName := ⟨RX2, "choiceAt", "(I)I"⟩
abbrev cX2_inputTells : ByteArray := prog_4_method_6_code
def yX2_inputTells : MethodName := ⟨RX2, "inputTells", "(I)I"⟩
abbrev cX2_fieldTells : ByteArray := prog_4_method_7_code
def yX2_fieldTells : MethodName := ⟨RX2, "fieldTells", "(II)I"⟩
abbrev cX2_begin : ByteArray := prog_4_method_8_code
def yX2_begin : MethodName := ⟨RX2, "begin", "()V"⟩
abbrev cX2_fill : ByteArray := prog_4_method_9_code
def yX2_fill : MethodName := ⟨RX2, "fill", "()V"⟩
abbrev cX2_raise : ByteArray := prog_4_method_10_code
def yX2_raise : MethodName := ⟨RX2, "raise", "()Z"⟩
abbrev cX2_load : ByteArray := prog_4_method_11_code
def yX2_load : MethodName := ⟨RX2, "load", "(LLazyHeaps$Rows;I)V"⟩
abbrev cX2_loadUnsure : ByteArray := prog_4_method_12_code
def yX2_loadUnsure : MethodName := ⟨RX2, "loadUnsure", "([II)I"⟩
abbrev cX2_countAlike : ByteArray := prog_4_method_13_code
def yX2_countAlike : MethodName := ⟨RX2, "countAlike", "(LLazyHeaps$Rows;I)I"⟩
abbrev cX2_backTo : ByteArray := prog_4_method_14_code
def yX2_backTo : MethodName := ⟨RX2, "backTo", "(I)V"⟩
abbrev cX2_choiceAbove : ByteArray := prog_4_method_15_code
def yX2_choiceAbove : MethodName := ⟨RX2, "choiceAbove", "(I)I"⟩
abbrev cX2_allows : ByteArray := prog_4_method_16_code
def yX2_allows : MethodName := ⟨RX2, "allows", "(I)Z"⟩
abbrev cX2_take : ByteArray := prog_4_method_17_code
def yX2_take : MethodName := ⟨RX2, "take", "(I)V"⟩
abbrev cX2_objectOf : ByteArray := prog_4_method_18_code
def yX2_objectOf : MethodName := ⟨RX2, "objectOf", "(I)I"⟩
abbrev cX2_waitFrom : ByteArray := prog_4_method_19_code
def yX2_waitFrom : MethodName := ⟨RX2, "waitFrom", "(I)V"⟩
def RX3 : String := "LazyHeaps$Play"
def TX3 : u_T := fun k => match k with
  | 0 => ("LazyHeaps$Play", "heap", "LLazyHeaps$Heap;", true)
  | 1 => ("LazyHeaps$Play", "variables", "[I", true)
  | 2 => ("LazyHeaps$Play", "numbers", "[I", true)
  | 3 => ("LazyHeaps$Play", "choices", "[I", true)
  | 4 => ("LazyHeaps$Play", "length", "I", false)
  | 5 => ("LazyHeaps$Play", "met", "I", false)
  | 6 => ("LazyHeaps$Play", "seen", "I", false)
  | 7 => ("LazyHeaps$Play", "held", "I", false)
  | 8 => ("LazyHeaps$Play", "done", "I", false)
  | _ => ("LazyHeaps$Play", "outcome", "I", false)
def tyX3 : Nat → FieldType := fun k => match k with
  | 0 => .object "LazyHeaps$Heap"
  | 1 => .array .int
  | 2 => .array .int
  | 3 => .array .int
  | 4 => .int
  | 5 => .int
  | 6 => .int
  | 7 => .int
  | 8 => .int
  | _ => .int
theorem nmX3 : ∀ a, a < 10 → ∀ b, b < 10 → a ≠ b → (TX3 a).2.1 ≠ (TX3 b).2.1 := by decide +kernel
theorem tyX3_ok : ∀ k, k < 10 → parseFieldDescriptor (TX3 k).2.2.1 = some (tyX3 k) := by decide +kernel
abbrev cX3_init : ByteArray := prog_5_method_1_code
def yX3_init : MethodName := ⟨RX3, "<init>", "(LLazyHeaps$Heap;)V"⟩
abbrev cX3_lookAt : ByteArray := prog_5_method_2_code
def yX3_lookAt : MethodName := ⟨RX3, "lookAt", "(I)I"⟩
abbrev cX3_run : ByteArray := prog_5_method_3_code
def yX3_run : MethodName := ⟨RX3, "run", "(LLazyHeaps$Program;)V"⟩
abbrev cX3_begin : ByteArray := prog_5_method_4_code
def yX3_begin : MethodName := ⟨RX3, "begin", "()V"⟩
abbrev cX3_leftOutBehind : ByteArray := prog_5_method_5_code
def yX3_leftOutBehind : MethodName := ⟨RX3, "leftOutBehind", "(LLazyHeaps$Step;)I"⟩
abbrev cX3_asked : ByteArray := prog_5_method_6_code
def yX3_asked : MethodName := ⟨RX3, "asked", "(I)I"⟩
abbrev cX3_change : ByteArray := prog_5_method_7_code
def yX3_change : MethodName := ⟨RX3, "change", "(II)V"⟩
abbrev cX3_note : ByteArray := prog_5_method_8_code
def yX3_note : MethodName := ⟨RX3, "note", "(IZI)V"⟩
def RX4 : String := "LazyHeaps$Program"
def TX4 : u_T := fun k => match k with
  | 0 => ("LazyHeaps$Program", "list", "[LLazyHeaps$Step;", true)
  | _ => ("LazyHeaps$Program", "count", "I", false)
def tyX4 : Nat → FieldType := fun k => match k with
  | 0 => .array (.object "LazyHeaps$Step")
  | _ => .int
theorem nmX4 : ∀ a, a < 2 → ∀ b, b < 2 → a ≠ b → (TX4 a).2.1 ≠ (TX4 b).2.1 := by decide +kernel
theorem tyX4_ok : ∀ k, k < 2 → parseFieldDescriptor (TX4 k).2.2.1 = some (tyX4 k) := by decide +kernel
abbrev cX4_init : ByteArray := prog_6_method_1_code
def yX4_init : MethodName := ⟨RX4, "<init>", "()V"⟩
abbrev cX4_add : ByteArray := prog_6_method_2_code
def yX4_add : MethodName := ⟨RX4, "add", "(LLazyHeaps$Step;)I"⟩
abbrev cX4_drop : ByteArray := prog_6_method_3_code
def yX4_drop : MethodName := ⟨RX4, "drop", "()I"⟩
abbrev cX4_stepAt : ByteArray := prog_6_method_4_code
def yX4_stepAt : MethodName := ⟨RX4, "stepAt", "(I)LLazyHeaps$Step;"⟩
def RX5 : String := "LazyHeaps$Rows"
def TX5 : u_T := fun k => match k with
  | 0 => ("LazyHeaps$Rows", "words", "[J", false)
  | _ => ("LazyHeaps$Rows", "count", "I", false)
def tyX5 : Nat → FieldType := fun k => match k with
  | 0 => .array .long
  | _ => .int
theorem nmX5 : ∀ a, a < 2 → ∀ b, b < 2 → a ≠ b → (TX5 a).2.1 ≠ (TX5 b).2.1 := by decide +kernel
theorem tyX5_ok : ∀ k, k < 2 → parseFieldDescriptor (TX5 k).2.2.1 = some (tyX5 k) := by decide +kernel
abbrev cX5_init : ByteArray := prog_7_method_1_code
def yX5_init : MethodName := ⟨RX5, "<init>", "()V"⟩
abbrev cX5_drop : ByteArray := prog_7_method_2_code
def yX5_drop : MethodName := ⟨RX5, "drop", "()V"⟩
abbrev cX5_add : ByteArray := prog_7_method_3_code
def yX5_add : MethodName := ⟨RX5, "add", "([II)V"⟩
abbrev cX5_choiceAt : ByteArray := prog_7_method_4_code
def yX5_choiceAt : MethodName := ⟨RX5, "choiceAt", "(II)I"⟩
abbrev cX5_dropLast : ByteArray := prog_7_method_5_code
def yX5_dropLast : MethodName := ⟨RX5, "dropLast", "()V"⟩
abbrev cX5_compare : ByteArray := prog_7_method_6_code
def yX5_compare : MethodName := ⟨RX5, "compare", "(II)I"⟩
abbrev cX5_find : ByteArray := prog_7_method_7_code
def yX5_find : MethodName := ⟨RX5, "find", "([II)I"⟩
abbrev cX5_pack : ByteArray := prog_7_method_8_code
def yX5_pack : MethodName := ⟨RX5, "pack", "([III)J"⟩
def RX6 : String := "LazyHeaps$Rule"
def TX6 : u_T := fun k => match k with
  | 0 => ("LazyHeaps$Rule", "sort", "I", true)
  | 1 => ("LazyHeaps$Rule", "top", "I", true)
  | 2 => ("LazyHeaps$Rule", "f", "I", true)
  | _ => ("LazyHeaps$Rule", "g", "I", true)
def tyX6 : Nat → FieldType := fun k => match k with
  | 0 => .int
  | 1 => .int
  | 2 => .int
  | _ => .int
theorem nmX6 : ∀ a, a < 4 → ∀ b, b < 4 → a ≠ b → (TX6 a).2.1 ≠ (TX6 b).2.1 := by decide +kernel
theorem tyX6_ok : ∀ k, k < 4 → parseFieldDescriptor (TX6 k).2.2.1 = some (tyX6 k) := by decide +kernel
abbrev cX6_init : ByteArray := prog_8_method_1_code
def yX6_init : MethodName := ⟨RX6, "<init>", "(IIII)V"⟩
abbrev cX6_holdsIn : ByteArray := prog_8_method_2_code
def yX6_holdsIn : MethodName := ⟨RX6, "holdsIn", "(LLazyHeaps$Heap;)Z"⟩
abbrev cX6_holdsAt : ByteArray := prog_8_method_3_code
def yX6_holdsAt : MethodName := ⟨RX6, "holdsAt", "(LLazyHeaps$Heap;I)Z"⟩
abbrev cX6_hasNoCycle : ByteArray := prog_8_method_4_code
def yX6_hasNoCycle : MethodName := ⟨RX6, "hasNoCycle", "(LLazyHeaps$Heap;)Z"⟩
abbrev cX6_sharesNothing : ByteArray := prog_8_method_5_code
def yX6_sharesNothing : MethodName := ⟨RX6, "sharesNothing", "(LLazyHeaps$Heap;)Z"⟩
abbrev cX6_bit : ByteArray := prog_8_method_6_code
def yX6_bit : MethodName := ⟨RX6, "bit", "(LLazyHeaps$Heap;II)I"⟩
def RX7 : String := "LazyHeaps$Rules"
def TX7 : u_T := fun k => match k with
  | 0 => ("LazyHeaps$Rules", "list", "[LLazyHeaps$Rule;", true)
  | _ => ("LazyHeaps$Rules", "count", "I", false)
def tyX7 : Nat → FieldType := fun k => match k with
  | 0 => .array (.object "LazyHeaps$Rule")
  | _ => .int
theorem nmX7 : ∀ a, a < 2 → ∀ b, b < 2 → a ≠ b → (TX7 a).2.1 ≠ (TX7 b).2.1 := by decide +kernel
theorem tyX7_ok : ∀ k, k < 2 → parseFieldDescriptor (TX7 k).2.2.1 = some (tyX7 k) := by decide +kernel
abbrev cX7_init : ByteArray := prog_9_method_1_code
def yX7_init : MethodName := ⟨RX7, "<init>", "()V"⟩
abbrev cX7_add : ByteArray := prog_9_method_2_code
def yX7_add : MethodName := ⟨RX7, "add", "(LLazyHeaps$Rule;)I"⟩
abbrev cX7_drop : ByteArray := prog_9_method_3_code
def yX7_drop : MethodName := ⟨RX7, "drop", "()I"⟩
abbrev cX7_holdFrom : ByteArray := prog_9_method_4_code
def yX7_holdFrom : MethodName := ⟨RX7, "holdFrom", "(ILLazyHeaps$Heap;)Z"⟩
def RX8 : String := "LazyHeaps$Shape"
def TX8 : u_T := fun k => match k with
  | 0 => ("LazyHeaps$Shape", "aboves", "[I", true)
  | 1 => ("LazyHeaps$Shape", "fieldCounts", "[I", true)
  | 2 => ("LazyHeaps$Shape", "types", "[I", true)
  | 3 => ("LazyHeaps$Shape", "inputs", "[I", true)
  | 4 => ("LazyHeaps$Shape", "kindCount", "I", false)
  | 5 => ("LazyHeaps$Shape", "inputCount", "I", false)
  | _ => ("LazyHeaps$Shape", "bound", "I", false)
def tyX8 : Nat → FieldType := fun k => match k with
  | 0 => .array .int
  | 1 => .array .int
  | 2 => .array .int
  | 3 => .array .int
  | 4 => .int
  | 5 => .int
  | _ => .int
theorem nmX8 : ∀ a, a < 7 → ∀ b, b < 7 → a ≠ b → (TX8 a).2.1 ≠ (TX8 b).2.1 := by decide +kernel
theorem tyX8_ok : ∀ k, k < 7 → parseFieldDescriptor (TX8 k).2.2.1 = some (tyX8 k) := by decide +kernel
abbrev cX8_init : ByteArray := prog_10_method_1_code
def yX8_init : MethodName := ⟨RX8, "<init>", "()V"⟩
abbrev cX8_isRefType : ByteArray := prog_10_method_2_code
def yX8_isRefType : MethodName := ⟨RX8, "isRefType", "(I)Z"⟩
abbrev cX8_isKind : ByteArray := prog_10_method_3_code
def yX8_isKind : MethodName := ⟨RX8, "isKind", "(I)Z"⟩
abbrev cX8_isUnder : ByteArray := prog_10_method_4_code
def yX8_isUnder : MethodName := ⟨RX8, "isUnder", "(II)Z"⟩
abbrev cX8_isSuper : ByteArray := prog_10_method_5_code
def yX8_isSuper : MethodName := ⟨RX8, "isSuper", "(I)Z"⟩
abbrev cX8_fieldsOf : ByteArray := prog_10_method_6_code
def yX8_fieldsOf : MethodName := ⟨RX8, "fieldsOf", "(I)I"⟩
abbrev cX8_typeOf : ByteArray := prog_10_method_7_code
def yX8_typeOf : MethodName := ⟨RX8, "typeOf", "(II)I"⟩
abbrev cX8_typeOfInput : ByteArray := prog_10_method_8_code
def yX8_typeOfInput : MethodName := ⟨RX8, "typeOfInput", "(I)I"⟩
abbrev cX8_hasField : ByteArray := prog_10_method_9_code
def yX8_hasField : MethodName := ⟨RX8, "hasField", "(II)Z"⟩
abbrev cX8_isRef : ByteArray := prog_10_method_10_code
def yX8_isRef : MethodName := ⟨RX8, "isRef", "(II)Z"⟩
abbrev cX8_isNumber : ByteArray := prog_10_method_11_code
def yX8_isNumber : MethodName := ⟨RX8, "isNumber", "(II)Z"⟩
abbrev cX8_addKind : ByteArray := prog_10_method_12_code
def yX8_addKind : MethodName := ⟨RX8, "addKind", "(I)I"⟩
abbrev cX8_addField : ByteArray := prog_10_method_13_code
def yX8_addField : MethodName := ⟨RX8, "addField", "(III)I"⟩
abbrev cX8_addInput : ByteArray := prog_10_method_14_code
def yX8_addInput : MethodName := ⟨RX8, "addInput", "(I)I"⟩
def RX9 : String := "LazyHeaps$Step"
def TX9 : u_T := fun k => match k with
  | 0 => ("LazyHeaps$Step", "op", "I", true)
  | 1 => ("LazyHeaps$Step", "v", "I", true)
  | 2 => ("LazyHeaps$Step", "f", "I", true)
  | 3 => ("LazyHeaps$Step", "n", "I", true)
  | _ => ("LazyHeaps$Step", "m", "I", true)
def tyX9 : Nat → FieldType := fun k => match k with
  | 0 => .int
  | 1 => .int
  | 2 => .int
  | 3 => .int
  | _ => .int
theorem nmX9 : ∀ a, a < 5 → ∀ b, b < 5 → a ≠ b → (TX9 a).2.1 ≠ (TX9 b).2.1 := by decide +kernel
theorem tyX9_ok : ∀ k, k < 5 → parseFieldDescriptor (TX9 k).2.2.1 = some (tyX9 k) := by decide +kernel
abbrev cX9_init : ByteArray := prog_11_method_1_code
def yX9_init : MethodName := ⟨RX9, "<init>", "(IIIII)V"⟩
def RX10 : String := "LazyHeaps"
def TX10 : u_T := fun k => match k with
  | 0 => ("LazyHeaps", "shape", "LLazyHeaps$Shape;", true)
  | 1 => ("LazyHeaps", "rules", "LLazyHeaps$Rules;", true)
  | 2 => ("LazyHeaps", "program", "LLazyHeaps$Program;", true)
  | 3 => ("LazyHeaps", "heap", "LLazyHeaps$Heap;", true)
  | 4 => ("LazyHeaps", "catalogue", "LLazyHeaps$Catalogue;", true)
  | 5 => ("LazyHeaps", "play", "LLazyHeaps$Play;", true)
  | 6 => ("LazyHeaps", "parts", "LLazyHeaps$Ends;", true)
  | 7 => ("LazyHeaps", "theRow", "[I", true)
  | _ => ("LazyHeaps", "theLength", "I", false)
def tyX10 : Nat → FieldType := fun k => match k with
  | 0 => .object "LazyHeaps$Shape"
  | 1 => .object "LazyHeaps$Rules"
  | 2 => .object "LazyHeaps$Program"
  | 3 => .object "LazyHeaps$Heap"
  | 4 => .object "LazyHeaps$Catalogue"
  | 5 => .object "LazyHeaps$Play"
  | 6 => .object "LazyHeaps$Ends"
  | 7 => .array .int
  | _ => .int
theorem nmX10 : ∀ a, a < 9 → ∀ b, b < 9 → a ≠ b → (TX10 a).2.1 ≠ (TX10 b).2.1 := by decide +kernel
theorem tyX10_ok : ∀ k, k < 9 → parseFieldDescriptor (TX10 k).2.2.1 = some (tyX10 k) := by decide +kernel
abbrev cX10_init : ByteArray := prog_1_method_1_code
def yX10_init : MethodName := ⟨RX10, "<init>", "()V"⟩
abbrev cX10_kind : ByteArray := prog_1_method_2_code
def yX10_kind : MethodName := ⟨RX10, "kind", "(I)I"⟩
abbrev cX10_field : ByteArray := prog_1_method_3_code
def yX10_field : MethodName := ⟨RX10, "field", "(III)I"⟩
abbrev cX10_input : ByteArray := prog_1_method_4_code
def yX10_input : MethodName := ⟨RX10, "input", "(I)I"⟩
abbrev cX10_bound : ByteArray := prog_1_method_5_code
def yX10_bound : MethodName := ⟨RX10, "bound", "(I)I"⟩
abbrev cX10_rule : ByteArray := prog_1_method_6_code
def yX10_rule : MethodName := ⟨RX10, "rule", "(IIII)I"⟩
abbrev cX10_clear : ByteArray := prog_1_method_7_code
def yX10_clear : MethodName := ⟨RX10, "clear", "()I"⟩
abbrev cX10_about : ByteArray := prog_1_method_8_code
def yX10_about : MethodName := ⟨RX10, "about", "(I)I"⟩
abbrev cX10_many : ByteArray := prog_1_method_9_code
def yX10_many : MethodName := ⟨RX10, "many", "()I"⟩
abbrev cX10_kept : ByteArray := prog_1_method_10_code
def yX10_kept : MethodName := ⟨RX10, "kept", "()I"⟩
abbrev cX10_choice : ByteArray := prog_1_method_11_code
def yX10_choice : MethodName := ⟨RX10, "choice", "(II)I"⟩
abbrev cX10_object : ByteArray := prog_1_method_12_code
def yX10_object : MethodName := ⟨RX10, "object", "(III)I"⟩
abbrev cX10_put : ByteArray := prog_1_method_13_code
def yX10_put : MethodName := ⟨RX10, "put", "(I)I"⟩
abbrev cX10_empty : ByteArray := prog_1_method_14_code
def yX10_empty : MethodName := ⟨RX10, "empty", "()I"⟩
abbrev cX10_rank : ByteArray := prog_1_method_15_code
def yX10_rank : MethodName := ⟨RX10, "rank", "()I"⟩
abbrev cX10_step : ByteArray := prog_1_method_16_code
def yX10_step : MethodName := ⟨RX10, "step", "(IIIII)I"⟩
abbrev cX10_erase : ByteArray := prog_1_method_17_code
def yX10_erase : MethodName := ⟨RX10, "erase", "()I"⟩
abbrev cX10_ends : ByteArray := prog_1_method_18_code
def yX10_ends : MethodName := ⟨RX10, "ends", "()I"⟩
abbrev cX10_end : ByteArray := prog_1_method_19_code
def yX10_end : MethodName := ⟨RX10, "end", "(II)I"⟩
abbrev cX10_look : ByteArray := prog_1_method_20_code
def yX10_look : MethodName := ⟨RX10, "look", "(II)I"⟩
abbrev cX10_endOf : ByteArray := prog_1_method_21_code
def yX10_endOf : MethodName := ⟨RX10, "endOf", "(I)I"⟩
abbrev cX10_forgetRows : ByteArray := prog_1_method_22_code
def yX10_forgetRows : MethodName := ⟨RX10, "forgetRows", "()V"⟩
abbrev cX10_namesKnown : ByteArray := prog_1_method_23_code
def yX10_namesKnown : MethodName := ⟨RX10, "namesKnown", "(IIII)Z"⟩
abbrev cX10_sortsFit : ByteArray := prog_1_method_24_code
def yX10_sortsFit : MethodName := ⟨RX10, "sortsFit", "(IIII)Z"⟩
abbrev cX10_isVariable : ByteArray := prog_1_method_25_code
def yX10_isVariable : MethodName := ⟨RX10, "isVariable", "(I)Z"⟩
abbrev cX10_sizeFor : ByteArray := prog_1_method_26_code
def yX10_sizeFor : MethodName := ⟨RX10, "sizeFor", "(I)I"⟩
def RX11 : String := "LazyHeapsModel"
def TX11 : u_T := fun k => match k with
  | 0 => ("LazyHeapsModel", "kinds", "I", false)
  | 1 => ("LazyHeapsModel", "superOf", "[I", true)
  | 2 => ("LazyHeapsModel", "fieldMany", "[I", true)
  | 3 => ("LazyHeapsModel", "fieldSort", "[I", true)
  | 4 => ("LazyHeapsModel", "fieldOf", "[I", true)
  | 5 => ("LazyHeapsModel", "inputs", "I", false)
  | 6 => ("LazyHeapsModel", "inputOf", "[I", true)
  | 7 => ("LazyHeapsModel", "limit", "I", false)
  | 8 => ("LazyHeapsModel", "rules", "I", false)
  | 9 => ("LazyHeapsModel", "ruleSort", "[I", true)
  | 10 => ("LazyHeapsModel", "ruleKind", "[I", true)
  | 11 => ("LazyHeapsModel", "ruleF", "[I", true)
  | 12 => ("LazyHeapsModel", "ruleG", "[I", true)
  | 13 => ("LazyHeapsModel", "steps", "I", false)
  | 14 => ("LazyHeapsModel", "stepOp", "[I", true)
  | 15 => ("LazyHeapsModel", "stepV", "[I", true)
  | 16 => ("LazyHeapsModel", "stepF", "[I", true)
  | 17 => ("LazyHeapsModel", "stepN", "[I", true)
  | 18 => ("LazyHeapsModel", "stepM", "[I", true)
  | 19 => ("LazyHeapsModel", "told", "I", false)
  | 20 => ("LazyHeapsModel", "tellRow", "[I", true)
  | 21 => ("LazyHeapsModel", "isFresh", "Z", false)
  | 22 => ("LazyHeapsModel", "rows", "I", false)
  | 23 => ("LazyHeapsModel", "rowAt", "[B", true)
  | 24 => ("LazyHeapsModel", "rowLong", "[B", true)
  | 25 => ("LazyHeapsModel", "keptMany", "I", false)
  | 26 => ("LazyHeapsModel", "keptRow", "[I", true)
  | 27 => ("LazyHeapsModel", "isKept", "[Z", true)
  | 28 => ("LazyHeapsModel", "isPlayed", "Z", false)
  | 29 => ("LazyHeapsModel", "lookAt", "[B", true)
  | 30 => ("LazyHeapsModel", "lookLong", "[B", true)
  | 31 => ("LazyHeapsModel", "lookEnd", "[B", true)
  | 32 => ("LazyHeapsModel", "lookSteps", "[B", true)
  | 33 => ("LazyHeapsModel", "endMany", "I", false)
  | 34 => ("LazyHeapsModel", "endFirst", "[I", true)
  | 35 => ("LazyHeapsModel", "endOfRow", "[I", true)
  | 36 => ("LazyHeapsModel", "at", "[I", true)
  | 37 => ("LazyHeapsModel", "objects", "I", false)
  | 38 => ("LazyHeapsModel", "objectKind", "[I", true)
  | 39 => ("LazyHeapsModel", "inputTells", "[I", true)
  | 40 => ("LazyHeapsModel", "tells", "[I", true)
  | 41 => ("LazyHeapsModel", "slotSort", "I", false)
  | 42 => ("LazyHeapsModel", "slotOf", "I", false)
  | 43 => ("LazyHeapsModel", "comes", "[Z", true)
  | 44 => ("LazyHeapsModel", "variable", "[I", true)
  | 45 => ("LazyHeapsModel", "isInput", "[Z", true)
  | 46 => ("LazyHeapsModel", "inputSeen", "[Z", true)
  | 47 => ("LazyHeapsModel", "fieldSeen", "[Z", true)
  | 48 => ("LazyHeapsModel", "calledBy", "[I", true)
  | 49 => ("LazyHeapsModel", "called", "I", false)
  | 50 => ("LazyHeapsModel", "looks", "I", false)
  | 51 => ("LazyHeapsModel", "look", "[I", true)
  | 52 => ("LazyHeapsModel", "done", "I", false)
  | _ => ("LazyHeapsModel", "skip", "I", false)
def tyX11 : Nat → FieldType := fun k => match k with
  | 0 => .int
  | 1 => .array .int
  | 2 => .array .int
  | 3 => .array .int
  | 4 => .array .int
  | 5 => .int
  | 6 => .array .int
  | 7 => .int
  | 8 => .int
  | 9 => .array .int
  | 10 => .array .int
  | 11 => .array .int
  | 12 => .array .int
  | 13 => .int
  | 14 => .array .int
  | 15 => .array .int
  | 16 => .array .int
  | 17 => .array .int
  | 18 => .array .int
  | 19 => .int
  | 20 => .array .int
  | 21 => .boolean
  | 22 => .int
  | 23 => .array .byte
  | 24 => .array .byte
  | 25 => .int
  | 26 => .array .int
  | 27 => .array .boolean
  | 28 => .boolean
  | 29 => .array .byte
  | 30 => .array .byte
  | 31 => .array .byte
  | 32 => .array .byte
  | 33 => .int
  | 34 => .array .int
  | 35 => .array .int
  | 36 => .array .int
  | 37 => .int
  | 38 => .array .int
  | 39 => .array .int
  | 40 => .array .int
  | 41 => .int
  | 42 => .int
  | 43 => .array .boolean
  | 44 => .array .int
  | 45 => .array .boolean
  | 46 => .array .boolean
  | 47 => .array .boolean
  | 48 => .array .int
  | 49 => .int
  | 50 => .int
  | 51 => .array .int
  | 52 => .int
  | _ => .int
theorem nmX11 : ∀ a, a < 54 → ∀ b, b < 54 → a ≠ b → (TX11 a).2.1 ≠ (TX11 b).2.1 := by decide +kernel
theorem tyX11_ok : ∀ k, k < 54 → parseFieldDescriptor (TX11 k).2.2.1 = some (tyX11 k) := by decide +kernel
abbrev cX11_init : ByteArray := prog_13_method_1_code
def yX11_init : MethodName := ⟨RX11, "<init>", "()V"⟩
abbrev cX11_in : ByteArray := prog_13_method_2_code
def yX11_in : MethodName := ⟨RX11, "in", "(III)Z"⟩
abbrev cX11_isUnder : ByteArray := prog_13_method_3_code
def yX11_isUnder : MethodName := ⟨RX11, "isUnder", "(II)Z"⟩
abbrev cX11_changed : ByteArray := prog_13_method_4_code
def yX11_changed : MethodName := ⟨RX11, "changed", "()V"⟩
abbrev cX11_kind : ByteArray := prog_13_method_5_code
def yX11_kind : MethodName := ⟨RX11, "kind", "(I)I"⟩
abbrev cX11_field : ByteArray := prog_13_method_6_code
def yX11_field : MethodName := ⟨RX11, "field", "(III)I"⟩
abbrev cX11_input : ByteArray := prog_13_method_7_code
def yX11_input : MethodName := ⟨RX11, "input", "(I)I"⟩
abbrev cX11_bound : ByteArray := prog_13_method_8_code
def yX11_bound : MethodName := ⟨RX11, "bound", "(I)I"⟩
abbrev cX11_isField : ByteArray := prog_13_method_9_code
def yX11_isField : MethodName := ⟨RX11, "isField", "(II)Z"⟩
abbrev cX11_isSort : ByteArray := prog_13_method_10_code
def yX11_isSort : MethodName := ⟨RX11, "isSort", "(III)Z"⟩
abbrev cX11_rule : ByteArray := prog_13_method_11_code
def yX11_rule : MethodName := ⟨RX11, "rule", "(IIII)I"⟩
abbrev cX11_clear : ByteArray := prog_13_method_12_code
def yX11_clear : MethodName := ⟨RX11, "clear", "()I"⟩
abbrev cX11_about : ByteArray := prog_13_method_13_code
def yX11_about : MethodName := ⟨RX11, "about", "(I)I"⟩
abbrev cX11_tellOf : ByteArray := prog_13_method_14_code
def yX11_tellOf : MethodName := ⟨RX11, "tellOf", "(II)I"⟩
abbrev cX11_goThrough : ByteArray := prog_13_method_15_code
def yX11_goThrough : MethodName := ⟨RX11, "goThrough", "(I)V"⟩
abbrev cX11_canBe : ByteArray := prog_13_method_16_code
def yX11_canBe : MethodName := ⟨RX11, "canBe", "(I)Z"⟩
abbrev cX11_nextChoice : ByteArray := prog_13_method_17_code
def yX11_nextChoice : MethodName := ⟨RX11, "nextChoice", "(I)I"⟩
abbrev cX11_fill : ByteArray := prog_13_method_18_code
def yX11_fill : MethodName := ⟨RX11, "fill", "(I)I"⟩
abbrev cX11_nextRow : ByteArray := prog_13_method_19_code
def yX11_nextRow : MethodName := ⟨RX11, "nextRow", "(I)I"⟩
abbrev cX11_load : ByteArray := prog_13_method_20_code
def yX11_load : MethodName := ⟨RX11, "load", "(I)V"⟩
abbrev cX11_isSuch : ByteArray := prog_13_method_21_code
def yX11_isSuch : MethodName := ⟨RX11, "isSuch", "(II)Z"⟩
abbrev cX11_holdsRing : ByteArray := prog_13_method_22_code
def yX11_holdsRing : MethodName := ⟨RX11, "holdsRing", "(I)Z"⟩
abbrev cX11_holdsApart : ByteArray := prog_13_method_23_code
def yX11_holdsApart : MethodName := ⟨RX11, "holdsApart", "(I)Z"⟩
abbrev cX11_holdsAt : ByteArray := prog_13_method_24_code
def yX11_holdsAt : MethodName := ⟨RX11, "holdsAt", "(II)Z"⟩
abbrev cX11_holds : ByteArray := prog_13_method_25_code
def yX11_holds : MethodName := ⟨RX11, "holds", "(I)Z"⟩
abbrev cX11_freshen : ByteArray := prog_13_method_26_code
def yX11_freshen : MethodName := ⟨RX11, "freshen", "()Z"⟩
abbrev cX11_many : ByteArray := prog_13_method_27_code
def yX11_many : MethodName := ⟨RX11, "many", "()I"⟩
abbrev cX11_kept : ByteArray := prog_13_method_28_code
def yX11_kept : MethodName := ⟨RX11, "kept", "()I"⟩
abbrev cX11_choice : ByteArray := prog_13_method_29_code
def yX11_choice : MethodName := ⟨RX11, "choice", "(II)I"⟩
abbrev cX11_object : ByteArray := prog_13_method_30_code
def yX11_object : MethodName := ⟨RX11, "object", "(III)I"⟩
abbrev cX11_put : ByteArray := prog_13_method_31_code
def yX11_put : MethodName := ⟨RX11, "put", "(I)I"⟩
abbrev cX11_empty : ByteArray := prog_13_method_32_code
def yX11_empty : MethodName := ⟨RX11, "empty", "()I"⟩
abbrev cX11_rank : ByteArray := prog_13_method_33_code
def yX11_rank : MethodName := ⟨RX11, "rank", "()I"⟩
abbrev cX11_step : ByteArray := prog_13_method_34_code
def yX11_step : MethodName := ⟨RX11, "step", "(IIIII)I"⟩
abbrev cX11_erase : ByteArray := prog_13_method_35_code
def yX11_erase : MethodName := ⟨RX11, "erase", "()I"⟩
abbrev cX11_lookRef : ByteArray := prog_13_method_36_code
def yX11_lookRef : MethodName := ⟨RX11, "lookRef", "(I)V"⟩
abbrev cX11_ask : ByteArray := prog_13_method_37_code
def yX11_ask : MethodName := ⟨RX11, "ask", "(I)V"⟩
abbrev cX11_askField : ByteArray := prog_13_method_38_code
def yX11_askField : MethodName := ⟨RX11, "askField", "(III)V"⟩
abbrev cX11_doStep : ByteArray := prog_13_method_39_code
def yX11_doStep : MethodName := ⟨RX11, "doStep", "(I)I"⟩
abbrev cX11_playHeap : ByteArray := prog_13_method_40_code
def yX11_playHeap : MethodName := ⟨RX11, "playHeap", "()I"⟩
abbrev cX11_compareLooks : ByteArray := prog_13_method_41_code
def yX11_compareLooks : MethodName := ⟨RX11, "compareLooks", "(II)I"⟩
abbrev cX11_placeOf : ByteArray := prog_13_method_42_code
def yX11_placeOf : MethodName := ⟨RX11, "placeOf", "(I)I"⟩
abbrev cX11_playAll : ByteArray := prog_13_method_43_code
def yX11_playAll : MethodName := ⟨RX11, "playAll", "()Z"⟩
abbrev cX11_ends : ByteArray := prog_13_method_44_code
def yX11_ends : MethodName := ⟨RX11, "ends", "()I"⟩
abbrev cX11_end : ByteArray := prog_13_method_45_code
def yX11_end : MethodName := ⟨RX11, "end", "(II)I"⟩
abbrev cX11_look : ByteArray := prog_13_method_46_code
def yX11_look : MethodName := ⟨RX11, "look", "(II)I"⟩
abbrev cX11_endOf : ByteArray := prog_13_method_47_code
def yX11_endOf : MethodName := ⟨RX11, "endOf", "(I)I"⟩
def RJx8e188 : String := "java/lang/Cloneable"
def RJ13 : String := "java/lang/Long"
abbrev cJ13_compare_74951 : ByteArray := prog_15_method_42_code
def yJ13_compare_74951 : MethodName := ⟨RJ13, "compare", "(JJ)I"⟩
def RJ9 : String := "java/lang/Math"
abbrev cJ9_max_7cf53 : ByteArray := prog_16_method_65_code
def yJ9_max_7cf53 : MethodName := ⟨RJ9, "max", "(II)I"⟩
abbrev cJ9_min_7cf53 : ByteArray := prog_16_method_69_code
def yJ9_min_7cf53 : MethodName := ⟨RJ9, "min", "(II)I"⟩
def RJ10 : String := "java/lang/System"
def RJ7 : String := "java/util/Arrays"
abbrev cJ7_fill_53178 : ByteArray := prog_18_method_103_code
def yJ7_fill_53178 : MethodName := ⟨RJ7, "fill", "([II)V"⟩
abbrev cJ7_copyOf_c38d5 : ByteArray := prog_18_method_124_code
def yJ7_copyOf_c38d5 : MethodName := ⟨RJ7, "copyOf", "([JI)[J"⟩
def RL : String := "LazyHeapsLaw"
abbrev cL_law : ByteArray := code
def yL_law : MethodName := ⟨RL, "law", "([I)Z"⟩
abbrev vwCl : List vw_C := [(RX0, TX0, 7), (RX1, TX1, 10), (RX2, TX2, 11), (RX3, TX3, 10), (RX4, TX4, 2), (RX5, TX5, 2), (RX6, TX6, 4), (RX7, TX7, 2), (RX8, TX8, 7), (RX9, TX9, 5), (RX10, TX10, 9), (RX11, TX11, 54)]
end
section
/-! ===== worlds by names: a cell's references are names; 'ad' says at which address a name stands ===== -/
abbrev rr_H : Type := List (Option va_E)
def a_v (ad : Nat → Nat) : Value → Value
  | .ref n => .ref (ad n)
  | v => v
def a_a (ad : Nat → Nat) (x : vp_A) : vp_A := (x.1, match x.2 with
  | .inr (.inr (.inr (.inr f))) => .inr (.inr (.inr (.inr (fun j => (f j).map ad))))
  | y => y)
def a_c (cy : Nat → ClassId) (ad : Nat → Nat) : va_E → va_E
  | .inl x => .inl (cy x.1, a_a ad x.2)
  | .inr o => .inr (o.1, o.2.map (a_v ad))
def a_w (cy : Nat → ClassId) (ad : Nat → Nat) : Nat → rr_H → va_W
  | _, [] => []
  | i, none :: t => a_w cy ad (i + 1) t
  | i, some c :: t => (ad i, a_c cy ad c) :: a_w cy ad (i + 1) t
def a_k : rr_H → Nat → Nat
  | [], _ => 0
  | _ :: _, 0 => 0
  | none :: t, n + 1 => a_k t n
  | some _ :: t, n + 1 => a_k t n + 1
theorem a_v_cat (ad : Nat → Nat) (v : Value) : (a_v ad v).category = v.category := by cases v <;> rfl
theorem a_w_at (cy : Nat → ClassId) (ad : Nat → Nat) : ∀ (h : rr_H) (i n : Nat) (c : va_E), h[n]? = some (some c) → (a_w cy ad i h)[a_k h n]? = some (ad (i + n), a_c cy ad c) := by
  intro h
  induction h with
  | nil => intro i n c hc; simp at hc
  | cons x t ih =>
    intro i n c hc
    cases n with
    | zero =>
      cases x with
      | none => simp at hc
      | some d => simp at hc; subst hc; rfl
    | succ n =>
      have h1 := ih (i + 1) n c (by simpa using hc)
      rw [show i + (n + 1) = i + 1 + n by omega]
      cases x with
      | none => exact h1
      | some d => show ((_ : Nat × va_E) :: a_w cy ad (i + 1) t)[a_k t n + 1]? = _; rw [List.getElem?_cons_succ]; exact h1
theorem a_w_set (cy : Nat → ClassId) (ad : Nat → Nat) (c' : va_E) : ∀ (h : rr_H) (i n : Nat) (c : va_E), h[n]? = some (some c) → (a_w cy ad i h).set (a_k h n) (ad (i + n), a_c cy ad c') = a_w cy ad i (h.set n (some c')) := by
  intro h
  induction h with
  | nil => intro i n c hc; simp at hc
  | cons x t ih =>
    intro i n c hc
    cases n with
    | zero =>
      cases x with
      | none => simp at hc
      | some d => rfl
    | succ n =>
      have h1 := ih (i + 1) n c (by simpa using hc)
      rw [show i + (n + 1) = i + 1 + n by omega]
      cases x with
      | none => exact h1
      | some d =>
        show ((ad i, a_c cy ad d) :: a_w cy ad (i + 1) t).set (a_k t n + 1) _ = (ad i, a_c cy ad d) :: a_w cy ad (i + 1) (t.set n (some c'))
        rw [List.set_cons_succ, h1]
theorem a_w_of (cy : Nat → ClassId) (ad : Nat → Nat) : ∀ (h : rr_H) (i k : Nat) (q : Nat × va_E), (a_w cy ad i h)[k]? = some q → ∃ n c, h[n]? = some (some c) ∧ q = (ad (i + n), a_c cy ad c) ∧ a_k h n = k := by
  intro h
  induction h with
  | nil => intro i k q hq; simp [a_w] at hq
  | cons x t ih =>
    intro i k q hq
    cases x with
    | none =>
      obtain ⟨n, c, h1, h2, h3⟩ := ih (i + 1) k q hq
      exact ⟨n + 1, c, by simpa using h1, by rw [h2, show i + 1 + n = i + (n + 1) by omega], h3⟩
    | some d =>
      cases k with
      | zero =>
        have e : (ad i, a_c cy ad d) = q := by simpa [a_w] using hq
        exact ⟨0, d, rfl, e.symm, rfl⟩
      | succ k =>
        have hq' : (a_w cy ad (i + 1) t)[k]? = some q := by simpa [a_w] using hq
        obtain ⟨n, c, h1, h2, h3⟩ := ih (i + 1) k q hq'
        refine ⟨n + 1, c, by simpa using h1, by rw [h2, show i + 1 + n = i + (n + 1) by omega], ?_⟩
        show a_k t n + 1 = k + 1
        rw [h3]
theorem a_k_inj : ∀ (h : rr_H) (n n' : Nat) (c c' : va_E), h[n]? = some (some c) → h[n']? = some (some c') → a_k h n = a_k h n' → n = n' := by
  intro h
  induction h with
  | nil => intro n n' c c' hc; simp at hc
  | cons x t ih =>
    intro n n' c c' hc hc' e
    cases n with
    | zero =>
      cases n' with
      | zero => rfl
      | succ n' =>
        cases x with
        | none => simp at hc
        | some d => exact absurd e (by show ¬ 0 = a_k t n' + 1; omega)
    | succ n =>
      cases n' with
      | zero =>
        cases x with
        | none => simp at hc'
        | some d => exact absurd e (by show ¬ a_k t n + 1 = 0; omega)
      | succ n' =>
        have h1 : a_k t n = a_k t n' := by
          cases x with
          | none => exact e
          | some d => exact Nat.succ.inj e
        rw [ih n n' c c' (by simpa using hc) (by simpa using hc') h1]
theorem a_P_iff {D : va_G} {cl : List vw_C} {cy : Nat → ClassId} {ad : Nat → Nat} {h : rr_H} {H : Heap} : va_P D cl (a_w cy ad 0 h) H ↔ ∀ n c, h[n]? = some (some c) → va_at D cl (ad n, a_c cy ad c) H := by
  constructor
  · intro hP n c hc
    have := hP _ _ (a_w_at cy ad h 0 n c hc)
    rwa [Nat.zero_add] at this
  · intro hq k q hk
    obtain ⟨n, c, h1, h2, -⟩ := a_w_of cy ad h 0 k q hk
    rw [h2, Nat.zero_add]
    exact hq n c h1
theorem a_D_iff {A : Nat → Prop} {cy : Nat → ClassId} {ad : Nat → Nat} {h : rr_H} : va_D A (a_w cy ad 0 h) ↔ (∀ n n' c c', h[n]? = some (some c) → h[n']? = some (some c') → ad n = ad n' → n = n') ∧ ∀ n c, h[n]? = some (some c) → A (ad n) := by
  constructor
  · intro hD
    refine ⟨fun n n' c c' hc hc' e => ?_, fun n c hc => ?_⟩
    · have h1 := a_w_at cy ad h 0 n c hc
      have h2 := a_w_at cy ad h 0 n' c' hc'
      exact a_k_inj h n n' c c' hc hc' (hD.1 _ _ _ _ h1 h2 (by simpa using e))
    · have := hD.2 _ _ (a_w_at cy ad h 0 n c hc)
      simpa using this
  · intro ⟨h1, h2⟩
    refine ⟨fun i j p q hp hq e => ?_, fun k q hk => ?_⟩
    · obtain ⟨n, c, g1, g2, g3⟩ := a_w_of cy ad h 0 i p hp
      obtain ⟨n', c', f1, f2, f3⟩ := a_w_of cy ad h 0 j q hq
      subst g2; subst f2
      have := h1 n n' c c' g1 f1 (by simpa using e)
      subst this
      rw [← g3, ← f3]
    · obtain ⟨n, c, g1, g2, g3⟩ := a_w_of cy ad h 0 k q hk
      subst g2
      simpa using h2 n c g1
/-! ===== what a walk stands on ===== -/
abbrev rr_G : Type := (Nat → ClassId) × (Nat → Nat → Nat) × (Nat → ClassId)
abbrev rr_M : Type := MethodName × ByteArray × Nat × Option FieldType
def rr_ws : List Cond := lw_tbl.filter goodWord
def rr_isN : Cond → Bool
  | .fieldLinkNest .. => true
  | .methodLinkNest .. => true
  | .arrayOver (.object _) => true
  | _ => false
def rr_ns : List Cond := lw_tbl.filter rr_isN
def rr_tys (cy : Nat → ClassId) : List (ClassId × FieldType) := [(cy 0, .int), (cy 1, .long), (cy 2, .byte), (cy 3, .boolean), (cy 4, .object "LazyHeaps$Rule"), (cy 5, .object "LazyHeaps$Step")]
def rr_D (G : rr_G) : va_G := (G.1, G.2.1)
def rr_K (G : rr_G) (U : State) : Prop := va_K (rr_D G) vwCl (rr_tys G.2.2) U ∧ ∀ w ∈ rr_ns, va_Nw w U
theorem rr_K.moved {G : rr_G} {s U : State} (hW : s.WarmedH U.vm) (h : rr_K G s) : rr_K G U := by
  refine ⟨va_K.moved hW.alike h.1, fun w hw => ?_⟩
  have hk := (List.mem_filter.mp hw).2
  have hz := h.2 w hw
  match w, hk, hz with
  | .fieldLinkNest .., _, z => exact va_Nw.warmF hW z
  | .methodLinkNest .., _, z => exact va_Nw.warmM hW z
  | .arrayOver (.object C), _, z => exact va_AO.moved hW.alike z
def rr_C (G : rr_G) (mt : rr_M) (p : Program) (s : State) (m : MethodId) (args : Array Value) (meth : Method) (c : Code) : Prop :=
  p.tables.exec = Jvm.exec ∧ c.code = mt.2.1 ∧ c.maxLocals = mt.2.2.1 ∧ s.vm.findClass mt.1.cls = some m.cls ∧ (∀ w ∈ rr_ws, w.before args s = true) ∧ meth.sig.returnType = mt.2.2.2 ∧ meth.locks = false ∧ meth.name = mt.1.name ∧ rr_K G s
def rr_S (G : rr_G) (fx : Nat → Bool) (ad0 ad : Nat → Nat) (A : Nat → Prop) (s : State) (H : Heap) (locs : List Loc) (h : rr_H) : Prop :=
  va_P (rr_D G) vwCl (a_w G.2.2 ad 0 h) H ∧ va_D A (a_w G.2.2 ad 0 h) ∧ va_S A s.heap H locs ∧ (∀ q, s.heap.size ≤ q → A q) ∧ ∀ n, fx n = true → ad n = ad0 n
def rr_L (ad : Nat → Nat) (lv : List (Nat × Value)) : List (Nat × Value) := lv.map (fun q => (q.1, a_v ad q.2))
def rr_Q {σ : Type} (G : rr_G) (fx : Nat → Bool) (rv : σ → Option Value) (w : σ → rr_H) (q : σ) (ad0 : Nat → Nat) (A : Nat → Prop) : Array Value → State → Outcome → State → Prop := fun _ st oc t =>
  (∃ ad : Nat → Nat, (∀ n, fx n = true → ad n = ad0 n) ∧ oc = .returned ((rv q).map (a_v ad)) ∧ va_P (rr_D G) vwCl (a_w G.2.2 ad 0 (w q)) t.heap ∧ va_K (rr_D G) vwCl (rr_tys G.2.2) t ∧ va_D A (a_w G.2.2 ad 0 (w q))) ∧ va_F A st t
/-- the machine at pc, with these locals and operands, over the world h, comes to the end that o tells (if it tells one) -/
def RR {σ : Type} (l : Launch) (G : rr_G) (mt : rr_M) (rm : Room) (fx : Nat → Bool) (rv : σ → Option Value) (w : σ → rr_H) (mc ms pc : Nat) (lv : List (Nat × Value)) (st : List Value) (h : rr_H) (o : Option σ) : Prop :=
  ∀ q, o = some q → ∀ (p : Program) (e : Env) (s : State) (m : MethodId) (args : Array Value) (below : List Frame) (meth : Method) (c : Code) (ad0 ad : Nat → Nat) (A : Nat → Prop) (H : Heap) (locs : List Loc) (cells slots : Nat) (ls : Array Slot),
    rr_C G mt p s m args meth c → rr_S G fx ad0 ad A s H locs h → lv_has ls mt.2.2.1 (rr_L ad lv) → cells + mc ≤ rm.cells → slots + ms ≤ rm.slots →
    W p l e rm s m args below meth c H locs cells slots (MQ below (rr_Q G fx rv w q ad0 A) args s rm.cells rm.slots A) (F0 m pc ls (st.map (a_v ad)))
/-- a method, called with av over the world h, comes to the end that o tells -/
def TT {σ : Type} (l : Launch) (G : rr_G) (mt : rr_M) (d lo : Nat) (fx : Nat → Bool) (rv : σ → Option Value) (w : σ → rr_H) (mc ms : Nat) (av : List Value) (h : rr_H) (o : Option σ) : Prop :=
  ∀ q, o = some q → ∀ (ad : Nat → Nat) (sz : Nat), Met l mt.1 (.code mt.1 mt.2.1 mt.2.2.1 mt.2.2.2 :: rr_ws) { frames := d, cells := mc, slots := ms, locals := lo } (va_Pc (av.map (a_v ad)) (fun U => U.heap.size = sz ∧ va_P (rr_D G) vwCl (a_w G.2.2 ad 0 h) U.heap ∧ rr_K G U ∧ va_D (fun _ => True) (a_w G.2.2 ad 0 h))) (rr_Q G fx rv w q ad (va_A (a_w G.2.2 ad 0 h) sz)) mc ms (va_A (a_w G.2.2 ad 0 h) sz)
theorem rr_args (ad : Nat → Nat) : ∀ (av : List Value) (i : Nat), lv_args i (av.map (a_v ad)) = rr_L ad (lv_args i av) := by
  intro av
  induction av with
  | nil => intro i; rfl
  | cons v t ih =>
    intro i
    simp only [List.map_cons, lv_args, a_v_cat, ih]
    first | rfl | (split <;> rfl) | simp [rr_L]
theorem rr_sl (ad : Nat → Nat) : ∀ av : List Value, (lg_sl (av.map (a_v ad))).length = (lg_sl av).length := by
  intro av
  induction av with
  | nil => rfl
  | cons v t ih =>
    simp only [lg_sl, List.map_cons, List.flatMap_cons, List.length_append, a_v_cat] at ih ⊢
    rw [ih]
    split <;> rfl
theorem TT.of {σ : Type} {l : Launch} {G : rr_G} {mt : rr_M} {d lo : Nat} {fx : Nat → Bool} {rv : σ → Option Value} {w : σ → rr_H} {mc ms : Nat} {av : List Value} {h : rr_H} {o : Option σ} (hpl : plainName mt.1.cls = true) (hlen : (lg_sl av).length ≤ mt.2.2.1)
    (k : RR l G mt { frames := d, cells := mc, slots := ms, locals := lo } fx rv w mc ms 0 (lv_args 0 av) [] h o) : TT l G mt d lo fx rv w mc ms av h o := by
  intro q ho ad sz
  refine Met.ofW (cc := mt.2.1) (maxL := mt.2.2.1) (ret := mt.2.2.2) hpl rfl ?_
  intro p e s m args below meth c s₁ B hml hv
  obtain ⟨rfl, hsz, hP, hK, hD⟩ := hv
  subst hsz
  have hts := atoms_spec (ws := .code mt.1 mt.2.1 mt.2.2.1 mt.2.2.2 :: rr_ws) B.pre
  have hl := lv_entry (av.map (a_v ad)) (n := mt.2.2.1) (by rw [rr_sl]; exact hlen)
  rw [rr_args] at hl
  rw [lg_entry_eq]
  exact k q ho p e s m _ below meth c ad ad _ s.heap [] 0 0 _ ⟨B.exec, B.bytes, hml, findClass_of_methodNamed B.named, fun x hx => hts x (List.mem_cons_of_mem _ hx), B.returns, B.notSynchronized, (name_of_methodNamed B.named B.method).1, hK⟩ ⟨hP, hD.self, va_S.rf, fun q h => Or.inr h, fun _ _ => rfl⟩ hl (by simp) (by simp)
end
section
/-! ===== rows: an instruction each ===== -/
section RROWS
variable {σ : Type} {l : Launch} {G : rr_G} {mt : rr_M} {rm : Room} {fx : Nat → Bool} {rv : σ → Option Value} {w : σ → rr_H} {mc ms pc : Nat} {lv : List (Nat × Value)} {st : List Value} {h : rr_H} {o : Option σ}
theorem RR.lift {pc' : Nat} {st' : List Value} (k : RR l G mt rm fx rv w mc ms pc' lv st' h o) (g : ∀ (p : Program) (e : Env) (s : State) (m : MethodId) (args : Array Value) (below : List Frame) (meth : Method) (c : Code) (H : Heap) (locs : List Loc) (cells slots : Nat) (Q : State → Prop) (ad : Nat → Nat) (ls : Array Slot), rr_C G mt p s m args meth c → lv_has ls mt.2.2.1 (rr_L ad lv) → W p l e rm s m args below meth c H locs cells slots Q (F0 m pc' ls (st'.map (a_v ad))) → W p l e rm s m args below meth c H locs cells slots Q (F0 m pc ls (st.map (a_v ad)))) : RR l G mt rm fx rv w mc ms pc lv st h o :=
  fun q ho p e s m args below meth c ad0 ad A H locs cells slots ls C S L hc hs => g p e s m args below meth c H locs cells slots _ ad ls C L (k q ho p e s m args below meth c ad0 ad A H locs cells slots ls C S L hc hs)
theorem RR.liftL {pc' : Nat} {lv' : List (Nat × Value)} {st' : List Value} (k : RR l G mt rm fx rv w mc ms pc' lv' st' h o) (g : ∀ (p : Program) (e : Env) (s : State) (m : MethodId) (args : Array Value) (below : List Frame) (meth : Method) (c : Code) (H : Heap) (locs : List Loc) (cells slots : Nat) (Q : State → Prop) (ad : Nat → Nat) (ls : Array Slot), rr_C G mt p s m args meth c → lv_has ls mt.2.2.1 (rr_L ad lv) → (∀ ls' : Array Slot, lv_has ls' mt.2.2.1 (rr_L ad lv') → W p l e rm s m args below meth c H locs cells slots Q (F0 m pc' ls' (st'.map (a_v ad)))) → W p l e rm s m args below meth c H locs cells slots Q (F0 m pc ls (st.map (a_v ad)))) : RR l G mt rm fx rv w mc ms pc lv st h o :=
  fun q ho p e s m args below meth c ad0 ad A H locs cells slots ls C S L hc hs => g p e s m args below meth c H locs cells slots _ ad ls C L (fun ls' L' => k q ho p e s m args below meth c ad0 ad A H locs cells slots ls' C S L' hc hs)
theorem rr_la {ad : Nat → Nat} {ls : Array Slot} {nL i : Nat} {v : Value} (L : lv_has ls nL (rr_L ad lv)) (k : Nat) (hk : lv[k]? = some (i, v)) : ls[i]? = some (.val (a_v ad v)) :=
  lv_at L k (by rw [rr_L, List.getElem?_map, hk]; rfl)
theorem rr_Lf1 (ad : Nat → Nat) (i : Nat) (v : Value) : (i, a_v ad v) :: (rr_L ad lv).filter (fun q => !(q.1 == i) && !(q.1 + 1 == i && q.2.category == 2)) = rr_L ad ((i, v) :: lv.filter (fun q => !(q.1 == i) && !(q.1 + 1 == i && q.2.category == 2))) := by
  simp only [rr_L, List.map_cons, List.filter_map, Function.comp_def, a_v_cat]
theorem rr_Lf2 (ad : Nat → Nat) (i : Nat) (v : Value) : (i, a_v ad v) :: (rr_L ad lv).filter (fun q => !(q.1 == i) && (!(q.1 == i + 1) && !(q.1 + 1 == i && q.2.category == 2))) = rr_L ad ((i, v) :: lv.filter (fun q => !(q.1 == i) && (!(q.1 == i + 1) && !(q.1 + 1 == i && q.2.category == 2)))) := by
  simp only [rr_L, List.map_cons, List.filter_map, Function.comp_def, a_v_cat]
/-- fewer locals, in another order -/
theorem rr_sub (ks : List Nat) {lv' : List (Nat × Value)} (hl : lv_pick lv ks = lv') (k : RR l G mt rm fx rv w mc ms pc lv' st h o) : RR l G mt rm fx rv w mc ms pc lv st h o :=
  k.liftL (fun p e s m args below meth c H locs cells slots Q ad ls C L K => K ls (lv_sub L ks (by rw [← hl, rr_L, rr_L, lv_pick, lv_pick, List.map_filterMap]; congr 1; funext i; rw [List.getElem?_map])))
theorem rr_iconst {n : Int} {v : Int32} (hd : decode mt.2.1 pc = .ok (.iconst n, 1)) (hv : Int32.ofInt n = v) (k : RR l G mt rm fx rv w mc ms (pc + 1) lv (.int v :: st) h o) : RR l G mt rm fx rv w mc ms (pc) lv st h o :=
  k.lift (fun p e s m args below meth c H locs cells slots Q ad ls C L K => lv_iconst C.1 C.2.1 hd hv K)
theorem rr_bipush {n : Int} {v : Int32} (hd : decode mt.2.1 pc = .ok (.bipush n, 2)) (hv : (Int8.ofInt n).toInt32 = v) (k : RR l G mt rm fx rv w mc ms (pc + 2) lv (.int v :: st) h o) : RR l G mt rm fx rv w mc ms (pc) lv st h o :=
  k.lift (fun p e s m args below meth c H locs cells slots Q ad ls C L K => lv_bipush C.1 C.2.1 hd hv K)
theorem rr_sipush {n : Int} {v : Int32} (hd : decode mt.2.1 pc = .ok (.sipush n, 3)) (hv : (Int16.ofInt n).toInt32 = v) (k : RR l G mt rm fx rv w mc ms (pc + 3) lv (.int v :: st) h o) : RR l G mt rm fx rv w mc ms (pc) lv st h o :=
  k.lift (fun p e s m args below meth c H locs cells slots Q ad ls C L K => lv_sipush C.1 C.2.1 hd hv K)
theorem rr_lconst {n : Fin 2} {v : Int64} (hd : decode mt.2.1 pc = .ok (.lconst n, 1)) (hv : Int64.ofNat (n : Nat) = v) (k : RR l G mt rm fx rv w mc ms (pc + 1) lv (.long v :: st) h o) : RR l G mt rm fx rv w mc ms (pc) lv st h o :=
  k.lift (fun p e s m args below meth c H locs cells slots Q ad ls C L K => lv_lconst C.1 C.2.1 hd hv K)
theorem rr_iload_n {j : Fin 4} {i : Nat} {x : Int32} (hd : decode mt.2.1 pc = .ok (.iload_n j, 1)) (hi : (j : Nat) = i) (kk : Nat) (hk : lv[kk]? = some (i, .int x)) (k : RR l G mt rm fx rv w mc ms (pc + 1) lv (.int x :: st) h o) : RR l G mt rm fx rv w mc ms (pc) lv st h o :=
  k.lift (fun p e s m args below meth c H locs cells slots Q ad ls C L K => lv_iload_n C.1 C.2.1 hd hi (rr_la L kk hk) K)
theorem rr_iload {i : Nat} {x : Int32} (hd : decode mt.2.1 pc = .ok (.iload i, 2)) (kk : Nat) (hk : lv[kk]? = some (i, .int x)) (k : RR l G mt rm fx rv w mc ms (pc + 2) lv (.int x :: st) h o) : RR l G mt rm fx rv w mc ms (pc) lv st h o :=
  k.lift (fun p e s m args below meth c H locs cells slots Q ad ls C L K => lv_iload C.1 C.2.1 hd (rr_la L kk hk) K)
theorem rr_lload_n {j : Fin 4} {i : Nat} {x : Int64} (hd : decode mt.2.1 pc = .ok (.lload_n j, 1)) (hi : (j : Nat) = i) (kk : Nat) (hk : lv[kk]? = some (i, .long x)) (k : RR l G mt rm fx rv w mc ms (pc + 1) lv (.long x :: st) h o) : RR l G mt rm fx rv w mc ms (pc) lv st h o :=
  k.lift (fun p e s m args below meth c H locs cells slots Q ad ls C L K => lv_lload_n C.1 C.2.1 hd hi (rr_la L kk hk) K)
theorem rr_lload {i : Nat} {x : Int64} (hd : decode mt.2.1 pc = .ok (.lload i, 2)) (kk : Nat) (hk : lv[kk]? = some (i, .long x)) (k : RR l G mt rm fx rv w mc ms (pc + 2) lv (.long x :: st) h o) : RR l G mt rm fx rv w mc ms (pc) lv st h o :=
  k.lift (fun p e s m args below meth c H locs cells slots Q ad ls C L K => lv_lload C.1 C.2.1 hd (rr_la L kk hk) K)
theorem rr_aload_n {j : Fin 4} {i : Nat} {x : Nat} (hd : decode mt.2.1 pc = .ok (.aload_n j, 1)) (hi : (j : Nat) = i) (kk : Nat) (hk : lv[kk]? = some (i, .ref x)) (k : RR l G mt rm fx rv w mc ms (pc + 1) lv (.ref x :: st) h o) : RR l G mt rm fx rv w mc ms (pc) lv st h o :=
  k.lift (fun p e s m args below meth c H locs cells slots Q ad ls C L K => lv_aload_n C.1 C.2.1 hd hi (rr_la L kk hk) K)
theorem rr_aload {i : Nat} {x : Nat} (hd : decode mt.2.1 pc = .ok (.aload i, 2)) (kk : Nat) (hk : lv[kk]? = some (i, .ref x)) (k : RR l G mt rm fx rv w mc ms (pc + 2) lv (.ref x :: st) h o) : RR l G mt rm fx rv w mc ms (pc) lv st h o :=
  k.lift (fun p e s m args below meth c H locs cells slots Q ad ls C L K => lv_aload C.1 C.2.1 hd (rr_la L kk hk) K)
theorem rr_aload_nN {j : Fin 4} {i : Nat} (hd : decode mt.2.1 pc = .ok (.aload_n j, 1)) (hi : (j : Nat) = i) (kk : Nat) (hk : lv[kk]? = some (i, .null)) (k : RR l G mt rm fx rv w mc ms (pc + 1) lv (.null :: st) h o) : RR l G mt rm fx rv w mc ms (pc) lv st h o :=
  k.lift (fun p e s m args below meth c H locs cells slots Q ad ls C L K => lv_aload_nN C.1 C.2.1 hd hi (rr_la L kk hk) K)
theorem rr_aloadN {i : Nat} (hd : decode mt.2.1 pc = .ok (.aload i, 2)) (kk : Nat) (hk : lv[kk]? = some (i, .null)) (k : RR l G mt rm fx rv w mc ms (pc + 2) lv (.null :: st) h o) : RR l G mt rm fx rv w mc ms (pc) lv st h o :=
  k.lift (fun p e s m args below meth c H locs cells slots Q ad ls C L K => lv_aloadN C.1 C.2.1 hd (rr_la L kk hk) K)
theorem rr_iadd {x y : Int32} (hd : decode mt.2.1 pc = .ok (.iadd, 1))  (k : RR l G mt rm fx rv w mc ms (pc + 1) lv (.int (x + y) :: st) h o) : RR l G mt rm fx rv w mc ms (pc) lv (.int y :: .int x :: st) h o :=
  k.lift (fun p e s m args below meth c H locs cells slots Q ad ls C L K => lv_iadd C.1 C.2.1 hd K)
theorem rr_isub {x y : Int32} (hd : decode mt.2.1 pc = .ok (.isub, 1))  (k : RR l G mt rm fx rv w mc ms (pc + 1) lv (.int (x - y) :: st) h o) : RR l G mt rm fx rv w mc ms (pc) lv (.int y :: .int x :: st) h o :=
  k.lift (fun p e s m args below meth c H locs cells slots Q ad ls C L K => lv_isub C.1 C.2.1 hd K)
theorem rr_imul {x y : Int32} (hd : decode mt.2.1 pc = .ok (.imul, 1))  (k : RR l G mt rm fx rv w mc ms (pc + 1) lv (.int (x * y) :: st) h o) : RR l G mt rm fx rv w mc ms (pc) lv (.int y :: .int x :: st) h o :=
  k.lift (fun p e s m args below meth c H locs cells slots Q ad ls C L K => lv_imul C.1 C.2.1 hd K)
theorem rr_iand {x y : Int32} (hd : decode mt.2.1 pc = .ok (.iand, 1))  (k : RR l G mt rm fx rv w mc ms (pc + 1) lv (.int (x &&& y) :: st) h o) : RR l G mt rm fx rv w mc ms (pc) lv (.int y :: .int x :: st) h o :=
  k.lift (fun p e s m args below meth c H locs cells slots Q ad ls C L K => lv_iand C.1 C.2.1 hd K)
theorem rr_ior {x y : Int32} (hd : decode mt.2.1 pc = .ok (.ior, 1))  (k : RR l G mt rm fx rv w mc ms (pc + 1) lv (.int (x ||| y) :: st) h o) : RR l G mt rm fx rv w mc ms (pc) lv (.int y :: .int x :: st) h o :=
  k.lift (fun p e s m args below meth c H locs cells slots Q ad ls C L K => lv_ior C.1 C.2.1 hd K)
theorem rr_ixor {x y : Int32} (hd : decode mt.2.1 pc = .ok (.ixor, 1))  (k : RR l G mt rm fx rv w mc ms (pc + 1) lv (.int (x ^^^ y) :: st) h o) : RR l G mt rm fx rv w mc ms (pc) lv (.int y :: .int x :: st) h o :=
  k.lift (fun p e s m args below meth c H locs cells slots Q ad ls C L K => lv_ixor C.1 C.2.1 hd K)
theorem rr_ishl {x y : Int32} (hd : decode mt.2.1 pc = .ok (.ishl, 1))  (k : RR l G mt rm fx rv w mc ms (pc + 1) lv (.int (x <<< (y &&& 31)) :: st) h o) : RR l G mt rm fx rv w mc ms (pc) lv (.int y :: .int x :: st) h o :=
  k.lift (fun p e s m args below meth c H locs cells slots Q ad ls C L K => lv_ishl C.1 C.2.1 hd K)
theorem rr_ishr {x y : Int32} (hd : decode mt.2.1 pc = .ok (.ishr, 1))  (k : RR l G mt rm fx rv w mc ms (pc + 1) lv (.int (x >>> (y &&& 31)) :: st) h o) : RR l G mt rm fx rv w mc ms (pc) lv (.int y :: .int x :: st) h o :=
  k.lift (fun p e s m args below meth c H locs cells slots Q ad ls C L K => lv_ishr C.1 C.2.1 hd K)
theorem rr_idiv {x y : Int32} (hd : decode mt.2.1 pc = .ok (.idiv, 1)) (hne : ¬ y = 0) (k : RR l G mt rm fx rv w mc ms (pc + 1) lv (.int (x / y) :: st) h o) : RR l G mt rm fx rv w mc ms (pc) lv (.int y :: .int x :: st) h o :=
  k.lift (fun p e s m args below meth c H locs cells slots Q ad ls C L K => lv_idiv C.1 C.2.1 hd hne K)
theorem rr_irem {x y : Int32} (hd : decode mt.2.1 pc = .ok (.irem, 1)) (hne : ¬ y = 0) (k : RR l G mt rm fx rv w mc ms (pc + 1) lv (.int (x - x / y * y) :: st) h o) : RR l G mt rm fx rv w mc ms (pc) lv (.int y :: .int x :: st) h o :=
  k.lift (fun p e s m args below meth c H locs cells slots Q ad ls C L K => lv_irem C.1 C.2.1 hd hne K)
theorem rr_i2l {x : Int32} (hd : decode mt.2.1 pc = .ok (.i2l, 1))  (k : RR l G mt rm fx rv w mc ms (pc + 1) lv (.long x.toInt64 :: st) h o) : RR l G mt rm fx rv w mc ms (pc) lv (.int x :: st) h o :=
  k.lift (fun p e s m args below meth c H locs cells slots Q ad ls C L K => lv_i2l C.1 C.2.1 hd rfl K)
theorem rr_l2i {x : Int64} (hd : decode mt.2.1 pc = .ok (.l2i, 1))  (k : RR l G mt rm fx rv w mc ms (pc + 1) lv (.int x.toInt32 :: st) h o) : RR l G mt rm fx rv w mc ms (pc) lv (.long x :: st) h o :=
  k.lift (fun p e s m args below meth c H locs cells slots Q ad ls C L K => lv_l2i C.1 C.2.1 hd rfl K)
theorem rr_i2b {x : Int32} (hd : decode mt.2.1 pc = .ok (.i2b, 1))  (k : RR l G mt rm fx rv w mc ms (pc + 1) lv (.int x.toInt8.toInt32 :: st) h o) : RR l G mt rm fx rv w mc ms (pc) lv (.int x :: st) h o :=
  k.lift (fun p e s m args below meth c H locs cells slots Q ad ls C L K => lv_i2b C.1 C.2.1 hd rfl K)
theorem rr_lshl {x : Int64} {y : Int32} (hd : decode mt.2.1 pc = .ok (.lshl, 1))  (k : RR l G mt rm fx rv w mc ms (pc + 1) lv (.long (x <<< (y.toInt64 &&& 63)) :: st) h o) : RR l G mt rm fx rv w mc ms (pc) lv (.int y :: .long x :: st) h o :=
  k.lift (fun p e s m args below meth c H locs cells slots Q ad ls C L K => lv_lshl C.1 C.2.1 hd rfl K)
theorem rr_lshr {x : Int64} {y : Int32} (hd : decode mt.2.1 pc = .ok (.lshr, 1))  (k : RR l G mt rm fx rv w mc ms (pc + 1) lv (.long (x >>> (y.toInt64 &&& 63)) :: st) h o) : RR l G mt rm fx rv w mc ms (pc) lv (.int y :: .long x :: st) h o :=
  k.lift (fun p e s m args below meth c H locs cells slots Q ad ls C L K => lv_lshr C.1 C.2.1 hd rfl K)
theorem rr_lor {x y : Int64} (hd : decode mt.2.1 pc = .ok (.lor, 1))  (k : RR l G mt rm fx rv w mc ms (pc + 1) lv (.long (x ||| y) :: st) h o) : RR l G mt rm fx rv w mc ms (pc) lv (.long y :: .long x :: st) h o :=
  k.lift (fun p e s m args below meth c H locs cells slots Q ad ls C L K => lv_lor C.1 C.2.1 hd K)
theorem rr_lcmp {x y : Int64} (hd : decode mt.2.1 pc = .ok (.lcmp, 1))  (k : RR l G mt rm fx rv w mc ms (pc + 1) lv (.int (lg_cmp x y) :: st) h o) : RR l G mt rm fx rv w mc ms (pc) lv (.long y :: .long x :: st) h o :=
  k.lift (fun p e s m args below meth c H locs cells slots Q ad ls C L K => W.lcmp C.1 C.2.1 hd K)
theorem rr_dup {v : Value} (hd : decode mt.2.1 pc = .ok (.dup, 1)) (hc : v.category = 1) (k : RR l G mt rm fx rv w mc ms (pc + 1) lv (v :: v :: st) h o) : RR l G mt rm fx rv w mc ms (pc) lv (v :: st) h o :=
  k.lift (fun p e s m args below meth c H locs cells slots Q ad ls C L K => lv_dup C.1 C.2.1 hd (by rw [a_v_cat]; exact hc) K)
theorem rr_dup2 {v u : Value} (hd : decode mt.2.1 pc = .ok (.dup2, 1)) (hc : v.category = 1) (hu : u.category = 1) (k : RR l G mt rm fx rv w mc ms (pc + 1) lv (v :: u :: v :: u :: st) h o) : RR l G mt rm fx rv w mc ms (pc) lv (v :: u :: st) h o :=
  k.lift (fun p e s m args below meth c H locs cells slots Q ad ls C L K => lv_dup2_11 C.1 C.2.1 hd (by rw [a_v_cat]; exact hc) (by rw [a_v_cat]; exact hu) K)
theorem rr_goto {off : Int} {tgt : Nat} (hd : decode mt.2.1 pc = .ok (.goto off, 3)) (ht : (pc : Int) + off = (tgt : Int)) (k : RR l G mt rm fx rv w mc ms (tgt) lv st h o) : RR l G mt rm fx rv w mc ms (pc) lv st h o :=
  k.lift (fun p e s m args below meth c H locs cells slots Q ad ls C L K => lv_goto C.1 C.2.1 hd ht K)
theorem rr_ldc {idx : Nat} {v : Int32} (hd : decode mt.2.1 pc = .ok (.ldc idx, 2)) (hw : Cond.constant mt.1.cls idx v ∈ rr_ws) (k : RR l G mt rm fx rv w mc ms (pc + 2) lv (.int v :: st) h o) : RR l G mt rm fx rv w mc ms (pc) lv st h o :=
  k.lift (fun p e s m args below meth c H locs cells slots Q ad ls C L K => lv_ldc C.1 C.2.1 C.2.2.2.1 (C.2.2.2.2.1 _ hw) hd K)
theorem rr_null  (hd : decode mt.2.1 pc = .ok (.aconst_null, 1))  (k : RR l G mt rm fx rv w mc ms (pc + 1) lv (.null :: st) h o) : RR l G mt rm fx rv w mc ms (pc) lv st h o :=
  k.lift (fun p e s m args below meth c H locs cells slots Q ad ls C L K => lv_null C.1 C.2.1 hd K)
theorem rr_ifnull {off : Int} {x : Nat} (hd : decode mt.2.1 pc = .ok (.ifnull off, 3))  (k : RR l G mt rm fx rv w mc ms (pc + 3) lv st h o) : RR l G mt rm fx rv w mc ms (pc) lv (.ref x :: st) h o :=
  k.lift (fun p e s m args below meth c H locs cells slots Q ad ls C L K => lv_ifnull C.1 C.2.1 hd K)
theorem rr_ifnonnull {off : Int} {x tgt : Nat} (hd : decode mt.2.1 pc = .ok (.ifnonnull off, 3)) (ht : (pc : Int) + off = (tgt : Int)) (k : RR l G mt rm fx rv w mc ms (tgt) lv st h o) : RR l G mt rm fx rv w mc ms (pc) lv (.ref x :: st) h o :=
  k.lift (fun p e s m args below meth c H locs cells slots Q ad ls C L K => lv_ifnonnull C.1 C.2.1 hd ht K)
theorem rr_ifnullN {off : Int} {tgt : Nat} (hd : decode mt.2.1 pc = .ok (.ifnull off, 3)) (ht : (pc : Int) + off = (tgt : Int)) (k : RR l G mt rm fx rv w mc ms (tgt) lv st h o) : RR l G mt rm fx rv w mc ms (pc) lv (.null :: st) h o :=
  k.lift (fun p e s m args below meth c H locs cells slots Q ad ls C L K => lv_ifnullN C.1 C.2.1 hd ht K)
theorem rr_ifnonnullN {off : Int} (hd : decode mt.2.1 pc = .ok (.ifnonnull off, 3))  (k : RR l G mt rm fx rv w mc ms (pc + 3) lv st h o) : RR l G mt rm fx rv w mc ms (pc) lv (.null :: st) h o :=
  k.lift (fun p e s m args below meth c H locs cells slots Q ad ls C L K => lv_ifnonnullN C.1 C.2.1 hd K)
theorem rr_tableOut {dflt lo hi : Int} {offs : Array Int} {len : Nat} {x : Int32} {tgt : Nat} (hd : decode mt.2.1 pc = .ok (.tableswitch dflt lo hi offs, len)) (hx : x.toInt < lo ∨ hi < x.toInt) (ht : (pc : Int) + dflt = (tgt : Int)) (k : RR l G mt rm fx rv w mc ms (tgt) lv st h o) : RR l G mt rm fx rv w mc ms (pc) lv (.int x :: st) h o :=
  k.lift (fun p e s m args below meth c H locs cells slots Q ad ls C L K => lv_tableOut C.1 C.2.1 hd hx ht K)
theorem rr_tableIn {dflt lo hi : Int} {offs : Array Int} {len : Nat} {x : Int32} {off : Int} {tgt : Nat} (hd : decode mt.2.1 pc = .ok (.tableswitch dflt lo hi offs, len)) (h1 : ¬ x.toInt < lo) (h2 : ¬ hi < x.toInt) (ho : offs[(x.toInt - lo).toNat]? = some off) (ht : (pc : Int) + off = (tgt : Int)) (k : RR l G mt rm fx rv w mc ms (tgt) lv st h o) : RR l G mt rm fx rv w mc ms (pc) lv (.int x :: st) h o :=
  k.lift (fun p e s m args below meth c H locs cells slots Q ad ls C L K => lv_tableIn C.1 C.2.1 hd h1 h2 ho ht K)
theorem rr_lookup {dflt : Int} {ps : Array (Int × Int)} {len : Nat} {x : Int32} {off : Int} {tgt : Nat} (hd : decode mt.2.1 pc = .ok (.lookupswitch dflt ps, len)) (hp : (ps.toList.zip (ps.toList.drop 1)).all (fun (a, next) => a.1 < next.1) = true) (ho : Op.lookupswitch.offset ps.toList dflt x.toInt = off) (ht : (pc : Int) + off = (tgt : Int)) (k : RR l G mt rm fx rv w mc ms (tgt) lv st h o) : RR l G mt rm fx rv w mc ms (pc) lv (.int x :: st) h o :=
  k.lift (fun p e s m args below meth c H locs cells slots Q ad ls C L K => lv_lookup C.1 C.2.1 hd hp ho ht K)
theorem rr_istore_n {j : Fin 4} {i : Nat} {x : Int32} {lv' : List (Nat × Value)} (hd : decode mt.2.1 pc = .ok (.istore_n j, 1)) (hi : (j : Nat) = i) (hn : i < mt.2.2.1) (hl : (i, .int x) :: lv.filter (fun q => !(q.1 == i) && !(q.1 + 1 == i && q.2.category == 2)) = lv') (k : RR l G mt rm fx rv w mc ms (pc + 1) lv' st h o) : RR l G mt rm fx rv w mc ms (pc) lv (.int x :: st) h o :=
  k.liftL (fun p e s m args below meth c H locs cells slots Q ad ls C L K => lv_istore_n C.1 C.2.1 hd hi L hn (by rw [← hl]; exact rr_Lf1 ad i (.int x)) K)
theorem rr_istore {i : Nat} {x : Int32} {lv' : List (Nat × Value)} (hd : decode mt.2.1 pc = .ok (.istore i, 2))  (hn : i < mt.2.2.1) (hl : (i, .int x) :: lv.filter (fun q => !(q.1 == i) && !(q.1 + 1 == i && q.2.category == 2)) = lv') (k : RR l G mt rm fx rv w mc ms (pc + 2) lv' st h o) : RR l G mt rm fx rv w mc ms (pc) lv (.int x :: st) h o :=
  k.liftL (fun p e s m args below meth c H locs cells slots Q ad ls C L K => lv_istore C.1 C.2.1 hd  L hn (by rw [← hl]; exact rr_Lf1 ad i (.int x)) K)
theorem rr_lstore_n {j : Fin 4} {i : Nat} {x : Int64} {lv' : List (Nat × Value)} (hd : decode mt.2.1 pc = .ok (.lstore_n j, 1)) (hi : (j : Nat) = i) (hn : i + 1 < mt.2.2.1) (hl : (i, .long x) :: lv.filter (fun q => !(q.1 == i) && (!(q.1 == i + 1) && !(q.1 + 1 == i && q.2.category == 2))) = lv') (k : RR l G mt rm fx rv w mc ms (pc + 1) lv' st h o) : RR l G mt rm fx rv w mc ms (pc) lv (.long x :: st) h o :=
  k.liftL (fun p e s m args below meth c H locs cells slots Q ad ls C L K => lv_lstore_n C.1 C.2.1 hd hi L hn (by rw [← hl]; exact rr_Lf2 ad i (.long x)) K)
theorem rr_lstore {i : Nat} {x : Int64} {lv' : List (Nat × Value)} (hd : decode mt.2.1 pc = .ok (.lstore i, 2))  (hn : i + 1 < mt.2.2.1) (hl : (i, .long x) :: lv.filter (fun q => !(q.1 == i) && (!(q.1 == i + 1) && !(q.1 + 1 == i && q.2.category == 2))) = lv') (k : RR l G mt rm fx rv w mc ms (pc + 2) lv' st h o) : RR l G mt rm fx rv w mc ms (pc) lv (.long x :: st) h o :=
  k.liftL (fun p e s m args below meth c H locs cells slots Q ad ls C L K => lv_lstore C.1 C.2.1 hd  L hn (by rw [← hl]; exact rr_Lf2 ad i (.long x)) K)
theorem rr_astore_n {j : Fin 4} {i : Nat} {x : Nat} {lv' : List (Nat × Value)} (hd : decode mt.2.1 pc = .ok (.astore_n j, 1)) (hi : (j : Nat) = i) (hn : i < mt.2.2.1) (hl : (i, .ref x) :: lv.filter (fun q => !(q.1 == i) && !(q.1 + 1 == i && q.2.category == 2)) = lv') (k : RR l G mt rm fx rv w mc ms (pc + 1) lv' st h o) : RR l G mt rm fx rv w mc ms (pc) lv (.ref x :: st) h o :=
  k.liftL (fun p e s m args below meth c H locs cells slots Q ad ls C L K => lv_astore_n C.1 C.2.1 hd hi L hn (by rw [← hl]; exact rr_Lf1 ad i (.ref x)) K)
theorem rr_astore {i : Nat} {x : Nat} {lv' : List (Nat × Value)} (hd : decode mt.2.1 pc = .ok (.astore i, 2))  (hn : i < mt.2.2.1) (hl : (i, .ref x) :: lv.filter (fun q => !(q.1 == i) && !(q.1 + 1 == i && q.2.category == 2)) = lv') (k : RR l G mt rm fx rv w mc ms (pc + 2) lv' st h o) : RR l G mt rm fx rv w mc ms (pc) lv (.ref x :: st) h o :=
  k.liftL (fun p e s m args below meth c H locs cells slots Q ad ls C L K => lv_astore C.1 C.2.1 hd  L hn (by rw [← hl]; exact rr_Lf1 ad i (.ref x)) K)
theorem rr_astore_nN {j : Fin 4} {i : Nat} {lv' : List (Nat × Value)} (hd : decode mt.2.1 pc = .ok (.astore_n j, 1)) (hi : (j : Nat) = i) (hn : i < mt.2.2.1) (hl : (i, .null) :: lv.filter (fun q => !(q.1 == i) && !(q.1 + 1 == i && q.2.category == 2)) = lv') (k : RR l G mt rm fx rv w mc ms (pc + 1) lv' st h o) : RR l G mt rm fx rv w mc ms (pc) lv (.null :: st) h o :=
  k.liftL (fun p e s m args below meth c H locs cells slots Q ad ls C L K => lv_astore_nN C.1 C.2.1 hd hi L hn (by rw [← hl]; exact rr_Lf1 ad i (.null)) K)
theorem rr_astoreN {i : Nat} {lv' : List (Nat × Value)} (hd : decode mt.2.1 pc = .ok (.astore i, 2))  (hn : i < mt.2.2.1) (hl : (i, .null) :: lv.filter (fun q => !(q.1 == i) && !(q.1 + 1 == i && q.2.category == 2)) = lv') (k : RR l G mt rm fx rv w mc ms (pc + 2) lv' st h o) : RR l G mt rm fx rv w mc ms (pc) lv (.null :: st) h o :=
  k.liftL (fun p e s m args below meth c H locs cells slots Q ad ls C L K => lv_astoreN C.1 C.2.1 hd  L hn (by rw [← hl]; exact rr_Lf1 ad i (.null)) K)
theorem rr_iinc {i : Nat} {n : Int} {x : Int32} {lv' : List (Nat × Value)} (hd : decode mt.2.1 pc = .ok (.iinc i n, 3)) (kk : Nat) (hk : lv[kk]? = some (i, .int x)) (hn : i < mt.2.2.1) (hl : (i, .int (x + Int32.ofInt n)) :: lv.filter (fun q => !(q.1 == i) && !(q.1 + 1 == i && q.2.category == 2)) = lv') (k : RR l G mt rm fx rv w mc ms (pc + 3) lv' st h o) : RR l G mt rm fx rv w mc ms pc lv st h o :=
  k.liftL (fun p e s m args below meth c H locs cells slots Q ad ls C L K => lv_iinc C.1 C.2.1 hd L (k := kk) (by rw [rr_L, List.getElem?_map, hk]; rfl) rfl hn (by rw [← hl]; exact rr_Lf1 ad i (.int (x + Int32.ofInt n))) K)
theorem rr_if_eq {x : Int32} {a b : Option σ} {off : Int} {tgt : Nat} (hd : decode mt.2.1 pc = .ok (.ifCond .eq off, 3)) (ht : (pc : Int) + off = (tgt : Int)) (kt : x = 0 → RR l G mt rm fx rv w mc ms (tgt) lv st h a) (kf : ¬ x = 0 → RR l G mt rm fx rv w mc ms (pc + 3) lv st h b) : RR l G mt rm fx rv w mc ms (pc) lv (.int x :: st) h (if x = 0 then a else b) :=
  fun q ho p e s m args below meth c ad0 ad A H locs cells slots ls C S L hc hs => lv_if_eq C.1 C.2.1 hd ht (fun c' => kt c' q (by rw [if_pos c'] at ho; exact ho) p e s m args below meth c ad0 ad A H locs cells slots ls C S L hc hs) (fun c' => kf c' q (by rw [if_neg c'] at ho; exact ho) p e s m args below meth c ad0 ad A H locs cells slots ls C S L hc hs)
theorem rr_if_ne {x : Int32} {a b : Option σ} {off : Int} {tgt : Nat} (hd : decode mt.2.1 pc = .ok (.ifCond .ne off, 3)) (ht : (pc : Int) + off = (tgt : Int)) (kt : ¬ x = 0 → RR l G mt rm fx rv w mc ms (tgt) lv st h b) (kf : x = 0 → RR l G mt rm fx rv w mc ms (pc + 3) lv st h a) : RR l G mt rm fx rv w mc ms (pc) lv (.int x :: st) h (if x = 0 then a else b) :=
  fun q ho p e s m args below meth c ad0 ad A H locs cells slots ls C S L hc hs => lv_if_ne C.1 C.2.1 hd ht (fun c' => kt c' q (by rw [if_neg c'] at ho; exact ho) p e s m args below meth c ad0 ad A H locs cells slots ls C S L hc hs) (fun c' => kf c' q (by rw [if_pos c'] at ho; exact ho) p e s m args below meth c ad0 ad A H locs cells slots ls C S L hc hs)
theorem rr_if_lt {x : Int32} {a b : Option σ} {off : Int} {tgt : Nat} (hd : decode mt.2.1 pc = .ok (.ifCond .lt off, 3)) (ht : (pc : Int) + off = (tgt : Int)) (kt : x < 0 → RR l G mt rm fx rv w mc ms (tgt) lv st h a) (kf : ¬ x < 0 → RR l G mt rm fx rv w mc ms (pc + 3) lv st h b) : RR l G mt rm fx rv w mc ms (pc) lv (.int x :: st) h (if x < 0 then a else b) :=
  fun q ho p e s m args below meth c ad0 ad A H locs cells slots ls C S L hc hs => lv_if_lt C.1 C.2.1 hd ht (fun c' => kt c' q (by rw [if_pos c'] at ho; exact ho) p e s m args below meth c ad0 ad A H locs cells slots ls C S L hc hs) (fun c' => kf c' q (by rw [if_neg c'] at ho; exact ho) p e s m args below meth c ad0 ad A H locs cells slots ls C S L hc hs)
theorem rr_if_ge {x : Int32} {a b : Option σ} {off : Int} {tgt : Nat} (hd : decode mt.2.1 pc = .ok (.ifCond .ge off, 3)) (ht : (pc : Int) + off = (tgt : Int)) (kt : 0 ≤ x → RR l G mt rm fx rv w mc ms (tgt) lv st h a) (kf : ¬ 0 ≤ x → RR l G mt rm fx rv w mc ms (pc + 3) lv st h b) : RR l G mt rm fx rv w mc ms (pc) lv (.int x :: st) h (if 0 ≤ x then a else b) :=
  fun q ho p e s m args below meth c ad0 ad A H locs cells slots ls C S L hc hs => lv_if_ge C.1 C.2.1 hd ht (fun c' => kt c' q (by rw [if_pos c'] at ho; exact ho) p e s m args below meth c ad0 ad A H locs cells slots ls C S L hc hs) (fun c' => kf c' q (by rw [if_neg c'] at ho; exact ho) p e s m args below meth c ad0 ad A H locs cells slots ls C S L hc hs)
theorem rr_if_gt {x : Int32} {a b : Option σ} {off : Int} {tgt : Nat} (hd : decode mt.2.1 pc = .ok (.ifCond .gt off, 3)) (ht : (pc : Int) + off = (tgt : Int)) (kt : 0 < x → RR l G mt rm fx rv w mc ms (tgt) lv st h a) (kf : ¬ 0 < x → RR l G mt rm fx rv w mc ms (pc + 3) lv st h b) : RR l G mt rm fx rv w mc ms (pc) lv (.int x :: st) h (if 0 < x then a else b) :=
  fun q ho p e s m args below meth c ad0 ad A H locs cells slots ls C S L hc hs => lv_if_gt C.1 C.2.1 hd ht (fun c' => kt c' q (by rw [if_pos c'] at ho; exact ho) p e s m args below meth c ad0 ad A H locs cells slots ls C S L hc hs) (fun c' => kf c' q (by rw [if_neg c'] at ho; exact ho) p e s m args below meth c ad0 ad A H locs cells slots ls C S L hc hs)
theorem rr_if_le {x : Int32} {a b : Option σ} {off : Int} {tgt : Nat} (hd : decode mt.2.1 pc = .ok (.ifCond .le off, 3)) (ht : (pc : Int) + off = (tgt : Int)) (kt : x ≤ 0 → RR l G mt rm fx rv w mc ms (tgt) lv st h a) (kf : ¬ x ≤ 0 → RR l G mt rm fx rv w mc ms (pc + 3) lv st h b) : RR l G mt rm fx rv w mc ms (pc) lv (.int x :: st) h (if x ≤ 0 then a else b) :=
  fun q ho p e s m args below meth c ad0 ad A H locs cells slots ls C S L hc hs => lv_if_le C.1 C.2.1 hd ht (fun c' => kt c' q (by rw [if_pos c'] at ho; exact ho) p e s m args below meth c ad0 ad A H locs cells slots ls C S L hc hs) (fun c' => kf c' q (by rw [if_neg c'] at ho; exact ho) p e s m args below meth c ad0 ad A H locs cells slots ls C S L hc hs)
theorem rr_icmp_eq {x y : Int32} {a b : Option σ} {off : Int} {tgt : Nat} (hd : decode mt.2.1 pc = .ok (.if_icmp .eq off, 3)) (ht : (pc : Int) + off = (tgt : Int)) (kt : x = y → RR l G mt rm fx rv w mc ms (tgt) lv st h a) (kf : ¬ x = y → RR l G mt rm fx rv w mc ms (pc + 3) lv st h b) : RR l G mt rm fx rv w mc ms (pc) lv (.int y :: .int x :: st) h (if x = y then a else b) :=
  fun q ho p e s m args below meth c ad0 ad A H locs cells slots ls C S L hc hs => lv_icmp_eq C.1 C.2.1 hd ht (fun c' => kt c' q (by rw [if_pos c'] at ho; exact ho) p e s m args below meth c ad0 ad A H locs cells slots ls C S L hc hs) (fun c' => kf c' q (by rw [if_neg c'] at ho; exact ho) p e s m args below meth c ad0 ad A H locs cells slots ls C S L hc hs)
theorem rr_icmp_ne {x y : Int32} {a b : Option σ} {off : Int} {tgt : Nat} (hd : decode mt.2.1 pc = .ok (.if_icmp .ne off, 3)) (ht : (pc : Int) + off = (tgt : Int)) (kt : ¬ x = y → RR l G mt rm fx rv w mc ms (tgt) lv st h b) (kf : x = y → RR l G mt rm fx rv w mc ms (pc + 3) lv st h a) : RR l G mt rm fx rv w mc ms (pc) lv (.int y :: .int x :: st) h (if x = y then a else b) :=
  fun q ho p e s m args below meth c ad0 ad A H locs cells slots ls C S L hc hs => lv_icmp_ne C.1 C.2.1 hd ht (fun c' => kt c' q (by rw [if_neg c'] at ho; exact ho) p e s m args below meth c ad0 ad A H locs cells slots ls C S L hc hs) (fun c' => kf c' q (by rw [if_pos c'] at ho; exact ho) p e s m args below meth c ad0 ad A H locs cells slots ls C S L hc hs)
theorem rr_icmp_lt {x y : Int32} {a b : Option σ} {off : Int} {tgt : Nat} (hd : decode mt.2.1 pc = .ok (.if_icmp .lt off, 3)) (ht : (pc : Int) + off = (tgt : Int)) (kt : x < y → RR l G mt rm fx rv w mc ms (tgt) lv st h a) (kf : ¬ x < y → RR l G mt rm fx rv w mc ms (pc + 3) lv st h b) : RR l G mt rm fx rv w mc ms (pc) lv (.int y :: .int x :: st) h (if x < y then a else b) :=
  fun q ho p e s m args below meth c ad0 ad A H locs cells slots ls C S L hc hs => lv_icmp_lt C.1 C.2.1 hd ht (fun c' => kt c' q (by rw [if_pos c'] at ho; exact ho) p e s m args below meth c ad0 ad A H locs cells slots ls C S L hc hs) (fun c' => kf c' q (by rw [if_neg c'] at ho; exact ho) p e s m args below meth c ad0 ad A H locs cells slots ls C S L hc hs)
theorem rr_icmp_ge {x y : Int32} {a b : Option σ} {off : Int} {tgt : Nat} (hd : decode mt.2.1 pc = .ok (.if_icmp .ge off, 3)) (ht : (pc : Int) + off = (tgt : Int)) (kt : y ≤ x → RR l G mt rm fx rv w mc ms (tgt) lv st h a) (kf : ¬ y ≤ x → RR l G mt rm fx rv w mc ms (pc + 3) lv st h b) : RR l G mt rm fx rv w mc ms (pc) lv (.int y :: .int x :: st) h (if y ≤ x then a else b) :=
  fun q ho p e s m args below meth c ad0 ad A H locs cells slots ls C S L hc hs => lv_icmp_ge C.1 C.2.1 hd ht (fun c' => kt c' q (by rw [if_pos c'] at ho; exact ho) p e s m args below meth c ad0 ad A H locs cells slots ls C S L hc hs) (fun c' => kf c' q (by rw [if_neg c'] at ho; exact ho) p e s m args below meth c ad0 ad A H locs cells slots ls C S L hc hs)
theorem rr_icmp_gt {x y : Int32} {a b : Option σ} {off : Int} {tgt : Nat} (hd : decode mt.2.1 pc = .ok (.if_icmp .gt off, 3)) (ht : (pc : Int) + off = (tgt : Int)) (kt : y < x → RR l G mt rm fx rv w mc ms (tgt) lv st h a) (kf : ¬ y < x → RR l G mt rm fx rv w mc ms (pc + 3) lv st h b) : RR l G mt rm fx rv w mc ms (pc) lv (.int y :: .int x :: st) h (if y < x then a else b) :=
  fun q ho p e s m args below meth c ad0 ad A H locs cells slots ls C S L hc hs => lv_icmp_gt C.1 C.2.1 hd ht (fun c' => kt c' q (by rw [if_pos c'] at ho; exact ho) p e s m args below meth c ad0 ad A H locs cells slots ls C S L hc hs) (fun c' => kf c' q (by rw [if_neg c'] at ho; exact ho) p e s m args below meth c ad0 ad A H locs cells slots ls C S L hc hs)
theorem rr_icmp_le {x y : Int32} {a b : Option σ} {off : Int} {tgt : Nat} (hd : decode mt.2.1 pc = .ok (.if_icmp .le off, 3)) (ht : (pc : Int) + off = (tgt : Int)) (kt : x ≤ y → RR l G mt rm fx rv w mc ms (tgt) lv st h a) (kf : ¬ x ≤ y → RR l G mt rm fx rv w mc ms (pc + 3) lv st h b) : RR l G mt rm fx rv w mc ms (pc) lv (.int y :: .int x :: st) h (if x ≤ y then a else b) :=
  fun q ho p e s m args below meth c ad0 ad A H locs cells slots ls C S L hc hs => lv_icmp_le C.1 C.2.1 hd ht (fun c' => kt c' q (by rw [if_pos c'] at ho; exact ho) p e s m args below meth c ad0 ad A H locs cells slots ls C S L hc hs) (fun c' => kf c' q (by rw [if_neg c'] at ho; exact ho) p e s m args below meth c ad0 ad A H locs cells slots ls C S L hc hs)
/-- o is a choice: either way -/
theorem rr_ite {c : Prop} [Decidable c] {a b : Option σ} (kt : c → RR l G mt rm fx rv w mc ms pc lv st h a) (kf : ¬ c → RR l G mt rm fx rv w mc ms pc lv st h b) : RR l G mt rm fx rv w mc ms pc lv st h (if c then a else b) := by
  by_cases hc : c
  · rw [if_pos hc]; exact kt hc
  · rw [if_neg hc]; exact kf hc
/-- o is guarded -/
theorem rr_if {c : Prop} [Decidable c] {a : Option σ} (kt : c → RR l G mt rm fx rv w mc ms pc lv st h a) : RR l G mt rm fx rv w mc ms pc lv st h (if c then a else none) := rr_ite kt (fun _ q hq => by cases hq)
theorem rr_none : RR l G mt rm fx rv w mc ms pc lv st h none := fun q hq => by cases hq
theorem rr_eq {o' : Option σ} (e : o = o') (k : RR l G mt rm fx rv w mc ms pc lv st h o') : RR l G mt rm fx rv w mc ms pc lv st h o := e ▸ k
theorem rr_heap {h' : rr_H} (e : h = h') (k : RR l G mt rm fx rv w mc ms pc lv st h' o) : RR l G mt rm fx rv w mc ms pc lv st h o := e ▸ k
/-- less room is wanted -/
theorem rr_less {mc' ms' : Nat} (h1 : mc' ≤ mc) (h2 : ms' ≤ ms) (k : RR l G mt rm fx rv w mc' ms' pc lv st h o) : RR l G mt rm fx rv w mc ms pc lv st h o :=
  fun q ho p e s m args below meth c ad0 ad A H locs cells slots ls C S L hc hs => k q ho p e s m args below meth c ad0 ad A H locs cells slots ls C S L (by omega) (by omega)
/-! the ends -/
theorem rr_ret {S : σ} {v : Option Value} (hv : rv S = v) (hw : w S = h) (g : ∀ (p : Program) (e : Env) (s : State) (m : MethodId) (args : Array Value) (below : List Frame) (meth : Method) (c : Code) (H : Heap) (locs : List Loc) (ad : Nat → Nat) (ls : Array Slot) (Qc : Array Value → State → Outcome → State → Prop) (free : Addr → Prop), rr_C G mt p s m args meth c → (∀ t : State, t.heap = H → s.WarmedH t.vm → Qc args s (.returned (v.map (a_v ad))) t) → (∀ q ∈ locs, free q.base) → W p l e rm s m args below meth c H locs rm.cells rm.slots (MQ below Qc args s rm.cells rm.slots free) (F0 m pc ls (st.map (a_v ad)))) : RR l G mt rm fx rv w mc ms pc lv st h (some S) := by
  intro q ho p e s m args below meth c ad0 ad A H locs cells slots ls C X L hc hs
  cases ho
  subst hw
  subst hv
  refine W.widen (k := rm.cells) (n := rm.slots) (by omega) (by omega) ?_
  obtain ⟨hP, hD, hS, hA, hf⟩ := X
  exact g p e s m args below meth c H locs ad ls _ _ C (fun t ht hW => ⟨⟨ad, hf, rfl, by rw [ht]; exact hP, va_K.moved hW.alike C.2.2.2.2.2.2.2.2.1, hD⟩, hS.F ht⟩) hS.2.2
theorem rr_iret {S : σ} {v : Int32} (hd : decode mt.2.1 pc = .ok (.ireturn, 1)) (hr : mt.2.2.2 = some .int) (hv : rv S = some (.int v)) (hw : w S = h) : RR l G mt rm fx rv w mc ms pc lv [.int v] h (some S) :=
  rr_ret hv hw (fun p e s m args below meth c H locs ad ls Qc free C hq hf => W.iret C.1 C.2.1 (C.2.2.2.2.2.1.trans hr) hq hf hd C.2.2.2.2.2.2.1)
theorem rr_zret {S : σ} {v : Int32} (hd : decode mt.2.1 pc = .ok (.ireturn, 1)) (hr : mt.2.2.2 = some .boolean) (hn : v &&& 1 = v) (hv : rv S = some (.int v)) (hw : w S = h) : RR l G mt rm fx rv w mc ms pc lv [.int v] h (some S) :=
  rr_ret hv hw (fun p e s m args below meth c H locs ad ls Qc free C hq hf => W.zret C.1 C.2.1 (C.2.2.2.2.2.1.trans hr) (by show Value.int (v &&& 1) = .int v; rw [hn]) hq hf hd C.2.2.2.2.2.2.1)
theorem rr_lret {S : σ} {v : Int64} (hd : decode mt.2.1 pc = .ok (.lreturn, 1)) (hr : mt.2.2.2 = some .long) (hv : rv S = some (.long v)) (hw : w S = h) : RR l G mt rm fx rv w mc ms pc lv [.long v] h (some S) :=
  rr_ret hv hw (fun p e s m args below meth c H locs ad ls Qc free C hq hf => W.lret C.1 C.2.1 (C.2.2.2.2.2.1.trans hr) hq hf hd C.2.2.2.2.2.2.1)
theorem rr_vret {S : σ} (hd : decode mt.2.1 pc = .ok (.return_, 1)) (hr : mt.2.2.2 = none) (hv : rv S = none) (hw : w S = h) : RR l G mt rm fx rv w mc ms pc lv [] h (some S) :=
  rr_ret hv hw (fun p e s m args below meth c H locs ad ls Qc free C hq hf => W.vret C.1 C.2.1 (C.2.2.2.2.2.1.trans hr) hq hf hd C.2.2.2.2.2.2.1)
theorem rr_aret {S : σ} {v : Value} {rt : FieldType} (hd : decode mt.2.1 pc = .ok (.areturn, 1)) (hr : mt.2.2.2 = some rt) (hrt : (∃ n, rt = .object n) ∨ ∃ t, rt = .array t) (hvv : v = .null ∨ ∃ a, v = .ref a) (hv : rv S = some v) (hw : w S = h) : RR l G mt rm fx rv w mc ms pc lv [v] h (some S) :=
  rr_ret hv hw (fun p e s m args below meth c H locs ad ls Qc free C hq hf => W.aret (v := a_v ad v) C.1 C.2.1 (C.2.2.2.2.2.1.trans hr) hrt (hvv.elim (fun e => Or.inl (by rw [e]; rfl)) (fun ⟨a, e⟩ => Or.inr ⟨ad a, by rw [e]; rfl⟩)) hq hf hd C.2.2.2.2.2.2.1)
end RROWS
end
section
/-! ===== rows that read and write the world ===== -/
section RHEAP
variable {σ : Type} {l : Launch} {G : rr_G} {mt : rr_M} {rm : Room} {fx : Nat → Bool} {rv : σ → Option Value} {w : σ → rr_H} {mc ms pc : Nat} {lv : List (Nat × Value)} {st : List Value} {h : rr_H} {o : Option σ}
theorem rr_at0 {cy : Nat → ClassId} {ad : Nat → Nat} {n : Nat} {c : va_E} (hc : h[n]? = some (some c)) : (a_w cy ad 0 h)[a_k h n]? = some (ad n, a_c cy ad c) := by
  have := a_w_at cy ad h 0 n c hc
  rwa [Nat.zero_add] at this
theorem rr_set0 {cy : Nat → ClassId} {ad : Nat → Nat} {n : Nat} {c : va_E} (c' : va_E) (hc : h[n]? = some (some c)) : (a_w cy ad 0 h).set (a_k h n) (ad n, a_c cy ad c') = a_w cy ad 0 (h.set n (some c')) := by
  have := a_w_set cy ad c' h 0 n c hc
  rwa [Nat.zero_add] at this
/-- what a field's row wants of the tables: the class's own link, or a nest mate's -/
def rr_lk (own : String) (idx : Nat) (C : String) (T : u_T) (k : Nat) : Prop := Cond.fieldLink own idx C (T k).2.1 (T k).2.2.1 ∈ rr_ws ∨ ∃ host, Cond.fieldLinkNest own idx C (T k).2.1 (T k).2.2.1 host ∈ rr_ns
/-- what the tables say of class ci -/
def rr_cl (ci : Nat) (C : String) (T : u_T) (N : Nat) (ty : Nat → FieldType) : Prop := vwCl[ci]? = some (C, T, N) ∧ (∀ w ∈ u_ws C T N, w ∈ rr_ws) ∧ (∀ k, k < N → parseFieldDescriptor (T k).2.2.1 = some (ty k)) ∧ (∀ a, a < N → ∀ b, b < N → a ≠ b → (T a).2.1 ≠ (T b).2.1) ∧ ∀ k, k < N → (T k).1 = C
theorem rr_get {ci N idx n k : Nat} {C : String} {T : u_T} {ty : Nat → FieldType} {fs : List Value} {v : Value} (hc : rr_cl ci C T N ty) (hlk : rr_lk mt.1.cls idx C T k) (hk : k < N) (hn : h[n]? = some (some (.inr (ci, fs)))) (hv : fs[k]? = some v) (hd : decode mt.2.1 pc = .ok (.getfield idx, 3)) (kk : RR l G mt rm fx rv w mc ms (pc + 3) lv (v :: st) h o) : RR l G mt rm fx rv w mc ms pc lv (.ref n :: st) h o := by
  intro q ho p e s m args below meth c ad0 ad A H locs cells slots ls C X L hcc hs
  have K := kk q ho p e s m args below meth c ad0 ad A H locs cells slots ls C X L hcc hs
  obtain ⟨hP, hD, hS, hA, hf⟩ := X
  obtain ⟨hx, hb, hml, hown, hts, hr, hlo, hnm, hK⟩ := C
  obtain ⟨c1, c2, c3, c4, c5⟩ := hc
  have hv' : (fs.map (a_v ad))[k]? = some (a_v ad v) := by rw [List.getElem?_map, hv]; rfl
  rcases hlk with hl | ⟨host, hl⟩
  · exact va_get (D := rr_D G) (ci := ci) hx hb hts c2 hown hK.1 hP _ (rr_at0 hn) c1 k hk (hts _ hl) (fun x hx => by rw [c5 k hk] at hx; exact hx) hv' hd K
  · exact va_getN (D := rr_D G) (ci := ci) hx hb hts c2 hown hK.1 hP _ (rr_at0 hn) c1 k hk (va_Nw.use rfl (hK.2 _ hl)) (fun x hx => by rw [c5 k hk] at hx; exact hx) hv' hd K
theorem rr_nar (ad : Nat → Nat) {ty : FieldType} {v : Value} (h : narrow ty v = v) : narrow ty (a_v ad v) = a_v ad v := by
  cases v <;> first | exact h | (cases ty <;> rfl)
theorem rr_fits (ad : Nat → Nat) {ty : FieldType} {v : Value} (h : fits ty v = true) : fits ty (a_v ad v) = true := by
  cases v <;> first | exact h | (cases ty <;> first | exact h | rfl)
theorem rr_put {ci N idx n k : Nat} {C : String} {T : u_T} {ty : Nat → FieldType} {fs : List Value} {v : Value} (hc : rr_cl ci C T N ty) (hlk : rr_lk mt.1.cls idx C T k) (hk : k < N) (hn : h[n]? = some (some (.inr (ci, fs)))) (hfin : (T k).2.2.2 = false) (hnr : narrow (ty k) v = v) (hft : fits (ty k) v = true) (hlen : k < fs.length) (hd : decode mt.2.1 pc = .ok (.putfield idx, 3)) {h' : rr_H} (hh : h.set n (some (.inr (ci, fs.set k v))) = h') (kk : RR l G mt rm fx rv w mc ms (pc + 3) lv st h' o) : RR l G mt rm fx rv w mc ms pc lv (v :: .ref n :: st) h o := by
  intro q ho p e s m args below meth c ad0 ad A H locs cells slots ls C X L hcc hs
  obtain ⟨hP, hD, hS, hA, hf⟩ := X
  have hC := C
  obtain ⟨hx, hb, hml, hown, hts, hr, hlo, hnm, hK⟩ := C
  obtain ⟨c1, c2, c3, c4, c5⟩ := hc
  have e1 : (a_w G.2.2 ad 0 h).set (a_k h n) (ad n, .inr (ci, (fs.map (a_v ad)).set k (a_v ad v))) = a_w G.2.2 ad 0 h' := by
    rw [← hh, ← rr_set0 (.inr (ci, fs.set k v)) hn]
    simp only [a_c, List.map_set]
  have fin : ∀ (H1 : Heap) (locs1 : List Loc), va_P (rr_D G) vwCl ((a_w G.2.2 ad 0 h).set (a_k h n) (ad n, .inr (ci, (fs.map (a_v ad)).set k (a_v ad v)))) H1 → va_D A ((a_w G.2.2 ad 0 h).set (a_k h n) (ad n, .inr (ci, (fs.map (a_v ad)).set k (a_v ad v)))) → va_S A s.heap H1 locs1 → W p l e rm s m args below meth c H1 locs1 cells slots (MQ below (rr_Q G fx rv w q ad0 A) args s rm.cells rm.slots A) (F0 m (pc + 3) ls (st.map (a_v ad))) := by
    intro H1 locs1 hP1 hD1 hS1
    rw [e1] at hP1 hD1
    exact kk q ho p e s m args below meth c ad0 ad A H1 locs1 cells slots ls hC ⟨hP1, hD1, hS1, hA, hf⟩ L hcc hs
  rcases hlk with hl | ⟨host, hl⟩
  · exact va_put (D := rr_D G) (ci := ci) (ty := ty k) hx hb hts c2 ty c3 c4 hown hK.1 hP hD hS _ (rr_at0 hn) c1 k hk (hts _ hl) (fun x hx => by rw [c5 k hk] at hx; exact hx) hfin (c3 k hk) (rr_nar ad hnr) (rr_fits ad hft) (by rw [List.length_map]; exact hlen) hd fin
  · exact va_putN (D := rr_D G) (ci := ci) (ty := ty k) hx hb hts c2 ty c3 c4 hown hK.1 hP hD hS _ (rr_at0 hn) c1 k hk (va_Nw.use rfl (hK.2 _ hl)) (fun x hx => by rw [c5 k hk] at hx; exact hx) hfin (c3 k hk) (rr_nar ad hnr) (rr_fits ad hft) (by rw [List.length_map]; exact hlen) hd fin
/-- a final field, in the constructor of its class -/
theorem rr_putF {ci N idx n k : Nat} {C : String} {T : u_T} {ty : Nat → FieldType} {fs : List Value} {v : Value} (hc : rr_cl ci C T N ty) (hlk : Cond.fieldLink mt.1.cls idx C (T k).2.1 (T k).2.2.1 ∈ rr_ws) (hk : k < N) (hn : h[n]? = some (some (.inr (ci, fs)))) (hfin : (T k).2.2.2 = true) (hin : mt.1.name = "<init>") (hdc : C = mt.1.cls) (hnr : narrow (ty k) v = v) (hft : fits (ty k) v = true) (hlen : k < fs.length) (hd : decode mt.2.1 pc = .ok (.putfield idx, 3)) {h' : rr_H} (hh : h.set n (some (.inr (ci, fs.set k v))) = h') (kk : RR l G mt rm fx rv w mc ms (pc + 3) lv st h' o) : RR l G mt rm fx rv w mc ms pc lv (v :: .ref n :: st) h o := by
  intro q ho p e s m args below meth c ad0 ad A H locs cells slots ls C X L hcc hs
  obtain ⟨hP, hD, hS, hA, hf⟩ := X
  have hC := C
  obtain ⟨hx, hb, hml, hown, hts, hr, hlo, hnm, hK⟩ := C
  obtain ⟨c1, c2, c3, c4, c5⟩ := hc
  have e1 : (a_w G.2.2 ad 0 h).set (a_k h n) (ad n, .inr (ci, (fs.map (a_v ad)).set k (a_v ad v))) = a_w G.2.2 ad 0 h' := by
    rw [← hh, ← rr_set0 (.inr (ci, fs.set k v)) hn]
    simp only [a_c, List.map_set]
  refine va_putF (D := rr_D G) (ci := ci) (ty := ty k) hx hb hts c2 ty c3 c4 hown hK.1 hP hD hS _ (rr_at0 hn) c1 k hk (hts _ hlk) (fun x hx => by rw [c5 k hk] at hx; exact hx) hfin (hnm.trans hin) ((c5 k hk).trans hdc) (c3 k hk) (rr_nar ad hnr) (rr_fits ad hft) (by rw [List.length_map]; exact hlen) hd (fun H1 locs1 hP1 hD1 hS1 => ?_)
  rw [e1] at hP1 hD1
  exact kk q ho p e s m args below meth c ad0 ad A H1 locs1 cells slots ls hC ⟨hP1, hD1, hS1, hA, hf⟩ L hcc hs
/-! arrays: t is the array's sort, as in rr_tys -/
theorem rr_iald {n len : Nat} {f : Nat → Int32} {i : Int32} (hn : h[n]? = some (some (.inl (0, len, .inl f)))) (hin : vp_in i len) (hd : decode mt.2.1 pc = .ok (.iaload, 1)) (kk : RR l G mt rm fx rv w mc ms (pc + 1) lv (.int (f i.toNatClampNeg) :: st) h o) : RR l G mt rm fx rv w mc ms pc lv (.int i :: .ref n :: st) h o := by
  intro q ho p e s m args below meth c ad0 ad A H locs cells slots ls C X L hcc hs
  have K := kk q ho p e s m args below meth c ad0 ad A H locs cells slots ls C X L hcc hs
  exact va_iald C.1 C.2.1 C.2.2.2.2.2.2.2.2.1 X.1 _ 0 (rr_at0 hn) rfl hin hd K
theorem rr_lald {n len : Nat} {f : Nat → Int64} {i : Int32} (hn : h[n]? = some (some (.inl (1, len, .inr (.inl f))))) (hin : vp_in i len) (hd : decode mt.2.1 pc = .ok (.laload, 1)) (kk : RR l G mt rm fx rv w mc ms (pc + 1) lv (.long (f i.toNatClampNeg) :: st) h o) : RR l G mt rm fx rv w mc ms pc lv (.int i :: .ref n :: st) h o := by
  intro q ho p e s m args below meth c ad0 ad A H locs cells slots ls C X L hcc hs
  have K := kk q ho p e s m args below meth c ad0 ad A H locs cells slots ls C X L hcc hs
  exact va_lald C.1 C.2.1 C.2.2.2.2.2.2.2.2.1 X.1 _ 1 (rr_at0 hn) rfl hin hd K
theorem rr_bald {n len : Nat} {f : Nat → Int32} {i : Int32} (hn : h[n]? = some (some (.inl (2, len, .inl f)))) (hin : vp_in i len) (hd : decode mt.2.1 pc = .ok (.baload, 1)) (kk : RR l G mt rm fx rv w mc ms (pc + 1) lv (.int (f i.toNatClampNeg) :: st) h o) : RR l G mt rm fx rv w mc ms pc lv (.int i :: .ref n :: st) h o := by
  intro q ho p e s m args below meth c ad0 ad A H locs cells slots ls C X L hcc hs
  have K := kk q ho p e s m args below meth c ad0 ad A H locs cells slots ls C X L hcc hs
  exact va_bald C.1 C.2.1 C.2.2.2.2.2.2.2.2.1 X.1 _ 2 (rr_at0 hn) rfl hin hd K
theorem rr_zald {n len : Nat} {f : Nat → Int32} {i : Int32} (hn : h[n]? = some (some (.inl (3, len, .inl f)))) (hin : vp_in i len) (hd : decode mt.2.1 pc = .ok (.baload, 1)) (kk : RR l G mt rm fx rv w mc ms (pc + 1) lv (.int (f i.toNatClampNeg) :: st) h o) : RR l G mt rm fx rv w mc ms pc lv (.int i :: .ref n :: st) h o := by
  intro q ho p e s m args below meth c ad0 ad A H locs cells slots ls C X L hcc hs
  have K := kk q ho p e s m args below meth c ad0 ad A H locs cells slots ls C X L hcc hs
  exact va_zald C.1 C.2.1 C.2.2.2.2.2.2.2.2.1 X.1 _ 3 (rr_at0 hn) rfl hin hd K
theorem rr_aald {n len t : Nat} {f : Nat → Option Nat} {i : Int32} (ht : t = 4 ∨ t = 5) {x : Nat} (hn : h[n]? = some (some (.inl (t, len, .inr (.inr (.inr (.inr f))))))) (hin : vp_in i len) (hx : f i.toNatClampNeg = some x) (hd : decode mt.2.1 pc = .ok (.aaload, 1)) (kk : RR l G mt rm fx rv w mc ms (pc + 1) lv (.ref x :: st) h o) : RR l G mt rm fx rv w mc ms pc lv (.int i :: .ref n :: st) h o := by
  intro q ho p e s m args below meth c ad0 ad A H locs cells slots ls C X L hcc hs
  have K := kk q ho p e s m args below meth c ad0 ad A H locs cells slots ls C X L hcc hs
  rcases ht with rfl | rfl
  · refine va_aldq C.1 C.2.1 C.2.2.2.2.2.2.2.2.1 X.1 _ 4 (rr_at0 hn) rfl hin hd ?_
    rw [hx]; exact K
  · refine va_aldq C.1 C.2.1 C.2.2.2.2.2.2.2.2.1 X.1 _ 5 (rr_at0 hn) rfl hin hd ?_
    rw [hx]; exact K
theorem rr_aaldN {n len t : Nat} {f : Nat → Option Nat} {i : Int32} (ht : t = 4 ∨ t = 5) (hn : h[n]? = some (some (.inl (t, len, .inr (.inr (.inr (.inr f))))))) (hin : vp_in i len) (hx : f i.toNatClampNeg = none) (hd : decode mt.2.1 pc = .ok (.aaload, 1)) (kk : RR l G mt rm fx rv w mc ms (pc + 1) lv (.null :: st) h o) : RR l G mt rm fx rv w mc ms pc lv (.int i :: .ref n :: st) h o := by
  intro q ho p e s m args below meth c ad0 ad A H locs cells slots ls C X L hcc hs
  have K := kk q ho p e s m args below meth c ad0 ad A H locs cells slots ls C X L hcc hs
  rcases ht with rfl | rfl
  · refine va_aldq C.1 C.2.1 C.2.2.2.2.2.2.2.2.1 X.1 _ 4 (rr_at0 hn) rfl hin hd ?_
    rw [hx]; exact K
  · refine va_aldq C.1 C.2.1 C.2.2.2.2.2.2.2.2.1 X.1 _ 5 (rr_at0 hn) rfl hin hd ?_
    rw [hx]; exact K
theorem rr_alen {n t len : Nat} {x : (Nat → Int32) ⊕ (Nat → Int64) ⊕ (Nat → UInt32) ⊕ (Nat → UInt64) ⊕ (Nat → Option Nat)} (ht : t < 6) (hn : h[n]? = some (some (.inl (t, len, x)))) (hd : decode mt.2.1 pc = .ok (.arraylength, 1)) (kk : RR l G mt rm fx rv w mc ms (pc + 1) lv (.int (nI len) :: st) h o) : RR l G mt rm fx rv w mc ms pc lv (.ref n :: st) h o := by
  intro q ho p e s m args below meth c ad0 ad A H locs cells slots ls C X L hcc hs
  have K := kk q ho p e s m args below meth c ad0 ad A H locs cells slots ls C X L hcc hs
  have ht' : ∃ ty, (rr_tys G.2.2)[t]? = some (G.2.2 t, ty) := by
    rcases (show t = 0 ∨ t = 1 ∨ t = 2 ∨ t = 3 ∨ t = 4 ∨ t = 5 by omega) with rfl | rfl | rfl | rfl | rfl | rfl <;> exact ⟨_, rfl⟩
  obtain ⟨ty, ht'⟩ := ht'
  exact va_alen C.1 C.2.1 C.2.2.2.2.2.2.2.2.1 X.1 _ t (rr_at0 hn) ht' rfl hd K
theorem rr_iast {n len : Nat} {f : Nat → Int32} {i x : Int32} (hn : h[n]? = some (some (.inl (0, len, .inl f)))) (hin : vp_in i len) (hd : decode mt.2.1 pc = .ok (.iastore, 1)) {h' : rr_H} (hh : h.set n (some (.inl (0, len, .inl (upd f i.toNatClampNeg x)))) = h') (kk : RR l G mt rm fx rv w mc ms (pc + 1) lv st h' o) : RR l G mt rm fx rv w mc ms pc lv (.int x :: .int i :: .ref n :: st) h o := by
  intro q ho p e s m args below meth c ad0 ad A H locs cells slots ls C X L hcc hs
  obtain ⟨hP, hD, hS, hA, hf⟩ := X
  refine va_iast C.1 C.2.1 C.2.2.2.2.2.2.2.2.1 hP hD hS _ 0 (rr_at0 hn) rfl hin hd (fun H1 locs1 hP1 hD1 hS1 => ?_)
  have e1 : (a_w G.2.2 ad 0 h).set (a_k h n) (ad n, .inl (G.2.2 0, len, .inl (upd f i.toNatClampNeg x))) = a_w G.2.2 ad 0 h' := by rw [← hh]; exact rr_set0 (.inl (0, len, .inl (upd f i.toNatClampNeg x))) hn
  exact kk q ho p e s m args below meth c ad0 ad A H1 locs1 cells slots ls C ⟨e1 ▸ hP1, e1 ▸ hD1, hS1, hA, hf⟩ L hcc hs
theorem rr_bast {n len : Nat} {f : Nat → Int32} {i x : Int32} (hn : h[n]? = some (some (.inl (2, len, .inl f)))) (hin : vp_in i len) (hd : decode mt.2.1 pc = .ok (.bastore, 1)) {h' : rr_H} (hh : h.set n (some (.inl (2, len, .inl (upd f i.toNatClampNeg (vp_nar .byte x))))) = h') (kk : RR l G mt rm fx rv w mc ms (pc + 1) lv st h' o) : RR l G mt rm fx rv w mc ms pc lv (.int x :: .int i :: .ref n :: st) h o := by
  intro q ho p e s m args below meth c ad0 ad A H locs cells slots ls C X L hcc hs
  obtain ⟨hP, hD, hS, hA, hf⟩ := X
  refine va_bast C.1 C.2.1 C.2.2.2.2.2.2.2.2.1 hP hD hS _ 2 (rr_at0 hn) rfl hin hd (fun H1 locs1 hP1 hD1 hS1 => ?_)
  have e1 : (a_w G.2.2 ad 0 h).set (a_k h n) (ad n, .inl (G.2.2 2, len, .inl (upd f i.toNatClampNeg (vp_nar .byte x)))) = a_w G.2.2 ad 0 h' := by rw [← hh]; exact rr_set0 (.inl (2, len, .inl (upd f i.toNatClampNeg (vp_nar .byte x)))) hn
  exact kk q ho p e s m args below meth c ad0 ad A H1 locs1 cells slots ls C ⟨e1 ▸ hP1, e1 ▸ hD1, hS1, hA, hf⟩ L hcc hs
theorem rr_zast {n len : Nat} {f : Nat → Int32} {i x : Int32} (hn : h[n]? = some (some (.inl (3, len, .inl f)))) (hin : vp_in i len) (hd : decode mt.2.1 pc = .ok (.bastore, 1)) {h' : rr_H} (hh : h.set n (some (.inl (3, len, .inl (upd f i.toNatClampNeg (vp_nar .boolean x))))) = h') (kk : RR l G mt rm fx rv w mc ms (pc + 1) lv st h' o) : RR l G mt rm fx rv w mc ms pc lv (.int x :: .int i :: .ref n :: st) h o := by
  intro q ho p e s m args below meth c ad0 ad A H locs cells slots ls C X L hcc hs
  obtain ⟨hP, hD, hS, hA, hf⟩ := X
  refine va_zast C.1 C.2.1 C.2.2.2.2.2.2.2.2.1 hP hD hS _ 3 (rr_at0 hn) rfl hin hd (fun H1 locs1 hP1 hD1 hS1 => ?_)
  have e1 : (a_w G.2.2 ad 0 h).set (a_k h n) (ad n, .inl (G.2.2 3, len, .inl (upd f i.toNatClampNeg (vp_nar .boolean x)))) = a_w G.2.2 ad 0 h' := by rw [← hh]; exact rr_set0 (.inl (3, len, .inl (upd f i.toNatClampNeg (vp_nar .boolean x)))) hn
  exact kk q ho p e s m args below meth c ad0 ad A H1 locs1 cells slots ls C ⟨e1 ▸ hP1, e1 ▸ hD1, hS1, hA, hf⟩ L hcc hs
theorem rr_last {n len : Nat} {f : Nat → Int64} {i : Int32} {x : Int64} (hn : h[n]? = some (some (.inl (1, len, .inr (.inl f))))) (hin : vp_in i len) (hd : decode mt.2.1 pc = .ok (.lastore, 1)) {h' : rr_H} (hh : h.set n (some (.inl (1, len, .inr (.inl (vp_updL f i.toNatClampNeg x))))) = h') (kk : RR l G mt rm fx rv w mc ms (pc + 1) lv st h' o) : RR l G mt rm fx rv w mc ms pc lv (.long x :: .int i :: .ref n :: st) h o := by
  intro q ho p e s m args below meth c ad0 ad A H locs cells slots ls C X L hcc hs
  obtain ⟨hP, hD, hS, hA, hf⟩ := X
  refine va_last C.1 C.2.1 C.2.2.2.2.2.2.2.2.1 hP hD hS _ 1 (rr_at0 hn) rfl hin hd (fun H1 locs1 hP1 hD1 hS1 => ?_)
  have e1 : (a_w G.2.2 ad 0 h).set (a_k h n) (ad n, .inl (G.2.2 1, len, .inr (.inl (vp_updL f i.toNatClampNeg x)))) = a_w G.2.2 ad 0 h' := by rw [← hh]; exact rr_set0 (.inl (1, len, .inr (.inl (vp_updL f i.toNatClampNeg x)))) hn
  exact kk q ho p e s m args below meth c ad0 ad A H1 locs1 cells slots ls C ⟨e1 ▸ hP1, e1 ▸ hD1, hS1, hA, hf⟩ L hcc hs
end RHEAP
end
section
/-! ===== another view of the same cells; new cells; calls ===== -/
def rr_in (k : Nat) : va_E → Prop
  | .inl x => match x.2.2 with
    | .inr (.inr (.inr (.inr f))) => ∃ j, f j = some k
    | _ => False
  | .inr o => Value.ref k ∈ o.2
theorem a_v_congr {ad ad' : Nat → Nat} {v : Value} (h : ∀ k, v = .ref k → ad k = ad' k) : a_v ad v = a_v ad' v := by
  cases v <;> first | rfl | exact congrArg Value.ref (h _ rfl)
theorem a_c_congr {cy : Nat → ClassId} {ad ad' : Nat → Nat} {c : va_E} (h : ∀ k, rr_in k c → ad k = ad' k) : a_c cy ad c = a_c cy ad' c := by
  rcases c with ⟨t, n, f | f | f | f | f⟩ | ⟨ci, fs⟩
  · rfl
  · rfl
  · rfl
  · rfl
  · show (Sum.inl (cy t, n, .inr (.inr (.inr (.inr (fun j => (f j).map ad))))) : va_E) = .inl (cy t, n, .inr (.inr (.inr (.inr (fun j => (f j).map ad')))))
    have e : (fun j => (f j).map ad) = (fun j => (f j).map ad') := by
      funext j
      cases hj : f j with
      | none => rfl
      | some k => exact congrArg some (h k ⟨j, hj⟩)
    rw [e]
  · show (Sum.inr (ci, fs.map (a_v ad)) : va_E) = .inr (ci, fs.map (a_v ad'))
    congr 2
    exact List.map_congr_left (fun v hv => a_v_congr (fun k e => h k (by rw [e] at hv; exact hv)))
def rr_pf (π : Nat → Nat) : Value → Bool
  | .ref k => π k == k
  | _ => true
def rr_fx (fx : Nat → Bool) : Value → Bool
  | .ref k => fx k
  | _ => true
section RCALL
variable {σ : Type} {l : Launch} {G : rr_G} {mt : rr_M} {rm : Room} {fx : Nat → Bool} {rv : σ → Option Value} {w : σ → rr_H} {mc ms pc : Nat} {lv : List (Nat × Value)} {st : List Value} {h : rr_H} {o : Option σ}
theorem rr_L_congr {ad ad' : Nat → Nat} (hl : ∀ q ∈ lv, a_v ad q.2 = a_v ad' q.2) : rr_L ad lv = rr_L ad' lv := List.map_congr_left (fun q hq => by rw [hl q hq])
/-- another view: name n of h' is name π n of h -/
theorem rr_view {h' : rr_H} (π : Nat → Nat) (hcell : ∀ n c', h'[n]? = some (some c') → ∃ c, h[π n]? = some (some c) ∧ ∀ (cy : Nat → ClassId) (ad : Nat → Nat), a_c cy (fun k => ad (π k)) c' = a_c cy ad c) (hinj : ∀ n n' c c', h'[n]? = some (some c) → h'[n']? = some (some c') → π n = π n' → n = n') (hfx : ∀ n, fx n = true → π n = n) (hlv : lv.all (fun q => rr_pf π q.2) = true) (hst : st.all (rr_pf π) = true) (k : RR l G mt rm fx rv w mc ms pc lv st h' o) : RR l G mt rm fx rv w mc ms pc lv st h o := by
  intro q ho p e s m args below meth c ad0 ad A H locs cells slots ls C X L hcc hs
  obtain ⟨hP, hD, hS, hA, hf⟩ := X
  have pv : ∀ v : Value, rr_pf π v = true → a_v (fun k => ad (π k)) v = a_v ad v := by
    intro v hv
    refine a_v_congr (fun k e => ?_)
    subst e
    exact congrArg ad (by simpa [rr_pf] using hv)
  have e1 : rr_L (fun k => ad (π k)) lv = rr_L ad lv := rr_L_congr (fun q hq => pv _ (List.all_eq_true.mp hlv q hq))
  have e2 : st.map (a_v (fun k => ad (π k))) = st.map (a_v ad) := List.map_congr_left (fun v hv => pv v (List.all_eq_true.mp hst v hv))
  rw [a_P_iff] at hP
  rw [a_D_iff] at hD
  have K := k q ho p e s m args below meth c ad0 (fun k => ad (π k)) A H locs cells slots ls C ⟨?_, ?_, hS, hA, fun n hn => by show ad (π n) = ad0 n; rw [hfx n hn]; exact hf n hn⟩ (by rw [e1]; exact L) hcc hs
  · rw [e2] at K; exact K
  · rw [a_P_iff]
    intro n c' hc'
    obtain ⟨c0, h1, h2⟩ := hcell n c' hc'
    rw [h2]
    exact hP _ _ h1
  · rw [a_D_iff]
    refine ⟨fun n n' c c' hc hc' ee => ?_, fun n c hc => ?_⟩
    · obtain ⟨c0, h1, -⟩ := hcell n c hc
      obtain ⟨c1, h2, -⟩ := hcell n' c' hc'
      exact hinj n n' c c' hc hc' (hD.1 _ _ _ _ h1 h2 ee)
    · obtain ⟨c0, h1, -⟩ := hcell n c hc
      exact hD.2 _ _ h1
/-- a new cell comes under a name that nothing refers to -/
theorem rr_grown {ad : Nat → Nat} {cy : Nat → ClassId} {A : Nat → Prop} {n qa : Nat} {cn : va_E} {H1 : Heap} (hn : h[n]? = some none) (hno : ∀ (n' : Nat) (c' : va_E), h[n']? = some (some c') → ¬ rr_in n c') (hcn : ∀ ad : Nat → Nat, a_c cy ad cn = a_c cy (fun k => k) cn)
    (hP1 : va_P (rr_D G) vwCl (a_w cy ad 0 h ++ [(qa, a_c cy (fun k => k) cn)]) H1) (hD1 : va_D A (a_w cy ad 0 h ++ [(qa, a_c cy (fun k => k) cn)])) : va_P (rr_D G) vwCl (a_w cy (va_up ad n qa) 0 (h.set n (some cn))) H1 ∧ va_D A (a_w cy (va_up ad n qa) 0 (h.set n (some cn))) := by
  have hlt : n < h.length := (List.getElem?_eq_some_iff.mp hn).1
  have old : ∀ n' c', n' ≠ n → (h.set n (some cn))[n']? = some (some c') → h[n']? = some (some c') := fun n' c' hne hc => by rwa [List.getElem?_set_ne (fun q => hne q.symm)] at hc
  have new : ∀ c', (h.set n (some cn))[n]? = some (some c') → c' = cn := fun c' hc => by
    rw [List.getElem?_set_self hlt] at hc
    exact (Option.some.inj (Option.some.inj hc)).symm
  have at1 : ∀ n' c', h[n']? = some (some c') → (a_w cy ad 0 h ++ [(qa, a_c cy (fun k => k) cn)])[a_k h n']? = some (ad n', a_c cy ad c') := fun n' c' hc => by
    have h1 := rr_at0 (cy := cy) (ad := ad) hc
    rw [List.getElem?_append_left (List.getElem?_eq_some_iff.mp h1).1]
    exact h1
  have atq : (a_w cy ad 0 h ++ [(qa, a_c cy (fun k => k) cn)])[(a_w cy ad 0 h).length]? = some (qa, a_c cy (fun k => k) cn) := by simp
  have ne1 : ∀ n' c', h[n']? = some (some c') → ad n' ≠ qa := fun n' c' hc ee => by
    have h1 := hD1.1 _ _ _ _ (at1 n' c' hc) atq ee
    have h2 := (List.getElem?_eq_some_iff.mp (rr_at0 (cy := cy) (ad := ad) hc)).1
    omega
  have hnn : ∀ n' c', h[n']? = some (some c') → n' ≠ n := fun n' c' hc ee => by
    subst ee
    rw [hn] at hc
    cases hc
  constructor
  · rw [a_P_iff]
    intro n' c' hc
    by_cases hne : n' = n
    · subst hne
      have := new c' hc
      subst this
      rw [va_up_self, hcn]
      exact hP1 _ _ atq
    · have hc0 := old n' c' hne hc
      rw [va_up_ne _ _ hne, a_c_congr (ad := va_up ad n qa) (ad' := ad) (fun k hk => va_up_ne ad qa (fun e => hno n' c' hc0 (by rw [e] at hk; exact hk)))]
      exact hP1 _ _ (at1 n' c' hc0)
  · rw [a_D_iff]
    refine ⟨fun n1 n2 c1 c2 h1 h2 ee => ?_, fun n1 c1 h1 => ?_⟩
    · by_cases e1 : n1 = n
      · by_cases e2 : n2 = n
        · rw [e1, e2]
        · subst e1
          rw [va_up_self, va_up_ne _ _ e2] at ee
          exact absurd ee.symm (ne1 n2 c2 (old n2 c2 e2 h2))
      · by_cases e2 : n2 = n
        · subst e2
          rw [va_up_self, va_up_ne _ _ e1] at ee
          exact absurd ee (ne1 n1 c1 (old n1 c1 e1 h1))
        · rw [va_up_ne _ _ e1, va_up_ne _ _ e2] at ee
          have g1 := old n1 c1 e1 h1
          have g2 := old n2 c2 e2 h2
          exact a_k_inj h n1 n2 c1 c2 g1 g2 (hD1.1 _ _ _ _ (at1 n1 c1 g1) (at1 n2 c2 g2) ee)
    · by_cases e1 : n1 = n
      · subst e1
        rw [va_up_self]
        exact hD1.2 _ _ atq
      · rw [va_up_ne _ _ e1]
        exact hD1.2 _ _ (at1 n1 c1 (old n1 c1 e1 h1))
theorem rr_up_L {ad : Nat → Nat} {n qa : Nat} (hl : ∀ q ∈ lv, q.2 ≠ .ref n) : rr_L (va_up ad n qa) lv = rr_L ad lv :=
  rr_L_congr (fun q hq => a_v_congr (fun k e => va_up_ne _ _ (fun z => hl q hq (by rw [e, z]))))
theorem rr_up_st {ad : Nat → Nat} {n qa : Nat} (hl : ∀ v ∈ st, v ≠ .ref n) : st.map (a_v (va_up ad n qa)) = st.map (a_v ad) :=
  List.map_congr_left (fun v hv => a_v_congr (fun k e => va_up_ne _ _ (fun z => hl v hv (by rw [e, z]))))
theorem rr_new {ci N idx mc1 ms1 : Nat} (n : Nat) {C : String} {T : u_T} {ty : Nat → FieldType} {fs : List Value} (hc : rr_cl ci C T N ty) (hcl : Cond.classLink mt.1.cls idx C ∈ rr_ws) (hin : Cond.instantiable C N ∈ rr_ws) (hini : Cond.initialized C ∈ rr_ws) (hfs : ∀ j, j < N → defaultValue (ty j) = vp_V fs j) (hfr : ∀ k, Value.ref k ∉ fs) (hn : h[n]? = some none) (hno : ∀ (n' : Nat) (c' : va_E), h[n']? = some (some c') → ¬ rr_in n c') (hfx : fx n = false) (hlv : ∀ q ∈ lv, q.2 ≠ .ref n) (hst : ∀ v ∈ st, v ≠ .ref n) (hmc : mc1 + 1 = mc) (hms : ms1 + N = ms) (hd : decode mt.2.1 pc = .ok (.new idx, 3)) {h' : rr_H} (hh : h.set n (some (.inr (ci, fs))) = h') (kk : RR l G mt rm fx rv w mc1 ms1 (pc + 3) lv (.ref n :: st) h' o) : RR l G mt rm fx rv w mc ms pc lv st h o := by
  intro q ho p e s m args below meth c ad0 ad A H locs cells slots ls C X L hcc hs
  obtain ⟨hP, hD, hS, hA, hf⟩ := X
  have hC := C
  obtain ⟨hx, hb, hml, hown, hts, hr, hlo, hnm, hK⟩ := C
  obtain ⟨c1, c2, c3, c4, c5⟩ := hc
  refine va_new (D := rr_D G) (ci := ci) (fs := fs) hx hb hts c2 ty c3 hown (hts _ hcl) (hts _ hin) (hts _ hini) hK.1 hP hD hS hA c1 hfs (by omega) (by omega) hd (fun qa H1 hP1 hD1 hS1 => ?_)
  have hfm : ∀ ad : Nat → Nat, fs.map (a_v ad) = fs := fun ad => by
    conv => rhs; rw [← List.map_id fs]
    refine List.map_congr_left (fun v hv => ?_)
    cases v <;> first | rfl | exact absurd hv (hfr _)
  have hcn : ∀ ad : Nat → Nat, a_c G.2.2 ad (.inr (ci, fs)) = .inr (ci, fs) := fun ad => by show (Sum.inr (ci, fs.map (a_v ad)) : va_E) = _; rw [hfm]
  obtain ⟨g1, g2⟩ := rr_grown (G := G) (cn := .inr (ci, fs)) hn hno (fun ad => by rw [hcn, hcn]) (by rw [hcn]; exact hP1) (by rw [hcn]; exact hD1)
  rw [hh] at g1 g2
  have K := kk q ho p e s m args below meth c ad0 (va_up ad n qa) A H1 locs (cells + 1) (slots + N) ls hC ⟨g1, g2, hS1, hA, fun k hk => by rw [va_up_ne _ _ (fun z => by rw [z, hfx] at hk; cases hk)]; exact hf k hk⟩ (by rw [rr_up_L hlv]; exact L) (by omega) (by omega)
  rw [List.map_cons, rr_up_st hst] at K
  show W p l e rm s m args below meth c H1 locs (cells + 1) (slots + N) _ (F0 m (pc + 3) ls (Value.ref qa :: st.map (a_v ad)))
  have e9 : a_v (va_up ad n qa) (.ref n) = .ref qa := congrArg Value.ref (va_up_self ad n qa)
  rw [e9] at K
  exact K
theorem rr_newa {atype : ArrayType} {ty : FieldType} {t mc1 ms1 N' : Nat} {len : Int32} {x : (Nat → Int32) ⊕ (Nat → Int64) ⊕ (Nat → UInt32) ⊕ (Nat → UInt64) ⊕ (Nat → Option Nat)} (n : Nat) (hty : newarray.typeOf atype = ty) (hprim : refKind ty = false) (htt : ∀ cy : Nat → ClassId, (rr_tys cy)[t]? = some (cy t, ty)) (hx : ∀ cA : ClassId, vp_cell cA (N', x) = arrV cA N' (fun _ => defaultValue ty)) (hxr : ∀ ad : Nat → Nat, a_a ad (N', x) = (N', x)) (harr : Cond.arrayClass ty ∈ rr_ws) (hl0 : ¬ len < 0) (hN : len.toNatClampNeg = N') (hby : N' * componentBytes ty ≤ 536870912) (hn : h[n]? = some none) (hno : ∀ (n' : Nat) (c' : va_E), h[n']? = some (some c') → ¬ rr_in n c') (hfx : fx n = false) (hlv : ∀ q ∈ lv, q.2 ≠ .ref n) (hst : ∀ v ∈ st, v ≠ .ref n) (hmc : mc1 + 1 = mc) (hms : ms1 + N' = ms) (hd : decode mt.2.1 pc = .ok (.newarray atype, 2)) {h' : rr_H} (hh : h.set n (some (.inl (t, N', x))) = h') (kk : RR l G mt rm fx rv w mc1 ms1 (pc + 2) lv (.ref n :: st) h' o) : RR l G mt rm fx rv w mc ms pc lv (.int len :: st) h o := by
  intro q ho p e s m args below meth c ad0 ad A H locs cells slots ls C X L hcc hs
  obtain ⟨hP, hD, hS, hA, hf⟩ := X
  have hC := C
  obtain ⟨hx0, hb, hml, hown, hts, hr, hlo, hnm, hK⟩ := C
  refine va_newa (D := rr_D G) (a0 := (N', x)) hx0 hb (by rw [hty]; exact hts _ harr) hty hK.1 hP hD hS hA hx hl0 hN hby (by omega) (by omega) hd (fun qa cA H1 hK1 hP1 hD1 hS1 => ?_)
  have hcA : cA = G.2.2 t := by
    have r1 := (hK1.2 (rr_tys G.2.2).length (cA, ty) (by simp)).2
    have r2 := (hK.1.2 t _ (htt G.2.2)).2
    cases ty <;> first | (simp [refKind] at hprim; done) | exact Option.some.inj (r1.symm.trans r2)
  subst hcA
  have hcn : ∀ ad : Nat → Nat, a_c G.2.2 ad (.inl (t, N', x)) = .inl (G.2.2 t, N', x) := fun ad => by show (Sum.inl (G.2.2 t, a_a ad (N', x)) : va_E) = _; rw [hxr]
  obtain ⟨g1, g2⟩ := rr_grown (G := G) (cn := .inl (t, N', x)) hn hno (fun ad => by rw [hcn, hcn]) (by rw [hcn]; exact hP1) (by rw [hcn]; exact hD1)
  rw [hh] at g1 g2
  have K := kk q ho p e s m args below meth c ad0 (va_up ad n qa) A H1 locs (cells + 1) (slots + N') ls hC ⟨g1, g2, hS1, hA, fun k hk => by rw [va_up_ne _ _ (fun z => by rw [z, hfx] at hk; cases hk)]; exact hf k hk⟩ (by rw [rr_up_L hlv]; exact L) (by omega) (by omega)
  rw [List.map_cons, rr_up_st hst] at K
  show W p l e rm s m args below meth c H1 locs (cells + 1) (slots + N') _ (F0 m (pc + 2) ls (Value.ref qa :: st.map (a_v ad)))
  have e9 : a_v (va_up ad n qa) (.ref n) = .ref qa := congrArg Value.ref (va_up_self ad n qa)
  rw [e9] at K
  exact K
end RCALL
end
section
/-! ===== calls ===== -/
section RRUN
variable {p : Program} {l : Launch} {e : Env} {R : Room} {s : State} {m : MethodId} {args : Array Value} {below : List Frame} {meth : Method} {c : Code} {H : Heap} {locs : List Loc} {cells slots : Nat} {Q : State → Prop}
variable {pc : Nat} {ls : Array Slot} {rest st0 : List Value} {a : Array Value} {A0 A1 : Nat → Prop} {H0 : Heap} {mc ms : Nat} {free : Addr → Prop}
theorem rr_run {σ : Type} {G : rr_G} {fx : Nat → Bool} {rv : σ → Option Value} {w : σ → rr_H} {q : σ} {ad0 : Nat → Nat} (hr : va_Run p l e R s m args below meth c H locs cells slots mc ms (F0 m pc ls st0) rest (rr_Q G fx rv w q ad0 A1 a) free) (hS : va_S A0 H0 H locs) (hA : ∀ q, q < H.size → A1 q → A0 q) (hf : ∀ q, free q → A0 q)
    (kk : ∀ (ad : Nat → Nat) (H1 : Heap) (locs1 : List Loc), (∀ n, fx n = true → ad n = ad0 n) → va_P (rr_D G) vwCl (a_w G.2.2 ad 0 (w q)) H1 → va_D A1 (a_w G.2.2 ad 0 (w q)) → va_S A0 H0 H1 locs1 → W p l e R s m args below meth c H1 locs1 (cells + mc) (slots + ms) Q (F0 m (pc + 3) ls (((rv q).map (a_v ad)).toList ++ rest))) : W p l e R s m args below meth c H locs cells slots Q (F0 m pc ls st0) := by
  intro T hT X
  obtain ⟨v, st₀, t, T', L, h0, X', hL, e1, e2, ⟨⟨ad, hfx, hv, hP, hK, hD⟩, hz, hk⟩, st⟩ := hr T hT X
  cases hv
  rw [h0] at hz hk
  obtain ⟨t2, a1, b1⟩ := kk ad T'.heap (locs ++ L) hfx (by rw [e1]; exact hP) hD
    ⟨Nat.le_trans hS.1 (by rw [e1]; exact hz), fun q h1 h2 => by rw [e1, hk q (Nat.lt_of_lt_of_le h1 hS.1) (fun z => h2 (hA q (Nat.lt_of_lt_of_le h1 hS.1) z))]; exact hS.2.1 q h1 h2, fun q hq => by
      rcases List.mem_append.mp hq with h | h
      · exact hS.2.2 q h
      · exact hf _ (hL q h)⟩ T' rfl X'
  exact ⟨t2, st t2 a1, b1⟩
end RRUN
theorem rr_good {x : Cond} (h : x ∈ rr_ws) : x ∈ rr_ws ∧ ((x.onTables && x.keeps) = true ∨ ∃ ty, x = .arrayClass ty) := ⟨h, good_of_word (List.mem_filter.mp h).2⟩
/-- what every call wants of the tables -/
def rr_cb (mt' : rr_M) (n : Nat) : Prop := Cond.initialized mt'.1.cls ∈ rr_ws ∧ Cond.code mt'.1 mt'.2.1 mt'.2.2.1 mt'.2.2.2 ∈ rr_ws ∧ (mt'.1.cls ≠ "java/lang/invoke/MethodHandle" ∧ mt'.1.cls ≠ "java/lang/invoke/VarHandle" ∧ (parseMethodDescriptor mt'.1.desc).map (fun d => d.parameters.length) = some n)
/-- the link: the class's own, or a nest mate's -/
def rr_ml (own : String) (idx : Nat) (y : MethodName) : Prop := Cond.methodLink own idx y ∈ rr_ws ∨ ∃ host, Cond.methodLinkNest own idx y host ∈ rr_ns
theorem rr_goodAll (mt' : rr_M) (h : Cond.code mt'.1 mt'.2.1 mt'.2.2.1 mt'.2.2.2 ∈ rr_ws) : GoodIn rr_ws (.code mt'.1 mt'.2.1 mt'.2.2.1 mt'.2.2.2 :: rr_ws) := fun x hx => (List.mem_cons.mp hx).elim (fun e => by rw [e]; exact rr_good h) rr_good
section RCALL2
variable {σ σ' : Type} {l : Launch} {G : rr_G} {mt mt' : rr_M} {rm : Room} {fx fx' : Nat → Bool} {rv : σ → Option Value} {rv' : σ' → Option Value} {w : σ → rr_H} {w' : σ' → rr_H} {mc ms mc' ms' mc1 ms1 d' lo' n idx pc : Nat} {lv : List (Nat × Value)} {st As rest : List Value} {h : rr_H} {o' : Option σ'} {k : σ' → Option σ}
/-- behind a call: the world is the callee's end, the locals and operands are fixed names or numbers -/
theorem rr_back {q : σ} {q' : σ'} {p : Program} {e : Env} {s : State} {m : MethodId} {args a : Array Value} {below : List Frame} {meth : Method} {c : Code} {ad0 ad : Nat → Nat} {A : Nat → Prop} {H : Heap} {locs : List Loc} {cells slots : Nat} {ls : Array Slot} {st0 : List Value}
    (hr : va_Run p l e rm s m args below meth c H locs cells slots mc' ms' (F0 m pc ls st0) (rest.map (a_v ad)) (rr_Q G fx' rv' w' q' ad (va_A (a_w G.2.2 ad 0 h) H.size) a) (va_A (a_w G.2.2 ad 0 h) H.size))
    (C : rr_C G mt p s m args meth c) (X : rr_S G fx ad0 ad A s H locs h) (L : lv_has ls mt.2.2.1 (rr_L ad lv)) (hcc : cells + mc ≤ rm.cells) (hs : slots + ms ≤ rm.slots) (hfx : ∀ n, fx n = true → fx' n = true) (hlv : lv.all (fun q => rr_fx fx' q.2) = true) (hrs : rest.all (rr_fx fx') = true) (hmc : mc1 + mc' = mc) (hms : ms1 + ms' = ms) (hq : k q' = some q)
    (kk : RR l G mt rm fx rv w mc1 ms1 (pc + 3) lv ((rv' q').toList ++ rest) (w' q') (k q')) : W p l e rm s m args below meth c H locs cells slots (MQ below (rr_Q G fx rv w q ad0 A) args s rm.cells rm.slots A) (F0 m pc ls st0) := by
  obtain ⟨hP, hD, hS, hA, hf⟩ := X
  have hF : ∀ q, va_A (a_w G.2.2 ad 0 h) H.size q → A q := fun q hq => hq.elim (fun ⟨i, x, hx⟩ => hD.2 i _ hx) (fun z => hA q (Nat.le_trans hS.1 z))
  refine rr_run hr hS (fun q _ h => hF q h) hF (fun ad1 H1 locs1 hfx1 hP1 hD1 hS1 => ?_)
  have pv : ∀ v : Value, rr_fx fx' v = true → a_v ad1 v = a_v ad v := fun v hv => a_v_congr (fun k e => by subst e; exact hfx1 k hv)
  have e1 : rr_L ad1 lv = rr_L ad lv := rr_L_congr (fun q hq => pv _ (List.all_eq_true.mp hlv q hq))
  have e2 : rest.map (a_v ad1) = rest.map (a_v ad) := List.map_congr_left (fun v hv => pv v (List.all_eq_true.mp hrs v hv))
  have K := kk q hq p e s m args below meth c ad0 ad1 A H1 locs1 (cells + mc') (slots + ms') ls C ⟨hP1, hD1.weaken (fun _ q _ z => hF q.1 z), hS1, hA, fun n hn => (hfx1 n (hfx n hn)).trans (hf n hn)⟩ (by rw [e1]; exact L) (by omega) (by omega)
  rw [List.map_append, e2] at K
  have e3 : ((rv' q').toList).map (a_v ad1) = ((rv' q').map (a_v ad1)).toList := by cases rv' q' <;> rfl
  rw [e3] at K
  exact K
/-- the callee's start, from the caller's world -/
theorem rr_pre {ad : Nat → Nat} {H : Heap} {s : State} {A : Nat → Prop} {av : List Value} (hP : va_P (rr_D G) vwCl (a_w G.2.2 ad 0 h) H) (hD : va_D A (a_w G.2.2 ad 0 h)) (hK : rr_K G s) : PreS s H (va_Pc (av.map (a_v ad)) (fun U => U.heap.size = H.size ∧ va_P (rr_D G) vwCl (a_w G.2.2 ad 0 h) U.heap ∧ rr_K G U ∧ va_D (fun _ => True) (a_w G.2.2 ad 0 h))) (av.map (a_v ad)) :=
  ⟨fun a U g mk z => by obtain ⟨z0, z1, zP, zK, zD⟩ := z; exact ⟨z0, z1, zP, rr_K.moved (s := U) (U := U.calling g mk a) (State.WarmedH.refl U) zK, zD⟩, fun U hU hW => ⟨rfl, by rw [hU], by rw [hU]; exact hP, rr_K.moved hW hK, hD.weaken (fun _ _ _ _ => trivial)⟩⟩
theorem rr_callV {b ci N : Nat} {T : u_T} {fs : List Value} (ht : TT l G mt' d' lo' fx' rv' w' mc' ms' (.ref b :: As) h o') (hb : rr_cb mt' n) (hl : rr_ml mt.1.cls idx mt'.1) (hi : Cond.instanceMethod mt'.1 ∈ rr_ws) (hse : Cond.selects mt'.1.cls mt'.1 mt'.1 ∈ rr_ws) (hc : vwCl[ci]? = some (mt'.1.cls, T, N)) (hobj : h[b]? = some (some (.inr (ci, fs)))) (hn : As.length = n) (hrm : d' + 1 ≤ rm.frames ∧ 8 + (mt'.2.2.1 + 11) + lo' ≤ rm.locals) (hfx : ∀ n, fx n = true → fx' n = true) (hlv : lv.all (fun q => rr_fx fx' q.2) = true) (hrs : rest.all (rr_fx fx') = true) (hcat : (rest.map fun v => v.category).sum ≤ 8) (hmc : mc1 + mc' = mc) (hms : ms1 + ms' = ms) (hst : st = As.reverse ++ .ref b :: rest) (hd : decode mt.2.1 pc = .ok (.invokevirtual idx, 3))
    (kk : ∀ q', o' = some q' → RR l G mt rm fx rv w mc1 ms1 (pc + 3) lv ((rv' q').toList ++ rest) (w' q') (k q')) : RR l G mt rm fx rv w mc ms pc lv st h (o'.bind k) := by
  intro q ho p e s m args below meth c ad0 ad A H locs cells slots ls C X L hcc hs
  cases hq : o' with
  | none => rw [hq] at ho; cases ho
  | some q' =>
    rw [hq] at ho
    have X0 := X
    obtain ⟨hP, hD, hS, hA, hf⟩ := X
    have C0 := C
    obtain ⟨hx, hbb, hml, hown, hts, hr, hlo, hnm, hK⟩ := C
    obtain ⟨b1, b2, b3⟩ := hb
    have hM := ht q' hq ad H.size
    have hcat' : ((rest.map (a_v ad)).map fun v => v.category).sum ≤ 8 := by rw [List.map_map]; simpa [Function.comp_def, a_v_cat] using hcat
    have hst' : st.map (a_v ad) = (As.map (a_v ad)).reverse ++ .ref (ad b) :: rest.map (a_v ad) := by rw [hst, List.map_append, List.map_reverse]; rfl
    have hpre := rr_pre (av := .ref b :: As) hP hD hK
    have hrecv := va_recv hK.1 hP hc (rr_at0 hobj)
    rcases hl with hl | ⟨host, hl⟩
    · refine rr_back (va_runV (C := mt'.1.cls) (As := As.map (a_v ad)) (rest := rest.map (a_v ad)) ⟨hx, hbb, hml, hown, hts⟩ hM (cwV n hts ?_ rfl rfl rfl ⟨rfl, b3⟩ hrm) ⟨hpre.1, hrecv, hpre.2⟩ rfl (by rw [List.length_map]; exact hn) L.1 hst' (lv_room hcat') hd ⟨by omega, by omega⟩) C0 X0 L hcc hs hfx hlv hrs hmc hms ho (kk q' hq)
      intro x hx
      rcases List.mem_append.mp (show x ∈ [_, _, _, _] ++ _ from hx) with hx | hx
      · simp only [List.mem_cons, List.not_mem_nil, or_false] at hx
        rcases hx with rfl | rfl | rfl | rfl
        · exact rr_good hl
        · exact rr_good hi
        · exact rr_good hse
        · exact rr_good b1
      · exact rr_goodAll mt' b2 x hx
    · exact rr_back (va_runVN (C := mt'.1.cls) (As := As.map (a_v ad)) (rest := rest.map (a_v ad)) ⟨hx, hbb, hml, hown, hts⟩ hM ⟨va_cnB n hts (rr_goodAll mt' b2) rfl rfl rfl (hK.2 _ hl) (hts _ b1) b3 hrm, hts _ hi, hts _ hse⟩ ⟨hpre.1, hrecv, hpre.2⟩ rfl (by rw [List.length_map]; exact hn) L.1 hst' (lv_room hcat') hd ⟨by omega, by omega⟩) C0 X0 L hcc hs hfx hlv hrs hmc hms ho (kk q' hq)
theorem rr_callI {b : Nat} (ht : TT l G mt' d' lo' fx' rv' w' mc' ms' (.ref b :: As) h o') (hb : rr_cb mt' n) (hl : rr_ml mt.1.cls idx mt'.1) (hi : Cond.instanceMethod mt'.1 ∈ rr_ws) (hy : mt'.1.name = "<init>") (hret : mt'.2.2.2 = none) (hn : As.length = n) (hrm : d' + 1 ≤ rm.frames ∧ 8 + (mt'.2.2.1 + 11) + lo' ≤ rm.locals) (hfx : ∀ n, fx n = true → fx' n = true) (hlv : lv.all (fun q => rr_fx fx' q.2) = true) (hrs : rest.all (rr_fx fx') = true) (hcat : (rest.map fun v => v.category).sum ≤ 8) (hmc : mc1 + mc' = mc) (hms : ms1 + ms' = ms) (hst : st = As.reverse ++ .ref b :: rest) (hd : decode mt.2.1 pc = .ok (.invokespecial idx, 3))
    (kk : ∀ q', o' = some q' → RR l G mt rm fx rv w mc1 ms1 (pc + 3) lv ((rv' q').toList ++ rest) (w' q') (k q')) : RR l G mt rm fx rv w mc ms pc lv st h (o'.bind k) := by
  intro q ho p e s m args below meth c ad0 ad A H locs cells slots ls C X L hcc hs
  cases hq : o' with
  | none => rw [hq] at ho; cases ho
  | some q' =>
    rw [hq] at ho
    have X0 := X
    obtain ⟨hP, hD, hS, hA, hf⟩ := X
    have C0 := C
    obtain ⟨hx, hbb, hml, hown, hts, hr, hlo, hnm, hK⟩ := C
    obtain ⟨b1, b2, b3⟩ := hb
    obtain ⟨y', cc', nL', ret'⟩ := mt'
    have hret : ret' = none := hret
    subst hret
    have hM := ht q' hq ad H.size
    have hcat' : ((rest.map (a_v ad)).map fun v => v.category).sum ≤ 8 := by rw [List.map_map]; simpa [Function.comp_def, a_v_cat] using hcat
    have hst' : st.map (a_v ad) = (As.map (a_v ad)).reverse ++ .ref (ad b) :: rest.map (a_v ad) := by rw [hst, List.map_append, List.map_reverse]; rfl
    have hpre := rr_pre (av := .ref b :: As) hP hD hK
    rcases hl with hl | ⟨host, hl⟩
    · exact rr_back (va_runI (As := As.map (a_v ad)) (rest := rest.map (a_v ad)) ⟨hx, hbb, hml, hown, hts⟩ hM (cwI n hts (rr_goodAll (y', cc', nL', none) b2) rfl rfl rfl (hts _ b1) (hts _ hl) (hts _ hi) hy b3 hrm) hpre rfl (by rw [List.length_map]; exact hn) L.1 hst' (lv_room hcat') hd ⟨by omega, by omega⟩) C0 X0 L hcc hs hfx hlv hrs hmc hms ho (kk q' hq)
    · exact rr_back (va_runIN (As := As.map (a_v ad)) (rest := rest.map (a_v ad)) ⟨hx, hbb, hml, hown, hts⟩ hM ⟨va_cnB n hts (rr_goodAll (y', cc', nL', none) b2) rfl rfl rfl (hK.2 _ hl) (hts _ b1) b3 hrm, hy, hts _ hi⟩ hpre rfl (by rw [List.length_map]; exact hn) L.1 hst' (lv_room hcat') hd ⟨by omega, by omega⟩) C0 X0 L hcc hs hfx hlv hrs hmc hms ho (kk q' hq)
theorem rr_callS (ht : TT l G mt' d' lo' fx' rv' w' mc' ms' As h o') (hb : rr_cb mt' n) (hl : rr_ml mt.1.cls idx mt'.1) (hi : Cond.static mt'.1 ∈ rr_ws) (hn : As.length = n) (hrm : d' + 1 ≤ rm.frames ∧ 8 + (mt'.2.2.1 + 11) + lo' ≤ rm.locals) (hfx : ∀ n, fx n = true → fx' n = true) (hlv : lv.all (fun q => rr_fx fx' q.2) = true) (hrs : rest.all (rr_fx fx') = true) (hcat : (rest.map fun v => v.category).sum ≤ 8) (hmc : mc1 + mc' = mc) (hms : ms1 + ms' = ms) (hst : st = As.reverse ++ rest) (hd : decode mt.2.1 pc = .ok (.invokestatic idx, 3))
    (kk : ∀ q', o' = some q' → RR l G mt rm fx rv w mc1 ms1 (pc + 3) lv ((rv' q').toList ++ rest) (w' q') (k q')) : RR l G mt rm fx rv w mc ms pc lv st h (o'.bind k) := by
  intro q ho p e s m args below meth c ad0 ad A H locs cells slots ls C X L hcc hs
  cases hq : o' with
  | none => rw [hq] at ho; cases ho
  | some q' =>
    rw [hq] at ho
    have X0 := X
    obtain ⟨hP, hD, hS, hA, hf⟩ := X
    have C0 := C
    obtain ⟨hx, hbb, hml, hown, hts, hr, hlo, hnm, hK⟩ := C
    obtain ⟨b1, b2, b3⟩ := hb
    have hM := ht q' hq ad H.size
    have hcat' : ((rest.map (a_v ad)).map fun v => v.category).sum ≤ 8 := by rw [List.map_map]; simpa [Function.comp_def, a_v_cat] using hcat
    have hst' : st.map (a_v ad) = (As.map (a_v ad)).reverse ++ rest.map (a_v ad) := by rw [hst, List.map_append, List.map_reverse]
    have hpre := rr_pre (av := As) hP hD hK
    rcases hl with hl | ⟨host, hl⟩
    · exact rr_back (va_runS (As := As.map (a_v ad)) (rest := rest.map (a_v ad)) ⟨hx, hbb, hml, hown, hts⟩ hM ⟨callB_of n hts (rr_goodAll mt' b2) rfl rfl rfl (hts _ b1) (hts _ hl) b3 hrm, hts _ hi⟩ hpre rfl (by rw [List.length_map]; exact hn) L.1 hst' (lv_room hcat') hd ⟨by omega, by omega⟩) C0 X0 L hcc hs hfx hlv hrs hmc hms ho (kk q' hq)
    · exact rr_back (va_runSN (As := As.map (a_v ad)) (rest := rest.map (a_v ad)) ⟨hx, hbb, hml, hown, hts⟩ hM ⟨va_cnB n hts (rr_goodAll mt' b2) rfl rfl rfl (hK.2 _ hl) (hts _ b1) b3 hrm, hts _ hi, trivial⟩ hpre rfl (by rw [List.length_map]; exact hn) L.1 hst' (lv_room hcat') hd ⟨by omega, by omega⟩) C0 X0 L hcc hs hfx hlv hrs hmc hms ho (kk q' hq)
end RCALL2
end
