section
-- ===== PART A: goes FIRST, ahead of the names: the tables' words, and 'selects' of the private methods out of them =====
/-- a private method of a class that the tables say can be made, by its rows of tables_1 -/
def lw_okq (q : MethodName × Nat) : Prop := (q.1.cls ≠ "java/lang/invoke/MethodHandle" ∧ q.1.cls ≠ "java/lang/invoke/VarHandle") ∧ Cond.instantiable q.1.cls q.2 ∈ tables_1 ∧ Cond.privateMethod q.1 ∈ tables_1 ∧ Cond.instanceMethod q.1 ∈ tables_1
theorem lw_p0 : lw_okq (⟨"LazyHeaps", "forgetRows", "()V"⟩, 9) := ⟨⟨by decide +kernel, by decide +kernel⟩, List.mem_of_getElem? (i := 18) (by decide +kernel), List.mem_of_getElem? (i := 307) (by decide +kernel), List.mem_of_getElem? (i := 308) (by decide +kernel)⟩
theorem lw_p1 : lw_okq (⟨"LazyHeaps", "namesKnown", "(IIII)Z"⟩, 9) := ⟨⟨by decide +kernel, by decide +kernel⟩, List.mem_of_getElem? (i := 18) (by decide +kernel), List.mem_of_getElem? (i := 363) (by decide +kernel), List.mem_of_getElem? (i := 364) (by decide +kernel)⟩
theorem lw_p2 : lw_okq (⟨"LazyHeaps", "sortsFit", "(IIII)Z"⟩, 9) := ⟨⟨by decide +kernel, by decide +kernel⟩, List.mem_of_getElem? (i := 18) (by decide +kernel), List.mem_of_getElem? (i := 375) (by decide +kernel), List.mem_of_getElem? (i := 376) (by decide +kernel)⟩
theorem lw_p3 : lw_okq (⟨"LazyHeaps$Heap", "waitFrom", "(I)V"⟩, 11) := ⟨⟨by decide +kernel, by decide +kernel⟩, List.mem_of_getElem? (i := 95) (by decide +kernel), List.mem_of_getElem? (i := 449) (by decide +kernel), List.mem_of_getElem? (i := 450) (by decide +kernel)⟩
theorem lw_p4 : lw_okq (⟨"LazyHeaps$Heap", "take", "(I)V"⟩, 11) := ⟨⟨by decide +kernel, by decide +kernel⟩, List.mem_of_getElem? (i := 95) (by decide +kernel), List.mem_of_getElem? (i := 466) (by decide +kernel), List.mem_of_getElem? (i := 467) (by decide +kernel)⟩
theorem lw_p5 : lw_okq (⟨"LazyHeaps$Heap", "objectOf", "(I)I"⟩, 11) := ⟨⟨by decide +kernel, by decide +kernel⟩, List.mem_of_getElem? (i := 95) (by decide +kernel), List.mem_of_getElem? (i := 471) (by decide +kernel), List.mem_of_getElem? (i := 472) (by decide +kernel)⟩
theorem lw_p6 : lw_okq (⟨"LazyHeaps$Heap", "backTo", "(I)V"⟩, 11) := ⟨⟨by decide +kernel, by decide +kernel⟩, List.mem_of_getElem? (i := 95) (by decide +kernel), List.mem_of_getElem? (i := 501) (by decide +kernel), List.mem_of_getElem? (i := 502) (by decide +kernel)⟩
theorem lw_p7 : lw_okq (⟨"LazyHeaps$Heap", "choiceAbove", "(I)I"⟩, 11) := ⟨⟨by decide +kernel, by decide +kernel⟩, List.mem_of_getElem? (i := 95) (by decide +kernel), List.mem_of_getElem? (i := 505) (by decide +kernel), List.mem_of_getElem? (i := 506) (by decide +kernel)⟩
theorem lw_p8 : lw_okq (⟨"LazyHeaps$Heap", "allows", "(I)Z"⟩, 11) := ⟨⟨by decide +kernel, by decide +kernel⟩, List.mem_of_getElem? (i := 95) (by decide +kernel), List.mem_of_getElem? (i := 509) (by decide +kernel), List.mem_of_getElem? (i := 510) (by decide +kernel)⟩
theorem lw_p9 : lw_okq (⟨"LazyHeaps$Heap", "countAlike", "(LLazyHeaps$Rows;I)I"⟩, 11) := ⟨⟨by decide +kernel, by decide +kernel⟩, List.mem_of_getElem? (i := 95) (by decide +kernel), List.mem_of_getElem? (i := 531) (by decide +kernel), List.mem_of_getElem? (i := 532) (by decide +kernel)⟩
theorem lw_p10 : lw_okq (⟨"LazyHeaps$Rule", "hasNoCycle", "(LLazyHeaps$Heap;)Z"⟩, 4) := ⟨⟨by decide +kernel, by decide +kernel⟩, List.mem_of_getElem? (i := 390) (by decide +kernel), List.mem_of_getElem? (i := 548) (by decide +kernel), List.mem_of_getElem? (i := 549) (by decide +kernel)⟩
theorem lw_p11 : lw_okq (⟨"LazyHeaps$Rule", "sharesNothing", "(LLazyHeaps$Heap;)Z"⟩, 4) := ⟨⟨by decide +kernel, by decide +kernel⟩, List.mem_of_getElem? (i := 390) (by decide +kernel), List.mem_of_getElem? (i := 563) (by decide +kernel), List.mem_of_getElem? (i := 564) (by decide +kernel)⟩
theorem lw_p12 : lw_okq (⟨"LazyHeaps$Rule", "holdsAt", "(LLazyHeaps$Heap;I)Z"⟩, 4) := ⟨⟨by decide +kernel, by decide +kernel⟩, List.mem_of_getElem? (i := 390) (by decide +kernel), List.mem_of_getElem? (i := 571) (by decide +kernel), List.mem_of_getElem? (i := 572) (by decide +kernel)⟩
theorem lw_p13 : lw_okq (⟨"LazyHeaps$Ends", "makeRoom", "(I)V"⟩, 10) := ⟨⟨by decide +kernel, by decide +kernel⟩, List.mem_of_getElem? (i := 231) (by decide +kernel), List.mem_of_getElem? (i := 684) (by decide +kernel), List.mem_of_getElem? (i := 685) (by decide +kernel)⟩
theorem lw_p14 : lw_okq (⟨"LazyHeaps$Play", "begin", "()V"⟩, 10) := ⟨⟨by decide +kernel, by decide +kernel⟩, List.mem_of_getElem? (i := 189) (by decide +kernel), List.mem_of_getElem? (i := 695) (by decide +kernel), List.mem_of_getElem? (i := 696) (by decide +kernel)⟩
theorem lw_p15 : lw_okq (⟨"LazyHeaps$Play", "leftOutBehind", "(LLazyHeaps$Step;)I"⟩, 10) := ⟨⟨by decide +kernel, by decide +kernel⟩, List.mem_of_getElem? (i := 189) (by decide +kernel), List.mem_of_getElem? (i := 707) (by decide +kernel), List.mem_of_getElem? (i := 708) (by decide +kernel)⟩
def lw_privs_1 : List (MethodName × Nat) := [(⟨"LazyHeaps", "forgetRows", "()V"⟩, 9), (⟨"LazyHeaps", "namesKnown", "(IIII)Z"⟩, 9), (⟨"LazyHeaps", "sortsFit", "(IIII)Z"⟩, 9), (⟨"LazyHeaps$Heap", "waitFrom", "(I)V"⟩, 11), (⟨"LazyHeaps$Heap", "take", "(I)V"⟩, 11), (⟨"LazyHeaps$Heap", "objectOf", "(I)I"⟩, 11), (⟨"LazyHeaps$Heap", "backTo", "(I)V"⟩, 11), (⟨"LazyHeaps$Heap", "choiceAbove", "(I)I"⟩, 11), (⟨"LazyHeaps$Heap", "allows", "(I)Z"⟩, 11), (⟨"LazyHeaps$Heap", "countAlike", "(LLazyHeaps$Rows;I)I"⟩, 11), (⟨"LazyHeaps$Rule", "hasNoCycle", "(LLazyHeaps$Heap;)Z"⟩, 4), (⟨"LazyHeaps$Rule", "sharesNothing", "(LLazyHeaps$Heap;)Z"⟩, 4), (⟨"LazyHeaps$Rule", "holdsAt", "(LLazyHeaps$Heap;I)Z"⟩, 4), (⟨"LazyHeaps$Ends", "makeRoom", "(I)V"⟩, 10), (⟨"LazyHeaps$Play", "begin", "()V"⟩, 10), (⟨"LazyHeaps$Play", "leftOutBehind", "(LLazyHeaps$Step;)I"⟩, 10)]
theorem lw_r1 : ∀ q ∈ lw_privs_1, lw_okq q := List.forall_mem_cons.mpr ⟨lw_p0, List.forall_mem_cons.mpr ⟨lw_p1, List.forall_mem_cons.mpr ⟨lw_p2, List.forall_mem_cons.mpr ⟨lw_p3, List.forall_mem_cons.mpr ⟨lw_p4, List.forall_mem_cons.mpr ⟨lw_p5, List.forall_mem_cons.mpr ⟨lw_p6, List.forall_mem_cons.mpr ⟨lw_p7, List.forall_mem_cons.mpr ⟨lw_p8, List.forall_mem_cons.mpr ⟨lw_p9, List.forall_mem_cons.mpr ⟨lw_p10, List.forall_mem_cons.mpr ⟨lw_p11, List.forall_mem_cons.mpr ⟨lw_p12, List.forall_mem_cons.mpr ⟨lw_p13, List.forall_mem_cons.mpr ⟨lw_p14, List.forall_mem_cons.mpr ⟨lw_p15, fun _ h => absurd h List.not_mem_nil⟩⟩⟩⟩⟩⟩⟩⟩⟩⟩⟩⟩⟩⟩⟩⟩
theorem lw_p16 : lw_okq (⟨"LazyHeaps$Play", "asked", "(I)I"⟩, 10) := ⟨⟨by decide +kernel, by decide +kernel⟩, List.mem_of_getElem? (i := 189) (by decide +kernel), List.mem_of_getElem? (i := 711) (by decide +kernel), List.mem_of_getElem? (i := 712) (by decide +kernel)⟩
theorem lw_p17 : lw_okq (⟨"LazyHeaps$Play", "note", "(IZI)V"⟩, 10) := ⟨⟨by decide +kernel, by decide +kernel⟩, List.mem_of_getElem? (i := 189) (by decide +kernel), List.mem_of_getElem? (i := 716) (by decide +kernel), List.mem_of_getElem? (i := 717) (by decide +kernel)⟩
theorem lw_p18 : lw_okq (⟨"LazyHeaps$Play", "change", "(II)V"⟩, 10) := ⟨⟨by decide +kernel, by decide +kernel⟩, List.mem_of_getElem? (i := 189) (by decide +kernel), List.mem_of_getElem? (i := 724) (by decide +kernel), List.mem_of_getElem? (i := 725) (by decide +kernel)⟩
theorem lw_p19 : lw_okq (⟨"LazyHeaps$Ends", "sort", "()V"⟩, 10) := ⟨⟨by decide +kernel, by decide +kernel⟩, List.mem_of_getElem? (i := 231) (by decide +kernel), List.mem_of_getElem? (i := 737) (by decide +kernel), List.mem_of_getElem? (i := 738) (by decide +kernel)⟩
theorem lw_p20 : lw_okq (⟨"LazyHeaps$Ends", "merge", "(III)V"⟩, 10) := ⟨⟨by decide +kernel, by decide +kernel⟩, List.mem_of_getElem? (i := 231) (by decide +kernel), List.mem_of_getElem? (i := 742) (by decide +kernel), List.mem_of_getElem? (i := 743) (by decide +kernel)⟩
theorem lw_p21 : lw_okq (⟨"LazyHeaps$Ends", "nameParts", "()V"⟩, 10) := ⟨⟨by decide +kernel, by decide +kernel⟩, List.mem_of_getElem? (i := 231) (by decide +kernel), List.mem_of_getElem? (i := 746) (by decide +kernel), List.mem_of_getElem? (i := 747) (by decide +kernel)⟩
theorem lw_p22 : lw_okq (⟨"LazyHeapsModel", "changed", "()V"⟩, 54) := ⟨⟨by decide +kernel, by decide +kernel⟩, List.mem_of_getElem? (i := 789) (by decide +kernel), List.mem_of_getElem? (i := 969) (by decide +kernel), List.mem_of_getElem? (i := 970) (by decide +kernel)⟩
theorem lw_p23 : lw_okq (⟨"LazyHeapsModel", "isField", "(II)Z"⟩, 54) := ⟨⟨by decide +kernel, by decide +kernel⟩, List.mem_of_getElem? (i := 789) (by decide +kernel), List.mem_of_getElem? (i := 989) (by decide +kernel), List.mem_of_getElem? (i := 990) (by decide +kernel)⟩
theorem lw_p24 : lw_okq (⟨"LazyHeapsModel", "isSort", "(III)Z"⟩, 54) := ⟨⟨by decide +kernel, by decide +kernel⟩, List.mem_of_getElem? (i := 789) (by decide +kernel), List.mem_of_getElem? (i := 993) (by decide +kernel), List.mem_of_getElem? (i := 994) (by decide +kernel)⟩
theorem lw_p25 : lw_okq (⟨"LazyHeapsModel", "freshen", "()Z"⟩, 54) := ⟨⟨by decide +kernel, by decide +kernel⟩, List.mem_of_getElem? (i := 789) (by decide +kernel), List.mem_of_getElem? (i := 1009) (by decide +kernel), List.mem_of_getElem? (i := 1010) (by decide +kernel)⟩
theorem lw_p26 : lw_okq (⟨"LazyHeapsModel", "fill", "(I)I"⟩, 54) := ⟨⟨by decide +kernel, by decide +kernel⟩, List.mem_of_getElem? (i := 789) (by decide +kernel), List.mem_of_getElem? (i := 1013) (by decide +kernel), List.mem_of_getElem? (i := 1014) (by decide +kernel)⟩
theorem lw_p27 : lw_okq (⟨"LazyHeapsModel", "goThrough", "(I)V"⟩, 54) := ⟨⟨by decide +kernel, by decide +kernel⟩, List.mem_of_getElem? (i := 789) (by decide +kernel), List.mem_of_getElem? (i := 1017) (by decide +kernel), List.mem_of_getElem? (i := 1018) (by decide +kernel)⟩
theorem lw_p28 : lw_okq (⟨"LazyHeapsModel", "tellOf", "(II)I"⟩, 54) := ⟨⟨by decide +kernel, by decide +kernel⟩, List.mem_of_getElem? (i := 789) (by decide +kernel), List.mem_of_getElem? (i := 1021) (by decide +kernel), List.mem_of_getElem? (i := 1022) (by decide +kernel)⟩
theorem lw_p29 : lw_okq (⟨"LazyHeapsModel", "nextChoice", "(I)I"⟩, 54) := ⟨⟨by decide +kernel, by decide +kernel⟩, List.mem_of_getElem? (i := 789) (by decide +kernel), List.mem_of_getElem? (i := 1025) (by decide +kernel), List.mem_of_getElem? (i := 1026) (by decide +kernel)⟩
theorem lw_p30 : lw_okq (⟨"LazyHeapsModel", "canBe", "(I)Z"⟩, 54) := ⟨⟨by decide +kernel, by decide +kernel⟩, List.mem_of_getElem? (i := 789) (by decide +kernel), List.mem_of_getElem? (i := 1029) (by decide +kernel), List.mem_of_getElem? (i := 1030) (by decide +kernel)⟩
theorem lw_p31 : lw_okq (⟨"LazyHeapsModel", "isUnder", "(II)Z"⟩, 54) := ⟨⟨by decide +kernel, by decide +kernel⟩, List.mem_of_getElem? (i := 789) (by decide +kernel), List.mem_of_getElem? (i := 1033) (by decide +kernel), List.mem_of_getElem? (i := 1034) (by decide +kernel)⟩
def lw_privs_2 : List (MethodName × Nat) := [(⟨"LazyHeaps$Play", "asked", "(I)I"⟩, 10), (⟨"LazyHeaps$Play", "note", "(IZI)V"⟩, 10), (⟨"LazyHeaps$Play", "change", "(II)V"⟩, 10), (⟨"LazyHeaps$Ends", "sort", "()V"⟩, 10), (⟨"LazyHeaps$Ends", "merge", "(III)V"⟩, 10), (⟨"LazyHeaps$Ends", "nameParts", "()V"⟩, 10), (⟨"LazyHeapsModel", "changed", "()V"⟩, 54), (⟨"LazyHeapsModel", "isField", "(II)Z"⟩, 54), (⟨"LazyHeapsModel", "isSort", "(III)Z"⟩, 54), (⟨"LazyHeapsModel", "freshen", "()Z"⟩, 54), (⟨"LazyHeapsModel", "fill", "(I)I"⟩, 54), (⟨"LazyHeapsModel", "goThrough", "(I)V"⟩, 54), (⟨"LazyHeapsModel", "tellOf", "(II)I"⟩, 54), (⟨"LazyHeapsModel", "nextChoice", "(I)I"⟩, 54), (⟨"LazyHeapsModel", "canBe", "(I)Z"⟩, 54), (⟨"LazyHeapsModel", "isUnder", "(II)Z"⟩, 54)]
theorem lw_r2 : ∀ q ∈ lw_privs_2, lw_okq q := List.forall_mem_cons.mpr ⟨lw_p16, List.forall_mem_cons.mpr ⟨lw_p17, List.forall_mem_cons.mpr ⟨lw_p18, List.forall_mem_cons.mpr ⟨lw_p19, List.forall_mem_cons.mpr ⟨lw_p20, List.forall_mem_cons.mpr ⟨lw_p21, List.forall_mem_cons.mpr ⟨lw_p22, List.forall_mem_cons.mpr ⟨lw_p23, List.forall_mem_cons.mpr ⟨lw_p24, List.forall_mem_cons.mpr ⟨lw_p25, List.forall_mem_cons.mpr ⟨lw_p26, List.forall_mem_cons.mpr ⟨lw_p27, List.forall_mem_cons.mpr ⟨lw_p28, List.forall_mem_cons.mpr ⟨lw_p29, List.forall_mem_cons.mpr ⟨lw_p30, List.forall_mem_cons.mpr ⟨lw_p31, fun _ h => absurd h List.not_mem_nil⟩⟩⟩⟩⟩⟩⟩⟩⟩⟩⟩⟩⟩⟩⟩⟩
theorem lw_p32 : lw_okq (⟨"LazyHeapsModel", "holds", "(I)Z"⟩, 54) := ⟨⟨by decide +kernel, by decide +kernel⟩, List.mem_of_getElem? (i := 789) (by decide +kernel), List.mem_of_getElem? (i := 1037) (by decide +kernel), List.mem_of_getElem? (i := 1038) (by decide +kernel)⟩
theorem lw_p33 : lw_okq (⟨"LazyHeapsModel", "holdsRing", "(I)Z"⟩, 54) := ⟨⟨by decide +kernel, by decide +kernel⟩, List.mem_of_getElem? (i := 789) (by decide +kernel), List.mem_of_getElem? (i := 1041) (by decide +kernel), List.mem_of_getElem? (i := 1042) (by decide +kernel)⟩
theorem lw_p34 : lw_okq (⟨"LazyHeapsModel", "isSuch", "(II)Z"⟩, 54) := ⟨⟨by decide +kernel, by decide +kernel⟩, List.mem_of_getElem? (i := 789) (by decide +kernel), List.mem_of_getElem? (i := 1045) (by decide +kernel), List.mem_of_getElem? (i := 1046) (by decide +kernel)⟩
theorem lw_p35 : lw_okq (⟨"LazyHeapsModel", "holdsApart", "(I)Z"⟩, 54) := ⟨⟨by decide +kernel, by decide +kernel⟩, List.mem_of_getElem? (i := 789) (by decide +kernel), List.mem_of_getElem? (i := 1049) (by decide +kernel), List.mem_of_getElem? (i := 1050) (by decide +kernel)⟩
theorem lw_p36 : lw_okq (⟨"LazyHeapsModel", "holdsAt", "(II)Z"⟩, 54) := ⟨⟨by decide +kernel, by decide +kernel⟩, List.mem_of_getElem? (i := 789) (by decide +kernel), List.mem_of_getElem? (i := 1053) (by decide +kernel), List.mem_of_getElem? (i := 1054) (by decide +kernel)⟩
theorem lw_p37 : lw_okq (⟨"LazyHeapsModel", "nextRow", "(I)I"⟩, 54) := ⟨⟨by decide +kernel, by decide +kernel⟩, List.mem_of_getElem? (i := 789) (by decide +kernel), List.mem_of_getElem? (i := 1057) (by decide +kernel), List.mem_of_getElem? (i := 1058) (by decide +kernel)⟩
theorem lw_p38 : lw_okq (⟨"LazyHeapsModel", "load", "(I)V"⟩, 54) := ⟨⟨by decide +kernel, by decide +kernel⟩, List.mem_of_getElem? (i := 789) (by decide +kernel), List.mem_of_getElem? (i := 1073) (by decide +kernel), List.mem_of_getElem? (i := 1074) (by decide +kernel)⟩
theorem lw_p39 : lw_okq (⟨"LazyHeapsModel", "playAll", "()Z"⟩, 54) := ⟨⟨by decide +kernel, by decide +kernel⟩, List.mem_of_getElem? (i := 789) (by decide +kernel), List.mem_of_getElem? (i := 1101) (by decide +kernel), List.mem_of_getElem? (i := 1102) (by decide +kernel)⟩
theorem lw_p40 : lw_okq (⟨"LazyHeapsModel", "playHeap", "()I"⟩, 54) := ⟨⟨by decide +kernel, by decide +kernel⟩, List.mem_of_getElem? (i := 789) (by decide +kernel), List.mem_of_getElem? (i := 1105) (by decide +kernel), List.mem_of_getElem? (i := 1106) (by decide +kernel)⟩
theorem lw_p41 : lw_okq (⟨"LazyHeapsModel", "doStep", "(I)I"⟩, 54) := ⟨⟨by decide +kernel, by decide +kernel⟩, List.mem_of_getElem? (i := 789) (by decide +kernel), List.mem_of_getElem? (i := 1109) (by decide +kernel), List.mem_of_getElem? (i := 1110) (by decide +kernel)⟩
theorem lw_p42 : lw_okq (⟨"LazyHeapsModel", "ask", "(I)V"⟩, 54) := ⟨⟨by decide +kernel, by decide +kernel⟩, List.mem_of_getElem? (i := 789) (by decide +kernel), List.mem_of_getElem? (i := 1113) (by decide +kernel), List.mem_of_getElem? (i := 1114) (by decide +kernel)⟩
theorem lw_p43 : lw_okq (⟨"LazyHeapsModel", "lookRef", "(I)V"⟩, 54) := ⟨⟨by decide +kernel, by decide +kernel⟩, List.mem_of_getElem? (i := 789) (by decide +kernel), List.mem_of_getElem? (i := 1117) (by decide +kernel), List.mem_of_getElem? (i := 1118) (by decide +kernel)⟩
theorem lw_p44 : lw_okq (⟨"LazyHeapsModel", "askField", "(III)V"⟩, 54) := ⟨⟨by decide +kernel, by decide +kernel⟩, List.mem_of_getElem? (i := 789) (by decide +kernel), List.mem_of_getElem? (i := 1121) (by decide +kernel), List.mem_of_getElem? (i := 1122) (by decide +kernel)⟩
theorem lw_p45 : lw_okq (⟨"LazyHeapsModel", "placeOf", "(I)I"⟩, 54) := ⟨⟨by decide +kernel, by decide +kernel⟩, List.mem_of_getElem? (i := 789) (by decide +kernel), List.mem_of_getElem? (i := 1125) (by decide +kernel), List.mem_of_getElem? (i := 1126) (by decide +kernel)⟩
theorem lw_p46 : lw_okq (⟨"LazyHeapsModel", "compareLooks", "(II)I"⟩, 54) := ⟨⟨by decide +kernel, by decide +kernel⟩, List.mem_of_getElem? (i := 789) (by decide +kernel), List.mem_of_getElem? (i := 1129) (by decide +kernel), List.mem_of_getElem? (i := 1130) (by decide +kernel)⟩
def lw_privs_3 : List (MethodName × Nat) := [(⟨"LazyHeapsModel", "holds", "(I)Z"⟩, 54), (⟨"LazyHeapsModel", "holdsRing", "(I)Z"⟩, 54), (⟨"LazyHeapsModel", "isSuch", "(II)Z"⟩, 54), (⟨"LazyHeapsModel", "holdsApart", "(I)Z"⟩, 54), (⟨"LazyHeapsModel", "holdsAt", "(II)Z"⟩, 54), (⟨"LazyHeapsModel", "nextRow", "(I)I"⟩, 54), (⟨"LazyHeapsModel", "load", "(I)V"⟩, 54), (⟨"LazyHeapsModel", "playAll", "()Z"⟩, 54), (⟨"LazyHeapsModel", "playHeap", "()I"⟩, 54), (⟨"LazyHeapsModel", "doStep", "(I)I"⟩, 54), (⟨"LazyHeapsModel", "ask", "(I)V"⟩, 54), (⟨"LazyHeapsModel", "lookRef", "(I)V"⟩, 54), (⟨"LazyHeapsModel", "askField", "(III)V"⟩, 54), (⟨"LazyHeapsModel", "placeOf", "(I)I"⟩, 54), (⟨"LazyHeapsModel", "compareLooks", "(II)I"⟩, 54)]
theorem lw_r3 : ∀ q ∈ lw_privs_3, lw_okq q := List.forall_mem_cons.mpr ⟨lw_p32, List.forall_mem_cons.mpr ⟨lw_p33, List.forall_mem_cons.mpr ⟨lw_p34, List.forall_mem_cons.mpr ⟨lw_p35, List.forall_mem_cons.mpr ⟨lw_p36, List.forall_mem_cons.mpr ⟨lw_p37, List.forall_mem_cons.mpr ⟨lw_p38, List.forall_mem_cons.mpr ⟨lw_p39, List.forall_mem_cons.mpr ⟨lw_p40, List.forall_mem_cons.mpr ⟨lw_p41, List.forall_mem_cons.mpr ⟨lw_p42, List.forall_mem_cons.mpr ⟨lw_p43, List.forall_mem_cons.mpr ⟨lw_p44, List.forall_mem_cons.mpr ⟨lw_p45, List.forall_mem_cons.mpr ⟨lw_p46, fun _ h => absurd h List.not_mem_nil⟩⟩⟩⟩⟩⟩⟩⟩⟩⟩⟩⟩⟩⟩⟩
def lw_privs : List (MethodName × Nat) := lw_privs_1 ++ (lw_privs_2 ++ (lw_privs_3))
def lw_tbl : List Cond := k2_sels lw_privs ++ tables_1
theorem lw_privs_ok : ∀ q ∈ lw_privs, lw_okq q := by
  show ∀ q ∈ lw_privs_1 ++ (lw_privs_2 ++ (lw_privs_3)), lw_okq q
  exact List.forall_mem_append.mpr ⟨lw_r1, List.forall_mem_append.mpr ⟨lw_r2, lw_r3⟩⟩
end
section
def RX0 : String := "LazyHeaps$Catalogue"
def TX0 : u_T := fun k => match k with
  | 0 => ("LazyHeaps$Catalogue", "heap", "LLazyHeaps$Heap;", true)
  | 1 => ("LazyHeaps$Catalogue", "rules", "LLazyHeaps$Rules;", true)
  | 2 => ("LazyHeaps$Catalogue", "rows", "LLazyHeaps$Rows;", true)
  | 3 => ("LazyHeaps$Catalogue", "listed", "Z", false)
  | 4 => ("LazyHeaps$Catalogue", "keptRows", "[I", false)
  | 5 => ("LazyHeaps$Catalogue", "keptCount", "I", false)
  | _ => ("LazyHeaps$Catalogue", "siftedRules", "I", false)
def tyX0 : Nat → FieldType := fun k => match k with
  | 0 => .object "LazyHeaps$Heap"
  | 1 => .object "LazyHeaps$Rules"
  | 2 => .object "LazyHeaps$Rows"
  | 3 => .boolean
  | 4 => .array .int
  | 5 => .int
  | _ => .int
theorem nmX0 : ∀ a, a < 7 → ∀ b, b < 7 → a ≠ b → (TX0 a).2.1 ≠ (TX0 b).2.1 := by decide +kernel
theorem tyX0_ok : ∀ k, k < 7 → parseFieldDescriptor (TX0 k).2.2.1 = some (tyX0 k) := by decide +kernel
abbrev cX0_init : ByteArray := prog_2_method_1_code
def yX0_init : MethodName := ⟨RX0, "<init>", "(LLazyHeaps$Heap;LLazyHeaps$Rules;)V"⟩
abbrev cX0_forget : ByteArray := prog_2_method_2_code
def yX0_forget : MethodName := ⟨RX0, "forget", "()V"⟩
abbrev cX0_list : ByteArray := prog_2_method_3_code
def yX0_list : MethodName := ⟨RX0, "list", "()Z"⟩
abbrev cX0_keepAll : ByteArray := prog_2_method_4_code
def yX0_keepAll : MethodName := ⟨RX0, "keepAll", "()V"⟩
abbrev cX0_sift : ByteArray := prog_2_method_5_code
def yX0_sift : MethodName := ⟨RX0, "sift", "()Z"⟩
abbrev cX0_isKeptNumber : ByteArray := prog_2_method_6_code
def yX0_isKeptNumber : MethodName := ⟨RX0, "isKeptNumber", "(I)Z"⟩
abbrev cX0_keptRow : ByteArray := prog_2_method_7_code
def yX0_keptRow : MethodName := ⟨RX0, "keptRow", "(I)I"⟩
abbrev cX0_loadKept : ByteArray := prog_2_method_8_code
def yX0_loadKept : MethodName := ⟨RX0, "loadKept", "(I)Z"⟩
abbrev cX0_keptNumber : ByteArray := prog_2_method_9_code
def yX0_keptNumber : MethodName := ⟨RX0, "keptNumber", "(I)I"⟩
def RX1 : String := "LazyHeaps$Ends"
def TX1 : u_T := fun k => match k with
  | 0 => ("LazyHeaps$Ends", "catalogue", "LLazyHeaps$Catalogue;", true)
  | 1 => ("LazyHeaps$Ends", "play", "LLazyHeaps$Play;", true)
  | 2 => ("LazyHeaps$Ends", "looks", "LLazyHeaps$Rows;", true)
  | 3 => ("LazyHeaps$Ends", "order", "[I", false)
  | 4 => ("LazyHeaps$Ends", "spare", "[I", false)
  | 5 => ("LazyHeaps$Ends", "lookOfRow", "[I", false)
  | 6 => ("LazyHeaps$Ends", "partOfLook", "[I", false)
  | 7 => ("LazyHeaps$Ends", "firstRows", "[I", false)
  | 8 => ("LazyHeaps$Ends", "gathered", "Z", false)
  | _ => ("LazyHeaps$Ends", "count", "I", false)
def tyX1 : Nat → FieldType := fun k => match k with
  | 0 => .object "LazyHeaps$Catalogue"
  | 1 => .object "LazyHeaps$Play"
  | 2 => .object "LazyHeaps$Rows"
  | 3 => .array .int
  | 4 => .array .int
  | 5 => .array .int
  | 6 => .array .int
  | 7 => .array .int
  | 8 => .boolean
  | _ => .int
theorem nmX1 : ∀ a, a < 10 → ∀ b, b < 10 → a ≠ b → (TX1 a).2.1 ≠ (TX1 b).2.1 := by decide +kernel
theorem tyX1_ok : ∀ k, k < 10 → parseFieldDescriptor (TX1 k).2.2.1 = some (tyX1 k) := by decide +kernel
abbrev cX1_init : ByteArray := prog_3_method_1_code
def yX1_init : MethodName := ⟨RX1, "<init>", "(LLazyHeaps$Catalogue;LLazyHeaps$Play;)V"⟩
abbrev cX1_forget : ByteArray := prog_3_method_2_code
def yX1_forget : MethodName := ⟨RX1, "forget", "()V"⟩
abbrev cX1_gather : ByteArray := prog_3_method_3_code
def yX1_gather : MethodName := ⟨RX1, "gather", "(LLazyHeaps$Program;)Z"⟩
abbrev cX1_replay : ByteArray := prog_3_method_4_code
def yX1_replay : MethodName := ⟨RX1, "replay", "(ILLazyHeaps$Program;)Z"⟩
abbrev cX1_partOf : ByteArray := prog_3_method_5_code
def yX1_partOf : MethodName := ⟨RX1, "partOf", "(I)I"⟩
abbrev cX1_sizeOf : ByteArray := prog_3_method_6_code
def yX1_sizeOf : MethodName := ⟨RX1, "sizeOf", "(I)I"⟩
abbrev cX1_keptIn : ByteArray := prog_3_method_7_code
def yX1_keptIn : MethodName := ⟨RX1, "keptIn", "(I)I"⟩
abbrev cX1_makeRoom : ByteArray := prog_3_method_8_code
def yX1_makeRoom : MethodName := ⟨RX1, "makeRoom", "(I)V"⟩
abbrev cX1_sort : ByteArray := prog_3_method_9_code
def yX1_sort : MethodName := ⟨RX1, "sort", "()V"⟩
abbrev cX1_merge : ByteArray := prog_3_method_10_code
def yX1_merge : MethodName := ⟨RX1, "merge", "(III)V"⟩
abbrev cX1_nameParts : ByteArray := prog_3_method_11_code
def yX1_nameParts : MethodName := ⟨RX1, "nameParts", "()V"⟩
def RX2 : String := "LazyHeaps$Heap"
def TX2 : u_T := fun k => match k with
  | 0 => ("LazyHeaps$Heap", "shape", "LLazyHeaps$Shape;", true)
  | 1 => ("LazyHeaps$Heap", "kinds", "[I", true)
  | 2 => ("LazyHeaps$Heap", "told", "[I", true)
  | 3 => ("LazyHeaps$Heap", "choices", "[I", true)
  | 4 => ("LazyHeaps$Heap", "slots", "[I", true)
  | 5 => ("LazyHeaps$Heap", "types", "[I", true)
  | 6 => ("LazyHeaps$Heap", "metBefore", "[I", true)
  | 7 => ("LazyHeaps$Heap", "length", "I", false)
  | 8 => ("LazyHeaps$Heap", "met", "I", false)
  | 9 => ("LazyHeaps$Heap", "slot", "I", false)
  | _ => ("LazyHeaps$Heap", "type", "I", false)
def tyX2 : Nat → FieldType := fun k => match k with
  | 0 => .object "LazyHeaps$Shape"
  | 1 => .array .int
  | 2 => .array .int
  | 3 => .array .int
  | 4 => .array .int
  | 5 => .array .int
  | 6 => .array .int
  | 7 => .int
  | 8 => .int
  | 9 => .int
  | _ => .int
theorem nmX2 : ∀ a, a < 11 → ∀ b, b < 11 → a ≠ b → (TX2 a).2.1 ≠ (TX2 b).2.1 := by decide +kernel
theorem tyX2_ok : ∀ k, k < 11 → parseFieldDescriptor (TX2 k).2.2.1 = some (tyX2 k) := by decide +kernel
abbrev cX2_init : ByteArray := prog_4_method_1_code
def yX2_init : MethodName := ⟨RX2, "<init>", "(LLazyHeaps$Shape;)V"⟩
abbrev cX2_isMet : ByteArray := prog_4_method_2_code
def yX2_isMet : MethodName := ⟨RX2, "isMet", "(I)Z"⟩
abbrev cX2_kindOf : ByteArray := prog_4_method_3_code
def yX2_kindOf : MethodName := ⟨RX2, "kindOf", "(I)I"⟩
abbrev cX2_isUnder : ByteArray := prog_4_method_4_code
def yX2_isUnder : MethodName := ⟨RX2, "isUnder", "(II)Z"⟩
abbrev cX2_choiceAt : ByteArray := prog_4_method_5_code
def yX2_choiceAt : MethodName := ⟨RX2, "choiceAt", "(I)I"⟩
abbrev cX2_inputTells : ByteArray := prog_4_method_6_code
def yX2_inputTells : MethodName := ⟨RX2, "inputTells", "(I)I"⟩
abbrev cX2_fieldTells : ByteArray := prog_4_method_7_code
def yX2_fieldTells : MethodName := ⟨RX2, "fieldTells", "(II)I"⟩
abbrev cX2_begin : ByteArray := prog_4_method_8_code
def yX2_begin : MethodName := ⟨RX2, "begin", "()V"⟩
abbrev cX2_fill : ByteArray := prog_4_method_9_code
def yX2_fill : MethodName := ⟨RX2, "fill", "()V"⟩
abbrev cX2_raise : ByteArray := prog_4_method_10_code
def yX2_raise : MethodName := ⟨RX2, "raise", "()Z"⟩
abbrev cX2_load : ByteArray := prog_4_method_11_code
def yX2_load : MethodName := ⟨RX2, "load", "(LLazyHeaps$Rows;I)V"⟩
abbrev cX2_loadUnsure : ByteArray := prog_4_method_12_code
def yX2_loadUnsure : MethodName := ⟨RX2, "loadUnsure", "([II)I"⟩
abbrev cX2_countAlike : ByteArray := prog_4_method_13_code
def yX2_countAlike : MethodName := ⟨RX2, "countAlike", "(LLazyHeaps$Rows;I)I"⟩
abbrev cX2_backTo : ByteArray := prog_4_method_14_code
def yX2_backTo : MethodName := ⟨RX2, "backTo", "(I)V"⟩
abbrev cX2_choiceAbove : ByteArray := prog_4_method_15_code
def yX2_choiceAbove : MethodName := ⟨RX2, "choiceAbove", "(I)I"⟩
abbrev cX2_allows : ByteArray := prog_4_method_16_code
def yX2_allows : MethodName := ⟨RX2, "allows", "(I)Z"⟩
abbrev cX2_take : ByteArray := prog_4_method_17_code
def yX2_take : MethodName := ⟨RX2, "take", "(I)V"⟩
abbrev cX2_objectOf : ByteArray := prog_4_method_18_code
def yX2_objectOf : MethodName := ⟨RX2, "objectOf", "(I)I"⟩
abbrev cX2_waitFrom : ByteArray := prog_4_method_19_code
def yX2_waitFrom : MethodName := ⟨RX2, "waitFrom", "(I)V"⟩
def RX3 : String := "LazyHeaps$Play"
def TX3 : u_T := fun k => match k with
  | 0 => ("LazyHeaps$Play", "heap", "LLazyHeaps$Heap;", true)
  | 1 => ("LazyHeaps$Play", "variables", "[I", true)
  | 2 => ("LazyHeaps$Play", "numbers", "[I", true)
  | 3 => ("LazyHeaps$Play", "choices", "[I", true)
  | 4 => ("LazyHeaps$Play", "length", "I", false)
  | 5 => ("LazyHeaps$Play", "met", "I", false)
  | 6 => ("LazyHeaps$Play", "seen", "I", false)
  | 7 => ("LazyHeaps$Play", "held", "I", false)
  | 8 => ("LazyHeaps$Play", "done", "I", false)
  | _ => ("LazyHeaps$Play", "outcome", "I", false)
def tyX3 : Nat → FieldType := fun k => match k with
  | 0 => .object "LazyHeaps$Heap"
  | 1 => .array .int
  | 2 => .array .int
  | 3 => .array .int
  | 4 => .int
  | 5 => .int
  | 6 => .int
  | 7 => .int
  | 8 => .int
  | _ => .int
theorem nmX3 : ∀ a, a < 10 → ∀ b, b < 10 → a ≠ b → (TX3 a).2.1 ≠ (TX3 b).2.1 := by decide +kernel
theorem tyX3_ok : ∀ k, k < 10 → parseFieldDescriptor (TX3 k).2.2.1 = some (tyX3 k) := by decide +kernel
abbrev cX3_init : ByteArray := prog_5_method_1_code
def yX3_init : MethodName := ⟨RX3, "<init>", "(LLazyHeaps$Heap;)V"⟩
abbrev cX3_lookAt : ByteArray := prog_5_method_2_code
def yX3_lookAt : MethodName := ⟨RX3, "lookAt", "(I)I"⟩
abbrev cX3_run : ByteArray := prog_5_method_3_code
def yX3_run : MethodName := ⟨RX3, "run", "(LLazyHeaps$Program;)V"⟩
abbrev cX3_begin : ByteArray := prog_5_method_4_code
def yX3_begin : MethodName := ⟨RX3, "begin", "()V"⟩
abbrev cX3_leftOutBehind : ByteArray := prog_5_method_5_code
def yX3_leftOutBehind : MethodName := ⟨RX3, "leftOutBehind", "(LLazyHeaps$Step;)I"⟩
abbrev cX3_asked : ByteArray := prog_5_method_6_code
def yX3_asked : MethodName := ⟨RX3, "asked", "(I)I"⟩
abbrev cX3_change : ByteArray := prog_5_method_7_code
def yX3_change : MethodName := ⟨RX3, "change", "(II)V"⟩
abbrev cX3_note : ByteArray := prog_5_method_8_code
def yX3_note : MethodName := ⟨RX3, "note", "(IZI)V"⟩
def RX4 : String := "LazyHeaps$Program"
def TX4 : u_T := fun k => match k with
  | 0 => ("LazyHeaps$Program", "list", "[LLazyHeaps$Step;", true)
  | _ => ("LazyHeaps$Program", "count", "I", false)
def tyX4 : Nat → FieldType := fun k => match k with
  | 0 => .array (.object "LazyHeaps$Step")
  | _ => .int
theorem nmX4 : ∀ a, a < 2 → ∀ b, b < 2 → a ≠ b → (TX4 a).2.1 ≠ (TX4 b).2.1 := by decide +kernel
theorem tyX4_ok : ∀ k, k < 2 → parseFieldDescriptor (TX4 k).2.2.1 = some (tyX4 k) := by decide +kernel
abbrev cX4_init : ByteArray := prog_6_method_1_code
def yX4_init : MethodName := ⟨RX4, "<init>", "()V"⟩
abbrev cX4_add : ByteArray := prog_6_method_2_code
def yX4_add : MethodName := ⟨RX4, "add", "(LLazyHeaps$Step;)I"⟩
abbrev cX4_drop : ByteArray := prog_6_method_3_code
def yX4_drop : MethodName := ⟨RX4, "drop", "()I"⟩
abbrev cX4_stepAt : ByteArray := prog_6_method_4_code
def yX4_stepAt : MethodName := ⟨RX4, "stepAt", "(I)LLazyHeaps$Step;"⟩
def RX5 : String := "LazyHeaps$Rows"
def TX5 : u_T := fun k => match k with
  | 0 => ("LazyHeaps$Rows", "words", "[J", false)
  | _ => ("LazyHeaps$Rows", "count", "I", false)
def tyX5 : Nat → FieldType := fun k => match k with
  | 0 => .array .long
  | _ => .int
theorem nmX5 : ∀ a, a < 2 → ∀ b, b < 2 → a ≠ b → (TX5 a).2.1 ≠ (TX5 b).2.1 := by decide +kernel
theorem tyX5_ok : ∀ k, k < 2 → parseFieldDescriptor (TX5 k).2.2.1 = some (tyX5 k) := by decide +kernel
abbrev cX5_init : ByteArray := prog_7_method_1_code
def yX5_init : MethodName := ⟨RX5, "<init>", "()V"⟩
abbrev cX5_drop : ByteArray := prog_7_method_2_code
def yX5_drop : MethodName := ⟨RX5, "drop", "()V"⟩
abbrev cX5_add : ByteArray := prog_7_method_3_code
def yX5_add : MethodName := ⟨RX5, "add", "([II)V"⟩
abbrev cX5_choiceAt : ByteArray := prog_7_method_4_code
def yX5_choiceAt : MethodName := ⟨RX5, "choiceAt", "(II)I"⟩
abbrev cX5_dropLast : ByteArray := prog_7_method_5_code
def yX5_dropLast : MethodName := ⟨RX5, "dropLast", "()V"⟩
abbrev cX5_compare : ByteArray := prog_7_method_6_code
def yX5_compare : MethodName := ⟨RX5, "compare", "(II)I"⟩
abbrev cX5_find : ByteArray := prog_7_method_7_code
def yX5_find : MethodName := ⟨RX5, "find", "([II)I"⟩
abbrev cX5_pack : ByteArray := prog_7_method_8_code
def yX5_pack : MethodName := ⟨RX5, "pack", "([III)J"⟩
def RX6 : String := "LazyHeaps$Rule"
def TX6 : u_T := fun k => match k with
  | 0 => ("LazyHeaps$Rule", "sort", "I", true)
  | 1 => ("LazyHeaps$Rule", "top", "I", true)
  | 2 => ("LazyHeaps$Rule", "f", "I", true)
  | _ => ("LazyHeaps$Rule", "g", "I", true)
def tyX6 : Nat → FieldType := fun k => match k with
  | 0 => .int
  | 1 => .int
  | 2 => .int
  | _ => .int
theorem nmX6 : ∀ a, a < 4 → ∀ b, b < 4 → a ≠ b → (TX6 a).2.1 ≠ (TX6 b).2.1 := by decide +kernel
theorem tyX6_ok : ∀ k, k < 4 → parseFieldDescriptor (TX6 k).2.2.1 = some (tyX6 k) := by decide +kernel
abbrev cX6_init : ByteArray := prog_8_method_1_code
def yX6_init : MethodName := ⟨RX6, "<init>", "(IIII)V"⟩
abbrev cX6_holdsIn : ByteArray := prog_8_method_2_code
def yX6_holdsIn : MethodName := ⟨RX6, "holdsIn", "(LLazyHeaps$Heap;)Z"⟩
abbrev cX6_holdsAt : ByteArray := prog_8_method_3_code
def yX6_holdsAt : MethodName := ⟨RX6, "holdsAt", "(LLazyHeaps$Heap;I)Z"⟩
abbrev cX6_hasNoCycle : ByteArray := prog_8_method_4_code
def yX6_hasNoCycle : MethodName := ⟨RX6, "hasNoCycle", "(LLazyHeaps$Heap;)Z"⟩
abbrev cX6_sharesNothing : ByteArray := prog_8_method_5_code
def yX6_sharesNothing : MethodName := ⟨RX6, "sharesNothing", "(LLazyHeaps$Heap;)Z"⟩
abbrev cX6_bit : ByteArray := prog_8_method_6_code
def yX6_bit : MethodName := ⟨RX6, "bit", "(LLazyHeaps$Heap;II)I"⟩
def RX7 : String := "LazyHeaps$Rules"
def TX7 : u_T := fun k => match k with
  | 0 => ("LazyHeaps$Rules", "list", "[LLazyHeaps$Rule;", true)
  | _ => ("LazyHeaps$Rules", "count", "I", false)
def tyX7 : Nat → FieldType := fun k => match k with
  | 0 => .array (.object "LazyHeaps$Rule")
  | _ => .int
theorem nmX7 : ∀ a, a < 2 → ∀ b, b < 2 → a ≠ b → (TX7 a).2.1 ≠ (TX7 b).2.1 := by decide +kernel
theorem tyX7_ok : ∀ k, k < 2 → parseFieldDescriptor (TX7 k).2.2.1 = some (tyX7 k) := by decide +kernel
abbrev cX7_init : ByteArray := prog_9_method_1_code
def yX7_init : MethodName := ⟨RX7, "<init>", "()V"⟩
abbrev cX7_add : ByteArray := prog_9_method_2_code
def yX7_add : MethodName := ⟨RX7, "add", "(LLazyHeaps$Rule;)I"⟩
abbrev cX7_drop : ByteArray := prog_9_method_3_code
def yX7_drop : MethodName := ⟨RX7, "drop", "()I"⟩
abbrev cX7_holdFrom : ByteArray := prog_9_method_4_code
def yX7_holdFrom : MethodName := ⟨RX7, "holdFrom", "(ILLazyHeaps$Heap;)Z"⟩
def RX8 : String := "LazyHeaps$Shape"
def TX8 : u_T := fun k => match k with
  | 0 => ("LazyHeaps$Shape", "aboves", "[I", true)
  | 1 => ("LazyHeaps$Shape", "fieldCounts", "[I", true)
  | 2 => ("LazyHeaps$Shape", "types", "[I", true)
  | 3 => ("LazyHeaps$Shape", "inputs", "[I", true)
  | 4 => ("LazyHeaps$Shape", "kindCount", "I", false)
  | 5 => ("LazyHeaps$Shape", "inputCount", "I", false)
  | _ => ("LazyHeaps$Shape", "bound", "I", false)
def tyX8 : Nat → FieldType := fun k => match k with
  | 0 => .array .int
  | 1 => .array .int
  | 2 => .array .int
  | 3 => .array .int
  | 4 => .int
  | 5 => .int
  | _ => .int
theorem nmX8 : ∀ a, a < 7 → ∀ b, b < 7 → a ≠ b → (TX8 a).2.1 ≠ (TX8 b).2.1 := by decide +kernel
theorem tyX8_ok : ∀ k, k < 7 → parseFieldDescriptor (TX8 k).2.2.1 = some (tyX8 k) := by decide +kernel
abbrev cX8_init : ByteArray := prog_10_method_1_code
def yX8_init : MethodName := ⟨RX8, "<init>", "()V"⟩
abbrev cX8_isRefType : ByteArray := prog_10_method_2_code
def yX8_isRefType : MethodName := ⟨RX8, "isRefType", "(I)Z"⟩
abbrev cX8_isKind : ByteArray := prog_10_method_3_code
def yX8_isKind : MethodName := ⟨RX8, "isKind", "(I)Z"⟩
abbrev cX8_isUnder : ByteArray := prog_10_method_4_code
def yX8_isUnder : MethodName := ⟨RX8, "isUnder", "(II)Z"⟩
abbrev cX8_isSuper : ByteArray := prog_10_method_5_code
def yX8_isSuper : MethodName := ⟨RX8, "isSuper", "(I)Z"⟩
abbrev cX8_fieldsOf : ByteArray := prog_10_method_6_code
def yX8_fieldsOf : MethodName := ⟨RX8, "fieldsOf", "(I)I"⟩
abbrev cX8_typeOf : ByteArray := prog_10_method_7_code
def yX8_typeOf : MethodName := ⟨RX8, "typeOf", "(II)I"⟩
abbrev cX8_typeOfInput : ByteArray := prog_10_method_8_code
def yX8_typeOfInput : MethodName := ⟨RX8, "typeOfInput", "(I)I"⟩
abbrev cX8_hasField : ByteArray := prog_10_method_9_code
def yX8_hasField : MethodName := ⟨RX8, "hasField", "(II)Z"⟩
abbrev cX8_isRef : ByteArray := prog_10_method_10_code
def yX8_isRef : MethodName := ⟨RX8, "isRef", "(II)Z"⟩
abbrev cX8_isNumber : ByteArray := prog_10_method_11_code
def yX8_isNumber : MethodName := ⟨RX8, "isNumber", "(II)Z"⟩
abbrev cX8_addKind : ByteArray := prog_10_method_12_code
def yX8_addKind : MethodName := ⟨RX8, "addKind", "(I)I"⟩
abbrev cX8_addField : ByteArray := prog_10_method_13_code
def yX8_addField : MethodName := ⟨RX8, "addField", "(III)I"⟩
abbrev cX8_addInput : ByteArray := prog_10_method_14_code
def yX8_addInput : MethodName := ⟨RX8, "addInput", "(I)I"⟩
def RX9 : String := "LazyHeaps$Step"
def TX9 : u_T := fun k => match k with
  | 0 => ("LazyHeaps$Step", "op", "I", true)
  | 1 => ("LazyHeaps$Step", "v", "I", true)
  | 2 => ("LazyHeaps$Step", "f", "I", true)
  | 3 => ("LazyHeaps$Step", "n", "I", true)
  | _ => ("LazyHeaps$Step", "m", "I", true)
def tyX9 : Nat → FieldType := fun k => match k with
  | 0 => .int
  | 1 => .int
  | 2 => .int
  | 3 => .int
  | _ => .int
theorem nmX9 : ∀ a, a < 5 → ∀ b, b < 5 → a ≠ b → (TX9 a).2.1 ≠ (TX9 b).2.1 := by decide +kernel
theorem tyX9_ok : ∀ k, k < 5 → parseFieldDescriptor (TX9 k).2.2.1 = some (tyX9 k) := by decide +kernel
abbrev cX9_init : ByteArray := prog_11_method_1_code
def yX9_init : MethodName := ⟨RX9, "<init>", "(IIIII)V"⟩
def RX10 : String := "LazyHeaps"
def TX10 : u_T := fun k => match k with
  | 0 => ("LazyHeaps", "shape", "LLazyHeaps$Shape;", true)
  | 1 => ("LazyHeaps", "rules", "LLazyHeaps$Rules;", true)
  | 2 => ("LazyHeaps", "program", "LLazyHeaps$Program;", true)
  | 3 => ("LazyHeaps", "heap", "LLazyHeaps$Heap;", true)
  | 4 => ("LazyHeaps", "catalogue", "LLazyHeaps$Catalogue;", true)
  | 5 => ("LazyHeaps", "play", "LLazyHeaps$Play;", true)
  | 6 => ("LazyHeaps", "parts", "LLazyHeaps$Ends;", true)
  | 7 => ("LazyHeaps", "theRow", "[I", true)
  | _ => ("LazyHeaps", "theLength", "I", false)
def tyX10 : Nat → FieldType := fun k => match k with
  | 0 => .object "LazyHeaps$Shape"
  | 1 => .object "LazyHeaps$Rules"
  | 2 => .object "LazyHeaps$Program"
  | 3 => .object "LazyHeaps$Heap"
  | 4 => .object "LazyHeaps$Catalogue"
  | 5 => .object "LazyHeaps$Play"
  | 6 => .object "LazyHeaps$Ends"
  | 7 => .array .int
  | _ => .int
theorem nmX10 : ∀ a, a < 9 → ∀ b, b < 9 → a ≠ b → (TX10 a).2.1 ≠ (TX10 b).2.1 := by decide +kernel
theorem tyX10_ok : ∀ k, k < 9 → parseFieldDescriptor (TX10 k).2.2.1 = some (tyX10 k) := by decide +kernel
abbrev cX10_init : ByteArray := prog_1_method_1_code
def yX10_init : MethodName := ⟨RX10, "<init>", "()V"⟩
abbrev cX10_kind : ByteArray := prog_1_method_2_code
def yX10_kind : MethodName := ⟨RX10, "kind", "(I)I"⟩
abbrev cX10_field : ByteArray := prog_1_method_3_code
def yX10_field : MethodName := ⟨RX10, "field", "(III)I"⟩
abbrev cX10_input : ByteArray := prog_1_method_4_code
def yX10_input : MethodName := ⟨RX10, "input", "(I)I"⟩
abbrev cX10_bound : ByteArray := prog_1_method_5_code
def yX10_bound : MethodName := ⟨RX10, "bound", "(I)I"⟩
abbrev cX10_rule : ByteArray := prog_1_method_6_code
def yX10_rule : MethodName := ⟨RX10, "rule", "(IIII)I"⟩
abbrev cX10_clear : ByteArray := prog_1_method_7_code
def yX10_clear : MethodName := ⟨RX10, "clear", "()I"⟩
abbrev cX10_about : ByteArray := prog_1_method_8_code
def yX10_about : MethodName := ⟨RX10, "about", "(I)I"⟩
abbrev cX10_many : ByteArray := prog_1_method_9_code
def yX10_many : MethodName := ⟨RX10, "many", "()I"⟩
abbrev cX10_kept : ByteArray := prog_1_method_10_code
def yX10_kept : MethodName := ⟨RX10, "kept", "()I"⟩
abbrev cX10_choice : ByteArray := prog_1_method_11_code
def yX10_choice : MethodName := ⟨RX10, "choice", "(II)I"⟩
abbrev cX10_object : ByteArray := prog_1_method_12_code
def yX10_object : MethodName := ⟨RX10, "object", "(III)I"⟩
abbrev cX10_put : ByteArray := prog_1_method_13_code
def yX10_put : MethodName := ⟨RX10, "put", "(I)I"⟩
abbrev cX10_empty : ByteArray := prog_1_method_14_code
def yX10_empty : MethodName := ⟨RX10, "empty", "()I"⟩
abbrev cX10_rank : ByteArray := prog_1_method_15_code
def yX10_rank : MethodName := ⟨RX10, "rank", "()I"⟩
abbrev cX10_step : ByteArray := prog_1_method_16_code
def yX10_step : MethodName := ⟨RX10, "step", "(IIIII)I"⟩
abbrev cX10_erase : ByteArray := prog_1_method_17_code
def yX10_erase : MethodName := ⟨RX10, "erase", "()I"⟩
abbrev cX10_ends : ByteArray := prog_1_method_18_code
def yX10_ends : MethodName := ⟨RX10, "ends", "()I"⟩
abbrev cX10_end : ByteArray := prog_1_method_19_code
def yX10_end : MethodName := ⟨RX10, "end", "(II)I"⟩
abbrev cX10_look : ByteArray := prog_1_method_20_code
def yX10_look : MethodName := ⟨RX10, "look", "(II)I"⟩
abbrev cX10_endOf : ByteArray := prog_1_method_21_code
def yX10_endOf : MethodName := ⟨RX10, "endOf", "(I)I"⟩
abbrev cX10_forgetRows : ByteArray := prog_1_method_22_code
def yX10_forgetRows : MethodName := ⟨RX10, "forgetRows", "()V"⟩
abbrev cX10_namesKnown : ByteArray := prog_1_method_23_code
def yX10_namesKnown : MethodName := ⟨RX10, "namesKnown", "(IIII)Z"⟩
abbrev cX10_sortsFit : ByteArray := prog_1_method_24_code
def yX10_sortsFit : MethodName := ⟨RX10, "sortsFit", "(IIII)Z"⟩
abbrev cX10_isVariable : ByteArray := prog_1_method_25_code
def yX10_isVariable : MethodName := ⟨RX10, "isVariable", "(I)Z"⟩
abbrev cX10_sizeFor : ByteArray := prog_1_method_26_code
def yX10_sizeFor : MethodName := ⟨RX10, "sizeFor", "(I)I"⟩
def RX11 : String := "LazyHeapsModel"
def TX11 : u_T := fun k => match k with
  | 0 => ("LazyHeapsModel", "kinds", "I", false)
  | 1 => ("LazyHeapsModel", "superOf", "[I", true)
  | 2 => ("LazyHeapsModel", "fieldMany", "[I", true)
  | 3 => ("LazyHeapsModel", "fieldSort", "[I", true)
  | 4 => ("LazyHeapsModel", "fieldOf", "[I", true)
  | 5 => ("LazyHeapsModel", "inputs", "I", false)
  | 6 => ("LazyHeapsModel", "inputOf", "[I", true)
  | 7 => ("LazyHeapsModel", "limit", "I", false)
  | 8 => ("LazyHeapsModel", "rules", "I", false)
  | 9 => ("LazyHeapsModel", "ruleSort", "[I", true)
  | 10 => ("LazyHeapsModel", "ruleKind", "[I", true)
  | 11 => ("LazyHeapsModel", "ruleF", "[I", true)
  | 12 => ("LazyHeapsModel", "ruleG", "[I", true)
  | 13 => ("LazyHeapsModel", "steps", "I", false)
  | 14 => ("LazyHeapsModel", "stepOp", "[I", true)
  | 15 => ("LazyHeapsModel", "stepV", "[I", true)
  | 16 => ("LazyHeapsModel", "stepF", "[I", true)
  | 17 => ("LazyHeapsModel", "stepN", "[I", true)
  | 18 => ("LazyHeapsModel", "stepM", "[I", true)
  | 19 => ("LazyHeapsModel", "told", "I", false)
  | 20 => ("LazyHeapsModel", "tellRow", "[I", true)
  | 21 => ("LazyHeapsModel", "isFresh", "Z", false)
  | 22 => ("LazyHeapsModel", "rows", "I", false)
  | 23 => ("LazyHeapsModel", "rowAt", "[B", true)
  | 24 => ("LazyHeapsModel", "rowLong", "[B", true)
  | 25 => ("LazyHeapsModel", "keptMany", "I", false)
  | 26 => ("LazyHeapsModel", "keptRow", "[I", true)
  | 27 => ("LazyHeapsModel", "isKept", "[Z", true)
  | 28 => ("LazyHeapsModel", "isPlayed", "Z", false)
  | 29 => ("LazyHeapsModel", "lookAt", "[B", true)
  | 30 => ("LazyHeapsModel", "lookLong", "[B", true)
  | 31 => ("LazyHeapsModel", "lookEnd", "[B", true)
  | 32 => ("LazyHeapsModel", "lookSteps", "[B", true)
  | 33 => ("LazyHeapsModel", "endMany", "I", false)
  | 34 => ("LazyHeapsModel", "endFirst", "[I", true)
  | 35 => ("LazyHeapsModel", "endOfRow", "[I", true)
  | 36 => ("LazyHeapsModel", "at", "[I", true)
  | 37 => ("LazyHeapsModel", "objects", "I", false)
  | 38 => ("LazyHeapsModel", "objectKind", "[I", true)
  | 39 => ("LazyHeapsModel", "inputTells", "[I", true)
  | 40 => ("LazyHeapsModel", "tells", "[I", true)
  | 41 => ("LazyHeapsModel", "slotSort", "I", false)
  | 42 => ("LazyHeapsModel", "slotOf", "I", false)
  | 43 => ("LazyHeapsModel", "comes", "[Z", true)
  | 44 => ("LazyHeapsModel", "variable", "[I", true)
  | 45 => ("LazyHeapsModel", "isInput", "[Z", true)
  | 46 => ("LazyHeapsModel", "inputSeen", "[Z", true)
  | 47 => ("LazyHeapsModel", "fieldSeen", "[Z", true)
  | 48 => ("LazyHeapsModel", "calledBy", "[I", true)
  | 49 => ("LazyHeapsModel", "called", "I", false)
  | 50 => ("LazyHeapsModel", "looks", "I", false)
  | 51 => ("LazyHeapsModel", "look", "[I", true)
  | 52 => ("LazyHeapsModel", "done", "I", false)
  | _ => ("LazyHeapsModel", "skip", "I", false)
def tyX11 : Nat → FieldType := fun k => match k with
  | 0 => .int
  | 1 => .array .int
  | 2 => .array .int
  | 3 => .array .int
  | 4 => .array .int
  | 5 => .int
  | 6 => .array .int
  | 7 => .int
  | 8 => .int
  | 9 => .array .int
  | 10 => .array .int
  | 11 => .array .int
  | 12 => .array .int
  | 13 => .int
  | 14 => .array .int
  | 15 => .array .int
  | 16 => .array .int
  | 17 => .array .int
  | 18 => .array .int
  | 19 => .int
  | 20 => .array .int
  | 21 => .boolean
  | 22 => .int
  | 23 => .array .byte
  | 24 => .array .byte
  | 25 => .int
  | 26 => .array .int
  | 27 => .array .boolean
  | 28 => .boolean
  | 29 => .array .byte
  | 30 => .array .byte
  | 31 => .array .byte
  | 32 => .array .byte
  | 33 => .int
  | 34 => .array .int
  | 35 => .array .int
  | 36 => .array .int
  | 37 => .int
  | 38 => .array .int
  | 39 => .array .int
  | 40 => .array .int
  | 41 => .int
  | 42 => .int
  | 43 => .array .boolean
  | 44 => .array .int
  | 45 => .array .boolean
  | 46 => .array .boolean
  | 47 => .array .boolean
  | 48 => .array .int
  | 49 => .int
  | 50 => .int
  | 51 => .array .int
  | 52 => .int
  | _ => .int
theorem nmX11 : ∀ a, a < 54 → ∀ b, b < 54 → a ≠ b → (TX11 a).2.1 ≠ (TX11 b).2.1 := by decide +kernel
theorem tyX11_ok : ∀ k, k < 54 → parseFieldDescriptor (TX11 k).2.2.1 = some (tyX11 k) := by decide +kernel
abbrev cX11_init : ByteArray := prog_13_method_1_code
def yX11_init : MethodName := ⟨RX11, "<init>", "()V"⟩
abbrev cX11_in : ByteArray := prog_13_method_2_code
def yX11_in : MethodName := ⟨RX11, "in", "(III)Z"⟩
abbrev cX11_isUnder : ByteArray := prog_13_method_3_code
def yX11_isUnder : MethodName := ⟨RX11, "isUnder", "(II)Z"⟩
abbrev cX11_changed : ByteArray := prog_13_method_4_code
def yX11_changed : MethodName := ⟨RX11, "changed", "()V"⟩
abbrev cX11_kind : ByteArray := prog_13_method_5_code
def yX11_kind : MethodName := ⟨RX11, "kind", "(I)I"⟩
abbrev cX11_field : ByteArray := prog_13_method_6_code
def yX11_field : MethodName := ⟨RX11, "field", "(III)I"⟩
abbrev cX11_input : ByteArray := prog_13_method_7_code
def yX11_input : MethodName := ⟨RX11, "input", "(I)I"⟩
abbrev cX11_bound : ByteArray := prog_13_method_8_code
def yX11_bound : MethodName := ⟨RX11, "bound", "(I)I"⟩
abbrev cX11_isField : ByteArray := prog_13_method_9_code
def yX11_isField : MethodName := ⟨RX11, "isField", "(II)Z"⟩
abbrev cX11_isSort : ByteArray := prog_13_method_10_code
def yX11_isSort : MethodName := ⟨RX11, "isSort", "(III)Z"⟩
abbrev cX11_rule : ByteArray := prog_13_method_11_code
def yX11_rule : MethodName := ⟨RX11, "rule", "(IIII)I"⟩
abbrev cX11_clear : ByteArray := prog_13_method_12_code
def yX11_clear : MethodName := ⟨RX11, "clear", "()I"⟩
abbrev cX11_about : ByteArray := prog_13_method_13_code
def yX11_about : MethodName := ⟨RX11, "about", "(I)I"⟩
abbrev cX11_tellOf : ByteArray := prog_13_method_14_code
def yX11_tellOf : MethodName := ⟨RX11, "tellOf", "(II)I"⟩
abbrev cX11_goThrough : ByteArray := prog_13_method_15_code
def yX11_goThrough : MethodName := ⟨RX11, "goThrough", "(I)V"⟩
abbrev cX11_canBe : ByteArray := prog_13_method_16_code
def yX11_canBe : MethodName := ⟨RX11, "canBe", "(I)Z"⟩
abbrev cX11_nextChoice : ByteArray := prog_13_method_17_code
def yX11_nextChoice : MethodName := ⟨RX11, "nextChoice", "(I)I"⟩
abbrev cX11_fill : ByteArray := prog_13_method_18_code
def yX11_fill : MethodName := ⟨RX11, "fill", "(I)I"⟩
abbrev cX11_nextRow : ByteArray := prog_13_method_19_code
def yX11_nextRow : MethodName := ⟨RX11, "nextRow", "(I)I"⟩
abbrev cX11_load : ByteArray := prog_13_method_20_code
def yX11_load : MethodName := ⟨RX11, "load", "(I)V"⟩
abbrev cX11_isSuch : ByteArray := prog_13_method_21_code
def yX11_isSuch : MethodName := ⟨RX11, "isSuch", "(II)Z"⟩
abbrev cX11_holdsRing : ByteArray := prog_13_method_22_code
def yX11_holdsRing : MethodName := ⟨RX11, "holdsRing", "(I)Z"⟩
abbrev cX11_holdsApart : ByteArray := prog_13_method_23_code
def yX11_holdsApart : MethodName := ⟨RX11, "holdsApart", "(I)Z"⟩
abbrev cX11_holdsAt : ByteArray := prog_13_method_24_code
def yX11_holdsAt : MethodName := ⟨RX11, "holdsAt", "(II)Z"⟩
abbrev cX11_holds : ByteArray := prog_13_method_25_code
def yX11_holds : MethodName := ⟨RX11, "holds", "(I)Z"⟩
abbrev cX11_freshen : ByteArray := prog_13_method_26_code
def yX11_freshen : MethodName := ⟨RX11, "freshen", "()Z"⟩
abbrev cX11_many : ByteArray := prog_13_method_27_code
def yX11_many : MethodName := ⟨RX11, "many", "()I"⟩
abbrev cX11_kept : ByteArray := prog_13_method_28_code
def yX11_kept : MethodName := ⟨RX11, "kept", "()I"⟩
abbrev cX11_choice : ByteArray := prog_13_method_29_code
def yX11_choice : MethodName := ⟨RX11, "choice", "(II)I"⟩
abbrev cX11_object : ByteArray := prog_13_method_30_code
def yX11_object : MethodName := ⟨RX11, "object", "(III)I"⟩
abbrev cX11_put : ByteArray := prog_13_method_31_code
def yX11_put : MethodName := ⟨RX11, "put", "(I)I"⟩
abbrev cX11_empty : ByteArray := prog_13_method_32_code
def yX11_empty : MethodName := ⟨RX11, "empty", "()I"⟩
abbrev cX11_rank : ByteArray := prog_13_method_33_code
def yX11_rank : MethodName := ⟨RX11, "rank", "()I"⟩
abbrev cX11_step : ByteArray := prog_13_method_34_code
def yX11_step : MethodName := ⟨RX11, "step", "(IIIII)I"⟩
abbrev cX11_erase : ByteArray := prog_13_method_35_code
def yX11_erase : MethodName := ⟨RX11, "erase", "()I"⟩
abbrev cX11_lookRef : ByteArray := prog_13_method_36_code
def yX11_lookRef : MethodName := ⟨RX11, "lookRef", "(I)V"⟩
abbrev cX11_ask : ByteArray := prog_13_method_37_code
def yX11_ask : MethodName := ⟨RX11, "ask", "(I)V"⟩
abbrev cX11_askField : ByteArray := prog_13_method_38_code
def yX11_askField : MethodName := ⟨RX11, "askField", "(III)V"⟩
abbrev cX11_doStep : ByteArray := prog_13_method_39_code
def yX11_doStep : MethodName := ⟨RX11, "doStep", "(I)I"⟩
abbrev cX11_playHeap : ByteArray := prog_13_method_40_code
def yX11_playHeap : MethodName := ⟨RX11, "playHeap", "()I"⟩
abbrev cX11_compareLooks : ByteArray := prog_13_method_41_code
def yX11_compareLooks : MethodName := ⟨RX11, "compareLooks", "(II)I"⟩
abbrev cX11_placeOf : ByteArray := prog_13_method_42_code
def yX11_placeOf : MethodName := ⟨RX11, "placeOf", "(I)I"⟩
abbrev cX11_playAll : ByteArray := prog_13_method_43_code
def yX11_playAll : MethodName := ⟨RX11, "playAll", "()Z"⟩
abbrev cX11_ends : ByteArray := prog_13_method_44_code
def yX11_ends : MethodName := ⟨RX11, "ends", "()I"⟩
abbrev cX11_end : ByteArray := prog_13_method_45_code
def yX11_end : MethodName := ⟨RX11, "end", "(II)I"⟩
abbrev cX11_look : ByteArray := prog_13_method_46_code
def yX11_look : MethodName := ⟨RX11, "look", "(II)I"⟩
abbrev cX11_endOf : ByteArray := prog_13_method_47_code
def yX11_endOf : MethodName := ⟨RX11, "endOf", "(I)I"⟩
def RJx8e188 : String := "java/lang/Cloneable"
def RJ13 : String := "java/lang/Long"
abbrev cJ13_compare_74951 : ByteArray := prog_15_method_42_code
def yJ13_compare_74951 : MethodName := ⟨RJ13, "compare", "(JJ)I"⟩
def RJ9 : String := "java/lang/Math"
abbrev cJ9_max_7cf53 : ByteArray := prog_16_method_65_code
def yJ9_max_7cf53 : MethodName := ⟨RJ9, "max", "(II)I"⟩
abbrev cJ9_min_7cf53 : ByteArray := prog_16_method_69_code
def yJ9_min_7cf53 : MethodName := ⟨RJ9, "min", "(II)I"⟩
def RJ10 : String := "java/lang/System"
def RJ7 : String := "java/util/Arrays"
abbrev cJ7_fill_53178 : ByteArray := prog_18_method_103_code
def yJ7_fill_53178 : MethodName := ⟨RJ7, "fill", "([II)V"⟩
abbrev cJ7_copyOf_c38d5 : ByteArray := prog_18_method_124_code
def yJ7_copyOf_c38d5 : MethodName := ⟨RJ7, "copyOf", "([JI)[J"⟩
def RL : String := "LazyHeapsLaw"
abbrev cL_law : ByteArray := code
def yL_law : MethodName := ⟨RL, "law", "([I)Z"⟩
abbrev vwCl : List vw_C := [(RX0, TX0, 7), (RX1, TX1, 10), (RX2, TX2, 11), (RX3, TX3, 10), (RX4, TX4, 2), (RX5, TX5, 2), (RX6, TX6, 4), (RX7, TX7, 2), (RX8, TX8, 7), (RX9, TX9, 5), (RX10, TX10, 9), (RX11, TX11, 54)]
end
section
theorem dX11_init_0 : decode cX11_init 0 = .ok (.aload_n 0, 1) := by decide +kernel
theorem dX11_init_1 : decode cX11_init 1 = .ok (.invokespecial 1, 3) := by decide +kernel
theorem dX11_init_4 : decode cX11_init 4 = .ok (.aload_n 0, 1) := by decide +kernel
theorem dX11_init_5 : decode cX11_init 5 = .ok (.iconst 4, 1) := by decide +kernel
theorem dX11_init_6 : decode cX11_init 6 = .ok (.newarray .int, 2) := by decide +kernel
theorem dX11_init_8 : decode cX11_init 8 = .ok (.putfield 7, 3) := by decide +kernel
theorem dX11_init_11 : decode cX11_init 11 = .ok (.aload_n 0, 1) := by decide +kernel
theorem dX11_init_12 : decode cX11_init 12 = .ok (.iconst 4, 1) := by decide +kernel
theorem dX11_init_13 : decode cX11_init 13 = .ok (.newarray .int, 2) := by decide +kernel
theorem dX11_init_15 : decode cX11_init 15 = .ok (.putfield 13, 3) := by decide +kernel
theorem dX11_init_18 : decode cX11_init 18 = .ok (.aload_n 0, 1) := by decide +kernel
theorem dX11_init_19 : decode cX11_init 19 = .ok (.bipush 16, 2) := by decide +kernel
theorem dX11_init_21 : decode cX11_init 21 = .ok (.newarray .int, 2) := by decide +kernel
theorem dX11_init_23 : decode cX11_init 23 = .ok (.putfield 16, 3) := by decide +kernel
theorem dX11_init_26 : decode cX11_init 26 = .ok (.aload_n 0, 1) := by decide +kernel
theorem dX11_init_27 : decode cX11_init 27 = .ok (.bipush 16, 2) := by decide +kernel
theorem dX11_init_29 : decode cX11_init 29 = .ok (.newarray .int, 2) := by decide +kernel
theorem dX11_init_31 : decode cX11_init 31 = .ok (.putfield 19, 3) := by decide +kernel
theorem dX11_init_34 : decode cX11_init 34 = .ok (.aload_n 0, 1) := by decide +kernel
theorem dX11_init_35 : decode cX11_init 35 = .ok (.iconst 2, 1) := by decide +kernel
theorem dX11_init_36 : decode cX11_init 36 = .ok (.newarray .int, 2) := by decide +kernel
theorem dX11_init_38 : decode cX11_init 38 = .ok (.putfield 22, 3) := by decide +kernel
theorem dX11_init_41 : decode cX11_init 41 = .ok (.aload_n 0, 1) := by decide +kernel
theorem dX11_init_42 : decode cX11_init 42 = .ok (.iconst 3, 1) := by decide +kernel
theorem dX11_init_43 : decode cX11_init 43 = .ok (.putfield 25, 3) := by decide +kernel
theorem dX11_init_46 : decode cX11_init 46 = .ok (.aload_n 0, 1) := by decide +kernel
theorem dX11_init_47 : decode cX11_init 47 = .ok (.bipush 6, 2) := by decide +kernel
theorem dX11_init_49 : decode cX11_init 49 = .ok (.newarray .int, 2) := by decide +kernel
theorem dX11_init_51 : decode cX11_init 51 = .ok (.putfield 29, 3) := by decide +kernel
theorem dX11_init_54 : decode cX11_init 54 = .ok (.aload_n 0, 1) := by decide +kernel
theorem dX11_init_55 : decode cX11_init 55 = .ok (.bipush 6, 2) := by decide +kernel
theorem dX11_init_57 : decode cX11_init 57 = .ok (.newarray .int, 2) := by decide +kernel
theorem dX11_init_59 : decode cX11_init 59 = .ok (.putfield 32, 3) := by decide +kernel
theorem dX11_init_62 : decode cX11_init 62 = .ok (.aload_n 0, 1) := by decide +kernel
theorem dX11_init_63 : decode cX11_init 63 = .ok (.bipush 6, 2) := by decide +kernel
theorem dX11_init_65 : decode cX11_init 65 = .ok (.newarray .int, 2) := by decide +kernel
theorem dX11_init_67 : decode cX11_init 67 = .ok (.putfield 35, 3) := by decide +kernel
theorem dX11_init_70 : decode cX11_init 70 = .ok (.aload_n 0, 1) := by decide +kernel
theorem dX11_init_71 : decode cX11_init 71 = .ok (.bipush 6, 2) := by decide +kernel
theorem dX11_init_73 : decode cX11_init 73 = .ok (.newarray .int, 2) := by decide +kernel
theorem dX11_init_75 : decode cX11_init 75 = .ok (.putfield 38, 3) := by decide +kernel
theorem dX11_init_78 : decode cX11_init 78 = .ok (.aload_n 0, 1) := by decide +kernel
theorem dX11_init_79 : decode cX11_init 79 = .ok (.bipush 16, 2) := by decide +kernel
theorem dX11_init_81 : decode cX11_init 81 = .ok (.newarray .int, 2) := by decide +kernel
theorem dX11_init_83 : decode cX11_init 83 = .ok (.putfield 41, 3) := by decide +kernel
theorem dX11_init_86 : decode cX11_init 86 = .ok (.aload_n 0, 1) := by decide +kernel
theorem dX11_init_87 : decode cX11_init 87 = .ok (.bipush 16, 2) := by decide +kernel
theorem dX11_init_89 : decode cX11_init 89 = .ok (.newarray .int, 2) := by decide +kernel
theorem dX11_init_91 : decode cX11_init 91 = .ok (.putfield 44, 3) := by decide +kernel
theorem dX11_init_94 : decode cX11_init 94 = .ok (.aload_n 0, 1) := by decide +kernel
theorem dX11_init_95 : decode cX11_init 95 = .ok (.bipush 16, 2) := by decide +kernel
theorem dX11_init_97 : decode cX11_init 97 = .ok (.newarray .int, 2) := by decide +kernel
theorem dX11_init_99 : decode cX11_init 99 = .ok (.putfield 47, 3) := by decide +kernel
theorem dX11_init_102 : decode cX11_init 102 = .ok (.aload_n 0, 1) := by decide +kernel
theorem dX11_init_103 : decode cX11_init 103 = .ok (.bipush 16, 2) := by decide +kernel
theorem dX11_init_105 : decode cX11_init 105 = .ok (.newarray .int, 2) := by decide +kernel
theorem dX11_init_107 : decode cX11_init 107 = .ok (.putfield 50, 3) := by decide +kernel
theorem dX11_init_110 : decode cX11_init 110 = .ok (.aload_n 0, 1) := by decide +kernel
theorem dX11_init_111 : decode cX11_init 111 = .ok (.bipush 16, 2) := by decide +kernel
theorem dX11_init_113 : decode cX11_init 113 = .ok (.newarray .int, 2) := by decide +kernel
theorem dX11_init_115 : decode cX11_init 115 = .ok (.putfield 53, 3) := by decide +kernel
theorem dX11_init_118 : decode cX11_init 118 = .ok (.aload_n 0, 1) := by decide +kernel
theorem dX11_init_119 : decode cX11_init 119 = .ok (.bipush 40, 2) := by decide +kernel
theorem dX11_init_121 : decode cX11_init 121 = .ok (.newarray .int, 2) := by decide +kernel
theorem dX11_init_123 : decode cX11_init 123 = .ok (.putfield 56, 3) := by decide +kernel
theorem dX11_init_126 : decode cX11_init 126 = .ok (.aload_n 0, 1) := by decide +kernel
theorem dX11_init_127 : decode cX11_init 127 = .ok (.ldc 59, 2) := by decide +kernel
theorem dX11_init_129 : decode cX11_init 129 = .ok (.newarray .byte, 2) := by decide +kernel
theorem dX11_init_131 : decode cX11_init 131 = .ok (.putfield 60, 3) := by decide +kernel
theorem dX11_init_134 : decode cX11_init 134 = .ok (.aload_n 0, 1) := by decide +kernel
theorem dX11_init_135 : decode cX11_init 135 = .ok (.sipush 4000, 3) := by decide +kernel
theorem dX11_init_138 : decode cX11_init 138 = .ok (.newarray .byte, 2) := by decide +kernel
theorem dX11_init_140 : decode cX11_init 140 = .ok (.putfield 64, 3) := by decide +kernel
theorem dX11_init_143 : decode cX11_init 143 = .ok (.aload_n 0, 1) := by decide +kernel
theorem dX11_init_144 : decode cX11_init 144 = .ok (.sipush 4000, 3) := by decide +kernel
theorem dX11_init_147 : decode cX11_init 147 = .ok (.newarray .int, 2) := by decide +kernel
theorem dX11_init_149 : decode cX11_init 149 = .ok (.putfield 67, 3) := by decide +kernel
theorem dX11_init_152 : decode cX11_init 152 = .ok (.aload_n 0, 1) := by decide +kernel
theorem dX11_init_153 : decode cX11_init 153 = .ok (.sipush 4000, 3) := by decide +kernel
theorem dX11_init_156 : decode cX11_init 156 = .ok (.newarray .boolean, 2) := by decide +kernel
theorem dX11_init_158 : decode cX11_init 158 = .ok (.putfield 70, 3) := by decide +kernel
theorem dX11_init_161 : decode cX11_init 161 = .ok (.aload_n 0, 1) := by decide +kernel
theorem dX11_init_162 : decode cX11_init 162 = .ok (.ldc 74, 2) := by decide +kernel
theorem dX11_init_164 : decode cX11_init 164 = .ok (.newarray .byte, 2) := by decide +kernel
theorem dX11_init_166 : decode cX11_init 166 = .ok (.putfield 75, 3) := by decide +kernel
theorem dX11_init_169 : decode cX11_init 169 = .ok (.aload_n 0, 1) := by decide +kernel
theorem dX11_init_170 : decode cX11_init 170 = .ok (.sipush 4000, 3) := by decide +kernel
theorem dX11_init_173 : decode cX11_init 173 = .ok (.newarray .byte, 2) := by decide +kernel
theorem dX11_init_175 : decode cX11_init 175 = .ok (.putfield 78, 3) := by decide +kernel
theorem dX11_init_178 : decode cX11_init 178 = .ok (.aload_n 0, 1) := by decide +kernel
theorem dX11_init_179 : decode cX11_init 179 = .ok (.sipush 4000, 3) := by decide +kernel
theorem dX11_init_182 : decode cX11_init 182 = .ok (.newarray .byte, 2) := by decide +kernel
theorem dX11_init_184 : decode cX11_init 184 = .ok (.putfield 81, 3) := by decide +kernel
theorem dX11_init_187 : decode cX11_init 187 = .ok (.aload_n 0, 1) := by decide +kernel
theorem dX11_init_188 : decode cX11_init 188 = .ok (.sipush 4000, 3) := by decide +kernel
theorem dX11_init_191 : decode cX11_init 191 = .ok (.newarray .byte, 2) := by decide +kernel
theorem dX11_init_193 : decode cX11_init 193 = .ok (.putfield 84, 3) := by decide +kernel
theorem dX11_init_196 : decode cX11_init 196 = .ok (.aload_n 0, 1) := by decide +kernel
theorem dX11_init_197 : decode cX11_init 197 = .ok (.sipush 4000, 3) := by decide +kernel
theorem dX11_init_200 : decode cX11_init 200 = .ok (.newarray .int, 2) := by decide +kernel
theorem dX11_init_202 : decode cX11_init 202 = .ok (.putfield 87, 3) := by decide +kernel
theorem dX11_init_205 : decode cX11_init 205 = .ok (.aload_n 0, 1) := by decide +kernel
theorem dX11_init_206 : decode cX11_init 206 = .ok (.sipush 4000, 3) := by decide +kernel
theorem dX11_init_209 : decode cX11_init 209 = .ok (.newarray .int, 2) := by decide +kernel
theorem dX11_init_211 : decode cX11_init 211 = .ok (.putfield 90, 3) := by decide +kernel
theorem dX11_init_214 : decode cX11_init 214 = .ok (.aload_n 0, 1) := by decide +kernel
theorem dX11_init_215 : decode cX11_init 215 = .ok (.bipush 41, 2) := by decide +kernel
theorem dX11_init_217 : decode cX11_init 217 = .ok (.newarray .int, 2) := by decide +kernel
theorem dX11_init_219 : decode cX11_init 219 = .ok (.putfield 93, 3) := by decide +kernel
theorem dX11_init_222 : decode cX11_init 222 = .ok (.aload_n 0, 1) := by decide +kernel
theorem dX11_init_223 : decode cX11_init 223 = .ok (.iconst 5, 1) := by decide +kernel
theorem dX11_init_224 : decode cX11_init 224 = .ok (.newarray .int, 2) := by decide +kernel
theorem dX11_init_226 : decode cX11_init 226 = .ok (.putfield 96, 3) := by decide +kernel
theorem dX11_init_229 : decode cX11_init 229 = .ok (.aload_n 0, 1) := by decide +kernel
theorem dX11_init_230 : decode cX11_init 230 = .ok (.iconst 2, 1) := by decide +kernel
theorem dX11_init_231 : decode cX11_init 231 = .ok (.newarray .int, 2) := by decide +kernel
theorem dX11_init_233 : decode cX11_init 233 = .ok (.putfield 99, 3) := by decide +kernel
theorem dX11_init_236 : decode cX11_init 236 = .ok (.aload_n 0, 1) := by decide +kernel
theorem dX11_init_237 : decode cX11_init 237 = .ok (.bipush 20, 2) := by decide +kernel
theorem dX11_init_239 : decode cX11_init 239 = .ok (.newarray .int, 2) := by decide +kernel
theorem dX11_init_241 : decode cX11_init 241 = .ok (.putfield 102, 3) := by decide +kernel
theorem dX11_init_244 : decode cX11_init 244 = .ok (.aload_n 0, 1) := by decide +kernel
theorem dX11_init_245 : decode cX11_init 245 = .ok (.bipush 25, 2) := by decide +kernel
theorem dX11_init_247 : decode cX11_init 247 = .ok (.newarray .boolean, 2) := by decide +kernel
theorem dX11_init_249 : decode cX11_init 249 = .ok (.putfield 105, 3) := by decide +kernel
theorem dX11_init_252 : decode cX11_init 252 = .ok (.aload_n 0, 1) := by decide +kernel
theorem dX11_init_253 : decode cX11_init 253 = .ok (.iconst 4, 1) := by decide +kernel
theorem dX11_init_254 : decode cX11_init 254 = .ok (.newarray .int, 2) := by decide +kernel
theorem dX11_init_256 : decode cX11_init 256 = .ok (.putfield 108, 3) := by decide +kernel
theorem dX11_init_259 : decode cX11_init 259 = .ok (.aload_n 0, 1) := by decide +kernel
theorem dX11_init_260 : decode cX11_init 260 = .ok (.iconst 4, 1) := by decide +kernel
theorem dX11_init_261 : decode cX11_init 261 = .ok (.newarray .boolean, 2) := by decide +kernel
theorem dX11_init_263 : decode cX11_init 263 = .ok (.putfield 111, 3) := by decide +kernel
theorem dX11_init_266 : decode cX11_init 266 = .ok (.aload_n 0, 1) := by decide +kernel
theorem dX11_init_267 : decode cX11_init 267 = .ok (.iconst 2, 1) := by decide +kernel
theorem dX11_init_268 : decode cX11_init 268 = .ok (.newarray .boolean, 2) := by decide +kernel
theorem dX11_init_270 : decode cX11_init 270 = .ok (.putfield 114, 3) := by decide +kernel
theorem dX11_init_273 : decode cX11_init 273 = .ok (.aload_n 0, 1) := by decide +kernel
theorem dX11_init_274 : decode cX11_init 274 = .ok (.bipush 20, 2) := by decide +kernel
theorem dX11_init_276 : decode cX11_init 276 = .ok (.newarray .boolean, 2) := by decide +kernel
theorem dX11_init_278 : decode cX11_init 278 = .ok (.putfield 117, 3) := by decide +kernel
theorem dX11_init_281 : decode cX11_init 281 = .ok (.aload_n 0, 1) := by decide +kernel
theorem dX11_init_282 : decode cX11_init 282 = .ok (.iconst 5, 1) := by decide +kernel
theorem dX11_init_283 : decode cX11_init 283 = .ok (.newarray .int, 2) := by decide +kernel
theorem dX11_init_285 : decode cX11_init 285 = .ok (.putfield 120, 3) := by decide +kernel
theorem dX11_init_288 : decode cX11_init 288 = .ok (.aload_n 0, 1) := by decide +kernel
theorem dX11_init_289 : decode cX11_init 289 = .ok (.bipush 20, 2) := by decide +kernel
theorem dX11_init_291 : decode cX11_init 291 = .ok (.newarray .int, 2) := by decide +kernel
theorem dX11_init_293 : decode cX11_init 293 = .ok (.putfield 123, 3) := by decide +kernel
theorem dX11_init_296 : decode cX11_init 296 = .ok (.aload_n 0, 1) := by decide +kernel
theorem dX11_init_297 : decode cX11_init 297 = .ok (.iconst 0, 1) := by decide +kernel
theorem dX11_init_298 : decode cX11_init 298 = .ok (.putfield 126, 3) := by decide +kernel
theorem dX11_init_301 : decode cX11_init 301 = .ok (.return_, 1) := by decide +kernel
theorem dX11_in_0 : decode cX11_in 0 = .ok (.iload_n 0, 1) := by decide +kernel
theorem dX11_in_1 : decode cX11_in 1 = .ok (.iload_n 1, 1) := by decide +kernel
theorem dX11_in_2 : decode cX11_in 2 = .ok (.if_icmp .lt 12, 3) := by decide +kernel
theorem dX11_in_5 : decode cX11_in 5 = .ok (.iload_n 0, 1) := by decide +kernel
theorem dX11_in_6 : decode cX11_in 6 = .ok (.iload_n 2, 1) := by decide +kernel
theorem dX11_in_7 : decode cX11_in 7 = .ok (.if_icmp .gt 7, 3) := by decide +kernel
theorem dX11_in_10 : decode cX11_in 10 = .ok (.iconst 1, 1) := by decide +kernel
theorem dX11_in_11 : decode cX11_in 11 = .ok (.goto 4, 3) := by decide +kernel
theorem dX11_in_14 : decode cX11_in 14 = .ok (.iconst 0, 1) := by decide +kernel
theorem dX11_in_15 : decode cX11_in 15 = .ok (.ireturn, 1) := by decide +kernel
theorem dX11_isUnder_0 : decode cX11_isUnder 0 = .ok (.iload_n 1, 1) := by decide +kernel
theorem dX11_isUnder_1 : decode cX11_isUnder 1 = .ok (.istore_n 3, 1) := by decide +kernel
theorem dX11_isUnder_2 : decode cX11_isUnder 2 = .ok (.iload_n 3, 1) := by decide +kernel
theorem dX11_isUnder_3 : decode cX11_isUnder 3 = .ok (.iconst (-1), 1) := by decide +kernel
theorem dX11_isUnder_4 : decode cX11_isUnder 4 = .ok (.if_icmp .eq 18, 3) := by decide +kernel
theorem dX11_isUnder_7 : decode cX11_isUnder 7 = .ok (.iload_n 3, 1) := by decide +kernel
theorem dX11_isUnder_8 : decode cX11_isUnder 8 = .ok (.iload_n 2, 1) := by decide +kernel
theorem dX11_isUnder_9 : decode cX11_isUnder 9 = .ok (.if_icmp .eq 13, 3) := by decide +kernel
theorem dX11_isUnder_12 : decode cX11_isUnder 12 = .ok (.aload_n 0, 1) := by decide +kernel
theorem dX11_isUnder_13 : decode cX11_isUnder 13 = .ok (.getfield 7, 3) := by decide +kernel
theorem dX11_isUnder_16 : decode cX11_isUnder 16 = .ok (.iload_n 3, 1) := by decide +kernel
theorem dX11_isUnder_17 : decode cX11_isUnder 17 = .ok (.iaload, 1) := by decide +kernel
theorem dX11_isUnder_18 : decode cX11_isUnder 18 = .ok (.istore_n 3, 1) := by decide +kernel
theorem dX11_isUnder_19 : decode cX11_isUnder 19 = .ok (.goto (-17), 3) := by decide +kernel
theorem dX11_isUnder_22 : decode cX11_isUnder 22 = .ok (.iload_n 3, 1) := by decide +kernel
theorem dX11_isUnder_23 : decode cX11_isUnder 23 = .ok (.iload_n 2, 1) := by decide +kernel
theorem dX11_isUnder_24 : decode cX11_isUnder 24 = .ok (.if_icmp .ne 7, 3) := by decide +kernel
theorem dX11_isUnder_27 : decode cX11_isUnder 27 = .ok (.iconst 1, 1) := by decide +kernel
theorem dX11_isUnder_28 : decode cX11_isUnder 28 = .ok (.goto 4, 3) := by decide +kernel
theorem dX11_isUnder_31 : decode cX11_isUnder 31 = .ok (.iconst 0, 1) := by decide +kernel
theorem dX11_isUnder_32 : decode cX11_isUnder 32 = .ok (.ireturn, 1) := by decide +kernel
theorem dX11_changed_0 : decode cX11_changed 0 = .ok (.aload_n 0, 1) := by decide +kernel
theorem dX11_changed_1 : decode cX11_changed 1 = .ok (.iconst 0, 1) := by decide +kernel
theorem dX11_changed_2 : decode cX11_changed 2 = .ok (.putfield 126, 3) := by decide +kernel
theorem dX11_changed_5 : decode cX11_changed 5 = .ok (.aload_n 0, 1) := by decide +kernel
theorem dX11_changed_6 : decode cX11_changed 6 = .ok (.iconst 0, 1) := by decide +kernel
theorem dX11_changed_7 : decode cX11_changed 7 = .ok (.putfield 130, 3) := by decide +kernel
theorem dX11_changed_10 : decode cX11_changed 10 = .ok (.return_, 1) := by decide +kernel
theorem dX11_kind_0 : decode cX11_kind 0 = .ok (.iload_n 1, 1) := by decide +kernel
theorem dX11_kind_1 : decode cX11_kind 1 = .ok (.iconst (-1), 1) := by decide +kernel
theorem dX11_kind_2 : decode cX11_kind 2 = .ok (.if_icmp .eq 20, 3) := by decide +kernel
theorem dX11_kind_5 : decode cX11_kind 5 = .ok (.iload_n 1, 1) := by decide +kernel
theorem dX11_kind_6 : decode cX11_kind 6 = .ok (.iconst 0, 1) := by decide +kernel
theorem dX11_kind_7 : decode cX11_kind 7 = .ok (.aload_n 0, 1) := by decide +kernel
theorem dX11_kind_8 : decode cX11_kind 8 = .ok (.getfield 133, 3) := by decide +kernel
theorem dX11_kind_11 : decode cX11_kind 11 = .ok (.iconst 1, 1) := by decide +kernel
theorem dX11_kind_12 : decode cX11_kind 12 = .ok (.isub, 1) := by decide +kernel
theorem dX11_kind_13 : decode cX11_kind 13 = .ok (.invokestatic 136, 3) := by decide +kernel
theorem dX11_kind_16 : decode cX11_kind 16 = .ok (.ifCond .ne 6, 3) := by decide +kernel
theorem dX11_kind_19 : decode cX11_kind 19 = .ok (.bipush (-101), 2) := by decide +kernel
theorem dX11_kind_21 : decode cX11_kind 21 = .ok (.ireturn, 1) := by decide +kernel
theorem dX11_kind_22 : decode cX11_kind 22 = .ok (.aload_n 0, 1) := by decide +kernel
theorem dX11_kind_23 : decode cX11_kind 23 = .ok (.getfield 133, 3) := by decide +kernel
theorem dX11_kind_26 : decode cX11_kind 26 = .ok (.iconst 4, 1) := by decide +kernel
theorem dX11_kind_27 : decode cX11_kind 27 = .ok (.if_icmp .ne 6, 3) := by decide +kernel
theorem dX11_kind_30 : decode cX11_kind 30 = .ok (.bipush (-104), 2) := by decide +kernel
theorem dX11_kind_32 : decode cX11_kind 32 = .ok (.ireturn, 1) := by decide +kernel
theorem dX11_kind_33 : decode cX11_kind 33 = .ok (.aload_n 0, 1) := by decide +kernel
theorem dX11_kind_34 : decode cX11_kind 34 = .ok (.getfield 7, 3) := by decide +kernel
theorem dX11_kind_37 : decode cX11_kind 37 = .ok (.aload_n 0, 1) := by decide +kernel
theorem dX11_kind_38 : decode cX11_kind 38 = .ok (.getfield 133, 3) := by decide +kernel
theorem dX11_kind_41 : decode cX11_kind 41 = .ok (.iload_n 1, 1) := by decide +kernel
theorem dX11_kind_42 : decode cX11_kind 42 = .ok (.iastore, 1) := by decide +kernel
theorem dX11_kind_43 : decode cX11_kind 43 = .ok (.aload_n 0, 1) := by decide +kernel
theorem dX11_kind_44 : decode cX11_kind 44 = .ok (.getfield 13, 3) := by decide +kernel
theorem dX11_kind_47 : decode cX11_kind 47 = .ok (.aload_n 0, 1) := by decide +kernel
theorem dX11_kind_48 : decode cX11_kind 48 = .ok (.getfield 133, 3) := by decide +kernel
theorem dX11_kind_51 : decode cX11_kind 51 = .ok (.iload_n 1, 1) := by decide +kernel
theorem dX11_kind_52 : decode cX11_kind 52 = .ok (.iconst (-1), 1) := by decide +kernel
theorem dX11_kind_53 : decode cX11_kind 53 = .ok (.if_icmp .ne 7, 3) := by decide +kernel
theorem dX11_kind_56 : decode cX11_kind 56 = .ok (.iconst 0, 1) := by decide +kernel
theorem dX11_kind_57 : decode cX11_kind 57 = .ok (.goto 9, 3) := by decide +kernel
theorem dX11_kind_60 : decode cX11_kind 60 = .ok (.aload_n 0, 1) := by decide +kernel
theorem dX11_kind_61 : decode cX11_kind 61 = .ok (.getfield 13, 3) := by decide +kernel
theorem dX11_kind_64 : decode cX11_kind 64 = .ok (.iload_n 1, 1) := by decide +kernel
theorem dX11_kind_65 : decode cX11_kind 65 = .ok (.iaload, 1) := by decide +kernel
theorem dX11_kind_66 : decode cX11_kind 66 = .ok (.iastore, 1) := by decide +kernel
theorem dX11_kind_67 : decode cX11_kind 67 = .ok (.iconst 0, 1) := by decide +kernel
theorem dX11_kind_68 : decode cX11_kind 68 = .ok (.istore_n 2, 1) := by decide +kernel
theorem dX11_kind_69 : decode cX11_kind 69 = .ok (.iload_n 2, 1) := by decide +kernel
theorem dX11_kind_70 : decode cX11_kind 70 = .ok (.aload_n 0, 1) := by decide +kernel
theorem dX11_kind_71 : decode cX11_kind 71 = .ok (.getfield 13, 3) := by decide +kernel
theorem dX11_kind_74 : decode cX11_kind 74 = .ok (.aload_n 0, 1) := by decide +kernel
theorem dX11_kind_75 : decode cX11_kind 75 = .ok (.getfield 133, 3) := by decide +kernel
theorem dX11_kind_78 : decode cX11_kind 78 = .ok (.iaload, 1) := by decide +kernel
theorem dX11_kind_79 : decode cX11_kind 79 = .ok (.if_icmp .ge 55, 3) := by decide +kernel
theorem dX11_kind_82 : decode cX11_kind 82 = .ok (.aload_n 0, 1) := by decide +kernel
theorem dX11_kind_83 : decode cX11_kind 83 = .ok (.getfield 16, 3) := by decide +kernel
theorem dX11_kind_86 : decode cX11_kind 86 = .ok (.iconst 4, 1) := by decide +kernel
theorem dX11_kind_87 : decode cX11_kind 87 = .ok (.aload_n 0, 1) := by decide +kernel
theorem dX11_kind_88 : decode cX11_kind 88 = .ok (.getfield 133, 3) := by decide +kernel
theorem dX11_kind_91 : decode cX11_kind 91 = .ok (.imul, 1) := by decide +kernel
theorem dX11_kind_92 : decode cX11_kind 92 = .ok (.iload_n 2, 1) := by decide +kernel
theorem dX11_kind_93 : decode cX11_kind 93 = .ok (.iadd, 1) := by decide +kernel
theorem dX11_kind_94 : decode cX11_kind 94 = .ok (.aload_n 0, 1) := by decide +kernel
theorem dX11_kind_95 : decode cX11_kind 95 = .ok (.getfield 16, 3) := by decide +kernel
theorem dX11_kind_98 : decode cX11_kind 98 = .ok (.iconst 4, 1) := by decide +kernel
theorem dX11_kind_99 : decode cX11_kind 99 = .ok (.iload_n 1, 1) := by decide +kernel
theorem dX11_kind_100 : decode cX11_kind 100 = .ok (.imul, 1) := by decide +kernel
theorem dX11_kind_101 : decode cX11_kind 101 = .ok (.iload_n 2, 1) := by decide +kernel
theorem dX11_kind_102 : decode cX11_kind 102 = .ok (.iadd, 1) := by decide +kernel
theorem dX11_kind_103 : decode cX11_kind 103 = .ok (.iaload, 1) := by decide +kernel
theorem dX11_kind_104 : decode cX11_kind 104 = .ok (.iastore, 1) := by decide +kernel
theorem dX11_kind_105 : decode cX11_kind 105 = .ok (.aload_n 0, 1) := by decide +kernel
theorem dX11_kind_106 : decode cX11_kind 106 = .ok (.getfield 19, 3) := by decide +kernel
theorem dX11_kind_109 : decode cX11_kind 109 = .ok (.iconst 4, 1) := by decide +kernel
theorem dX11_kind_110 : decode cX11_kind 110 = .ok (.aload_n 0, 1) := by decide +kernel
theorem dX11_kind_111 : decode cX11_kind 111 = .ok (.getfield 133, 3) := by decide +kernel
theorem dX11_kind_114 : decode cX11_kind 114 = .ok (.imul, 1) := by decide +kernel
theorem dX11_kind_115 : decode cX11_kind 115 = .ok (.iload_n 2, 1) := by decide +kernel
theorem dX11_kind_116 : decode cX11_kind 116 = .ok (.iadd, 1) := by decide +kernel
theorem dX11_kind_117 : decode cX11_kind 117 = .ok (.aload_n 0, 1) := by decide +kernel
theorem dX11_kind_118 : decode cX11_kind 118 = .ok (.getfield 19, 3) := by decide +kernel
theorem dX11_kind_121 : decode cX11_kind 121 = .ok (.iconst 4, 1) := by decide +kernel
theorem dX11_kind_122 : decode cX11_kind 122 = .ok (.iload_n 1, 1) := by decide +kernel
theorem dX11_kind_123 : decode cX11_kind 123 = .ok (.imul, 1) := by decide +kernel
theorem dX11_kind_124 : decode cX11_kind 124 = .ok (.iload_n 2, 1) := by decide +kernel
theorem dX11_kind_125 : decode cX11_kind 125 = .ok (.iadd, 1) := by decide +kernel
theorem dX11_kind_126 : decode cX11_kind 126 = .ok (.iaload, 1) := by decide +kernel
theorem dX11_kind_127 : decode cX11_kind 127 = .ok (.iastore, 1) := by decide +kernel
theorem dX11_kind_128 : decode cX11_kind 128 = .ok (.iinc 2 1, 3) := by decide +kernel
theorem dX11_kind_131 : decode cX11_kind 131 = .ok (.goto (-62), 3) := by decide +kernel
theorem dX11_kind_134 : decode cX11_kind 134 = .ok (.aload_n 0, 1) := by decide +kernel
theorem dX11_kind_135 : decode cX11_kind 135 = .ok (.dup, 1) := by decide +kernel
theorem dX11_kind_136 : decode cX11_kind 136 = .ok (.getfield 133, 3) := by decide +kernel
theorem dX11_kind_139 : decode cX11_kind 139 = .ok (.iconst 1, 1) := by decide +kernel
theorem dX11_kind_140 : decode cX11_kind 140 = .ok (.iadd, 1) := by decide +kernel
theorem dX11_kind_141 : decode cX11_kind 141 = .ok (.putfield 133, 3) := by decide +kernel
theorem dX11_kind_144 : decode cX11_kind 144 = .ok (.aload_n 0, 1) := by decide +kernel
theorem dX11_kind_145 : decode cX11_kind 145 = .ok (.invokevirtual 140, 3) := by decide +kernel
theorem dX11_kind_148 : decode cX11_kind 148 = .ok (.aload_n 0, 1) := by decide +kernel
theorem dX11_kind_149 : decode cX11_kind 149 = .ok (.getfield 133, 3) := by decide +kernel
theorem dX11_kind_152 : decode cX11_kind 152 = .ok (.iconst 1, 1) := by decide +kernel
theorem dX11_kind_153 : decode cX11_kind 153 = .ok (.isub, 1) := by decide +kernel
theorem dX11_kind_154 : decode cX11_kind 154 = .ok (.ireturn, 1) := by decide +kernel
theorem dX11_field_0 : decode cX11_field 0 = .ok (.iload_n 1, 1) := by decide +kernel
theorem dX11_field_1 : decode cX11_field 1 = .ok (.iconst 0, 1) := by decide +kernel
theorem dX11_field_2 : decode cX11_field 2 = .ok (.aload_n 0, 1) := by decide +kernel
theorem dX11_field_3 : decode cX11_field 3 = .ok (.getfield 133, 3) := by decide +kernel
theorem dX11_field_6 : decode cX11_field 6 = .ok (.iconst 1, 1) := by decide +kernel
theorem dX11_field_7 : decode cX11_field 7 = .ok (.isub, 1) := by decide +kernel
theorem dX11_field_8 : decode cX11_field 8 = .ok (.invokestatic 136, 3) := by decide +kernel
theorem dX11_field_11 : decode cX11_field 11 = .ok (.ifCond .eq 21, 3) := by decide +kernel
theorem dX11_field_14 : decode cX11_field 14 = .ok (.iload_n 2, 1) := by decide +kernel
theorem dX11_field_15 : decode cX11_field 15 = .ok (.ifCond .ne 20, 3) := by decide +kernel
theorem dX11_field_18 : decode cX11_field 18 = .ok (.iload_n 3, 1) := by decide +kernel
theorem dX11_field_19 : decode cX11_field 19 = .ok (.iconst 0, 1) := by decide +kernel
theorem dX11_field_20 : decode cX11_field 20 = .ok (.aload_n 0, 1) := by decide +kernel
theorem dX11_field_21 : decode cX11_field 21 = .ok (.getfield 133, 3) := by decide +kernel
theorem dX11_field_24 : decode cX11_field 24 = .ok (.iconst 1, 1) := by decide +kernel
theorem dX11_field_25 : decode cX11_field 25 = .ok (.isub, 1) := by decide +kernel
theorem dX11_field_26 : decode cX11_field 26 = .ok (.invokestatic 136, 3) := by decide +kernel
theorem dX11_field_29 : decode cX11_field 29 = .ok (.ifCond .ne 6, 3) := by decide +kernel
theorem dX11_field_32 : decode cX11_field 32 = .ok (.bipush (-101), 2) := by decide +kernel
theorem dX11_field_34 : decode cX11_field 34 = .ok (.ireturn, 1) := by decide +kernel
theorem dX11_field_35 : decode cX11_field 35 = .ok (.iload_n 2, 1) := by decide +kernel
theorem dX11_field_36 : decode cX11_field 36 = .ok (.iconst 0, 1) := by decide +kernel
theorem dX11_field_37 : decode cX11_field 37 = .ok (.iconst 1, 1) := by decide +kernel
theorem dX11_field_38 : decode cX11_field 38 = .ok (.invokestatic 136, 3) := by decide +kernel
theorem dX11_field_41 : decode cX11_field 41 = .ok (.ifCond .eq 17, 3) := by decide +kernel
theorem dX11_field_44 : decode cX11_field 44 = .ok (.iload_n 2, 1) := by decide +kernel
theorem dX11_field_45 : decode cX11_field 45 = .ok (.iconst 1, 1) := by decide +kernel
theorem dX11_field_46 : decode cX11_field 46 = .ok (.if_icmp .ne 15, 3) := by decide +kernel
theorem dX11_field_49 : decode cX11_field 49 = .ok (.iload_n 3, 1) := by decide +kernel
theorem dX11_field_50 : decode cX11_field 50 = .ok (.iconst 1, 1) := by decide +kernel
theorem dX11_field_51 : decode cX11_field 51 = .ok (.iconst 3, 1) := by decide +kernel
theorem dX11_field_52 : decode cX11_field 52 = .ok (.invokestatic 136, 3) := by decide +kernel
theorem dX11_field_55 : decode cX11_field 55 = .ok (.ifCond .ne 6, 3) := by decide +kernel
theorem dX11_field_58 : decode cX11_field 58 = .ok (.bipush (-102), 2) := by decide +kernel
theorem dX11_field_60 : decode cX11_field 60 = .ok (.ireturn, 1) := by decide +kernel
theorem dX11_field_61 : decode cX11_field 61 = .ok (.iconst 0, 1) := by decide +kernel
theorem dX11_field_62 : decode cX11_field 62 = .ok (.istore 4, 2) := by decide +kernel
theorem dX11_field_64 : decode cX11_field 64 = .ok (.iload 4, 2) := by decide +kernel
theorem dX11_field_66 : decode cX11_field 66 = .ok (.aload_n 0, 1) := by decide +kernel
theorem dX11_field_67 : decode cX11_field 67 = .ok (.getfield 133, 3) := by decide +kernel
theorem dX11_field_70 : decode cX11_field 70 = .ok (.if_icmp .ge 23, 3) := by decide +kernel
theorem dX11_field_73 : decode cX11_field 73 = .ok (.aload_n 0, 1) := by decide +kernel
theorem dX11_field_74 : decode cX11_field 74 = .ok (.getfield 7, 3) := by decide +kernel
theorem dX11_field_77 : decode cX11_field 77 = .ok (.iload 4, 2) := by decide +kernel
theorem dX11_field_79 : decode cX11_field 79 = .ok (.iaload, 1) := by decide +kernel
theorem dX11_field_80 : decode cX11_field 80 = .ok (.iload_n 1, 1) := by decide +kernel
theorem dX11_field_81 : decode cX11_field 81 = .ok (.if_icmp .ne 6, 3) := by decide +kernel
theorem dX11_field_84 : decode cX11_field 84 = .ok (.bipush (-103), 2) := by decide +kernel
theorem dX11_field_86 : decode cX11_field 86 = .ok (.ireturn, 1) := by decide +kernel
theorem dX11_field_87 : decode cX11_field 87 = .ok (.iinc 4 1, 3) := by decide +kernel
theorem dX11_field_90 : decode cX11_field 90 = .ok (.goto (-26), 3) := by decide +kernel
theorem dX11_field_93 : decode cX11_field 93 = .ok (.aload_n 0, 1) := by decide +kernel
theorem dX11_field_94 : decode cX11_field 94 = .ok (.getfield 13, 3) := by decide +kernel
theorem dX11_field_97 : decode cX11_field 97 = .ok (.iload_n 1, 1) := by decide +kernel
theorem dX11_field_98 : decode cX11_field 98 = .ok (.iaload, 1) := by decide +kernel
theorem dX11_field_99 : decode cX11_field 99 = .ok (.iconst 4, 1) := by decide +kernel
theorem dX11_field_100 : decode cX11_field 100 = .ok (.if_icmp .ne 6, 3) := by decide +kernel
theorem dX11_field_103 : decode cX11_field 103 = .ok (.bipush (-104), 2) := by decide +kernel
theorem dX11_field_105 : decode cX11_field 105 = .ok (.ireturn, 1) := by decide +kernel
theorem dX11_field_106 : decode cX11_field 106 = .ok (.aload_n 0, 1) := by decide +kernel
theorem dX11_field_107 : decode cX11_field 107 = .ok (.getfield 16, 3) := by decide +kernel
theorem dX11_field_110 : decode cX11_field 110 = .ok (.iconst 4, 1) := by decide +kernel
theorem dX11_field_111 : decode cX11_field 111 = .ok (.iload_n 1, 1) := by decide +kernel
theorem dX11_field_112 : decode cX11_field 112 = .ok (.imul, 1) := by decide +kernel
theorem dX11_field_113 : decode cX11_field 113 = .ok (.aload_n 0, 1) := by decide +kernel
theorem dX11_field_114 : decode cX11_field 114 = .ok (.getfield 13, 3) := by decide +kernel
theorem dX11_field_117 : decode cX11_field 117 = .ok (.iload_n 1, 1) := by decide +kernel
theorem dX11_field_118 : decode cX11_field 118 = .ok (.iaload, 1) := by decide +kernel
theorem dX11_field_119 : decode cX11_field 119 = .ok (.iadd, 1) := by decide +kernel
theorem dX11_field_120 : decode cX11_field 120 = .ok (.iload_n 2, 1) := by decide +kernel
theorem dX11_field_121 : decode cX11_field 121 = .ok (.iastore, 1) := by decide +kernel
theorem dX11_field_122 : decode cX11_field 122 = .ok (.aload_n 0, 1) := by decide +kernel
theorem dX11_field_123 : decode cX11_field 123 = .ok (.getfield 19, 3) := by decide +kernel
theorem dX11_field_126 : decode cX11_field 126 = .ok (.iconst 4, 1) := by decide +kernel
theorem dX11_field_127 : decode cX11_field 127 = .ok (.iload_n 1, 1) := by decide +kernel
theorem dX11_field_128 : decode cX11_field 128 = .ok (.imul, 1) := by decide +kernel
theorem dX11_field_129 : decode cX11_field 129 = .ok (.aload_n 0, 1) := by decide +kernel
theorem dX11_field_130 : decode cX11_field 130 = .ok (.getfield 13, 3) := by decide +kernel
theorem dX11_field_133 : decode cX11_field 133 = .ok (.iload_n 1, 1) := by decide +kernel
theorem dX11_field_134 : decode cX11_field 134 = .ok (.iaload, 1) := by decide +kernel
theorem dX11_field_135 : decode cX11_field 135 = .ok (.iadd, 1) := by decide +kernel
theorem dX11_field_136 : decode cX11_field 136 = .ok (.iload_n 3, 1) := by decide +kernel
theorem dX11_field_137 : decode cX11_field 137 = .ok (.iastore, 1) := by decide +kernel
theorem dX11_field_138 : decode cX11_field 138 = .ok (.aload_n 0, 1) := by decide +kernel
theorem dX11_field_139 : decode cX11_field 139 = .ok (.getfield 13, 3) := by decide +kernel
theorem dX11_field_142 : decode cX11_field 142 = .ok (.iload_n 1, 1) := by decide +kernel
theorem dX11_field_143 : decode cX11_field 143 = .ok (.dup2, 1) := by decide +kernel
theorem dX11_field_144 : decode cX11_field 144 = .ok (.iaload, 1) := by decide +kernel
theorem dX11_field_145 : decode cX11_field 145 = .ok (.iconst 1, 1) := by decide +kernel
theorem dX11_field_146 : decode cX11_field 146 = .ok (.iadd, 1) := by decide +kernel
theorem dX11_field_147 : decode cX11_field 147 = .ok (.iastore, 1) := by decide +kernel
theorem dX11_field_148 : decode cX11_field 148 = .ok (.aload_n 0, 1) := by decide +kernel
theorem dX11_field_149 : decode cX11_field 149 = .ok (.invokevirtual 140, 3) := by decide +kernel
theorem dX11_field_152 : decode cX11_field 152 = .ok (.aload_n 0, 1) := by decide +kernel
theorem dX11_field_153 : decode cX11_field 153 = .ok (.getfield 13, 3) := by decide +kernel
theorem dX11_field_156 : decode cX11_field 156 = .ok (.iload_n 1, 1) := by decide +kernel
theorem dX11_field_157 : decode cX11_field 157 = .ok (.iaload, 1) := by decide +kernel
theorem dX11_field_158 : decode cX11_field 158 = .ok (.iconst 1, 1) := by decide +kernel
theorem dX11_field_159 : decode cX11_field 159 = .ok (.isub, 1) := by decide +kernel
theorem dX11_field_160 : decode cX11_field 160 = .ok (.ireturn, 1) := by decide +kernel
theorem dX11_input_0 : decode cX11_input 0 = .ok (.iload_n 1, 1) := by decide +kernel
theorem dX11_input_1 : decode cX11_input 1 = .ok (.iconst 0, 1) := by decide +kernel
theorem dX11_input_2 : decode cX11_input 2 = .ok (.aload_n 0, 1) := by decide +kernel
theorem dX11_input_3 : decode cX11_input 3 = .ok (.getfield 133, 3) := by decide +kernel
theorem dX11_input_6 : decode cX11_input 6 = .ok (.iconst 1, 1) := by decide +kernel
theorem dX11_input_7 : decode cX11_input 7 = .ok (.isub, 1) := by decide +kernel
theorem dX11_input_8 : decode cX11_input 8 = .ok (.invokestatic 136, 3) := by decide +kernel
theorem dX11_input_11 : decode cX11_input 11 = .ok (.ifCond .ne 6, 3) := by decide +kernel
theorem dX11_input_14 : decode cX11_input 14 = .ok (.bipush (-101), 2) := by decide +kernel
theorem dX11_input_16 : decode cX11_input 16 = .ok (.ireturn, 1) := by decide +kernel
theorem dX11_input_17 : decode cX11_input 17 = .ok (.aload_n 0, 1) := by decide +kernel
theorem dX11_input_18 : decode cX11_input 18 = .ok (.getfield 143, 3) := by decide +kernel
theorem dX11_input_21 : decode cX11_input 21 = .ok (.iconst 2, 1) := by decide +kernel
theorem dX11_input_22 : decode cX11_input 22 = .ok (.if_icmp .ne 6, 3) := by decide +kernel
theorem dX11_input_25 : decode cX11_input 25 = .ok (.bipush (-104), 2) := by decide +kernel
theorem dX11_input_27 : decode cX11_input 27 = .ok (.ireturn, 1) := by decide +kernel
theorem dX11_input_28 : decode cX11_input 28 = .ok (.aload_n 0, 1) := by decide +kernel
theorem dX11_input_29 : decode cX11_input 29 = .ok (.getfield 22, 3) := by decide +kernel
theorem dX11_input_32 : decode cX11_input 32 = .ok (.aload_n 0, 1) := by decide +kernel
theorem dX11_input_33 : decode cX11_input 33 = .ok (.getfield 143, 3) := by decide +kernel
theorem dX11_input_36 : decode cX11_input 36 = .ok (.iload_n 1, 1) := by decide +kernel
theorem dX11_input_37 : decode cX11_input 37 = .ok (.iastore, 1) := by decide +kernel
theorem dX11_input_38 : decode cX11_input 38 = .ok (.aload_n 0, 1) := by decide +kernel
theorem dX11_input_39 : decode cX11_input 39 = .ok (.dup, 1) := by decide +kernel
theorem dX11_input_40 : decode cX11_input 40 = .ok (.getfield 143, 3) := by decide +kernel
theorem dX11_input_43 : decode cX11_input 43 = .ok (.iconst 1, 1) := by decide +kernel
theorem dX11_input_44 : decode cX11_input 44 = .ok (.iadd, 1) := by decide +kernel
theorem dX11_input_45 : decode cX11_input 45 = .ok (.putfield 143, 3) := by decide +kernel
theorem dX11_input_48 : decode cX11_input 48 = .ok (.aload_n 0, 1) := by decide +kernel
theorem dX11_input_49 : decode cX11_input 49 = .ok (.invokevirtual 140, 3) := by decide +kernel
theorem dX11_input_52 : decode cX11_input 52 = .ok (.aload_n 0, 1) := by decide +kernel
theorem dX11_input_53 : decode cX11_input 53 = .ok (.getfield 143, 3) := by decide +kernel
theorem dX11_input_56 : decode cX11_input 56 = .ok (.iconst 1, 1) := by decide +kernel
theorem dX11_input_57 : decode cX11_input 57 = .ok (.isub, 1) := by decide +kernel
theorem dX11_input_58 : decode cX11_input 58 = .ok (.ireturn, 1) := by decide +kernel
theorem dX11_bound_0 : decode cX11_bound 0 = .ok (.iload_n 1, 1) := by decide +kernel
theorem dX11_bound_1 : decode cX11_bound 1 = .ok (.iconst 1, 1) := by decide +kernel
theorem dX11_bound_2 : decode cX11_bound 2 = .ok (.iconst 5, 1) := by decide +kernel
theorem dX11_bound_3 : decode cX11_bound 3 = .ok (.invokestatic 136, 3) := by decide +kernel
theorem dX11_bound_6 : decode cX11_bound 6 = .ok (.ifCond .ne 6, 3) := by decide +kernel
theorem dX11_bound_9 : decode cX11_bound 9 = .ok (.bipush (-102), 2) := by decide +kernel
theorem dX11_bound_11 : decode cX11_bound 11 = .ok (.ireturn, 1) := by decide +kernel
theorem dX11_bound_12 : decode cX11_bound 12 = .ok (.aload_n 0, 1) := by decide +kernel
theorem dX11_bound_13 : decode cX11_bound 13 = .ok (.getfield 25, 3) := by decide +kernel
theorem dX11_bound_16 : decode cX11_bound 16 = .ok (.istore_n 2, 1) := by decide +kernel
theorem dX11_bound_17 : decode cX11_bound 17 = .ok (.aload_n 0, 1) := by decide +kernel
theorem dX11_bound_18 : decode cX11_bound 18 = .ok (.iload_n 1, 1) := by decide +kernel
theorem dX11_bound_19 : decode cX11_bound 19 = .ok (.putfield 25, 3) := by decide +kernel
theorem dX11_bound_22 : decode cX11_bound 22 = .ok (.aload_n 0, 1) := by decide +kernel
theorem dX11_bound_23 : decode cX11_bound 23 = .ok (.invokevirtual 140, 3) := by decide +kernel
theorem dX11_bound_26 : decode cX11_bound 26 = .ok (.iload_n 2, 1) := by decide +kernel
theorem dX11_bound_27 : decode cX11_bound 27 = .ok (.ireturn, 1) := by decide +kernel
theorem dX11_isField_0 : decode cX11_isField 0 = .ok (.iload_n 2, 1) := by decide +kernel
theorem dX11_isField_1 : decode cX11_isField 1 = .ok (.iconst 0, 1) := by decide +kernel
theorem dX11_isField_2 : decode cX11_isField 2 = .ok (.aload_n 0, 1) := by decide +kernel
theorem dX11_isField_3 : decode cX11_isField 3 = .ok (.getfield 13, 3) := by decide +kernel
theorem dX11_isField_6 : decode cX11_isField 6 = .ok (.iload_n 1, 1) := by decide +kernel
theorem dX11_isField_7 : decode cX11_isField 7 = .ok (.iaload, 1) := by decide +kernel
theorem dX11_isField_8 : decode cX11_isField 8 = .ok (.iconst 1, 1) := by decide +kernel
theorem dX11_isField_9 : decode cX11_isField 9 = .ok (.isub, 1) := by decide +kernel
theorem dX11_isField_10 : decode cX11_isField 10 = .ok (.invokestatic 136, 3) := by decide +kernel
theorem dX11_isField_13 : decode cX11_isField 13 = .ok (.ireturn, 1) := by decide +kernel
theorem dX11_isSort_0 : decode cX11_isSort 0 = .ok (.aload_n 0, 1) := by decide +kernel
theorem dX11_isSort_1 : decode cX11_isSort 1 = .ok (.getfield 16, 3) := by decide +kernel
theorem dX11_isSort_4 : decode cX11_isSort 4 = .ok (.iconst 4, 1) := by decide +kernel
theorem dX11_isSort_5 : decode cX11_isSort 5 = .ok (.iload_n 1, 1) := by decide +kernel
theorem dX11_isSort_6 : decode cX11_isSort 6 = .ok (.imul, 1) := by decide +kernel
theorem dX11_isSort_7 : decode cX11_isSort 7 = .ok (.iload_n 2, 1) := by decide +kernel
theorem dX11_isSort_8 : decode cX11_isSort 8 = .ok (.iadd, 1) := by decide +kernel
theorem dX11_isSort_9 : decode cX11_isSort 9 = .ok (.iaload, 1) := by decide +kernel
theorem dX11_isSort_10 : decode cX11_isSort 10 = .ok (.iload_n 3, 1) := by decide +kernel
theorem dX11_isSort_11 : decode cX11_isSort 11 = .ok (.if_icmp .ne 7, 3) := by decide +kernel
theorem dX11_isSort_14 : decode cX11_isSort 14 = .ok (.iconst 1, 1) := by decide +kernel
theorem dX11_isSort_15 : decode cX11_isSort 15 = .ok (.goto 4, 3) := by decide +kernel
theorem dX11_isSort_18 : decode cX11_isSort 18 = .ok (.iconst 0, 1) := by decide +kernel
theorem dX11_isSort_19 : decode cX11_isSort 19 = .ok (.ireturn, 1) := by decide +kernel
theorem dX11_rule_0 : decode cX11_rule 0 = .ok (.iload_n 1, 1) := by decide +kernel
theorem dX11_rule_1 : decode cX11_rule 1 = .ok (.iconst 1, 1) := by decide +kernel
theorem dX11_rule_2 : decode cX11_rule 2 = .ok (.if_icmp .eq 8, 3) := by decide +kernel
theorem dX11_rule_5 : decode cX11_rule 5 = .ok (.iload_n 1, 1) := by decide +kernel
theorem dX11_rule_6 : decode cX11_rule 6 = .ok (.iconst 2, 1) := by decide +kernel
theorem dX11_rule_7 : decode cX11_rule 7 = .ok (.if_icmp .ne 13, 3) := by decide +kernel
theorem dX11_rule_10 : decode cX11_rule 10 = .ok (.iload 4, 2) := by decide +kernel
theorem dX11_rule_12 : decode cX11_rule 12 = .ok (.iconst (-1), 1) := by decide +kernel
theorem dX11_rule_13 : decode cX11_rule 13 = .ok (.if_icmp .ne 7, 3) := by decide +kernel
theorem dX11_rule_16 : decode cX11_rule 16 = .ok (.iconst 1, 1) := by decide +kernel
theorem dX11_rule_17 : decode cX11_rule 17 = .ok (.goto 4, 3) := by decide +kernel
theorem dX11_rule_20 : decode cX11_rule 20 = .ok (.iconst 0, 1) := by decide +kernel
theorem dX11_rule_21 : decode cX11_rule 21 = .ok (.istore 5, 2) := by decide +kernel
theorem dX11_rule_23 : decode cX11_rule 23 = .ok (.iload_n 1, 1) := by decide +kernel
theorem dX11_rule_24 : decode cX11_rule 24 = .ok (.bipush 6, 2) := by decide +kernel
theorem dX11_rule_26 : decode cX11_rule 26 = .ok (.if_icmp .eq 156, 3) := by decide +kernel
theorem dX11_rule_29 : decode cX11_rule 29 = .ok (.iload_n 2, 1) := by decide +kernel
theorem dX11_rule_30 : decode cX11_rule 30 = .ok (.iconst 0, 1) := by decide +kernel
theorem dX11_rule_31 : decode cX11_rule 31 = .ok (.aload_n 0, 1) := by decide +kernel
theorem dX11_rule_32 : decode cX11_rule 32 = .ok (.getfield 133, 3) := by decide +kernel
theorem dX11_rule_35 : decode cX11_rule 35 = .ok (.iconst 1, 1) := by decide +kernel
theorem dX11_rule_36 : decode cX11_rule 36 = .ok (.isub, 1) := by decide +kernel
theorem dX11_rule_37 : decode cX11_rule 37 = .ok (.invokestatic 136, 3) := by decide +kernel
theorem dX11_rule_40 : decode cX11_rule 40 = .ok (.ifCond .eq 31, 3) := by decide +kernel
theorem dX11_rule_43 : decode cX11_rule 43 = .ok (.aload_n 0, 1) := by decide +kernel
theorem dX11_rule_44 : decode cX11_rule 44 = .ok (.iload_n 2, 1) := by decide +kernel
theorem dX11_rule_45 : decode cX11_rule 45 = .ok (.iload_n 3, 1) := by decide +kernel
theorem dX11_rule_46 : decode cX11_rule 46 = .ok (.invokevirtual 146, 3) := by decide +kernel
theorem dX11_rule_49 : decode cX11_rule 49 = .ok (.ifCond .eq 22, 3) := by decide +kernel
theorem dX11_rule_52 : decode cX11_rule 52 = .ok (.iload_n 1, 1) := by decide +kernel
theorem dX11_rule_53 : decode cX11_rule 53 = .ok (.ifCond .eq 21, 3) := by decide +kernel
theorem dX11_rule_56 : decode cX11_rule 56 = .ok (.iload 5, 2) := by decide +kernel
theorem dX11_rule_58 : decode cX11_rule 58 = .ok (.ifCond .ne 16, 3) := by decide +kernel
theorem dX11_rule_61 : decode cX11_rule 61 = .ok (.aload_n 0, 1) := by decide +kernel
theorem dX11_rule_62 : decode cX11_rule 62 = .ok (.iload_n 2, 1) := by decide +kernel
theorem dX11_rule_63 : decode cX11_rule 63 = .ok (.iload 4, 2) := by decide +kernel
theorem dX11_rule_65 : decode cX11_rule 65 = .ok (.invokevirtual 146, 3) := by decide +kernel
theorem dX11_rule_68 : decode cX11_rule 68 = .ok (.ifCond .ne 6, 3) := by decide +kernel
theorem dX11_rule_71 : decode cX11_rule 71 = .ok (.bipush (-101), 2) := by decide +kernel
theorem dX11_rule_73 : decode cX11_rule 73 = .ok (.ireturn, 1) := by decide +kernel
theorem dX11_rule_74 : decode cX11_rule 74 = .ok (.iload_n 1, 1) := by decide +kernel
theorem dX11_rule_75 : decode cX11_rule 75 = .ok (.iconst 0, 1) := by decide +kernel
theorem dX11_rule_76 : decode cX11_rule 76 = .ok (.iconst 5, 1) := by decide +kernel
theorem dX11_rule_77 : decode cX11_rule 77 = .ok (.invokestatic 136, 3) := by decide +kernel
theorem dX11_rule_80 : decode cX11_rule 80 = .ok (.ifCond .eq 17, 3) := by decide +kernel
theorem dX11_rule_83 : decode cX11_rule 83 = .ok (.aload_n 0, 1) := by decide +kernel
theorem dX11_rule_84 : decode cX11_rule 84 = .ok (.iload_n 2, 1) := by decide +kernel
theorem dX11_rule_85 : decode cX11_rule 85 = .ok (.iload_n 3, 1) := by decide +kernel
theorem dX11_rule_86 : decode cX11_rule 86 = .ok (.iconst 0, 1) := by decide +kernel
theorem dX11_rule_87 : decode cX11_rule 87 = .ok (.invokevirtual 150, 3) := by decide +kernel
theorem dX11_rule_90 : decode cX11_rule 90 = .ok (.ifCond .eq 7, 3) := by decide +kernel
theorem dX11_rule_93 : decode cX11_rule 93 = .ok (.iconst 1, 1) := by decide +kernel
theorem dX11_rule_94 : decode cX11_rule 94 = .ok (.goto 4, 3) := by decide +kernel
theorem dX11_rule_97 : decode cX11_rule 97 = .ok (.iconst 0, 1) := by decide +kernel
theorem dX11_rule_98 : decode cX11_rule 98 = .ok (.istore 6, 2) := by decide +kernel
theorem dX11_rule_100 : decode cX11_rule 100 = .ok (.iload_n 1, 1) := by decide +kernel
theorem dX11_rule_101 : decode cX11_rule 101 = .ok (.iconst 1, 1) := by decide +kernel
theorem dX11_rule_102 : decode cX11_rule 102 = .ok (.if_icmp .lt 39, 3) := by decide +kernel
theorem dX11_rule_105 : decode cX11_rule 105 = .ok (.iload_n 1, 1) := by decide +kernel
theorem dX11_rule_106 : decode cX11_rule 106 = .ok (.iconst 3, 1) := by decide +kernel
theorem dX11_rule_107 : decode cX11_rule 107 = .ok (.if_icmp .gt 34, 3) := by decide +kernel
theorem dX11_rule_110 : decode cX11_rule 110 = .ok (.iload 6, 2) := by decide +kernel
theorem dX11_rule_112 : decode cX11_rule 112 = .ok (.ifCond .eq 23, 3) := by decide +kernel
theorem dX11_rule_115 : decode cX11_rule 115 = .ok (.iload 5, 2) := by decide +kernel
theorem dX11_rule_117 : decode cX11_rule 117 = .ok (.ifCond .ne 14, 3) := by decide +kernel
theorem dX11_rule_120 : decode cX11_rule 120 = .ok (.aload_n 0, 1) := by decide +kernel
theorem dX11_rule_121 : decode cX11_rule 121 = .ok (.iload_n 2, 1) := by decide +kernel
theorem dX11_rule_122 : decode cX11_rule 122 = .ok (.iload 4, 2) := by decide +kernel
theorem dX11_rule_124 : decode cX11_rule 124 = .ok (.iconst 0, 1) := by decide +kernel
theorem dX11_rule_125 : decode cX11_rule 125 = .ok (.invokevirtual 150, 3) := by decide +kernel
theorem dX11_rule_128 : decode cX11_rule 128 = .ok (.ifCond .eq 7, 3) := by decide +kernel
theorem dX11_rule_131 : decode cX11_rule 131 = .ok (.iconst 1, 1) := by decide +kernel
theorem dX11_rule_132 : decode cX11_rule 132 = .ok (.goto 4, 3) := by decide +kernel
theorem dX11_rule_135 : decode cX11_rule 135 = .ok (.iconst 0, 1) := by decide +kernel
theorem dX11_rule_136 : decode cX11_rule 136 = .ok (.istore 6, 2) := by decide +kernel
theorem dX11_rule_138 : decode cX11_rule 138 = .ok (.goto 36, 3) := by decide +kernel
theorem dX11_rule_141 : decode cX11_rule 141 = .ok (.iload_n 1, 1) := by decide +kernel
theorem dX11_rule_142 : decode cX11_rule 142 = .ok (.iconst 4, 1) := by decide +kernel
theorem dX11_rule_143 : decode cX11_rule 143 = .ok (.if_icmp .eq 8, 3) := by decide +kernel
theorem dX11_rule_146 : decode cX11_rule 146 = .ok (.iload_n 1, 1) := by decide +kernel
theorem dX11_rule_147 : decode cX11_rule 147 = .ok (.iconst 5, 1) := by decide +kernel
theorem dX11_rule_148 : decode cX11_rule 148 = .ok (.if_icmp .ne 26, 3) := by decide +kernel
theorem dX11_rule_151 : decode cX11_rule 151 = .ok (.iload 6, 2) := by decide +kernel
theorem dX11_rule_153 : decode cX11_rule 153 = .ok (.ifCond .eq 18, 3) := by decide +kernel
theorem dX11_rule_156 : decode cX11_rule 156 = .ok (.aload_n 0, 1) := by decide +kernel
theorem dX11_rule_157 : decode cX11_rule 157 = .ok (.iload_n 2, 1) := by decide +kernel
theorem dX11_rule_158 : decode cX11_rule 158 = .ok (.iload 4, 2) := by decide +kernel
theorem dX11_rule_160 : decode cX11_rule 160 = .ok (.iconst 1, 1) := by decide +kernel
theorem dX11_rule_161 : decode cX11_rule 161 = .ok (.invokevirtual 150, 3) := by decide +kernel
theorem dX11_rule_164 : decode cX11_rule 164 = .ok (.ifCond .eq 7, 3) := by decide +kernel
theorem dX11_rule_167 : decode cX11_rule 167 = .ok (.iconst 1, 1) := by decide +kernel
theorem dX11_rule_168 : decode cX11_rule 168 = .ok (.goto 4, 3) := by decide +kernel
theorem dX11_rule_171 : decode cX11_rule 171 = .ok (.iconst 0, 1) := by decide +kernel
theorem dX11_rule_172 : decode cX11_rule 172 = .ok (.istore 6, 2) := by decide +kernel
theorem dX11_rule_174 : decode cX11_rule 174 = .ok (.iload 6, 2) := by decide +kernel
theorem dX11_rule_176 : decode cX11_rule 176 = .ok (.ifCond .ne 6, 3) := by decide +kernel
theorem dX11_rule_179 : decode cX11_rule 179 = .ok (.bipush (-102), 2) := by decide +kernel
theorem dX11_rule_181 : decode cX11_rule 181 = .ok (.ireturn, 1) := by decide +kernel
theorem dX11_rule_182 : decode cX11_rule 182 = .ok (.aload_n 0, 1) := by decide +kernel
theorem dX11_rule_183 : decode cX11_rule 183 = .ok (.getfield 153, 3) := by decide +kernel
theorem dX11_rule_186 : decode cX11_rule 186 = .ok (.bipush 6, 2) := by decide +kernel
theorem dX11_rule_188 : decode cX11_rule 188 = .ok (.if_icmp .ne 6, 3) := by decide +kernel
theorem dX11_rule_191 : decode cX11_rule 191 = .ok (.bipush (-104), 2) := by decide +kernel
theorem dX11_rule_193 : decode cX11_rule 193 = .ok (.ireturn, 1) := by decide +kernel
theorem dX11_rule_194 : decode cX11_rule 194 = .ok (.aload_n 0, 1) := by decide +kernel
theorem dX11_rule_195 : decode cX11_rule 195 = .ok (.getfield 29, 3) := by decide +kernel
theorem dX11_rule_198 : decode cX11_rule 198 = .ok (.aload_n 0, 1) := by decide +kernel
theorem dX11_rule_199 : decode cX11_rule 199 = .ok (.getfield 153, 3) := by decide +kernel
theorem dX11_rule_202 : decode cX11_rule 202 = .ok (.iload_n 1, 1) := by decide +kernel
theorem dX11_rule_203 : decode cX11_rule 203 = .ok (.iastore, 1) := by decide +kernel
theorem dX11_rule_204 : decode cX11_rule 204 = .ok (.aload_n 0, 1) := by decide +kernel
theorem dX11_rule_205 : decode cX11_rule 205 = .ok (.getfield 32, 3) := by decide +kernel
theorem dX11_rule_208 : decode cX11_rule 208 = .ok (.aload_n 0, 1) := by decide +kernel
theorem dX11_rule_209 : decode cX11_rule 209 = .ok (.getfield 153, 3) := by decide +kernel
theorem dX11_rule_212 : decode cX11_rule 212 = .ok (.iload_n 2, 1) := by decide +kernel
theorem dX11_rule_213 : decode cX11_rule 213 = .ok (.iastore, 1) := by decide +kernel
theorem dX11_rule_214 : decode cX11_rule 214 = .ok (.aload_n 0, 1) := by decide +kernel
theorem dX11_rule_215 : decode cX11_rule 215 = .ok (.getfield 35, 3) := by decide +kernel
theorem dX11_rule_218 : decode cX11_rule 218 = .ok (.aload_n 0, 1) := by decide +kernel
theorem dX11_rule_219 : decode cX11_rule 219 = .ok (.getfield 153, 3) := by decide +kernel
theorem dX11_rule_222 : decode cX11_rule 222 = .ok (.iload_n 3, 1) := by decide +kernel
theorem dX11_rule_223 : decode cX11_rule 223 = .ok (.iastore, 1) := by decide +kernel
theorem dX11_rule_224 : decode cX11_rule 224 = .ok (.aload_n 0, 1) := by decide +kernel
theorem dX11_rule_225 : decode cX11_rule 225 = .ok (.getfield 38, 3) := by decide +kernel
theorem dX11_rule_228 : decode cX11_rule 228 = .ok (.aload_n 0, 1) := by decide +kernel
theorem dX11_rule_229 : decode cX11_rule 229 = .ok (.getfield 153, 3) := by decide +kernel
theorem dX11_rule_232 : decode cX11_rule 232 = .ok (.iload 4, 2) := by decide +kernel
theorem dX11_rule_234 : decode cX11_rule 234 = .ok (.iastore, 1) := by decide +kernel
theorem dX11_rule_235 : decode cX11_rule 235 = .ok (.aload_n 0, 1) := by decide +kernel
theorem dX11_rule_236 : decode cX11_rule 236 = .ok (.dup, 1) := by decide +kernel
theorem dX11_rule_237 : decode cX11_rule 237 = .ok (.getfield 153, 3) := by decide +kernel
theorem dX11_rule_240 : decode cX11_rule 240 = .ok (.iconst 1, 1) := by decide +kernel
theorem dX11_rule_241 : decode cX11_rule 241 = .ok (.iadd, 1) := by decide +kernel
theorem dX11_rule_242 : decode cX11_rule 242 = .ok (.putfield 153, 3) := by decide +kernel
theorem dX11_rule_245 : decode cX11_rule 245 = .ok (.aload_n 0, 1) := by decide +kernel
theorem dX11_rule_246 : decode cX11_rule 246 = .ok (.invokevirtual 140, 3) := by decide +kernel
theorem dX11_rule_249 : decode cX11_rule 249 = .ok (.aload_n 0, 1) := by decide +kernel
theorem dX11_rule_250 : decode cX11_rule 250 = .ok (.getfield 153, 3) := by decide +kernel
theorem dX11_rule_253 : decode cX11_rule 253 = .ok (.iconst 1, 1) := by decide +kernel
theorem dX11_rule_254 : decode cX11_rule 254 = .ok (.isub, 1) := by decide +kernel
theorem dX11_rule_255 : decode cX11_rule 255 = .ok (.ireturn, 1) := by decide +kernel
theorem dX11_clear_0 : decode cX11_clear 0 = .ok (.aload_n 0, 1) := by decide +kernel
theorem dX11_clear_1 : decode cX11_clear 1 = .ok (.getfield 153, 3) := by decide +kernel
theorem dX11_clear_4 : decode cX11_clear 4 = .ok (.istore_n 1, 1) := by decide +kernel
theorem dX11_clear_5 : decode cX11_clear 5 = .ok (.aload_n 0, 1) := by decide +kernel
theorem dX11_clear_6 : decode cX11_clear 6 = .ok (.iconst 0, 1) := by decide +kernel
theorem dX11_clear_7 : decode cX11_clear 7 = .ok (.putfield 153, 3) := by decide +kernel
theorem dX11_clear_10 : decode cX11_clear 10 = .ok (.aload_n 0, 1) := by decide +kernel
theorem dX11_clear_11 : decode cX11_clear 11 = .ok (.invokevirtual 140, 3) := by decide +kernel
theorem dX11_clear_14 : decode cX11_clear 14 = .ok (.iload_n 1, 1) := by decide +kernel
theorem dX11_clear_15 : decode cX11_clear 15 = .ok (.ireturn, 1) := by decide +kernel
theorem dX11_about_0 : decode cX11_about 0 = .ok (.iload_n 1, 1) := by decide +kernel
theorem dX11_about_1 : decode cX11_about 1 = .ok (.tableswitch 69 0 5 #[39, 44, 49, 54, 59, 64], 39) := by decide +kernel
theorem dX11_about_40 : decode cX11_about 40 = .ok (.aload_n 0, 1) := by decide +kernel
theorem dX11_about_41 : decode cX11_about 41 = .ok (.getfield 133, 3) := by decide +kernel
theorem dX11_about_44 : decode cX11_about 44 = .ok (.ireturn, 1) := by decide +kernel
theorem dX11_about_45 : decode cX11_about 45 = .ok (.aload_n 0, 1) := by decide +kernel
theorem dX11_about_46 : decode cX11_about 46 = .ok (.getfield 143, 3) := by decide +kernel
theorem dX11_about_49 : decode cX11_about 49 = .ok (.ireturn, 1) := by decide +kernel
theorem dX11_about_50 : decode cX11_about 50 = .ok (.aload_n 0, 1) := by decide +kernel
theorem dX11_about_51 : decode cX11_about 51 = .ok (.getfield 25, 3) := by decide +kernel
theorem dX11_about_54 : decode cX11_about 54 = .ok (.ireturn, 1) := by decide +kernel
theorem dX11_about_55 : decode cX11_about 55 = .ok (.aload_n 0, 1) := by decide +kernel
theorem dX11_about_56 : decode cX11_about 56 = .ok (.getfield 153, 3) := by decide +kernel
theorem dX11_about_59 : decode cX11_about 59 = .ok (.ireturn, 1) := by decide +kernel
theorem dX11_about_60 : decode cX11_about 60 = .ok (.aload_n 0, 1) := by decide +kernel
theorem dX11_about_61 : decode cX11_about 61 = .ok (.getfield 156, 3) := by decide +kernel
theorem dX11_about_64 : decode cX11_about 64 = .ok (.ireturn, 1) := by decide +kernel
theorem dX11_about_65 : decode cX11_about 65 = .ok (.aload_n 0, 1) := by decide +kernel
theorem dX11_about_66 : decode cX11_about 66 = .ok (.getfield 159, 3) := by decide +kernel
theorem dX11_about_69 : decode cX11_about 69 = .ok (.ireturn, 1) := by decide +kernel
theorem dX11_about_70 : decode cX11_about 70 = .ok (.iload_n 1, 1) := by decide +kernel
theorem dX11_about_71 : decode cX11_about 71 = .ok (.bipush 10, 2) := by decide +kernel
theorem dX11_about_73 : decode cX11_about 73 = .ok (.bipush 9, 2) := by decide +kernel
theorem dX11_about_75 : decode cX11_about 75 = .ok (.aload_n 0, 1) := by decide +kernel
theorem dX11_about_76 : decode cX11_about 76 = .ok (.getfield 133, 3) := by decide +kernel
theorem dX11_about_79 : decode cX11_about 79 = .ok (.iadd, 1) := by decide +kernel
theorem dX11_about_80 : decode cX11_about 80 = .ok (.invokestatic 136, 3) := by decide +kernel
theorem dX11_about_83 : decode cX11_about 83 = .ok (.ifCond .eq 15, 3) := by decide +kernel
theorem dX11_about_86 : decode cX11_about 86 = .ok (.aload_n 0, 1) := by decide +kernel
theorem dX11_about_87 : decode cX11_about 87 = .ok (.getfield 13, 3) := by decide +kernel
theorem dX11_about_90 : decode cX11_about 90 = .ok (.iload_n 1, 1) := by decide +kernel
theorem dX11_about_91 : decode cX11_about 91 = .ok (.bipush 10, 2) := by decide +kernel
theorem dX11_about_93 : decode cX11_about 93 = .ok (.isub, 1) := by decide +kernel
theorem dX11_about_94 : decode cX11_about 94 = .ok (.iaload, 1) := by decide +kernel
theorem dX11_about_95 : decode cX11_about 95 = .ok (.goto 5, 3) := by decide +kernel
theorem dX11_about_98 : decode cX11_about 98 = .ok (.bipush (-102), 2) := by decide +kernel
theorem dX11_about_100 : decode cX11_about 100 = .ok (.ireturn, 1) := by decide +kernel
theorem dX11_tellOf_0 : decode cX11_tellOf 0 = .ok (.iload_n 1, 1) := by decide +kernel
theorem dX11_tellOf_1 : decode cX11_tellOf 1 = .ok (.iconst 1, 1) := by decide +kernel
theorem dX11_tellOf_2 : decode cX11_tellOf 2 = .ok (.if_icmp .ne 5, 3) := by decide +kernel
theorem dX11_tellOf_5 : decode cX11_tellOf 5 = .ok (.iload_n 2, 1) := by decide +kernel
theorem dX11_tellOf_6 : decode cX11_tellOf 6 = .ok (.ireturn, 1) := by decide +kernel
theorem dX11_tellOf_7 : decode cX11_tellOf 7 = .ok (.iload_n 2, 1) := by decide +kernel
theorem dX11_tellOf_8 : decode cX11_tellOf 8 = .ok (.bipush 10, 2) := by decide +kernel
theorem dX11_tellOf_10 : decode cX11_tellOf 10 = .ok (.if_icmp .lt 33, 3) := by decide +kernel
theorem dX11_tellOf_13 : decode cX11_tellOf 13 = .ok (.aload_n 0, 1) := by decide +kernel
theorem dX11_tellOf_14 : decode cX11_tellOf 14 = .ok (.getfield 96, 3) := by decide +kernel
theorem dX11_tellOf_17 : decode cX11_tellOf 17 = .ok (.aload_n 0, 1) := by decide +kernel
theorem dX11_tellOf_18 : decode cX11_tellOf 18 = .ok (.getfield 162, 3) := by decide +kernel
theorem dX11_tellOf_21 : decode cX11_tellOf 21 = .ok (.iload_n 2, 1) := by decide +kernel
theorem dX11_tellOf_22 : decode cX11_tellOf 22 = .ok (.bipush 10, 2) := by decide +kernel
theorem dX11_tellOf_24 : decode cX11_tellOf 24 = .ok (.isub, 1) := by decide +kernel
theorem dX11_tellOf_25 : decode cX11_tellOf 25 = .ok (.iastore, 1) := by decide +kernel
theorem dX11_tellOf_26 : decode cX11_tellOf 26 = .ok (.aload_n 0, 1) := by decide +kernel
theorem dX11_tellOf_27 : decode cX11_tellOf 27 = .ok (.dup, 1) := by decide +kernel
theorem dX11_tellOf_28 : decode cX11_tellOf 28 = .ok (.getfield 162, 3) := by decide +kernel
theorem dX11_tellOf_31 : decode cX11_tellOf 31 = .ok (.iconst 1, 1) := by decide +kernel
theorem dX11_tellOf_32 : decode cX11_tellOf 32 = .ok (.iadd, 1) := by decide +kernel
theorem dX11_tellOf_33 : decode cX11_tellOf 33 = .ok (.putfield 162, 3) := by decide +kernel
theorem dX11_tellOf_36 : decode cX11_tellOf 36 = .ok (.aload_n 0, 1) := by decide +kernel
theorem dX11_tellOf_37 : decode cX11_tellOf 37 = .ok (.getfield 162, 3) := by decide +kernel
theorem dX11_tellOf_40 : decode cX11_tellOf 40 = .ok (.iconst 1, 1) := by decide +kernel
theorem dX11_tellOf_41 : decode cX11_tellOf 41 = .ok (.isub, 1) := by decide +kernel
theorem dX11_tellOf_42 : decode cX11_tellOf 42 = .ok (.ireturn, 1) := by decide +kernel
theorem dX11_tellOf_43 : decode cX11_tellOf 43 = .ok (.iload_n 2, 1) := by decide +kernel
theorem dX11_tellOf_44 : decode cX11_tellOf 44 = .ok (.ifCond .ne 7, 3) := by decide +kernel
theorem dX11_tellOf_47 : decode cX11_tellOf 47 = .ok (.iconst (-1), 1) := by decide +kernel
theorem dX11_tellOf_48 : decode cX11_tellOf 48 = .ok (.goto 6, 3) := by decide +kernel
theorem dX11_tellOf_51 : decode cX11_tellOf 51 = .ok (.iload_n 2, 1) := by decide +kernel
theorem dX11_tellOf_52 : decode cX11_tellOf 52 = .ok (.iconst 1, 1) := by decide +kernel
theorem dX11_tellOf_53 : decode cX11_tellOf 53 = .ok (.isub, 1) := by decide +kernel
theorem dX11_tellOf_54 : decode cX11_tellOf 54 = .ok (.ireturn, 1) := by decide +kernel
theorem dX11_goThrough_0 : decode cX11_goThrough 0 = .ok (.aload_n 0, 1) := by decide +kernel
theorem dX11_goThrough_1 : decode cX11_goThrough 1 = .ok (.iconst 0, 1) := by decide +kernel
theorem dX11_goThrough_2 : decode cX11_goThrough 2 = .ok (.putfield 162, 3) := by decide +kernel
theorem dX11_goThrough_5 : decode cX11_goThrough 5 = .ok (.iconst 0, 1) := by decide +kernel
theorem dX11_goThrough_6 : decode cX11_goThrough 6 = .ok (.istore_n 2, 1) := by decide +kernel
theorem dX11_goThrough_7 : decode cX11_goThrough 7 = .ok (.iconst 0, 1) := by decide +kernel
theorem dX11_goThrough_8 : decode cX11_goThrough 8 = .ok (.istore_n 3, 1) := by decide +kernel
theorem dX11_goThrough_9 : decode cX11_goThrough 9 = .ok (.iload_n 3, 1) := by decide +kernel
theorem dX11_goThrough_10 : decode cX11_goThrough 10 = .ok (.aload_n 0, 1) := by decide +kernel
theorem dX11_goThrough_11 : decode cX11_goThrough 11 = .ok (.getfield 143, 3) := by decide +kernel
theorem dX11_goThrough_14 : decode cX11_goThrough 14 = .ok (.if_icmp .ge 50, 3) := by decide +kernel
theorem dX11_goThrough_17 : decode cX11_goThrough 17 = .ok (.iload_n 2, 1) := by decide +kernel
theorem dX11_goThrough_18 : decode cX11_goThrough 18 = .ok (.iload_n 1, 1) := by decide +kernel
theorem dX11_goThrough_19 : decode cX11_goThrough 19 = .ok (.if_icmp .ne 19, 3) := by decide +kernel
theorem dX11_goThrough_22 : decode cX11_goThrough 22 = .ok (.aload_n 0, 1) := by decide +kernel
theorem dX11_goThrough_23 : decode cX11_goThrough 23 = .ok (.iconst 0, 1) := by decide +kernel
theorem dX11_goThrough_24 : decode cX11_goThrough 24 = .ok (.putfield 165, 3) := by decide +kernel
theorem dX11_goThrough_27 : decode cX11_goThrough 27 = .ok (.aload_n 0, 1) := by decide +kernel
theorem dX11_goThrough_28 : decode cX11_goThrough 28 = .ok (.aload_n 0, 1) := by decide +kernel
theorem dX11_goThrough_29 : decode cX11_goThrough 29 = .ok (.getfield 22, 3) := by decide +kernel
theorem dX11_goThrough_32 : decode cX11_goThrough 32 = .ok (.iload_n 3, 1) := by decide +kernel
theorem dX11_goThrough_33 : decode cX11_goThrough 33 = .ok (.iaload, 1) := by decide +kernel
theorem dX11_goThrough_34 : decode cX11_goThrough 34 = .ok (.putfield 168, 3) := by decide +kernel
theorem dX11_goThrough_37 : decode cX11_goThrough 37 = .ok (.return_, 1) := by decide +kernel
theorem dX11_goThrough_38 : decode cX11_goThrough 38 = .ok (.aload_n 0, 1) := by decide +kernel
theorem dX11_goThrough_39 : decode cX11_goThrough 39 = .ok (.getfield 99, 3) := by decide +kernel
theorem dX11_goThrough_42 : decode cX11_goThrough 42 = .ok (.iload_n 3, 1) := by decide +kernel
theorem dX11_goThrough_43 : decode cX11_goThrough 43 = .ok (.aload_n 0, 1) := by decide +kernel
theorem dX11_goThrough_44 : decode cX11_goThrough 44 = .ok (.iconst 0, 1) := by decide +kernel
theorem dX11_goThrough_45 : decode cX11_goThrough 45 = .ok (.aload_n 0, 1) := by decide +kernel
theorem dX11_goThrough_46 : decode cX11_goThrough 46 = .ok (.getfield 93, 3) := by decide +kernel
theorem dX11_goThrough_49 : decode cX11_goThrough 49 = .ok (.iload_n 2, 1) := by decide +kernel
theorem dX11_goThrough_50 : decode cX11_goThrough 50 = .ok (.iaload, 1) := by decide +kernel
theorem dX11_goThrough_51 : decode cX11_goThrough 51 = .ok (.invokevirtual 171, 3) := by decide +kernel
theorem dX11_goThrough_54 : decode cX11_goThrough 54 = .ok (.iastore, 1) := by decide +kernel
theorem dX11_goThrough_55 : decode cX11_goThrough 55 = .ok (.iinc 2 1, 3) := by decide +kernel
theorem dX11_goThrough_58 : decode cX11_goThrough 58 = .ok (.iinc 3 1, 3) := by decide +kernel
theorem dX11_goThrough_61 : decode cX11_goThrough 61 = .ok (.goto (-52), 3) := by decide +kernel
theorem dX11_goThrough_64 : decode cX11_goThrough 64 = .ok (.iconst 0, 1) := by decide +kernel
theorem dX11_goThrough_65 : decode cX11_goThrough 65 = .ok (.istore_n 3, 1) := by decide +kernel
theorem dX11_goThrough_66 : decode cX11_goThrough 66 = .ok (.iload_n 3, 1) := by decide +kernel
theorem dX11_goThrough_67 : decode cX11_goThrough 67 = .ok (.aload_n 0, 1) := by decide +kernel
theorem dX11_goThrough_68 : decode cX11_goThrough 68 = .ok (.getfield 162, 3) := by decide +kernel
theorem dX11_goThrough_71 : decode cX11_goThrough 71 = .ok (.if_icmp .ge 112, 3) := by decide +kernel
theorem dX11_goThrough_74 : decode cX11_goThrough 74 = .ok (.aload_n 0, 1) := by decide +kernel
theorem dX11_goThrough_75 : decode cX11_goThrough 75 = .ok (.getfield 96, 3) := by decide +kernel
theorem dX11_goThrough_78 : decode cX11_goThrough 78 = .ok (.iload_n 3, 1) := by decide +kernel
theorem dX11_goThrough_79 : decode cX11_goThrough 79 = .ok (.iaload, 1) := by decide +kernel
theorem dX11_goThrough_80 : decode cX11_goThrough 80 = .ok (.istore 4, 2) := by decide +kernel
theorem dX11_goThrough_82 : decode cX11_goThrough 82 = .ok (.iconst 0, 1) := by decide +kernel
theorem dX11_goThrough_83 : decode cX11_goThrough 83 = .ok (.istore 5, 2) := by decide +kernel
theorem dX11_goThrough_85 : decode cX11_goThrough 85 = .ok (.iload 5, 2) := by decide +kernel
theorem dX11_goThrough_87 : decode cX11_goThrough 87 = .ok (.aload_n 0, 1) := by decide +kernel
theorem dX11_goThrough_88 : decode cX11_goThrough 88 = .ok (.getfield 13, 3) := by decide +kernel
theorem dX11_goThrough_91 : decode cX11_goThrough 91 = .ok (.iload 4, 2) := by decide +kernel
theorem dX11_goThrough_93 : decode cX11_goThrough 93 = .ok (.iaload, 1) := by decide +kernel
theorem dX11_goThrough_94 : decode cX11_goThrough 94 = .ok (.if_icmp .ge 83, 3) := by decide +kernel
theorem dX11_goThrough_97 : decode cX11_goThrough 97 = .ok (.iload_n 2, 1) := by decide +kernel
theorem dX11_goThrough_98 : decode cX11_goThrough 98 = .ok (.iload_n 1, 1) := by decide +kernel
theorem dX11_goThrough_99 : decode cX11_goThrough 99 = .ok (.if_icmp .ne 36, 3) := by decide +kernel
theorem dX11_goThrough_102 : decode cX11_goThrough 102 = .ok (.aload_n 0, 1) := by decide +kernel
theorem dX11_goThrough_103 : decode cX11_goThrough 103 = .ok (.aload_n 0, 1) := by decide +kernel
theorem dX11_goThrough_104 : decode cX11_goThrough 104 = .ok (.getfield 16, 3) := by decide +kernel
theorem dX11_goThrough_107 : decode cX11_goThrough 107 = .ok (.iconst 4, 1) := by decide +kernel
theorem dX11_goThrough_108 : decode cX11_goThrough 108 = .ok (.iload 4, 2) := by decide +kernel
theorem dX11_goThrough_110 : decode cX11_goThrough 110 = .ok (.imul, 1) := by decide +kernel
theorem dX11_goThrough_111 : decode cX11_goThrough 111 = .ok (.iload 5, 2) := by decide +kernel
theorem dX11_goThrough_113 : decode cX11_goThrough 113 = .ok (.iadd, 1) := by decide +kernel
theorem dX11_goThrough_114 : decode cX11_goThrough 114 = .ok (.iaload, 1) := by decide +kernel
theorem dX11_goThrough_115 : decode cX11_goThrough 115 = .ok (.putfield 165, 3) := by decide +kernel
theorem dX11_goThrough_118 : decode cX11_goThrough 118 = .ok (.aload_n 0, 1) := by decide +kernel
theorem dX11_goThrough_119 : decode cX11_goThrough 119 = .ok (.aload_n 0, 1) := by decide +kernel
theorem dX11_goThrough_120 : decode cX11_goThrough 120 = .ok (.getfield 19, 3) := by decide +kernel
theorem dX11_goThrough_123 : decode cX11_goThrough 123 = .ok (.iconst 4, 1) := by decide +kernel
theorem dX11_goThrough_124 : decode cX11_goThrough 124 = .ok (.iload 4, 2) := by decide +kernel
theorem dX11_goThrough_126 : decode cX11_goThrough 126 = .ok (.imul, 1) := by decide +kernel
theorem dX11_goThrough_127 : decode cX11_goThrough 127 = .ok (.iload 5, 2) := by decide +kernel
theorem dX11_goThrough_129 : decode cX11_goThrough 129 = .ok (.iadd, 1) := by decide +kernel
theorem dX11_goThrough_130 : decode cX11_goThrough 130 = .ok (.iaload, 1) := by decide +kernel
theorem dX11_goThrough_131 : decode cX11_goThrough 131 = .ok (.putfield 168, 3) := by decide +kernel
theorem dX11_goThrough_134 : decode cX11_goThrough 134 = .ok (.return_, 1) := by decide +kernel
theorem dX11_goThrough_135 : decode cX11_goThrough 135 = .ok (.aload_n 0, 1) := by decide +kernel
theorem dX11_goThrough_136 : decode cX11_goThrough 136 = .ok (.getfield 102, 3) := by decide +kernel
theorem dX11_goThrough_139 : decode cX11_goThrough 139 = .ok (.iconst 4, 1) := by decide +kernel
theorem dX11_goThrough_140 : decode cX11_goThrough 140 = .ok (.iload_n 3, 1) := by decide +kernel
theorem dX11_goThrough_141 : decode cX11_goThrough 141 = .ok (.imul, 1) := by decide +kernel
theorem dX11_goThrough_142 : decode cX11_goThrough 142 = .ok (.iload 5, 2) := by decide +kernel
theorem dX11_goThrough_144 : decode cX11_goThrough 144 = .ok (.iadd, 1) := by decide +kernel
theorem dX11_goThrough_145 : decode cX11_goThrough 145 = .ok (.aload_n 0, 1) := by decide +kernel
theorem dX11_goThrough_146 : decode cX11_goThrough 146 = .ok (.aload_n 0, 1) := by decide +kernel
theorem dX11_goThrough_147 : decode cX11_goThrough 147 = .ok (.getfield 16, 3) := by decide +kernel
theorem dX11_goThrough_150 : decode cX11_goThrough 150 = .ok (.iconst 4, 1) := by decide +kernel
theorem dX11_goThrough_151 : decode cX11_goThrough 151 = .ok (.iload 4, 2) := by decide +kernel
theorem dX11_goThrough_153 : decode cX11_goThrough 153 = .ok (.imul, 1) := by decide +kernel
theorem dX11_goThrough_154 : decode cX11_goThrough 154 = .ok (.iload 5, 2) := by decide +kernel
theorem dX11_goThrough_156 : decode cX11_goThrough 156 = .ok (.iadd, 1) := by decide +kernel
theorem dX11_goThrough_157 : decode cX11_goThrough 157 = .ok (.iaload, 1) := by decide +kernel
theorem dX11_goThrough_158 : decode cX11_goThrough 158 = .ok (.aload_n 0, 1) := by decide +kernel
theorem dX11_goThrough_159 : decode cX11_goThrough 159 = .ok (.getfield 93, 3) := by decide +kernel
theorem dX11_goThrough_162 : decode cX11_goThrough 162 = .ok (.iload_n 2, 1) := by decide +kernel
theorem dX11_goThrough_163 : decode cX11_goThrough 163 = .ok (.iaload, 1) := by decide +kernel
theorem dX11_goThrough_164 : decode cX11_goThrough 164 = .ok (.invokevirtual 171, 3) := by decide +kernel
theorem dX11_goThrough_167 : decode cX11_goThrough 167 = .ok (.iastore, 1) := by decide +kernel
theorem dX11_goThrough_168 : decode cX11_goThrough 168 = .ok (.iinc 2 1, 3) := by decide +kernel
theorem dX11_goThrough_171 : decode cX11_goThrough 171 = .ok (.iinc 5 1, 3) := by decide +kernel
theorem dX11_goThrough_174 : decode cX11_goThrough 174 = .ok (.goto (-89), 3) := by decide +kernel
theorem dX11_goThrough_177 : decode cX11_goThrough 177 = .ok (.iinc 3 1, 3) := by decide +kernel
theorem dX11_goThrough_180 : decode cX11_goThrough 180 = .ok (.goto (-114), 3) := by decide +kernel
theorem dX11_goThrough_183 : decode cX11_goThrough 183 = .ok (.aload_n 0, 1) := by decide +kernel
theorem dX11_goThrough_184 : decode cX11_goThrough 184 = .ok (.iconst (-1), 1) := by decide +kernel
theorem dX11_goThrough_185 : decode cX11_goThrough 185 = .ok (.putfield 165, 3) := by decide +kernel
theorem dX11_goThrough_188 : decode cX11_goThrough 188 = .ok (.return_, 1) := by decide +kernel
theorem dX11_canBe_0 : decode cX11_canBe 0 = .ok (.aload_n 0, 1) := by decide +kernel
theorem dX11_canBe_1 : decode cX11_canBe 1 = .ok (.getfield 165, 3) := by decide +kernel
theorem dX11_canBe_4 : decode cX11_canBe 4 = .ok (.iconst 1, 1) := by decide +kernel
theorem dX11_canBe_5 : decode cX11_canBe 5 = .ok (.if_icmp .ne 13, 3) := by decide +kernel
theorem dX11_canBe_8 : decode cX11_canBe 8 = .ok (.iload_n 1, 1) := by decide +kernel
theorem dX11_canBe_9 : decode cX11_canBe 9 = .ok (.iconst 0, 1) := by decide +kernel
theorem dX11_canBe_10 : decode cX11_canBe 10 = .ok (.aload_n 0, 1) := by decide +kernel
theorem dX11_canBe_11 : decode cX11_canBe 11 = .ok (.getfield 168, 3) := by decide +kernel
theorem dX11_canBe_14 : decode cX11_canBe 14 = .ok (.invokestatic 136, 3) := by decide +kernel
theorem dX11_canBe_17 : decode cX11_canBe 17 = .ok (.ireturn, 1) := by decide +kernel
theorem dX11_canBe_18 : decode cX11_canBe 18 = .ok (.iload_n 1, 1) := by decide +kernel
theorem dX11_canBe_19 : decode cX11_canBe 19 = .ok (.iconst 1, 1) := by decide +kernel
theorem dX11_canBe_20 : decode cX11_canBe 20 = .ok (.bipush 9, 2) := by decide +kernel
theorem dX11_canBe_22 : decode cX11_canBe 22 = .ok (.invokestatic 136, 3) := by decide +kernel
theorem dX11_canBe_25 : decode cX11_canBe 25 = .ok (.ifCond .eq 38, 3) := by decide +kernel
theorem dX11_canBe_28 : decode cX11_canBe 28 = .ok (.iload_n 1, 1) := by decide +kernel
theorem dX11_canBe_29 : decode cX11_canBe 29 = .ok (.iconst 1, 1) := by decide +kernel
theorem dX11_canBe_30 : decode cX11_canBe 30 = .ok (.isub, 1) := by decide +kernel
theorem dX11_canBe_31 : decode cX11_canBe 31 = .ok (.aload_n 0, 1) := by decide +kernel
theorem dX11_canBe_32 : decode cX11_canBe 32 = .ok (.getfield 162, 3) := by decide +kernel
theorem dX11_canBe_35 : decode cX11_canBe 35 = .ok (.if_icmp .ge 26, 3) := by decide +kernel
theorem dX11_canBe_38 : decode cX11_canBe 38 = .ok (.aload_n 0, 1) := by decide +kernel
theorem dX11_canBe_39 : decode cX11_canBe 39 = .ok (.aload_n 0, 1) := by decide +kernel
theorem dX11_canBe_40 : decode cX11_canBe 40 = .ok (.getfield 96, 3) := by decide +kernel
theorem dX11_canBe_43 : decode cX11_canBe 43 = .ok (.iload_n 1, 1) := by decide +kernel
theorem dX11_canBe_44 : decode cX11_canBe 44 = .ok (.iconst 1, 1) := by decide +kernel
theorem dX11_canBe_45 : decode cX11_canBe 45 = .ok (.isub, 1) := by decide +kernel
theorem dX11_canBe_46 : decode cX11_canBe 46 = .ok (.iaload, 1) := by decide +kernel
theorem dX11_canBe_47 : decode cX11_canBe 47 = .ok (.aload_n 0, 1) := by decide +kernel
theorem dX11_canBe_48 : decode cX11_canBe 48 = .ok (.getfield 168, 3) := by decide +kernel
theorem dX11_canBe_51 : decode cX11_canBe 51 = .ok (.invokevirtual 175, 3) := by decide +kernel
theorem dX11_canBe_54 : decode cX11_canBe 54 = .ok (.ifCond .eq 7, 3) := by decide +kernel
theorem dX11_canBe_57 : decode cX11_canBe 57 = .ok (.iconst 1, 1) := by decide +kernel
theorem dX11_canBe_58 : decode cX11_canBe 58 = .ok (.goto 4, 3) := by decide +kernel
theorem dX11_canBe_61 : decode cX11_canBe 61 = .ok (.iconst 0, 1) := by decide +kernel
theorem dX11_canBe_62 : decode cX11_canBe 62 = .ok (.ireturn, 1) := by decide +kernel
theorem dX11_canBe_63 : decode cX11_canBe 63 = .ok (.iload_n 1, 1) := by decide +kernel
theorem dX11_canBe_64 : decode cX11_canBe 64 = .ok (.ifCond .eq 45, 3) := by decide +kernel
theorem dX11_canBe_67 : decode cX11_canBe 67 = .ok (.iload_n 1, 1) := by decide +kernel
theorem dX11_canBe_68 : decode cX11_canBe 68 = .ok (.bipush 10, 2) := by decide +kernel
theorem dX11_canBe_70 : decode cX11_canBe 70 = .ok (.bipush 9, 2) := by decide +kernel
theorem dX11_canBe_72 : decode cX11_canBe 72 = .ok (.aload_n 0, 1) := by decide +kernel
theorem dX11_canBe_73 : decode cX11_canBe 73 = .ok (.getfield 133, 3) := by decide +kernel
theorem dX11_canBe_76 : decode cX11_canBe 76 = .ok (.iadd, 1) := by decide +kernel
theorem dX11_canBe_77 : decode cX11_canBe 77 = .ok (.invokestatic 136, 3) := by decide +kernel
theorem dX11_canBe_80 : decode cX11_canBe 80 = .ok (.ifCond .eq 33, 3) := by decide +kernel
theorem dX11_canBe_83 : decode cX11_canBe 83 = .ok (.aload_n 0, 1) := by decide +kernel
theorem dX11_canBe_84 : decode cX11_canBe 84 = .ok (.getfield 162, 3) := by decide +kernel
theorem dX11_canBe_87 : decode cX11_canBe 87 = .ok (.aload_n 0, 1) := by decide +kernel
theorem dX11_canBe_88 : decode cX11_canBe 88 = .ok (.getfield 25, 3) := by decide +kernel
theorem dX11_canBe_91 : decode cX11_canBe 91 = .ok (.if_icmp .ge 22, 3) := by decide +kernel
theorem dX11_canBe_94 : decode cX11_canBe 94 = .ok (.aload_n 0, 1) := by decide +kernel
theorem dX11_canBe_95 : decode cX11_canBe 95 = .ok (.iload_n 1, 1) := by decide +kernel
theorem dX11_canBe_96 : decode cX11_canBe 96 = .ok (.bipush 10, 2) := by decide +kernel
theorem dX11_canBe_98 : decode cX11_canBe 98 = .ok (.isub, 1) := by decide +kernel
theorem dX11_canBe_99 : decode cX11_canBe 99 = .ok (.aload_n 0, 1) := by decide +kernel
theorem dX11_canBe_100 : decode cX11_canBe 100 = .ok (.getfield 168, 3) := by decide +kernel
theorem dX11_canBe_103 : decode cX11_canBe 103 = .ok (.invokevirtual 175, 3) := by decide +kernel
theorem dX11_canBe_106 : decode cX11_canBe 106 = .ok (.ifCond .eq 7, 3) := by decide +kernel
theorem dX11_canBe_109 : decode cX11_canBe 109 = .ok (.iconst 1, 1) := by decide +kernel
theorem dX11_canBe_110 : decode cX11_canBe 110 = .ok (.goto 4, 3) := by decide +kernel
theorem dX11_canBe_113 : decode cX11_canBe 113 = .ok (.iconst 0, 1) := by decide +kernel
theorem dX11_canBe_114 : decode cX11_canBe 114 = .ok (.ireturn, 1) := by decide +kernel
theorem dX11_nextChoice_0 : decode cX11_nextChoice 0 = .ok (.iload_n 1, 1) := by decide +kernel
theorem dX11_nextChoice_1 : decode cX11_nextChoice 1 = .ok (.iconst 1, 1) := by decide +kernel
theorem dX11_nextChoice_2 : decode cX11_nextChoice 2 = .ok (.iadd, 1) := by decide +kernel
theorem dX11_nextChoice_3 : decode cX11_nextChoice 3 = .ok (.istore_n 2, 1) := by decide +kernel
theorem dX11_nextChoice_4 : decode cX11_nextChoice 4 = .ok (.iload_n 2, 1) := by decide +kernel
theorem dX11_nextChoice_5 : decode cX11_nextChoice 5 = .ok (.bipush 14, 2) := by decide +kernel
theorem dX11_nextChoice_7 : decode cX11_nextChoice 7 = .ok (.if_icmp .ge 19, 3) := by decide +kernel
theorem dX11_nextChoice_10 : decode cX11_nextChoice 10 = .ok (.aload_n 0, 1) := by decide +kernel
theorem dX11_nextChoice_11 : decode cX11_nextChoice 11 = .ok (.iload_n 2, 1) := by decide +kernel
theorem dX11_nextChoice_12 : decode cX11_nextChoice 12 = .ok (.invokevirtual 178, 3) := by decide +kernel
theorem dX11_nextChoice_15 : decode cX11_nextChoice 15 = .ok (.ifCond .eq 5, 3) := by decide +kernel
theorem dX11_nextChoice_18 : decode cX11_nextChoice 18 = .ok (.iload_n 2, 1) := by decide +kernel
theorem dX11_nextChoice_19 : decode cX11_nextChoice 19 = .ok (.ireturn, 1) := by decide +kernel
theorem dX11_nextChoice_20 : decode cX11_nextChoice 20 = .ok (.iinc 2 1, 3) := by decide +kernel
theorem dX11_nextChoice_23 : decode cX11_nextChoice 23 = .ok (.goto (-19), 3) := by decide +kernel
theorem dX11_nextChoice_26 : decode cX11_nextChoice 26 = .ok (.iconst (-1), 1) := by decide +kernel
theorem dX11_nextChoice_27 : decode cX11_nextChoice 27 = .ok (.ireturn, 1) := by decide +kernel
theorem dX11_fill_0 : decode cX11_fill 0 = .ok (.iload_n 1, 1) := by decide +kernel
theorem dX11_fill_1 : decode cX11_fill 1 = .ok (.istore_n 2, 1) := by decide +kernel
theorem dX11_fill_2 : decode cX11_fill 2 = .ok (.aload_n 0, 1) := by decide +kernel
theorem dX11_fill_3 : decode cX11_fill 3 = .ok (.iload_n 2, 1) := by decide +kernel
theorem dX11_fill_4 : decode cX11_fill 4 = .ok (.invokevirtual 182, 3) := by decide +kernel
theorem dX11_fill_7 : decode cX11_fill 7 = .ok (.aload_n 0, 1) := by decide +kernel
theorem dX11_fill_8 : decode cX11_fill 8 = .ok (.getfield 165, 3) := by decide +kernel
theorem dX11_fill_11 : decode cX11_fill 11 = .ok (.iconst (-1), 1) := by decide +kernel
theorem dX11_fill_12 : decode cX11_fill 12 = .ok (.if_icmp .eq 25, 3) := by decide +kernel
theorem dX11_fill_15 : decode cX11_fill 15 = .ok (.aload_n 0, 1) := by decide +kernel
theorem dX11_fill_16 : decode cX11_fill 16 = .ok (.getfield 93, 3) := by decide +kernel
theorem dX11_fill_19 : decode cX11_fill 19 = .ok (.iload_n 2, 1) := by decide +kernel
theorem dX11_fill_20 : decode cX11_fill 20 = .ok (.aload_n 0, 1) := by decide +kernel
theorem dX11_fill_21 : decode cX11_fill 21 = .ok (.iconst (-1), 1) := by decide +kernel
theorem dX11_fill_22 : decode cX11_fill 22 = .ok (.invokevirtual 186, 3) := by decide +kernel
theorem dX11_fill_25 : decode cX11_fill 25 = .ok (.iastore, 1) := by decide +kernel
theorem dX11_fill_26 : decode cX11_fill 26 = .ok (.iinc 2 1, 3) := by decide +kernel
theorem dX11_fill_29 : decode cX11_fill 29 = .ok (.aload_n 0, 1) := by decide +kernel
theorem dX11_fill_30 : decode cX11_fill 30 = .ok (.iload_n 2, 1) := by decide +kernel
theorem dX11_fill_31 : decode cX11_fill 31 = .ok (.invokevirtual 182, 3) := by decide +kernel
theorem dX11_fill_34 : decode cX11_fill 34 = .ok (.goto (-27), 3) := by decide +kernel
end
section
theorem dX11_fill_37 : decode cX11_fill 37 = .ok (.iload_n 2, 1) := by decide +kernel
theorem dX11_fill_38 : decode cX11_fill 38 = .ok (.ireturn, 1) := by decide +kernel
theorem dX11_nextRow_0 : decode cX11_nextRow 0 = .ok (.iload_n 1, 1) := by decide +kernel
theorem dX11_nextRow_1 : decode cX11_nextRow 1 = .ok (.iconst 1, 1) := by decide +kernel
theorem dX11_nextRow_2 : decode cX11_nextRow 2 = .ok (.isub, 1) := by decide +kernel
theorem dX11_nextRow_3 : decode cX11_nextRow 3 = .ok (.istore_n 2, 1) := by decide +kernel
theorem dX11_nextRow_4 : decode cX11_nextRow 4 = .ok (.iload_n 2, 1) := by decide +kernel
theorem dX11_nextRow_5 : decode cX11_nextRow 5 = .ok (.ifCond .lt 45, 3) := by decide +kernel
theorem dX11_nextRow_8 : decode cX11_nextRow 8 = .ok (.aload_n 0, 1) := by decide +kernel
theorem dX11_nextRow_9 : decode cX11_nextRow 9 = .ok (.iload_n 2, 1) := by decide +kernel
theorem dX11_nextRow_10 : decode cX11_nextRow 10 = .ok (.invokevirtual 182, 3) := by decide +kernel
theorem dX11_nextRow_13 : decode cX11_nextRow 13 = .ok (.aload_n 0, 1) := by decide +kernel
theorem dX11_nextRow_14 : decode cX11_nextRow 14 = .ok (.aload_n 0, 1) := by decide +kernel
theorem dX11_nextRow_15 : decode cX11_nextRow 15 = .ok (.getfield 93, 3) := by decide +kernel
theorem dX11_nextRow_18 : decode cX11_nextRow 18 = .ok (.iload_n 2, 1) := by decide +kernel
theorem dX11_nextRow_19 : decode cX11_nextRow 19 = .ok (.iaload, 1) := by decide +kernel
theorem dX11_nextRow_20 : decode cX11_nextRow 20 = .ok (.invokevirtual 186, 3) := by decide +kernel
theorem dX11_nextRow_23 : decode cX11_nextRow 23 = .ok (.istore_n 3, 1) := by decide +kernel
theorem dX11_nextRow_24 : decode cX11_nextRow 24 = .ok (.iload_n 3, 1) := by decide +kernel
theorem dX11_nextRow_25 : decode cX11_nextRow 25 = .ok (.iconst (-1), 1) := by decide +kernel
theorem dX11_nextRow_26 : decode cX11_nextRow 26 = .ok (.if_icmp .eq 18, 3) := by decide +kernel
theorem dX11_nextRow_29 : decode cX11_nextRow 29 = .ok (.aload_n 0, 1) := by decide +kernel
theorem dX11_nextRow_30 : decode cX11_nextRow 30 = .ok (.getfield 93, 3) := by decide +kernel
theorem dX11_nextRow_33 : decode cX11_nextRow 33 = .ok (.iload_n 2, 1) := by decide +kernel
theorem dX11_nextRow_34 : decode cX11_nextRow 34 = .ok (.iload_n 3, 1) := by decide +kernel
theorem dX11_nextRow_35 : decode cX11_nextRow 35 = .ok (.iastore, 1) := by decide +kernel
theorem dX11_nextRow_36 : decode cX11_nextRow 36 = .ok (.aload_n 0, 1) := by decide +kernel
theorem dX11_nextRow_37 : decode cX11_nextRow 37 = .ok (.iload_n 2, 1) := by decide +kernel
theorem dX11_nextRow_38 : decode cX11_nextRow 38 = .ok (.iconst 1, 1) := by decide +kernel
theorem dX11_nextRow_39 : decode cX11_nextRow 39 = .ok (.iadd, 1) := by decide +kernel
theorem dX11_nextRow_40 : decode cX11_nextRow 40 = .ok (.invokevirtual 190, 3) := by decide +kernel
theorem dX11_nextRow_43 : decode cX11_nextRow 43 = .ok (.ireturn, 1) := by decide +kernel
theorem dX11_nextRow_44 : decode cX11_nextRow 44 = .ok (.iinc 2 (-1), 3) := by decide +kernel
theorem dX11_nextRow_47 : decode cX11_nextRow 47 = .ok (.goto (-43), 3) := by decide +kernel
theorem dX11_nextRow_50 : decode cX11_nextRow 50 = .ok (.iconst (-1), 1) := by decide +kernel
theorem dX11_nextRow_51 : decode cX11_nextRow 51 = .ok (.ireturn, 1) := by decide +kernel
theorem dX11_load_0 : decode cX11_load 0 = .ok (.iconst 0, 1) := by decide +kernel
theorem dX11_load_1 : decode cX11_load 1 = .ok (.istore_n 2, 1) := by decide +kernel
theorem dX11_load_2 : decode cX11_load 2 = .ok (.iload_n 2, 1) := by decide +kernel
theorem dX11_load_3 : decode cX11_load 3 = .ok (.aload_n 0, 1) := by decide +kernel
theorem dX11_load_4 : decode cX11_load 4 = .ok (.getfield 64, 3) := by decide +kernel
theorem dX11_load_7 : decode cX11_load 7 = .ok (.iload_n 1, 1) := by decide +kernel
theorem dX11_load_8 : decode cX11_load 8 = .ok (.baload, 1) := by decide +kernel
theorem dX11_load_9 : decode cX11_load 9 = .ok (.if_icmp .ge 26, 3) := by decide +kernel
theorem dX11_load_12 : decode cX11_load 12 = .ok (.aload_n 0, 1) := by decide +kernel
theorem dX11_load_13 : decode cX11_load 13 = .ok (.getfield 93, 3) := by decide +kernel
theorem dX11_load_16 : decode cX11_load 16 = .ok (.iload_n 2, 1) := by decide +kernel
theorem dX11_load_17 : decode cX11_load 17 = .ok (.aload_n 0, 1) := by decide +kernel
theorem dX11_load_18 : decode cX11_load 18 = .ok (.getfield 60, 3) := by decide +kernel
theorem dX11_load_21 : decode cX11_load 21 = .ok (.bipush 22, 2) := by decide +kernel
theorem dX11_load_23 : decode cX11_load 23 = .ok (.iload_n 1, 1) := by decide +kernel
theorem dX11_load_24 : decode cX11_load 24 = .ok (.imul, 1) := by decide +kernel
theorem dX11_load_25 : decode cX11_load 25 = .ok (.iload_n 2, 1) := by decide +kernel
theorem dX11_load_26 : decode cX11_load 26 = .ok (.iadd, 1) := by decide +kernel
theorem dX11_load_27 : decode cX11_load 27 = .ok (.baload, 1) := by decide +kernel
theorem dX11_load_28 : decode cX11_load 28 = .ok (.iastore, 1) := by decide +kernel
theorem dX11_load_29 : decode cX11_load 29 = .ok (.iinc 2 1, 3) := by decide +kernel
theorem dX11_load_32 : decode cX11_load 32 = .ok (.goto (-30), 3) := by decide +kernel
theorem dX11_load_35 : decode cX11_load 35 = .ok (.aload_n 0, 1) := by decide +kernel
theorem dX11_load_36 : decode cX11_load 36 = .ok (.aload_n 0, 1) := by decide +kernel
theorem dX11_load_37 : decode cX11_load 37 = .ok (.getfield 64, 3) := by decide +kernel
theorem dX11_load_40 : decode cX11_load 40 = .ok (.iload_n 1, 1) := by decide +kernel
theorem dX11_load_41 : decode cX11_load 41 = .ok (.baload, 1) := by decide +kernel
theorem dX11_load_42 : decode cX11_load 42 = .ok (.invokevirtual 182, 3) := by decide +kernel
theorem dX11_load_45 : decode cX11_load 45 = .ok (.return_, 1) := by decide +kernel
theorem dX11_isSuch_0 : decode cX11_isSuch 0 = .ok (.aload_n 0, 1) := by decide +kernel
theorem dX11_isSuch_1 : decode cX11_isSuch 1 = .ok (.aload_n 0, 1) := by decide +kernel
theorem dX11_isSuch_2 : decode cX11_isSuch 2 = .ok (.getfield 96, 3) := by decide +kernel
theorem dX11_isSuch_5 : decode cX11_isSuch 5 = .ok (.iload_n 1, 1) := by decide +kernel
theorem dX11_isSuch_6 : decode cX11_isSuch 6 = .ok (.iaload, 1) := by decide +kernel
theorem dX11_isSuch_7 : decode cX11_isSuch 7 = .ok (.aload_n 0, 1) := by decide +kernel
theorem dX11_isSuch_8 : decode cX11_isSuch 8 = .ok (.getfield 32, 3) := by decide +kernel
theorem dX11_isSuch_11 : decode cX11_isSuch 11 = .ok (.iload_n 2, 1) := by decide +kernel
theorem dX11_isSuch_12 : decode cX11_isSuch 12 = .ok (.iaload, 1) := by decide +kernel
theorem dX11_isSuch_13 : decode cX11_isSuch 13 = .ok (.invokevirtual 175, 3) := by decide +kernel
theorem dX11_isSuch_16 : decode cX11_isSuch 16 = .ok (.ireturn, 1) := by decide +kernel
theorem dX11_holdsRing_0 : decode cX11_holdsRing 0 = .ok (.iconst 0, 1) := by decide +kernel
theorem dX11_holdsRing_1 : decode cX11_holdsRing 1 = .ok (.istore_n 2, 1) := by decide +kernel
theorem dX11_holdsRing_2 : decode cX11_holdsRing 2 = .ok (.iload_n 2, 1) := by decide +kernel
theorem dX11_holdsRing_3 : decode cX11_holdsRing 3 = .ok (.bipush 25, 2) := by decide +kernel
theorem dX11_holdsRing_5 : decode cX11_holdsRing 5 = .ok (.if_icmp .ge 16, 3) := by decide +kernel
theorem dX11_holdsRing_8 : decode cX11_holdsRing 8 = .ok (.aload_n 0, 1) := by decide +kernel
theorem dX11_holdsRing_9 : decode cX11_holdsRing 9 = .ok (.getfield 105, 3) := by decide +kernel
theorem dX11_holdsRing_12 : decode cX11_holdsRing 12 = .ok (.iload_n 2, 1) := by decide +kernel
theorem dX11_holdsRing_13 : decode cX11_holdsRing 13 = .ok (.iconst 0, 1) := by decide +kernel
theorem dX11_holdsRing_14 : decode cX11_holdsRing 14 = .ok (.bastore, 1) := by decide +kernel
theorem dX11_holdsRing_15 : decode cX11_holdsRing 15 = .ok (.iinc 2 1, 3) := by decide +kernel
theorem dX11_holdsRing_18 : decode cX11_holdsRing 18 = .ok (.goto (-16), 3) := by decide +kernel
theorem dX11_holdsRing_21 : decode cX11_holdsRing 21 = .ok (.iconst 0, 1) := by decide +kernel
theorem dX11_holdsRing_22 : decode cX11_holdsRing 22 = .ok (.istore_n 2, 1) := by decide +kernel
theorem dX11_holdsRing_23 : decode cX11_holdsRing 23 = .ok (.iload_n 2, 1) := by decide +kernel
theorem dX11_holdsRing_24 : decode cX11_holdsRing 24 = .ok (.aload_n 0, 1) := by decide +kernel
theorem dX11_holdsRing_25 : decode cX11_holdsRing 25 = .ok (.getfield 162, 3) := by decide +kernel
theorem dX11_holdsRing_28 : decode cX11_holdsRing 28 = .ok (.if_icmp .ge 96, 3) := by decide +kernel
theorem dX11_holdsRing_31 : decode cX11_holdsRing 31 = .ok (.aload_n 0, 1) := by decide +kernel
theorem dX11_holdsRing_32 : decode cX11_holdsRing 32 = .ok (.iload_n 2, 1) := by decide +kernel
theorem dX11_holdsRing_33 : decode cX11_holdsRing 33 = .ok (.iload_n 1, 1) := by decide +kernel
theorem dX11_holdsRing_34 : decode cX11_holdsRing 34 = .ok (.invokevirtual 193, 3) := by decide +kernel
theorem dX11_holdsRing_37 : decode cX11_holdsRing 37 = .ok (.ifCond .eq 81, 3) := by decide +kernel
theorem dX11_holdsRing_40 : decode cX11_holdsRing 40 = .ok (.aload_n 0, 1) := by decide +kernel
theorem dX11_holdsRing_41 : decode cX11_holdsRing 41 = .ok (.getfield 102, 3) := by decide +kernel
theorem dX11_holdsRing_44 : decode cX11_holdsRing 44 = .ok (.iconst 4, 1) := by decide +kernel
theorem dX11_holdsRing_45 : decode cX11_holdsRing 45 = .ok (.iload_n 2, 1) := by decide +kernel
theorem dX11_holdsRing_46 : decode cX11_holdsRing 46 = .ok (.imul, 1) := by decide +kernel
theorem dX11_holdsRing_47 : decode cX11_holdsRing 47 = .ok (.aload_n 0, 1) := by decide +kernel
theorem dX11_holdsRing_48 : decode cX11_holdsRing 48 = .ok (.getfield 35, 3) := by decide +kernel
theorem dX11_holdsRing_51 : decode cX11_holdsRing 51 = .ok (.iload_n 1, 1) := by decide +kernel
theorem dX11_holdsRing_52 : decode cX11_holdsRing 52 = .ok (.iaload, 1) := by decide +kernel
theorem dX11_holdsRing_53 : decode cX11_holdsRing 53 = .ok (.iadd, 1) := by decide +kernel
theorem dX11_holdsRing_54 : decode cX11_holdsRing 54 = .ok (.iaload, 1) := by decide +kernel
theorem dX11_holdsRing_55 : decode cX11_holdsRing 55 = .ok (.istore_n 3, 1) := by decide +kernel
theorem dX11_holdsRing_56 : decode cX11_holdsRing 56 = .ok (.iload_n 3, 1) := by decide +kernel
theorem dX11_holdsRing_57 : decode cX11_holdsRing 57 = .ok (.iconst (-1), 1) := by decide +kernel
theorem dX11_holdsRing_58 : decode cX11_holdsRing 58 = .ok (.if_icmp .eq 14, 3) := by decide +kernel
theorem dX11_holdsRing_61 : decode cX11_holdsRing 61 = .ok (.aload_n 0, 1) := by decide +kernel
theorem dX11_holdsRing_62 : decode cX11_holdsRing 62 = .ok (.getfield 105, 3) := by decide +kernel
theorem dX11_holdsRing_65 : decode cX11_holdsRing 65 = .ok (.iconst 5, 1) := by decide +kernel
theorem dX11_holdsRing_66 : decode cX11_holdsRing 66 = .ok (.iload_n 2, 1) := by decide +kernel
theorem dX11_holdsRing_67 : decode cX11_holdsRing 67 = .ok (.imul, 1) := by decide +kernel
theorem dX11_holdsRing_68 : decode cX11_holdsRing 68 = .ok (.iload_n 3, 1) := by decide +kernel
theorem dX11_holdsRing_69 : decode cX11_holdsRing 69 = .ok (.iadd, 1) := by decide +kernel
theorem dX11_holdsRing_70 : decode cX11_holdsRing 70 = .ok (.iconst 1, 1) := by decide +kernel
theorem dX11_holdsRing_71 : decode cX11_holdsRing 71 = .ok (.bastore, 1) := by decide +kernel
theorem dX11_holdsRing_72 : decode cX11_holdsRing 72 = .ok (.aload_n 0, 1) := by decide +kernel
theorem dX11_holdsRing_73 : decode cX11_holdsRing 73 = .ok (.getfield 38, 3) := by decide +kernel
theorem dX11_holdsRing_76 : decode cX11_holdsRing 76 = .ok (.iload_n 1, 1) := by decide +kernel
theorem dX11_holdsRing_77 : decode cX11_holdsRing 77 = .ok (.iaload, 1) := by decide +kernel
theorem dX11_holdsRing_78 : decode cX11_holdsRing 78 = .ok (.iconst (-1), 1) := by decide +kernel
theorem dX11_holdsRing_79 : decode cX11_holdsRing 79 = .ok (.if_icmp .ne 7, 3) := by decide +kernel
theorem dX11_holdsRing_82 : decode cX11_holdsRing 82 = .ok (.iconst (-1), 1) := by decide +kernel
theorem dX11_holdsRing_83 : decode cX11_holdsRing 83 = .ok (.goto 18, 3) := by decide +kernel
theorem dX11_holdsRing_86 : decode cX11_holdsRing 86 = .ok (.aload_n 0, 1) := by decide +kernel
theorem dX11_holdsRing_87 : decode cX11_holdsRing 87 = .ok (.getfield 102, 3) := by decide +kernel
theorem dX11_holdsRing_90 : decode cX11_holdsRing 90 = .ok (.iconst 4, 1) := by decide +kernel
theorem dX11_holdsRing_91 : decode cX11_holdsRing 91 = .ok (.iload_n 2, 1) := by decide +kernel
theorem dX11_holdsRing_92 : decode cX11_holdsRing 92 = .ok (.imul, 1) := by decide +kernel
theorem dX11_holdsRing_93 : decode cX11_holdsRing 93 = .ok (.aload_n 0, 1) := by decide +kernel
theorem dX11_holdsRing_94 : decode cX11_holdsRing 94 = .ok (.getfield 38, 3) := by decide +kernel
theorem dX11_holdsRing_97 : decode cX11_holdsRing 97 = .ok (.iload_n 1, 1) := by decide +kernel
theorem dX11_holdsRing_98 : decode cX11_holdsRing 98 = .ok (.iaload, 1) := by decide +kernel
theorem dX11_holdsRing_99 : decode cX11_holdsRing 99 = .ok (.iadd, 1) := by decide +kernel
theorem dX11_holdsRing_100 : decode cX11_holdsRing 100 = .ok (.iaload, 1) := by decide +kernel
theorem dX11_holdsRing_101 : decode cX11_holdsRing 101 = .ok (.istore_n 3, 1) := by decide +kernel
theorem dX11_holdsRing_102 : decode cX11_holdsRing 102 = .ok (.iload_n 3, 1) := by decide +kernel
theorem dX11_holdsRing_103 : decode cX11_holdsRing 103 = .ok (.iconst (-1), 1) := by decide +kernel
theorem dX11_holdsRing_104 : decode cX11_holdsRing 104 = .ok (.if_icmp .eq 14, 3) := by decide +kernel
theorem dX11_holdsRing_107 : decode cX11_holdsRing 107 = .ok (.aload_n 0, 1) := by decide +kernel
theorem dX11_holdsRing_108 : decode cX11_holdsRing 108 = .ok (.getfield 105, 3) := by decide +kernel
theorem dX11_holdsRing_111 : decode cX11_holdsRing 111 = .ok (.iconst 5, 1) := by decide +kernel
theorem dX11_holdsRing_112 : decode cX11_holdsRing 112 = .ok (.iload_n 2, 1) := by decide +kernel
theorem dX11_holdsRing_113 : decode cX11_holdsRing 113 = .ok (.imul, 1) := by decide +kernel
theorem dX11_holdsRing_114 : decode cX11_holdsRing 114 = .ok (.iload_n 3, 1) := by decide +kernel
theorem dX11_holdsRing_115 : decode cX11_holdsRing 115 = .ok (.iadd, 1) := by decide +kernel
theorem dX11_holdsRing_116 : decode cX11_holdsRing 116 = .ok (.iconst 1, 1) := by decide +kernel
theorem dX11_holdsRing_117 : decode cX11_holdsRing 117 = .ok (.bastore, 1) := by decide +kernel
theorem dX11_holdsRing_118 : decode cX11_holdsRing 118 = .ok (.iinc 2 1, 3) := by decide +kernel
theorem dX11_holdsRing_121 : decode cX11_holdsRing 121 = .ok (.goto (-98), 3) := by decide +kernel
theorem dX11_holdsRing_124 : decode cX11_holdsRing 124 = .ok (.iconst 0, 1) := by decide +kernel
theorem dX11_holdsRing_125 : decode cX11_holdsRing 125 = .ok (.istore_n 2, 1) := by decide +kernel
theorem dX11_holdsRing_126 : decode cX11_holdsRing 126 = .ok (.iload_n 2, 1) := by decide +kernel
theorem dX11_holdsRing_127 : decode cX11_holdsRing 127 = .ok (.aload_n 0, 1) := by decide +kernel
theorem dX11_holdsRing_128 : decode cX11_holdsRing 128 = .ok (.getfield 162, 3) := by decide +kernel
theorem dX11_holdsRing_131 : decode cX11_holdsRing 131 = .ok (.if_icmp .ge 100, 3) := by decide +kernel
theorem dX11_holdsRing_134 : decode cX11_holdsRing 134 = .ok (.iconst 0, 1) := by decide +kernel
theorem dX11_holdsRing_135 : decode cX11_holdsRing 135 = .ok (.istore_n 3, 1) := by decide +kernel
theorem dX11_holdsRing_136 : decode cX11_holdsRing 136 = .ok (.iload_n 3, 1) := by decide +kernel
theorem dX11_holdsRing_137 : decode cX11_holdsRing 137 = .ok (.aload_n 0, 1) := by decide +kernel
theorem dX11_holdsRing_138 : decode cX11_holdsRing 138 = .ok (.getfield 162, 3) := by decide +kernel
theorem dX11_holdsRing_141 : decode cX11_holdsRing 141 = .ok (.if_icmp .ge 84, 3) := by decide +kernel
theorem dX11_holdsRing_144 : decode cX11_holdsRing 144 = .ok (.iconst 0, 1) := by decide +kernel
theorem dX11_holdsRing_145 : decode cX11_holdsRing 145 = .ok (.istore 4, 2) := by decide +kernel
theorem dX11_holdsRing_147 : decode cX11_holdsRing 147 = .ok (.iload 4, 2) := by decide +kernel
theorem dX11_holdsRing_149 : decode cX11_holdsRing 149 = .ok (.aload_n 0, 1) := by decide +kernel
theorem dX11_holdsRing_150 : decode cX11_holdsRing 150 = .ok (.getfield 162, 3) := by decide +kernel
theorem dX11_holdsRing_153 : decode cX11_holdsRing 153 = .ok (.if_icmp .ge 66, 3) := by decide +kernel
theorem dX11_holdsRing_156 : decode cX11_holdsRing 156 = .ok (.aload_n 0, 1) := by decide +kernel
theorem dX11_holdsRing_157 : decode cX11_holdsRing 157 = .ok (.getfield 105, 3) := by decide +kernel
theorem dX11_holdsRing_160 : decode cX11_holdsRing 160 = .ok (.iconst 5, 1) := by decide +kernel
theorem dX11_holdsRing_161 : decode cX11_holdsRing 161 = .ok (.iload_n 3, 1) := by decide +kernel
theorem dX11_holdsRing_162 : decode cX11_holdsRing 162 = .ok (.imul, 1) := by decide +kernel
theorem dX11_holdsRing_163 : decode cX11_holdsRing 163 = .ok (.iload 4, 2) := by decide +kernel
theorem dX11_holdsRing_165 : decode cX11_holdsRing 165 = .ok (.iadd, 1) := by decide +kernel
theorem dX11_holdsRing_166 : decode cX11_holdsRing 166 = .ok (.aload_n 0, 1) := by decide +kernel
theorem dX11_holdsRing_167 : decode cX11_holdsRing 167 = .ok (.getfield 105, 3) := by decide +kernel
theorem dX11_holdsRing_170 : decode cX11_holdsRing 170 = .ok (.iconst 5, 1) := by decide +kernel
theorem dX11_holdsRing_171 : decode cX11_holdsRing 171 = .ok (.iload_n 3, 1) := by decide +kernel
theorem dX11_holdsRing_172 : decode cX11_holdsRing 172 = .ok (.imul, 1) := by decide +kernel
theorem dX11_holdsRing_173 : decode cX11_holdsRing 173 = .ok (.iload 4, 2) := by decide +kernel
theorem dX11_holdsRing_175 : decode cX11_holdsRing 175 = .ok (.iadd, 1) := by decide +kernel
theorem dX11_holdsRing_176 : decode cX11_holdsRing 176 = .ok (.baload, 1) := by decide +kernel
theorem dX11_holdsRing_177 : decode cX11_holdsRing 177 = .ok (.ifCond .ne 30, 3) := by decide +kernel
theorem dX11_holdsRing_180 : decode cX11_holdsRing 180 = .ok (.aload_n 0, 1) := by decide +kernel
theorem dX11_holdsRing_181 : decode cX11_holdsRing 181 = .ok (.getfield 105, 3) := by decide +kernel
theorem dX11_holdsRing_184 : decode cX11_holdsRing 184 = .ok (.iconst 5, 1) := by decide +kernel
theorem dX11_holdsRing_185 : decode cX11_holdsRing 185 = .ok (.iload_n 3, 1) := by decide +kernel
theorem dX11_holdsRing_186 : decode cX11_holdsRing 186 = .ok (.imul, 1) := by decide +kernel
theorem dX11_holdsRing_187 : decode cX11_holdsRing 187 = .ok (.iload_n 2, 1) := by decide +kernel
theorem dX11_holdsRing_188 : decode cX11_holdsRing 188 = .ok (.iadd, 1) := by decide +kernel
theorem dX11_holdsRing_189 : decode cX11_holdsRing 189 = .ok (.baload, 1) := by decide +kernel
theorem dX11_holdsRing_190 : decode cX11_holdsRing 190 = .ok (.ifCond .eq 21, 3) := by decide +kernel
theorem dX11_holdsRing_193 : decode cX11_holdsRing 193 = .ok (.aload_n 0, 1) := by decide +kernel
theorem dX11_holdsRing_194 : decode cX11_holdsRing 194 = .ok (.getfield 105, 3) := by decide +kernel
theorem dX11_holdsRing_197 : decode cX11_holdsRing 197 = .ok (.iconst 5, 1) := by decide +kernel
theorem dX11_holdsRing_198 : decode cX11_holdsRing 198 = .ok (.iload_n 2, 1) := by decide +kernel
theorem dX11_holdsRing_199 : decode cX11_holdsRing 199 = .ok (.imul, 1) := by decide +kernel
theorem dX11_holdsRing_200 : decode cX11_holdsRing 200 = .ok (.iload 4, 2) := by decide +kernel
theorem dX11_holdsRing_202 : decode cX11_holdsRing 202 = .ok (.iadd, 1) := by decide +kernel
theorem dX11_holdsRing_203 : decode cX11_holdsRing 203 = .ok (.baload, 1) := by decide +kernel
theorem dX11_holdsRing_204 : decode cX11_holdsRing 204 = .ok (.ifCond .eq 7, 3) := by decide +kernel
theorem dX11_holdsRing_207 : decode cX11_holdsRing 207 = .ok (.iconst 1, 1) := by decide +kernel
theorem dX11_holdsRing_208 : decode cX11_holdsRing 208 = .ok (.goto 4, 3) := by decide +kernel
theorem dX11_holdsRing_211 : decode cX11_holdsRing 211 = .ok (.iconst 0, 1) := by decide +kernel
theorem dX11_holdsRing_212 : decode cX11_holdsRing 212 = .ok (.bastore, 1) := by decide +kernel
theorem dX11_holdsRing_213 : decode cX11_holdsRing 213 = .ok (.iinc 4 1, 3) := by decide +kernel
theorem dX11_holdsRing_216 : decode cX11_holdsRing 216 = .ok (.goto (-69), 3) := by decide +kernel
theorem dX11_holdsRing_219 : decode cX11_holdsRing 219 = .ok (.iinc 3 1, 3) := by decide +kernel
theorem dX11_holdsRing_222 : decode cX11_holdsRing 222 = .ok (.goto (-86), 3) := by decide +kernel
theorem dX11_holdsRing_225 : decode cX11_holdsRing 225 = .ok (.iinc 2 1, 3) := by decide +kernel
theorem dX11_holdsRing_228 : decode cX11_holdsRing 228 = .ok (.goto (-102), 3) := by decide +kernel
theorem dX11_holdsRing_231 : decode cX11_holdsRing 231 = .ok (.iconst 1, 1) := by decide +kernel
theorem dX11_holdsRing_232 : decode cX11_holdsRing 232 = .ok (.istore_n 2, 1) := by decide +kernel
theorem dX11_holdsRing_233 : decode cX11_holdsRing 233 = .ok (.iconst 0, 1) := by decide +kernel
theorem dX11_holdsRing_234 : decode cX11_holdsRing 234 = .ok (.istore_n 3, 1) := by decide +kernel
theorem dX11_holdsRing_235 : decode cX11_holdsRing 235 = .ok (.iload_n 3, 1) := by decide +kernel
theorem dX11_holdsRing_236 : decode cX11_holdsRing 236 = .ok (.aload_n 0, 1) := by decide +kernel
theorem dX11_holdsRing_237 : decode cX11_holdsRing 237 = .ok (.getfield 162, 3) := by decide +kernel
theorem dX11_holdsRing_240 : decode cX11_holdsRing 240 = .ok (.if_icmp .ge 31, 3) := by decide +kernel
theorem dX11_holdsRing_243 : decode cX11_holdsRing 243 = .ok (.iload_n 2, 1) := by decide +kernel
theorem dX11_holdsRing_244 : decode cX11_holdsRing 244 = .ok (.ifCond .eq 19, 3) := by decide +kernel
theorem dX11_holdsRing_247 : decode cX11_holdsRing 247 = .ok (.aload_n 0, 1) := by decide +kernel
theorem dX11_holdsRing_248 : decode cX11_holdsRing 248 = .ok (.getfield 105, 3) := by decide +kernel
theorem dX11_holdsRing_251 : decode cX11_holdsRing 251 = .ok (.bipush 6, 2) := by decide +kernel
theorem dX11_holdsRing_253 : decode cX11_holdsRing 253 = .ok (.iload_n 3, 1) := by decide +kernel
theorem dX11_holdsRing_254 : decode cX11_holdsRing 254 = .ok (.imul, 1) := by decide +kernel
theorem dX11_holdsRing_255 : decode cX11_holdsRing 255 = .ok (.baload, 1) := by decide +kernel
theorem dX11_holdsRing_256 : decode cX11_holdsRing 256 = .ok (.ifCond .ne 7, 3) := by decide +kernel
theorem dX11_holdsRing_259 : decode cX11_holdsRing 259 = .ok (.iconst 1, 1) := by decide +kernel
theorem dX11_holdsRing_260 : decode cX11_holdsRing 260 = .ok (.goto 4, 3) := by decide +kernel
theorem dX11_holdsRing_263 : decode cX11_holdsRing 263 = .ok (.iconst 0, 1) := by decide +kernel
theorem dX11_holdsRing_264 : decode cX11_holdsRing 264 = .ok (.istore_n 2, 1) := by decide +kernel
theorem dX11_holdsRing_265 : decode cX11_holdsRing 265 = .ok (.iinc 3 1, 3) := by decide +kernel
theorem dX11_holdsRing_268 : decode cX11_holdsRing 268 = .ok (.goto (-33), 3) := by decide +kernel
theorem dX11_holdsRing_271 : decode cX11_holdsRing 271 = .ok (.iload_n 2, 1) := by decide +kernel
theorem dX11_holdsRing_272 : decode cX11_holdsRing 272 = .ok (.ireturn, 1) := by decide +kernel
theorem dX11_holdsApart_0 : decode cX11_holdsApart 0 = .ok (.iconst 1, 1) := by decide +kernel
theorem dX11_holdsApart_1 : decode cX11_holdsApart 1 = .ok (.istore_n 2, 1) := by decide +kernel
theorem dX11_holdsApart_2 : decode cX11_holdsApart 2 = .ok (.iconst 0, 1) := by decide +kernel
theorem dX11_holdsApart_3 : decode cX11_holdsApart 3 = .ok (.istore_n 3, 1) := by decide +kernel
theorem dX11_holdsApart_4 : decode cX11_holdsApart 4 = .ok (.iload_n 3, 1) := by decide +kernel
theorem dX11_holdsApart_5 : decode cX11_holdsApart 5 = .ok (.aload_n 0, 1) := by decide +kernel
theorem dX11_holdsApart_6 : decode cX11_holdsApart 6 = .ok (.getfield 162, 3) := by decide +kernel
theorem dX11_holdsApart_9 : decode cX11_holdsApart 9 = .ok (.if_icmp .ge 141, 3) := by decide +kernel
theorem dX11_holdsApart_12 : decode cX11_holdsApart 12 = .ok (.iconst 0, 1) := by decide +kernel
theorem dX11_holdsApart_13 : decode cX11_holdsApart 13 = .ok (.istore 4, 2) := by decide +kernel
theorem dX11_holdsApart_15 : decode cX11_holdsApart 15 = .ok (.iconst 0, 1) := by decide +kernel
theorem dX11_holdsApart_16 : decode cX11_holdsApart 16 = .ok (.istore 5, 2) := by decide +kernel
theorem dX11_holdsApart_18 : decode cX11_holdsApart 18 = .ok (.iload 5, 2) := by decide +kernel
theorem dX11_holdsApart_20 : decode cX11_holdsApart 20 = .ok (.aload_n 0, 1) := by decide +kernel
theorem dX11_holdsApart_21 : decode cX11_holdsApart 21 = .ok (.getfield 162, 3) := by decide +kernel
theorem dX11_holdsApart_24 : decode cX11_holdsApart 24 = .ok (.if_icmp .ge 104, 3) := by decide +kernel
theorem dX11_holdsApart_27 : decode cX11_holdsApart 27 = .ok (.aload_n 0, 1) := by decide +kernel
theorem dX11_holdsApart_28 : decode cX11_holdsApart 28 = .ok (.iload 5, 2) := by decide +kernel
theorem dX11_holdsApart_30 : decode cX11_holdsApart 30 = .ok (.iload_n 1, 1) := by decide +kernel
theorem dX11_holdsApart_31 : decode cX11_holdsApart 31 = .ok (.invokevirtual 193, 3) := by decide +kernel
theorem dX11_holdsApart_34 : decode cX11_holdsApart 34 = .ok (.ifCond .eq 88, 3) := by decide +kernel
theorem dX11_holdsApart_37 : decode cX11_holdsApart 37 = .ok (.iload 4, 2) := by decide +kernel
theorem dX11_holdsApart_39 : decode cX11_holdsApart 39 = .ok (.aload_n 0, 1) := by decide +kernel
theorem dX11_holdsApart_40 : decode cX11_holdsApart 40 = .ok (.getfield 102, 3) := by decide +kernel
theorem dX11_holdsApart_43 : decode cX11_holdsApart 43 = .ok (.iconst 4, 1) := by decide +kernel
theorem dX11_holdsApart_44 : decode cX11_holdsApart 44 = .ok (.iload 5, 2) := by decide +kernel
theorem dX11_holdsApart_46 : decode cX11_holdsApart 46 = .ok (.imul, 1) := by decide +kernel
theorem dX11_holdsApart_47 : decode cX11_holdsApart 47 = .ok (.aload_n 0, 1) := by decide +kernel
theorem dX11_holdsApart_48 : decode cX11_holdsApart 48 = .ok (.getfield 35, 3) := by decide +kernel
theorem dX11_holdsApart_51 : decode cX11_holdsApart 51 = .ok (.iload_n 1, 1) := by decide +kernel
theorem dX11_holdsApart_52 : decode cX11_holdsApart 52 = .ok (.iaload, 1) := by decide +kernel
theorem dX11_holdsApart_53 : decode cX11_holdsApart 53 = .ok (.iadd, 1) := by decide +kernel
theorem dX11_holdsApart_54 : decode cX11_holdsApart 54 = .ok (.iaload, 1) := by decide +kernel
theorem dX11_holdsApart_55 : decode cX11_holdsApart 55 = .ok (.iload_n 3, 1) := by decide +kernel
theorem dX11_holdsApart_56 : decode cX11_holdsApart 56 = .ok (.if_icmp .ne 7, 3) := by decide +kernel
theorem dX11_holdsApart_59 : decode cX11_holdsApart 59 = .ok (.iconst 1, 1) := by decide +kernel
theorem dX11_holdsApart_60 : decode cX11_holdsApart 60 = .ok (.goto 4, 3) := by decide +kernel
theorem dX11_holdsApart_63 : decode cX11_holdsApart 63 = .ok (.iconst 0, 1) := by decide +kernel
theorem dX11_holdsApart_64 : decode cX11_holdsApart 64 = .ok (.iadd, 1) := by decide +kernel
theorem dX11_holdsApart_65 : decode cX11_holdsApart 65 = .ok (.istore 4, 2) := by decide +kernel
theorem dX11_holdsApart_67 : decode cX11_holdsApart 67 = .ok (.iload 4, 2) := by decide +kernel
theorem dX11_holdsApart_69 : decode cX11_holdsApart 69 = .ok (.aload_n 0, 1) := by decide +kernel
theorem dX11_holdsApart_70 : decode cX11_holdsApart 70 = .ok (.getfield 38, 3) := by decide +kernel
theorem dX11_holdsApart_73 : decode cX11_holdsApart 73 = .ok (.iload_n 1, 1) := by decide +kernel
theorem dX11_holdsApart_74 : decode cX11_holdsApart 74 = .ok (.iaload, 1) := by decide +kernel
theorem dX11_holdsApart_75 : decode cX11_holdsApart 75 = .ok (.iconst (-1), 1) := by decide +kernel
theorem dX11_holdsApart_76 : decode cX11_holdsApart 76 = .ok (.if_icmp .eq 42, 3) := by decide +kernel
theorem dX11_holdsApart_79 : decode cX11_holdsApart 79 = .ok (.aload_n 0, 1) := by decide +kernel
theorem dX11_holdsApart_80 : decode cX11_holdsApart 80 = .ok (.getfield 38, 3) := by decide +kernel
theorem dX11_holdsApart_83 : decode cX11_holdsApart 83 = .ok (.iload_n 1, 1) := by decide +kernel
theorem dX11_holdsApart_84 : decode cX11_holdsApart 84 = .ok (.iaload, 1) := by decide +kernel
theorem dX11_holdsApart_85 : decode cX11_holdsApart 85 = .ok (.aload_n 0, 1) := by decide +kernel
theorem dX11_holdsApart_86 : decode cX11_holdsApart 86 = .ok (.getfield 35, 3) := by decide +kernel
theorem dX11_holdsApart_89 : decode cX11_holdsApart 89 = .ok (.iload_n 1, 1) := by decide +kernel
theorem dX11_holdsApart_90 : decode cX11_holdsApart 90 = .ok (.iaload, 1) := by decide +kernel
theorem dX11_holdsApart_91 : decode cX11_holdsApart 91 = .ok (.if_icmp .eq 27, 3) := by decide +kernel
theorem dX11_holdsApart_94 : decode cX11_holdsApart 94 = .ok (.aload_n 0, 1) := by decide +kernel
theorem dX11_holdsApart_95 : decode cX11_holdsApart 95 = .ok (.getfield 102, 3) := by decide +kernel
theorem dX11_holdsApart_98 : decode cX11_holdsApart 98 = .ok (.iconst 4, 1) := by decide +kernel
theorem dX11_holdsApart_99 : decode cX11_holdsApart 99 = .ok (.iload 5, 2) := by decide +kernel
theorem dX11_holdsApart_101 : decode cX11_holdsApart 101 = .ok (.imul, 1) := by decide +kernel
theorem dX11_holdsApart_102 : decode cX11_holdsApart 102 = .ok (.aload_n 0, 1) := by decide +kernel
theorem dX11_holdsApart_103 : decode cX11_holdsApart 103 = .ok (.getfield 38, 3) := by decide +kernel
theorem dX11_holdsApart_106 : decode cX11_holdsApart 106 = .ok (.iload_n 1, 1) := by decide +kernel
theorem dX11_holdsApart_107 : decode cX11_holdsApart 107 = .ok (.iaload, 1) := by decide +kernel
theorem dX11_holdsApart_108 : decode cX11_holdsApart 108 = .ok (.iadd, 1) := by decide +kernel
theorem dX11_holdsApart_109 : decode cX11_holdsApart 109 = .ok (.iaload, 1) := by decide +kernel
theorem dX11_holdsApart_110 : decode cX11_holdsApart 110 = .ok (.iload_n 3, 1) := by decide +kernel
theorem dX11_holdsApart_111 : decode cX11_holdsApart 111 = .ok (.if_icmp .ne 7, 3) := by decide +kernel
theorem dX11_holdsApart_114 : decode cX11_holdsApart 114 = .ok (.iconst 1, 1) := by decide +kernel
theorem dX11_holdsApart_115 : decode cX11_holdsApart 115 = .ok (.goto 4, 3) := by decide +kernel
theorem dX11_holdsApart_118 : decode cX11_holdsApart 118 = .ok (.iconst 0, 1) := by decide +kernel
theorem dX11_holdsApart_119 : decode cX11_holdsApart 119 = .ok (.iadd, 1) := by decide +kernel
theorem dX11_holdsApart_120 : decode cX11_holdsApart 120 = .ok (.istore 4, 2) := by decide +kernel
theorem dX11_holdsApart_122 : decode cX11_holdsApart 122 = .ok (.iinc 5 1, 3) := by decide +kernel
theorem dX11_holdsApart_125 : decode cX11_holdsApart 125 = .ok (.goto (-107), 3) := by decide +kernel
theorem dX11_holdsApart_128 : decode cX11_holdsApart 128 = .ok (.iload_n 2, 1) := by decide +kernel
theorem dX11_holdsApart_129 : decode cX11_holdsApart 129 = .ok (.ifCond .eq 13, 3) := by decide +kernel
theorem dX11_holdsApart_132 : decode cX11_holdsApart 132 = .ok (.iload 4, 2) := by decide +kernel
theorem dX11_holdsApart_134 : decode cX11_holdsApart 134 = .ok (.iconst 2, 1) := by decide +kernel
theorem dX11_holdsApart_135 : decode cX11_holdsApart 135 = .ok (.if_icmp .ge 7, 3) := by decide +kernel
theorem dX11_holdsApart_138 : decode cX11_holdsApart 138 = .ok (.iconst 1, 1) := by decide +kernel
theorem dX11_holdsApart_139 : decode cX11_holdsApart 139 = .ok (.goto 4, 3) := by decide +kernel
theorem dX11_holdsApart_142 : decode cX11_holdsApart 142 = .ok (.iconst 0, 1) := by decide +kernel
theorem dX11_holdsApart_143 : decode cX11_holdsApart 143 = .ok (.istore_n 2, 1) := by decide +kernel
theorem dX11_holdsApart_144 : decode cX11_holdsApart 144 = .ok (.iinc 3 1, 3) := by decide +kernel
theorem dX11_holdsApart_147 : decode cX11_holdsApart 147 = .ok (.goto (-143), 3) := by decide +kernel
theorem dX11_holdsApart_150 : decode cX11_holdsApart 150 = .ok (.iload_n 2, 1) := by decide +kernel
theorem dX11_holdsApart_151 : decode cX11_holdsApart 151 = .ok (.ireturn, 1) := by decide +kernel
theorem dX11_holdsAt_0 : decode cX11_holdsAt 0 = .ok (.aload_n 0, 1) := by decide +kernel
theorem dX11_holdsAt_1 : decode cX11_holdsAt 1 = .ok (.getfield 102, 3) := by decide +kernel
theorem dX11_holdsAt_4 : decode cX11_holdsAt 4 = .ok (.iconst 4, 1) := by decide +kernel
theorem dX11_holdsAt_5 : decode cX11_holdsAt 5 = .ok (.iload_n 2, 1) := by decide +kernel
theorem dX11_holdsAt_6 : decode cX11_holdsAt 6 = .ok (.imul, 1) := by decide +kernel
theorem dX11_holdsAt_7 : decode cX11_holdsAt 7 = .ok (.aload_n 0, 1) := by decide +kernel
theorem dX11_holdsAt_8 : decode cX11_holdsAt 8 = .ok (.getfield 35, 3) := by decide +kernel
theorem dX11_holdsAt_11 : decode cX11_holdsAt 11 = .ok (.iload_n 1, 1) := by decide +kernel
theorem dX11_holdsAt_12 : decode cX11_holdsAt 12 = .ok (.iaload, 1) := by decide +kernel
theorem dX11_holdsAt_13 : decode cX11_holdsAt 13 = .ok (.iadd, 1) := by decide +kernel
theorem dX11_holdsAt_14 : decode cX11_holdsAt 14 = .ok (.iaload, 1) := by decide +kernel
theorem dX11_holdsAt_15 : decode cX11_holdsAt 15 = .ok (.istore_n 3, 1) := by decide +kernel
theorem dX11_holdsAt_16 : decode cX11_holdsAt 16 = .ok (.aload_n 0, 1) := by decide +kernel
theorem dX11_holdsAt_17 : decode cX11_holdsAt 17 = .ok (.getfield 29, 3) := by decide +kernel
theorem dX11_holdsAt_20 : decode cX11_holdsAt 20 = .ok (.iload_n 1, 1) := by decide +kernel
theorem dX11_holdsAt_21 : decode cX11_holdsAt 21 = .ok (.iaload, 1) := by decide +kernel
theorem dX11_holdsAt_22 : decode cX11_holdsAt 22 = .ok (.tableswitch 137 0 4 #[34, 137, 137, 45, 84], 34) := by decide +kernel
theorem dX11_holdsAt_56 : decode cX11_holdsAt 56 = .ok (.iload_n 3, 1) := by decide +kernel
theorem dX11_holdsAt_57 : decode cX11_holdsAt 57 = .ok (.iconst (-1), 1) := by decide +kernel
theorem dX11_holdsAt_58 : decode cX11_holdsAt 58 = .ok (.if_icmp .eq 7, 3) := by decide +kernel
theorem dX11_holdsAt_61 : decode cX11_holdsAt 61 = .ok (.iconst 1, 1) := by decide +kernel
theorem dX11_holdsAt_62 : decode cX11_holdsAt 62 = .ok (.goto 4, 3) := by decide +kernel
theorem dX11_holdsAt_65 : decode cX11_holdsAt 65 = .ok (.iconst 0, 1) := by decide +kernel
theorem dX11_holdsAt_66 : decode cX11_holdsAt 66 = .ok (.ireturn, 1) := by decide +kernel
theorem dX11_holdsAt_67 : decode cX11_holdsAt 67 = .ok (.iload_n 3, 1) := by decide +kernel
theorem dX11_holdsAt_68 : decode cX11_holdsAt 68 = .ok (.iconst (-1), 1) := by decide +kernel
theorem dX11_holdsAt_69 : decode cX11_holdsAt 69 = .ok (.if_icmp .eq 31, 3) := by decide +kernel
theorem dX11_holdsAt_72 : decode cX11_holdsAt 72 = .ok (.aload_n 0, 1) := by decide +kernel
theorem dX11_holdsAt_73 : decode cX11_holdsAt 73 = .ok (.iload_n 3, 1) := by decide +kernel
theorem dX11_holdsAt_74 : decode cX11_holdsAt 74 = .ok (.iload_n 1, 1) := by decide +kernel
theorem dX11_holdsAt_75 : decode cX11_holdsAt 75 = .ok (.invokevirtual 193, 3) := by decide +kernel
theorem dX11_holdsAt_78 : decode cX11_holdsAt 78 = .ok (.ifCond .eq 26, 3) := by decide +kernel
theorem dX11_holdsAt_81 : decode cX11_holdsAt 81 = .ok (.aload_n 0, 1) := by decide +kernel
theorem dX11_holdsAt_82 : decode cX11_holdsAt 82 = .ok (.getfield 102, 3) := by decide +kernel
theorem dX11_holdsAt_85 : decode cX11_holdsAt 85 = .ok (.iconst 4, 1) := by decide +kernel
theorem dX11_holdsAt_86 : decode cX11_holdsAt 86 = .ok (.iload_n 3, 1) := by decide +kernel
theorem dX11_holdsAt_87 : decode cX11_holdsAt 87 = .ok (.imul, 1) := by decide +kernel
theorem dX11_holdsAt_88 : decode cX11_holdsAt 88 = .ok (.aload_n 0, 1) := by decide +kernel
theorem dX11_holdsAt_89 : decode cX11_holdsAt 89 = .ok (.getfield 38, 3) := by decide +kernel
theorem dX11_holdsAt_92 : decode cX11_holdsAt 92 = .ok (.iload_n 1, 1) := by decide +kernel
theorem dX11_holdsAt_93 : decode cX11_holdsAt 93 = .ok (.iaload, 1) := by decide +kernel
theorem dX11_holdsAt_94 : decode cX11_holdsAt 94 = .ok (.iadd, 1) := by decide +kernel
theorem dX11_holdsAt_95 : decode cX11_holdsAt 95 = .ok (.iaload, 1) := by decide +kernel
theorem dX11_holdsAt_96 : decode cX11_holdsAt 96 = .ok (.iload_n 2, 1) := by decide +kernel
theorem dX11_holdsAt_97 : decode cX11_holdsAt 97 = .ok (.if_icmp .ne 7, 3) := by decide +kernel
theorem dX11_holdsAt_100 : decode cX11_holdsAt 100 = .ok (.iconst 1, 1) := by decide +kernel
theorem dX11_holdsAt_101 : decode cX11_holdsAt 101 = .ok (.goto 4, 3) := by decide +kernel
theorem dX11_holdsAt_104 : decode cX11_holdsAt 104 = .ok (.iconst 0, 1) := by decide +kernel
theorem dX11_holdsAt_105 : decode cX11_holdsAt 105 = .ok (.ireturn, 1) := by decide +kernel
theorem dX11_holdsAt_106 : decode cX11_holdsAt 106 = .ok (.iload_n 3, 1) := by decide +kernel
theorem dX11_holdsAt_107 : decode cX11_holdsAt 107 = .ok (.iconst (-1), 1) := by decide +kernel
theorem dX11_holdsAt_108 : decode cX11_holdsAt 108 = .ok (.if_icmp .eq 45, 3) := by decide +kernel
theorem dX11_holdsAt_111 : decode cX11_holdsAt 111 = .ok (.aload_n 0, 1) := by decide +kernel
theorem dX11_holdsAt_112 : decode cX11_holdsAt 112 = .ok (.iload_n 3, 1) := by decide +kernel
theorem dX11_holdsAt_113 : decode cX11_holdsAt 113 = .ok (.iload_n 1, 1) := by decide +kernel
theorem dX11_holdsAt_114 : decode cX11_holdsAt 114 = .ok (.invokevirtual 193, 3) := by decide +kernel
theorem dX11_holdsAt_117 : decode cX11_holdsAt 117 = .ok (.ifCond .eq 36, 3) := by decide +kernel
theorem dX11_holdsAt_120 : decode cX11_holdsAt 120 = .ok (.aload_n 0, 1) := by decide +kernel
theorem dX11_holdsAt_121 : decode cX11_holdsAt 121 = .ok (.getfield 102, 3) := by decide +kernel
theorem dX11_holdsAt_124 : decode cX11_holdsAt 124 = .ok (.iconst 4, 1) := by decide +kernel
theorem dX11_holdsAt_125 : decode cX11_holdsAt 125 = .ok (.iload_n 2, 1) := by decide +kernel
theorem dX11_holdsAt_126 : decode cX11_holdsAt 126 = .ok (.imul, 1) := by decide +kernel
theorem dX11_holdsAt_127 : decode cX11_holdsAt 127 = .ok (.aload_n 0, 1) := by decide +kernel
theorem dX11_holdsAt_128 : decode cX11_holdsAt 128 = .ok (.getfield 38, 3) := by decide +kernel
theorem dX11_holdsAt_131 : decode cX11_holdsAt 131 = .ok (.iload_n 1, 1) := by decide +kernel
theorem dX11_holdsAt_132 : decode cX11_holdsAt 132 = .ok (.iaload, 1) := by decide +kernel
theorem dX11_holdsAt_133 : decode cX11_holdsAt 133 = .ok (.iadd, 1) := by decide +kernel
theorem dX11_holdsAt_134 : decode cX11_holdsAt 134 = .ok (.iaload, 1) := by decide +kernel
theorem dX11_holdsAt_135 : decode cX11_holdsAt 135 = .ok (.aload_n 0, 1) := by decide +kernel
theorem dX11_holdsAt_136 : decode cX11_holdsAt 136 = .ok (.getfield 102, 3) := by decide +kernel
theorem dX11_holdsAt_139 : decode cX11_holdsAt 139 = .ok (.iconst 4, 1) := by decide +kernel
theorem dX11_holdsAt_140 : decode cX11_holdsAt 140 = .ok (.iload_n 3, 1) := by decide +kernel
theorem dX11_holdsAt_141 : decode cX11_holdsAt 141 = .ok (.imul, 1) := by decide +kernel
theorem dX11_holdsAt_142 : decode cX11_holdsAt 142 = .ok (.aload_n 0, 1) := by decide +kernel
theorem dX11_holdsAt_143 : decode cX11_holdsAt 143 = .ok (.getfield 38, 3) := by decide +kernel
theorem dX11_holdsAt_146 : decode cX11_holdsAt 146 = .ok (.iload_n 1, 1) := by decide +kernel
theorem dX11_holdsAt_147 : decode cX11_holdsAt 147 = .ok (.iaload, 1) := by decide +kernel
theorem dX11_holdsAt_148 : decode cX11_holdsAt 148 = .ok (.iadd, 1) := by decide +kernel
theorem dX11_holdsAt_149 : decode cX11_holdsAt 149 = .ok (.iaload, 1) := by decide +kernel
theorem dX11_holdsAt_150 : decode cX11_holdsAt 150 = .ok (.if_icmp .gt 7, 3) := by decide +kernel
theorem dX11_holdsAt_153 : decode cX11_holdsAt 153 = .ok (.iconst 1, 1) := by decide +kernel
theorem dX11_holdsAt_154 : decode cX11_holdsAt 154 = .ok (.goto 4, 3) := by decide +kernel
theorem dX11_holdsAt_157 : decode cX11_holdsAt 157 = .ok (.iconst 0, 1) := by decide +kernel
theorem dX11_holdsAt_158 : decode cX11_holdsAt 158 = .ok (.ireturn, 1) := by decide +kernel
theorem dX11_holdsAt_159 : decode cX11_holdsAt 159 = .ok (.iload_n 3, 1) := by decide +kernel
theorem dX11_holdsAt_160 : decode cX11_holdsAt 160 = .ok (.iconst (-1), 1) := by decide +kernel
theorem dX11_holdsAt_161 : decode cX11_holdsAt 161 = .ok (.if_icmp .ne 7, 3) := by decide +kernel
theorem dX11_holdsAt_164 : decode cX11_holdsAt 164 = .ok (.iconst 1, 1) := by decide +kernel
theorem dX11_holdsAt_165 : decode cX11_holdsAt 165 = .ok (.goto 4, 3) := by decide +kernel
theorem dX11_holdsAt_168 : decode cX11_holdsAt 168 = .ok (.iconst 0, 1) := by decide +kernel
theorem dX11_holdsAt_169 : decode cX11_holdsAt 169 = .ok (.aload_n 0, 1) := by decide +kernel
theorem dX11_holdsAt_170 : decode cX11_holdsAt 170 = .ok (.getfield 102, 3) := by decide +kernel
theorem dX11_holdsAt_173 : decode cX11_holdsAt 173 = .ok (.iconst 4, 1) := by decide +kernel
theorem dX11_holdsAt_174 : decode cX11_holdsAt 174 = .ok (.iload_n 2, 1) := by decide +kernel
theorem dX11_holdsAt_175 : decode cX11_holdsAt 175 = .ok (.imul, 1) := by decide +kernel
theorem dX11_holdsAt_176 : decode cX11_holdsAt 176 = .ok (.aload_n 0, 1) := by decide +kernel
theorem dX11_holdsAt_177 : decode cX11_holdsAt 177 = .ok (.getfield 38, 3) := by decide +kernel
theorem dX11_holdsAt_180 : decode cX11_holdsAt 180 = .ok (.iload_n 1, 1) := by decide +kernel
theorem dX11_holdsAt_181 : decode cX11_holdsAt 181 = .ok (.iaload, 1) := by decide +kernel
theorem dX11_holdsAt_182 : decode cX11_holdsAt 182 = .ok (.iadd, 1) := by decide +kernel
theorem dX11_holdsAt_183 : decode cX11_holdsAt 183 = .ok (.iaload, 1) := by decide +kernel
theorem dX11_holdsAt_184 : decode cX11_holdsAt 184 = .ok (.ifCond .ne 7, 3) := by decide +kernel
theorem dX11_holdsAt_187 : decode cX11_holdsAt 187 = .ok (.iconst 1, 1) := by decide +kernel
theorem dX11_holdsAt_188 : decode cX11_holdsAt 188 = .ok (.goto 4, 3) := by decide +kernel
theorem dX11_holdsAt_191 : decode cX11_holdsAt 191 = .ok (.iconst 0, 1) := by decide +kernel
theorem dX11_holdsAt_192 : decode cX11_holdsAt 192 = .ok (.if_icmp .ne 7, 3) := by decide +kernel
theorem dX11_holdsAt_195 : decode cX11_holdsAt 195 = .ok (.iconst 1, 1) := by decide +kernel
theorem dX11_holdsAt_196 : decode cX11_holdsAt 196 = .ok (.goto 4, 3) := by decide +kernel
theorem dX11_holdsAt_199 : decode cX11_holdsAt 199 = .ok (.iconst 0, 1) := by decide +kernel
theorem dX11_holdsAt_200 : decode cX11_holdsAt 200 = .ok (.ireturn, 1) := by decide +kernel
theorem dX11_holds_0 : decode cX11_holds 0 = .ok (.aload_n 0, 1) := by decide +kernel
theorem dX11_holds_1 : decode cX11_holds 1 = .ok (.getfield 29, 3) := by decide +kernel
theorem dX11_holds_4 : decode cX11_holds 4 = .ok (.iload_n 1, 1) := by decide +kernel
theorem dX11_holds_5 : decode cX11_holds 5 = .ok (.iaload, 1) := by decide +kernel
theorem dX11_holds_6 : decode cX11_holds 6 = .ok (.lookupswitch 85 #[(1, 34), (2, 40), (6, 46)], 34) := by decide +kernel
theorem dX11_holds_40 : decode cX11_holds 40 = .ok (.aload_n 0, 1) := by decide +kernel
theorem dX11_holds_41 : decode cX11_holds 41 = .ok (.iload_n 1, 1) := by decide +kernel
theorem dX11_holds_42 : decode cX11_holds 42 = .ok (.invokevirtual 196, 3) := by decide +kernel
theorem dX11_holds_45 : decode cX11_holds 45 = .ok (.ireturn, 1) := by decide +kernel
theorem dX11_holds_46 : decode cX11_holds 46 = .ok (.aload_n 0, 1) := by decide +kernel
theorem dX11_holds_47 : decode cX11_holds 47 = .ok (.iload_n 1, 1) := by decide +kernel
theorem dX11_holds_48 : decode cX11_holds 48 = .ok (.invokevirtual 199, 3) := by decide +kernel
theorem dX11_holds_51 : decode cX11_holds 51 = .ok (.ireturn, 1) := by decide +kernel
theorem dX11_holds_52 : decode cX11_holds 52 = .ok (.aload_n 0, 1) := by decide +kernel
theorem dX11_holds_53 : decode cX11_holds 53 = .ok (.getfield 143, 3) := by decide +kernel
theorem dX11_holds_56 : decode cX11_holds 56 = .ok (.iconst 2, 1) := by decide +kernel
theorem dX11_holds_57 : decode cX11_holds 57 = .ok (.if_icmp .lt 28, 3) := by decide +kernel
theorem dX11_holds_60 : decode cX11_holds 60 = .ok (.aload_n 0, 1) := by decide +kernel
theorem dX11_holds_61 : decode cX11_holds 61 = .ok (.getfield 99, 3) := by decide +kernel
theorem dX11_holds_64 : decode cX11_holds 64 = .ok (.iconst 0, 1) := by decide +kernel
theorem dX11_holds_65 : decode cX11_holds 65 = .ok (.iaload, 1) := by decide +kernel
theorem dX11_holds_66 : decode cX11_holds 66 = .ok (.iconst (-1), 1) := by decide +kernel
theorem dX11_holds_67 : decode cX11_holds 67 = .ok (.if_icmp .eq 18, 3) := by decide +kernel
theorem dX11_holds_70 : decode cX11_holds 70 = .ok (.aload_n 0, 1) := by decide +kernel
theorem dX11_holds_71 : decode cX11_holds 71 = .ok (.getfield 99, 3) := by decide +kernel
theorem dX11_holds_74 : decode cX11_holds 74 = .ok (.iconst 0, 1) := by decide +kernel
theorem dX11_holds_75 : decode cX11_holds 75 = .ok (.iaload, 1) := by decide +kernel
theorem dX11_holds_76 : decode cX11_holds 76 = .ok (.aload_n 0, 1) := by decide +kernel
theorem dX11_holds_77 : decode cX11_holds 77 = .ok (.getfield 99, 3) := by decide +kernel
theorem dX11_holds_80 : decode cX11_holds 80 = .ok (.iconst 1, 1) := by decide +kernel
theorem dX11_holds_81 : decode cX11_holds 81 = .ok (.iaload, 1) := by decide +kernel
theorem dX11_holds_82 : decode cX11_holds 82 = .ok (.if_icmp .eq 7, 3) := by decide +kernel
theorem dX11_holds_85 : decode cX11_holds 85 = .ok (.iconst 1, 1) := by decide +kernel
theorem dX11_holds_86 : decode cX11_holds 86 = .ok (.goto 4, 3) := by decide +kernel
theorem dX11_holds_89 : decode cX11_holds 89 = .ok (.iconst 0, 1) := by decide +kernel
theorem dX11_holds_90 : decode cX11_holds 90 = .ok (.ireturn, 1) := by decide +kernel
theorem dX11_holds_91 : decode cX11_holds 91 = .ok (.iconst 1, 1) := by decide +kernel
theorem dX11_holds_92 : decode cX11_holds 92 = .ok (.istore_n 2, 1) := by decide +kernel
theorem dX11_holds_93 : decode cX11_holds 93 = .ok (.iconst 0, 1) := by decide +kernel
theorem dX11_holds_94 : decode cX11_holds 94 = .ok (.istore_n 3, 1) := by decide +kernel
theorem dX11_holds_95 : decode cX11_holds 95 = .ok (.iload_n 3, 1) := by decide +kernel
theorem dX11_holds_96 : decode cX11_holds 96 = .ok (.aload_n 0, 1) := by decide +kernel
theorem dX11_holds_97 : decode cX11_holds 97 = .ok (.getfield 162, 3) := by decide +kernel
theorem dX11_holds_100 : decode cX11_holds 100 = .ok (.if_icmp .ge 37, 3) := by decide +kernel
theorem dX11_holds_103 : decode cX11_holds 103 = .ok (.iload_n 2, 1) := by decide +kernel
theorem dX11_holds_104 : decode cX11_holds 104 = .ok (.ifCond .eq 33, 3) := by decide +kernel
theorem dX11_holds_107 : decode cX11_holds 107 = .ok (.aload_n 0, 1) := by decide +kernel
theorem dX11_holds_108 : decode cX11_holds 108 = .ok (.iload_n 3, 1) := by decide +kernel
theorem dX11_holds_109 : decode cX11_holds 109 = .ok (.iload_n 1, 1) := by decide +kernel
theorem dX11_holds_110 : decode cX11_holds 110 = .ok (.invokevirtual 193, 3) := by decide +kernel
theorem dX11_holds_113 : decode cX11_holds 113 = .ok (.ifCond .eq 12, 3) := by decide +kernel
theorem dX11_holds_116 : decode cX11_holds 116 = .ok (.aload_n 0, 1) := by decide +kernel
theorem dX11_holds_117 : decode cX11_holds 117 = .ok (.iload_n 1, 1) := by decide +kernel
theorem dX11_holds_118 : decode cX11_holds 118 = .ok (.iload_n 3, 1) := by decide +kernel
theorem dX11_holds_119 : decode cX11_holds 119 = .ok (.invokevirtual 202, 3) := by decide +kernel
theorem dX11_holds_122 : decode cX11_holds 122 = .ok (.ifCond .eq 7, 3) := by decide +kernel
theorem dX11_holds_125 : decode cX11_holds 125 = .ok (.iconst 1, 1) := by decide +kernel
theorem dX11_holds_126 : decode cX11_holds 126 = .ok (.goto 4, 3) := by decide +kernel
theorem dX11_holds_129 : decode cX11_holds 129 = .ok (.iconst 0, 1) := by decide +kernel
theorem dX11_holds_130 : decode cX11_holds 130 = .ok (.istore_n 2, 1) := by decide +kernel
theorem dX11_holds_131 : decode cX11_holds 131 = .ok (.iinc 3 1, 3) := by decide +kernel
theorem dX11_holds_134 : decode cX11_holds 134 = .ok (.goto (-39), 3) := by decide +kernel
theorem dX11_holds_137 : decode cX11_holds 137 = .ok (.iload_n 2, 1) := by decide +kernel
theorem dX11_holds_138 : decode cX11_holds 138 = .ok (.ireturn, 1) := by decide +kernel
theorem dX11_freshen_0 : decode cX11_freshen 0 = .ok (.aload_n 0, 1) := by decide +kernel
theorem dX11_freshen_1 : decode cX11_freshen 1 = .ok (.getfield 126, 3) := by decide +kernel
theorem dX11_freshen_4 : decode cX11_freshen 4 = .ok (.ifCond .eq 19, 3) := by decide +kernel
theorem dX11_freshen_7 : decode cX11_freshen 7 = .ok (.aload_n 0, 1) := by decide +kernel
theorem dX11_freshen_8 : decode cX11_freshen 8 = .ok (.getfield 205, 3) := by decide +kernel
theorem dX11_freshen_11 : decode cX11_freshen 11 = .ok (.sipush 4000, 3) := by decide +kernel
theorem dX11_freshen_14 : decode cX11_freshen 14 = .ok (.if_icmp .gt 7, 3) := by decide +kernel
theorem dX11_freshen_17 : decode cX11_freshen 17 = .ok (.iconst 1, 1) := by decide +kernel
theorem dX11_freshen_18 : decode cX11_freshen 18 = .ok (.goto 4, 3) := by decide +kernel
theorem dX11_freshen_21 : decode cX11_freshen 21 = .ok (.iconst 0, 1) := by decide +kernel
theorem dX11_freshen_22 : decode cX11_freshen 22 = .ok (.ireturn, 1) := by decide +kernel
theorem dX11_freshen_23 : decode cX11_freshen 23 = .ok (.aload_n 0, 1) := by decide +kernel
theorem dX11_freshen_24 : decode cX11_freshen 24 = .ok (.iconst 1, 1) := by decide +kernel
theorem dX11_freshen_25 : decode cX11_freshen 25 = .ok (.putfield 126, 3) := by decide +kernel
theorem dX11_freshen_28 : decode cX11_freshen 28 = .ok (.aload_n 0, 1) := by decide +kernel
theorem dX11_freshen_29 : decode cX11_freshen 29 = .ok (.iconst 0, 1) := by decide +kernel
theorem dX11_freshen_30 : decode cX11_freshen 30 = .ok (.putfield 205, 3) := by decide +kernel
theorem dX11_freshen_33 : decode cX11_freshen 33 = .ok (.aload_n 0, 1) := by decide +kernel
theorem dX11_freshen_34 : decode cX11_freshen 34 = .ok (.iconst 0, 1) := by decide +kernel
theorem dX11_freshen_35 : decode cX11_freshen 35 = .ok (.putfield 208, 3) := by decide +kernel
theorem dX11_freshen_38 : decode cX11_freshen 38 = .ok (.aload_n 0, 1) := by decide +kernel
theorem dX11_freshen_39 : decode cX11_freshen 39 = .ok (.iconst 0, 1) := by decide +kernel
theorem dX11_freshen_40 : decode cX11_freshen 40 = .ok (.invokevirtual 190, 3) := by decide +kernel
theorem dX11_freshen_43 : decode cX11_freshen 43 = .ok (.istore_n 1, 1) := by decide +kernel
theorem dX11_freshen_44 : decode cX11_freshen 44 = .ok (.iload_n 1, 1) := by decide +kernel
theorem dX11_freshen_45 : decode cX11_freshen 45 = .ok (.iconst (-1), 1) := by decide +kernel
theorem dX11_freshen_46 : decode cX11_freshen 46 = .ok (.if_icmp .eq 157, 3) := by decide +kernel
theorem dX11_freshen_49 : decode cX11_freshen 49 = .ok (.aload_n 0, 1) := by decide +kernel
theorem dX11_freshen_50 : decode cX11_freshen 50 = .ok (.getfield 205, 3) := by decide +kernel
theorem dX11_freshen_53 : decode cX11_freshen 53 = .ok (.sipush 4000, 3) := by decide +kernel
theorem dX11_freshen_56 : decode cX11_freshen 56 = .ok (.if_icmp .gt 147, 3) := by decide +kernel
theorem dX11_freshen_59 : decode cX11_freshen 59 = .ok (.aload_n 0, 1) := by decide +kernel
theorem dX11_freshen_60 : decode cX11_freshen 60 = .ok (.getfield 205, 3) := by decide +kernel
theorem dX11_freshen_63 : decode cX11_freshen 63 = .ok (.sipush 4000, 3) := by decide +kernel
theorem dX11_freshen_66 : decode cX11_freshen 66 = .ok (.if_icmp .ge 118, 3) := by decide +kernel
theorem dX11_freshen_69 : decode cX11_freshen 69 = .ok (.iconst 0, 1) := by decide +kernel
theorem dX11_freshen_70 : decode cX11_freshen 70 = .ok (.istore_n 2, 1) := by decide +kernel
theorem dX11_freshen_71 : decode cX11_freshen 71 = .ok (.iload_n 2, 1) := by decide +kernel
theorem dX11_freshen_72 : decode cX11_freshen 72 = .ok (.iload_n 1, 1) := by decide +kernel
theorem dX11_freshen_73 : decode cX11_freshen 73 = .ok (.if_icmp .ge 30, 3) := by decide +kernel
theorem dX11_freshen_76 : decode cX11_freshen 76 = .ok (.aload_n 0, 1) := by decide +kernel
theorem dX11_freshen_77 : decode cX11_freshen 77 = .ok (.getfield 60, 3) := by decide +kernel
theorem dX11_freshen_80 : decode cX11_freshen 80 = .ok (.bipush 22, 2) := by decide +kernel
theorem dX11_freshen_82 : decode cX11_freshen 82 = .ok (.aload_n 0, 1) := by decide +kernel
theorem dX11_freshen_83 : decode cX11_freshen 83 = .ok (.getfield 205, 3) := by decide +kernel
theorem dX11_freshen_86 : decode cX11_freshen 86 = .ok (.imul, 1) := by decide +kernel
theorem dX11_freshen_87 : decode cX11_freshen 87 = .ok (.iload_n 2, 1) := by decide +kernel
theorem dX11_freshen_88 : decode cX11_freshen 88 = .ok (.iadd, 1) := by decide +kernel
theorem dX11_freshen_89 : decode cX11_freshen 89 = .ok (.aload_n 0, 1) := by decide +kernel
theorem dX11_freshen_90 : decode cX11_freshen 90 = .ok (.getfield 93, 3) := by decide +kernel
theorem dX11_freshen_93 : decode cX11_freshen 93 = .ok (.iload_n 2, 1) := by decide +kernel
theorem dX11_freshen_94 : decode cX11_freshen 94 = .ok (.iaload, 1) := by decide +kernel
theorem dX11_freshen_95 : decode cX11_freshen 95 = .ok (.i2b, 1) := by decide +kernel
theorem dX11_freshen_96 : decode cX11_freshen 96 = .ok (.bastore, 1) := by decide +kernel
theorem dX11_freshen_97 : decode cX11_freshen 97 = .ok (.iinc 2 1, 3) := by decide +kernel
theorem dX11_freshen_100 : decode cX11_freshen 100 = .ok (.goto (-29), 3) := by decide +kernel
theorem dX11_freshen_103 : decode cX11_freshen 103 = .ok (.aload_n 0, 1) := by decide +kernel
theorem dX11_freshen_104 : decode cX11_freshen 104 = .ok (.getfield 64, 3) := by decide +kernel
theorem dX11_freshen_107 : decode cX11_freshen 107 = .ok (.aload_n 0, 1) := by decide +kernel
theorem dX11_freshen_108 : decode cX11_freshen 108 = .ok (.getfield 205, 3) := by decide +kernel
theorem dX11_freshen_111 : decode cX11_freshen 111 = .ok (.iload_n 1, 1) := by decide +kernel
theorem dX11_freshen_112 : decode cX11_freshen 112 = .ok (.i2b, 1) := by decide +kernel
theorem dX11_freshen_113 : decode cX11_freshen 113 = .ok (.bastore, 1) := by decide +kernel
theorem dX11_freshen_114 : decode cX11_freshen 114 = .ok (.aload_n 0, 1) := by decide +kernel
theorem dX11_freshen_115 : decode cX11_freshen 115 = .ok (.iload_n 1, 1) := by decide +kernel
theorem dX11_freshen_116 : decode cX11_freshen 116 = .ok (.invokevirtual 182, 3) := by decide +kernel
theorem dX11_freshen_119 : decode cX11_freshen 119 = .ok (.iconst 1, 1) := by decide +kernel
theorem dX11_freshen_120 : decode cX11_freshen 120 = .ok (.istore_n 2, 1) := by decide +kernel
theorem dX11_freshen_121 : decode cX11_freshen 121 = .ok (.iconst 0, 1) := by decide +kernel
theorem dX11_freshen_122 : decode cX11_freshen 122 = .ok (.istore_n 3, 1) := by decide +kernel
theorem dX11_freshen_123 : decode cX11_freshen 123 = .ok (.iload_n 3, 1) := by decide +kernel
theorem dX11_freshen_124 : decode cX11_freshen 124 = .ok (.aload_n 0, 1) := by decide +kernel
theorem dX11_freshen_125 : decode cX11_freshen 125 = .ok (.getfield 153, 3) := by decide +kernel
theorem dX11_freshen_128 : decode cX11_freshen 128 = .ok (.if_icmp .ge 19, 3) := by decide +kernel
theorem dX11_freshen_131 : decode cX11_freshen 131 = .ok (.iload_n 2, 1) := by decide +kernel
theorem dX11_freshen_132 : decode cX11_freshen 132 = .ok (.ifCond .eq 15, 3) := by decide +kernel
theorem dX11_freshen_135 : decode cX11_freshen 135 = .ok (.aload_n 0, 1) := by decide +kernel
theorem dX11_freshen_136 : decode cX11_freshen 136 = .ok (.iload_n 3, 1) := by decide +kernel
theorem dX11_freshen_137 : decode cX11_freshen 137 = .ok (.invokevirtual 211, 3) := by decide +kernel
theorem dX11_freshen_140 : decode cX11_freshen 140 = .ok (.istore_n 2, 1) := by decide +kernel
theorem dX11_freshen_141 : decode cX11_freshen 141 = .ok (.iinc 3 1, 3) := by decide +kernel
theorem dX11_freshen_144 : decode cX11_freshen 144 = .ok (.goto (-21), 3) := by decide +kernel
theorem dX11_freshen_147 : decode cX11_freshen 147 = .ok (.aload_n 0, 1) := by decide +kernel
theorem dX11_freshen_148 : decode cX11_freshen 148 = .ok (.getfield 70, 3) := by decide +kernel
theorem dX11_freshen_151 : decode cX11_freshen 151 = .ok (.aload_n 0, 1) := by decide +kernel
theorem dX11_freshen_152 : decode cX11_freshen 152 = .ok (.getfield 205, 3) := by decide +kernel
theorem dX11_freshen_155 : decode cX11_freshen 155 = .ok (.iload_n 2, 1) := by decide +kernel
theorem dX11_freshen_156 : decode cX11_freshen 156 = .ok (.bastore, 1) := by decide +kernel
theorem dX11_freshen_157 : decode cX11_freshen 157 = .ok (.iload_n 2, 1) := by decide +kernel
theorem dX11_freshen_158 : decode cX11_freshen 158 = .ok (.ifCond .eq 26, 3) := by decide +kernel
theorem dX11_freshen_161 : decode cX11_freshen 161 = .ok (.aload_n 0, 1) := by decide +kernel
theorem dX11_freshen_162 : decode cX11_freshen 162 = .ok (.getfield 67, 3) := by decide +kernel
theorem dX11_freshen_165 : decode cX11_freshen 165 = .ok (.aload_n 0, 1) := by decide +kernel
theorem dX11_freshen_166 : decode cX11_freshen 166 = .ok (.getfield 208, 3) := by decide +kernel
theorem dX11_freshen_169 : decode cX11_freshen 169 = .ok (.aload_n 0, 1) := by decide +kernel
theorem dX11_freshen_170 : decode cX11_freshen 170 = .ok (.getfield 205, 3) := by decide +kernel
theorem dX11_freshen_173 : decode cX11_freshen 173 = .ok (.iastore, 1) := by decide +kernel
theorem dX11_freshen_174 : decode cX11_freshen 174 = .ok (.aload_n 0, 1) := by decide +kernel
theorem dX11_freshen_175 : decode cX11_freshen 175 = .ok (.dup, 1) := by decide +kernel
theorem dX11_freshen_176 : decode cX11_freshen 176 = .ok (.getfield 208, 3) := by decide +kernel
theorem dX11_freshen_179 : decode cX11_freshen 179 = .ok (.iconst 1, 1) := by decide +kernel
theorem dX11_freshen_180 : decode cX11_freshen 180 = .ok (.iadd, 1) := by decide +kernel
theorem dX11_freshen_181 : decode cX11_freshen 181 = .ok (.putfield 208, 3) := by decide +kernel
theorem dX11_freshen_184 : decode cX11_freshen 184 = .ok (.aload_n 0, 1) := by decide +kernel
theorem dX11_freshen_185 : decode cX11_freshen 185 = .ok (.dup, 1) := by decide +kernel
theorem dX11_freshen_186 : decode cX11_freshen 186 = .ok (.getfield 205, 3) := by decide +kernel
theorem dX11_freshen_189 : decode cX11_freshen 189 = .ok (.iconst 1, 1) := by decide +kernel
theorem dX11_freshen_190 : decode cX11_freshen 190 = .ok (.iadd, 1) := by decide +kernel
theorem dX11_freshen_191 : decode cX11_freshen 191 = .ok (.putfield 205, 3) := by decide +kernel
theorem dX11_freshen_194 : decode cX11_freshen 194 = .ok (.aload_n 0, 1) := by decide +kernel
theorem dX11_freshen_195 : decode cX11_freshen 195 = .ok (.iload_n 1, 1) := by decide +kernel
theorem dX11_freshen_196 : decode cX11_freshen 196 = .ok (.invokevirtual 214, 3) := by decide +kernel
theorem dX11_freshen_199 : decode cX11_freshen 199 = .ok (.istore_n 1, 1) := by decide +kernel
theorem dX11_freshen_200 : decode cX11_freshen 200 = .ok (.goto (-156), 3) := by decide +kernel
theorem dX11_freshen_203 : decode cX11_freshen 203 = .ok (.aload_n 0, 1) := by decide +kernel
theorem dX11_freshen_204 : decode cX11_freshen 204 = .ok (.getfield 205, 3) := by decide +kernel
theorem dX11_freshen_207 : decode cX11_freshen 207 = .ok (.sipush 4000, 3) := by decide +kernel
theorem dX11_freshen_210 : decode cX11_freshen 210 = .ok (.if_icmp .gt 7, 3) := by decide +kernel
theorem dX11_freshen_213 : decode cX11_freshen 213 = .ok (.iconst 1, 1) := by decide +kernel
theorem dX11_freshen_214 : decode cX11_freshen 214 = .ok (.goto 4, 3) := by decide +kernel
theorem dX11_freshen_217 : decode cX11_freshen 217 = .ok (.iconst 0, 1) := by decide +kernel
theorem dX11_freshen_218 : decode cX11_freshen 218 = .ok (.ireturn, 1) := by decide +kernel
theorem dX11_many_0 : decode cX11_many 0 = .ok (.aload_n 0, 1) := by decide +kernel
theorem dX11_many_1 : decode cX11_many 1 = .ok (.invokevirtual 217, 3) := by decide +kernel
theorem dX11_many_4 : decode cX11_many 4 = .ok (.ifCond .eq 10, 3) := by decide +kernel
theorem dX11_many_7 : decode cX11_many 7 = .ok (.aload_n 0, 1) := by decide +kernel
theorem dX11_many_8 : decode cX11_many 8 = .ok (.getfield 205, 3) := by decide +kernel
theorem dX11_many_11 : decode cX11_many 11 = .ok (.goto 5, 3) := by decide +kernel
theorem dX11_many_14 : decode cX11_many 14 = .ok (.bipush (-104), 2) := by decide +kernel
theorem dX11_many_16 : decode cX11_many 16 = .ok (.ireturn, 1) := by decide +kernel
theorem dX11_kept_0 : decode cX11_kept 0 = .ok (.aload_n 0, 1) := by decide +kernel
theorem dX11_kept_1 : decode cX11_kept 1 = .ok (.invokevirtual 217, 3) := by decide +kernel
theorem dX11_kept_4 : decode cX11_kept 4 = .ok (.ifCond .eq 10, 3) := by decide +kernel
theorem dX11_kept_7 : decode cX11_kept 7 = .ok (.aload_n 0, 1) := by decide +kernel
theorem dX11_kept_8 : decode cX11_kept 8 = .ok (.getfield 208, 3) := by decide +kernel
theorem dX11_kept_11 : decode cX11_kept 11 = .ok (.goto 5, 3) := by decide +kernel
theorem dX11_kept_14 : decode cX11_kept 14 = .ok (.bipush (-104), 2) := by decide +kernel
theorem dX11_kept_16 : decode cX11_kept 16 = .ok (.ireturn, 1) := by decide +kernel
theorem dX11_choice_0 : decode cX11_choice 0 = .ok (.aload_n 0, 1) := by decide +kernel
theorem dX11_choice_1 : decode cX11_choice 1 = .ok (.invokevirtual 217, 3) := by decide +kernel
theorem dX11_choice_4 : decode cX11_choice 4 = .ok (.ifCond .ne 6, 3) := by decide +kernel
theorem dX11_choice_7 : decode cX11_choice 7 = .ok (.bipush (-104), 2) := by decide +kernel
theorem dX11_choice_9 : decode cX11_choice 9 = .ok (.ireturn, 1) := by decide +kernel
theorem dX11_choice_10 : decode cX11_choice 10 = .ok (.iload_n 1, 1) := by decide +kernel
theorem dX11_choice_11 : decode cX11_choice 11 = .ok (.iconst 0, 1) := by decide +kernel
theorem dX11_choice_12 : decode cX11_choice 12 = .ok (.aload_n 0, 1) := by decide +kernel
theorem dX11_choice_13 : decode cX11_choice 13 = .ok (.getfield 208, 3) := by decide +kernel
theorem dX11_choice_16 : decode cX11_choice 16 = .ok (.iconst 1, 1) := by decide +kernel
theorem dX11_choice_17 : decode cX11_choice 17 = .ok (.isub, 1) := by decide +kernel
theorem dX11_choice_18 : decode cX11_choice 18 = .ok (.invokestatic 136, 3) := by decide +kernel
theorem dX11_choice_21 : decode cX11_choice 21 = .ok (.ifCond .eq 7, 3) := by decide +kernel
theorem dX11_choice_24 : decode cX11_choice 24 = .ok (.iload_n 2, 1) := by decide +kernel
theorem dX11_choice_25 : decode cX11_choice 25 = .ok (.ifCond .ge 6, 3) := by decide +kernel
theorem dX11_choice_28 : decode cX11_choice 28 = .ok (.bipush (-101), 2) := by decide +kernel
theorem dX11_choice_30 : decode cX11_choice 30 = .ok (.ireturn, 1) := by decide +kernel
theorem dX11_choice_31 : decode cX11_choice 31 = .ok (.aload_n 0, 1) := by decide +kernel
theorem dX11_choice_32 : decode cX11_choice 32 = .ok (.getfield 67, 3) := by decide +kernel
theorem dX11_choice_35 : decode cX11_choice 35 = .ok (.iload_n 1, 1) := by decide +kernel
theorem dX11_choice_36 : decode cX11_choice 36 = .ok (.iaload, 1) := by decide +kernel
theorem dX11_choice_37 : decode cX11_choice 37 = .ok (.istore_n 3, 1) := by decide +kernel
theorem dX11_choice_38 : decode cX11_choice 38 = .ok (.iload_n 2, 1) := by decide +kernel
theorem dX11_choice_39 : decode cX11_choice 39 = .ok (.aload_n 0, 1) := by decide +kernel
theorem dX11_choice_40 : decode cX11_choice 40 = .ok (.getfield 64, 3) := by decide +kernel
theorem dX11_choice_43 : decode cX11_choice 43 = .ok (.iload_n 3, 1) := by decide +kernel
theorem dX11_choice_44 : decode cX11_choice 44 = .ok (.baload, 1) := by decide +kernel
theorem dX11_choice_45 : decode cX11_choice 45 = .ok (.if_icmp .ge 17, 3) := by decide +kernel
theorem dX11_choice_48 : decode cX11_choice 48 = .ok (.aload_n 0, 1) := by decide +kernel
theorem dX11_choice_49 : decode cX11_choice 49 = .ok (.getfield 60, 3) := by decide +kernel
theorem dX11_choice_52 : decode cX11_choice 52 = .ok (.bipush 22, 2) := by decide +kernel
theorem dX11_choice_54 : decode cX11_choice 54 = .ok (.iload_n 3, 1) := by decide +kernel
theorem dX11_choice_55 : decode cX11_choice 55 = .ok (.imul, 1) := by decide +kernel
theorem dX11_choice_56 : decode cX11_choice 56 = .ok (.iload_n 2, 1) := by decide +kernel
theorem dX11_choice_57 : decode cX11_choice 57 = .ok (.iadd, 1) := by decide +kernel
theorem dX11_choice_58 : decode cX11_choice 58 = .ok (.baload, 1) := by decide +kernel
theorem dX11_choice_59 : decode cX11_choice 59 = .ok (.goto 4, 3) := by decide +kernel
theorem dX11_choice_62 : decode cX11_choice 62 = .ok (.iconst (-1), 1) := by decide +kernel
theorem dX11_choice_63 : decode cX11_choice 63 = .ok (.ireturn, 1) := by decide +kernel
theorem dX11_object_0 : decode cX11_object 0 = .ok (.aload_n 0, 1) := by decide +kernel
theorem dX11_object_1 : decode cX11_object 1 = .ok (.invokevirtual 217, 3) := by decide +kernel
theorem dX11_object_4 : decode cX11_object 4 = .ok (.ifCond .ne 6, 3) := by decide +kernel
theorem dX11_object_7 : decode cX11_object 7 = .ok (.bipush (-104), 2) := by decide +kernel
theorem dX11_object_9 : decode cX11_object 9 = .ok (.ireturn, 1) := by decide +kernel
theorem dX11_object_10 : decode cX11_object 10 = .ok (.iload_n 1, 1) := by decide +kernel
theorem dX11_object_11 : decode cX11_object 11 = .ok (.iconst 0, 1) := by decide +kernel
theorem dX11_object_12 : decode cX11_object 12 = .ok (.aload_n 0, 1) := by decide +kernel
theorem dX11_object_13 : decode cX11_object 13 = .ok (.getfield 208, 3) := by decide +kernel
theorem dX11_object_16 : decode cX11_object 16 = .ok (.iconst 1, 1) := by decide +kernel
theorem dX11_object_17 : decode cX11_object 17 = .ok (.isub, 1) := by decide +kernel
theorem dX11_object_18 : decode cX11_object 18 = .ok (.invokestatic 136, 3) := by decide +kernel
theorem dX11_object_21 : decode cX11_object 21 = .ok (.ifCond .ne 6, 3) := by decide +kernel
theorem dX11_object_24 : decode cX11_object 24 = .ok (.bipush (-101), 2) := by decide +kernel
theorem dX11_object_26 : decode cX11_object 26 = .ok (.ireturn, 1) := by decide +kernel
theorem dX11_object_27 : decode cX11_object 27 = .ok (.aload_n 0, 1) := by decide +kernel
theorem dX11_object_28 : decode cX11_object 28 = .ok (.aload_n 0, 1) := by decide +kernel
theorem dX11_object_29 : decode cX11_object 29 = .ok (.getfield 67, 3) := by decide +kernel
theorem dX11_object_32 : decode cX11_object 32 = .ok (.iload_n 1, 1) := by decide +kernel
theorem dX11_object_33 : decode cX11_object 33 = .ok (.iaload, 1) := by decide +kernel
theorem dX11_object_34 : decode cX11_object 34 = .ok (.invokevirtual 221, 3) := by decide +kernel
theorem dX11_object_37 : decode cX11_object 37 = .ok (.iload_n 2, 1) := by decide +kernel
theorem dX11_object_38 : decode cX11_object 38 = .ok (.iconst 0, 1) := by decide +kernel
theorem dX11_object_39 : decode cX11_object 39 = .ok (.aload_n 0, 1) := by decide +kernel
theorem dX11_object_40 : decode cX11_object 40 = .ok (.getfield 162, 3) := by decide +kernel
theorem dX11_object_43 : decode cX11_object 43 = .ok (.iconst 1, 1) := by decide +kernel
theorem dX11_object_44 : decode cX11_object 44 = .ok (.isub, 1) := by decide +kernel
theorem dX11_object_45 : decode cX11_object 45 = .ok (.invokestatic 136, 3) := by decide +kernel
theorem dX11_object_48 : decode cX11_object 48 = .ok (.ifCond .ne 6, 3) := by decide +kernel
theorem dX11_object_51 : decode cX11_object 51 = .ok (.bipush (-101), 2) := by decide +kernel
theorem dX11_object_53 : decode cX11_object 53 = .ok (.ireturn, 1) := by decide +kernel
theorem dX11_object_54 : decode cX11_object 54 = .ok (.iload_n 3, 1) := by decide +kernel
theorem dX11_object_55 : decode cX11_object 55 = .ok (.iconst 0, 1) := by decide +kernel
theorem dX11_object_56 : decode cX11_object 56 = .ok (.aload_n 0, 1) := by decide +kernel
theorem dX11_object_57 : decode cX11_object 57 = .ok (.getfield 13, 3) := by decide +kernel
theorem dX11_object_60 : decode cX11_object 60 = .ok (.aload_n 0, 1) := by decide +kernel
theorem dX11_object_61 : decode cX11_object 61 = .ok (.getfield 96, 3) := by decide +kernel
theorem dX11_object_64 : decode cX11_object 64 = .ok (.iload_n 2, 1) := by decide +kernel
theorem dX11_object_65 : decode cX11_object 65 = .ok (.iaload, 1) := by decide +kernel
theorem dX11_object_66 : decode cX11_object 66 = .ok (.iaload, 1) := by decide +kernel
theorem dX11_object_67 : decode cX11_object 67 = .ok (.invokestatic 136, 3) := by decide +kernel
theorem dX11_object_70 : decode cX11_object 70 = .ok (.ifCond .ne 6, 3) := by decide +kernel
theorem dX11_object_73 : decode cX11_object 73 = .ok (.bipush (-102), 2) := by decide +kernel
theorem dX11_object_75 : decode cX11_object 75 = .ok (.ireturn, 1) := by decide +kernel
theorem dX11_object_76 : decode cX11_object 76 = .ok (.iload_n 3, 1) := by decide +kernel
theorem dX11_object_77 : decode cX11_object 77 = .ok (.ifCond .ne 12, 3) := by decide +kernel
theorem dX11_object_80 : decode cX11_object 80 = .ok (.aload_n 0, 1) := by decide +kernel
theorem dX11_object_81 : decode cX11_object 81 = .ok (.getfield 96, 3) := by decide +kernel
theorem dX11_object_84 : decode cX11_object 84 = .ok (.iload_n 2, 1) := by decide +kernel
theorem dX11_object_85 : decode cX11_object 85 = .ok (.iaload, 1) := by decide +kernel
theorem dX11_object_86 : decode cX11_object 86 = .ok (.goto 15, 3) := by decide +kernel
theorem dX11_object_89 : decode cX11_object 89 = .ok (.aload_n 0, 1) := by decide +kernel
theorem dX11_object_90 : decode cX11_object 90 = .ok (.getfield 102, 3) := by decide +kernel
theorem dX11_object_93 : decode cX11_object 93 = .ok (.iconst 4, 1) := by decide +kernel
theorem dX11_object_94 : decode cX11_object 94 = .ok (.iload_n 2, 1) := by decide +kernel
theorem dX11_object_95 : decode cX11_object 95 = .ok (.imul, 1) := by decide +kernel
theorem dX11_object_96 : decode cX11_object 96 = .ok (.iload_n 3, 1) := by decide +kernel
theorem dX11_object_97 : decode cX11_object 97 = .ok (.iadd, 1) := by decide +kernel
theorem dX11_object_98 : decode cX11_object 98 = .ok (.iconst 1, 1) := by decide +kernel
theorem dX11_object_99 : decode cX11_object 99 = .ok (.isub, 1) := by decide +kernel
theorem dX11_object_100 : decode cX11_object 100 = .ok (.iaload, 1) := by decide +kernel
theorem dX11_object_101 : decode cX11_object 101 = .ok (.ireturn, 1) := by decide +kernel
theorem dX11_put_0 : decode cX11_put 0 = .ok (.aload_n 0, 1) := by decide +kernel
theorem dX11_put_1 : decode cX11_put 1 = .ok (.getfield 159, 3) := by decide +kernel
theorem dX11_put_4 : decode cX11_put 4 = .ok (.bipush 40, 2) := by decide +kernel
theorem dX11_put_6 : decode cX11_put 6 = .ok (.if_icmp .ne 6, 3) := by decide +kernel
theorem dX11_put_9 : decode cX11_put 9 = .ok (.bipush (-104), 2) := by decide +kernel
theorem dX11_put_11 : decode cX11_put 11 = .ok (.ireturn, 1) := by decide +kernel
theorem dX11_put_12 : decode cX11_put 12 = .ok (.aload_n 0, 1) := by decide +kernel
theorem dX11_put_13 : decode cX11_put 13 = .ok (.getfield 56, 3) := by decide +kernel
theorem dX11_put_16 : decode cX11_put 16 = .ok (.aload_n 0, 1) := by decide +kernel
theorem dX11_put_17 : decode cX11_put 17 = .ok (.getfield 159, 3) := by decide +kernel
theorem dX11_put_20 : decode cX11_put 20 = .ok (.iload_n 1, 1) := by decide +kernel
theorem dX11_put_21 : decode cX11_put 21 = .ok (.iastore, 1) := by decide +kernel
theorem dX11_put_22 : decode cX11_put 22 = .ok (.aload_n 0, 1) := by decide +kernel
theorem dX11_put_23 : decode cX11_put 23 = .ok (.dup, 1) := by decide +kernel
theorem dX11_put_24 : decode cX11_put 24 = .ok (.getfield 159, 3) := by decide +kernel
theorem dX11_put_27 : decode cX11_put 27 = .ok (.iconst 1, 1) := by decide +kernel
theorem dX11_put_28 : decode cX11_put 28 = .ok (.iadd, 1) := by decide +kernel
theorem dX11_put_29 : decode cX11_put 29 = .ok (.putfield 159, 3) := by decide +kernel
theorem dX11_put_32 : decode cX11_put 32 = .ok (.aload_n 0, 1) := by decide +kernel
theorem dX11_put_33 : decode cX11_put 33 = .ok (.getfield 159, 3) := by decide +kernel
theorem dX11_put_36 : decode cX11_put 36 = .ok (.ireturn, 1) := by decide +kernel
theorem dX11_empty_0 : decode cX11_empty 0 = .ok (.aload_n 0, 1) := by decide +kernel
theorem dX11_empty_1 : decode cX11_empty 1 = .ok (.getfield 159, 3) := by decide +kernel
theorem dX11_empty_4 : decode cX11_empty 4 = .ok (.istore_n 1, 1) := by decide +kernel
theorem dX11_empty_5 : decode cX11_empty 5 = .ok (.aload_n 0, 1) := by decide +kernel
theorem dX11_empty_6 : decode cX11_empty 6 = .ok (.iconst 0, 1) := by decide +kernel
theorem dX11_empty_7 : decode cX11_empty 7 = .ok (.putfield 159, 3) := by decide +kernel
theorem dX11_empty_10 : decode cX11_empty 10 = .ok (.iload_n 1, 1) := by decide +kernel
theorem dX11_empty_11 : decode cX11_empty 11 = .ok (.ireturn, 1) := by decide +kernel
theorem dX11_rank_0 : decode cX11_rank 0 = .ok (.aload_n 0, 1) := by decide +kernel
theorem dX11_rank_1 : decode cX11_rank 1 = .ok (.invokevirtual 217, 3) := by decide +kernel
theorem dX11_rank_4 : decode cX11_rank 4 = .ok (.ifCond .ne 6, 3) := by decide +kernel
theorem dX11_rank_7 : decode cX11_rank 7 = .ok (.bipush (-104), 2) := by decide +kernel
theorem dX11_rank_9 : decode cX11_rank 9 = .ok (.ireturn, 1) := by decide +kernel
theorem dX11_rank_10 : decode cX11_rank 10 = .ok (.iconst 0, 1) := by decide +kernel
theorem dX11_rank_11 : decode cX11_rank 11 = .ok (.istore_n 1, 1) := by decide +kernel
theorem dX11_rank_12 : decode cX11_rank 12 = .ok (.iload_n 1, 1) := by decide +kernel
theorem dX11_rank_13 : decode cX11_rank 13 = .ok (.aload_n 0, 1) := by decide +kernel
theorem dX11_rank_14 : decode cX11_rank 14 = .ok (.getfield 159, 3) := by decide +kernel
theorem dX11_rank_17 : decode cX11_rank 17 = .ok (.if_icmp .ge 52, 3) := by decide +kernel
theorem dX11_rank_20 : decode cX11_rank 20 = .ok (.aload_n 0, 1) := by decide +kernel
theorem dX11_rank_21 : decode cX11_rank 21 = .ok (.iload_n 1, 1) := by decide +kernel
theorem dX11_rank_22 : decode cX11_rank 22 = .ok (.invokevirtual 182, 3) := by decide +kernel
theorem dX11_rank_25 : decode cX11_rank 25 = .ok (.aload_n 0, 1) := by decide +kernel
theorem dX11_rank_26 : decode cX11_rank 26 = .ok (.getfield 165, 3) := by decide +kernel
theorem dX11_rank_29 : decode cX11_rank 29 = .ok (.iconst (-1), 1) := by decide +kernel
theorem dX11_rank_30 : decode cX11_rank 30 = .ok (.if_icmp .eq 16, 3) := by decide +kernel
theorem dX11_rank_33 : decode cX11_rank 33 = .ok (.aload_n 0, 1) := by decide +kernel
theorem dX11_rank_34 : decode cX11_rank 34 = .ok (.aload_n 0, 1) := by decide +kernel
theorem dX11_rank_35 : decode cX11_rank 35 = .ok (.getfield 56, 3) := by decide +kernel
theorem dX11_rank_38 : decode cX11_rank 38 = .ok (.iload_n 1, 1) := by decide +kernel
theorem dX11_rank_39 : decode cX11_rank 39 = .ok (.iaload, 1) := by decide +kernel
theorem dX11_rank_40 : decode cX11_rank 40 = .ok (.invokevirtual 178, 3) := by decide +kernel
theorem dX11_rank_43 : decode cX11_rank 43 = .ok (.ifCond .ne 8, 3) := by decide +kernel
theorem dX11_rank_46 : decode cX11_rank 46 = .ok (.bipush (-10), 2) := by decide +kernel
theorem dX11_rank_48 : decode cX11_rank 48 = .ok (.iload_n 1, 1) := by decide +kernel
theorem dX11_rank_49 : decode cX11_rank 49 = .ok (.isub, 1) := by decide +kernel
theorem dX11_rank_50 : decode cX11_rank 50 = .ok (.ireturn, 1) := by decide +kernel
theorem dX11_rank_51 : decode cX11_rank 51 = .ok (.aload_n 0, 1) := by decide +kernel
theorem dX11_rank_52 : decode cX11_rank 52 = .ok (.getfield 93, 3) := by decide +kernel
theorem dX11_rank_55 : decode cX11_rank 55 = .ok (.iload_n 1, 1) := by decide +kernel
theorem dX11_rank_56 : decode cX11_rank 56 = .ok (.aload_n 0, 1) := by decide +kernel
theorem dX11_rank_57 : decode cX11_rank 57 = .ok (.getfield 56, 3) := by decide +kernel
theorem dX11_rank_60 : decode cX11_rank 60 = .ok (.iload_n 1, 1) := by decide +kernel
theorem dX11_rank_61 : decode cX11_rank 61 = .ok (.iaload, 1) := by decide +kernel
theorem dX11_rank_62 : decode cX11_rank 62 = .ok (.iastore, 1) := by decide +kernel
theorem dX11_rank_63 : decode cX11_rank 63 = .ok (.iinc 1 1, 3) := by decide +kernel
theorem dX11_rank_66 : decode cX11_rank 66 = .ok (.goto (-54), 3) := by decide +kernel
theorem dX11_rank_69 : decode cX11_rank 69 = .ok (.aload_n 0, 1) := by decide +kernel
theorem dX11_rank_70 : decode cX11_rank 70 = .ok (.aload_n 0, 1) := by decide +kernel
theorem dX11_rank_71 : decode cX11_rank 71 = .ok (.getfield 159, 3) := by decide +kernel
theorem dX11_rank_74 : decode cX11_rank 74 = .ok (.invokevirtual 182, 3) := by decide +kernel
theorem dX11_rank_77 : decode cX11_rank 77 = .ok (.aload_n 0, 1) := by decide +kernel
theorem dX11_rank_78 : decode cX11_rank 78 = .ok (.getfield 165, 3) := by decide +kernel
theorem dX11_rank_81 : decode cX11_rank 81 = .ok (.iconst (-1), 1) := by decide +kernel
theorem dX11_rank_82 : decode cX11_rank 82 = .ok (.if_icmp .eq 11, 3) := by decide +kernel
theorem dX11_rank_85 : decode cX11_rank 85 = .ok (.bipush (-10), 2) := by decide +kernel
theorem dX11_rank_87 : decode cX11_rank 87 = .ok (.aload_n 0, 1) := by decide +kernel
theorem dX11_rank_88 : decode cX11_rank 88 = .ok (.getfield 159, 3) := by decide +kernel
theorem dX11_rank_91 : decode cX11_rank 91 = .ok (.isub, 1) := by decide +kernel
theorem dX11_rank_92 : decode cX11_rank 92 = .ok (.ireturn, 1) := by decide +kernel
theorem dX11_rank_93 : decode cX11_rank 93 = .ok (.iconst 0, 1) := by decide +kernel
theorem dX11_rank_94 : decode cX11_rank 94 = .ok (.istore_n 1, 1) := by decide +kernel
theorem dX11_rank_95 : decode cX11_rank 95 = .ok (.iload_n 1, 1) := by decide +kernel
theorem dX11_rank_96 : decode cX11_rank 96 = .ok (.aload_n 0, 1) := by decide +kernel
theorem dX11_rank_97 : decode cX11_rank 97 = .ok (.getfield 208, 3) := by decide +kernel
theorem dX11_rank_100 : decode cX11_rank 100 = .ok (.if_icmp .ge 90, 3) := by decide +kernel
theorem dX11_rank_103 : decode cX11_rank 103 = .ok (.aload_n 0, 1) := by decide +kernel
theorem dX11_rank_104 : decode cX11_rank 104 = .ok (.getfield 64, 3) := by decide +kernel
theorem dX11_rank_107 : decode cX11_rank 107 = .ok (.aload_n 0, 1) := by decide +kernel
theorem dX11_rank_108 : decode cX11_rank 108 = .ok (.getfield 67, 3) := by decide +kernel
theorem dX11_rank_111 : decode cX11_rank 111 = .ok (.iload_n 1, 1) := by decide +kernel
theorem dX11_rank_112 : decode cX11_rank 112 = .ok (.iaload, 1) := by decide +kernel
theorem dX11_rank_113 : decode cX11_rank 113 = .ok (.baload, 1) := by decide +kernel
theorem dX11_rank_114 : decode cX11_rank 114 = .ok (.aload_n 0, 1) := by decide +kernel
theorem dX11_rank_115 : decode cX11_rank 115 = .ok (.getfield 159, 3) := by decide +kernel
theorem dX11_rank_118 : decode cX11_rank 118 = .ok (.if_icmp .ne 7, 3) := by decide +kernel
theorem dX11_rank_121 : decode cX11_rank 121 = .ok (.iconst 1, 1) := by decide +kernel
theorem dX11_rank_122 : decode cX11_rank 122 = .ok (.goto 4, 3) := by decide +kernel
theorem dX11_rank_125 : decode cX11_rank 125 = .ok (.iconst 0, 1) := by decide +kernel
theorem dX11_rank_126 : decode cX11_rank 126 = .ok (.istore_n 2, 1) := by decide +kernel
theorem dX11_rank_127 : decode cX11_rank 127 = .ok (.iconst 0, 1) := by decide +kernel
theorem dX11_rank_128 : decode cX11_rank 128 = .ok (.istore_n 3, 1) := by decide +kernel
theorem dX11_rank_129 : decode cX11_rank 129 = .ok (.iload_n 3, 1) := by decide +kernel
theorem dX11_rank_130 : decode cX11_rank 130 = .ok (.aload_n 0, 1) := by decide +kernel
theorem dX11_rank_131 : decode cX11_rank 131 = .ok (.getfield 159, 3) := by decide +kernel
theorem dX11_rank_134 : decode cX11_rank 134 = .ok (.if_icmp .ge 44, 3) := by decide +kernel
theorem dX11_rank_137 : decode cX11_rank 137 = .ok (.iload_n 2, 1) := by decide +kernel
theorem dX11_rank_138 : decode cX11_rank 138 = .ok (.ifCond .eq 40, 3) := by decide +kernel
theorem dX11_rank_141 : decode cX11_rank 141 = .ok (.aload_n 0, 1) := by decide +kernel
theorem dX11_rank_142 : decode cX11_rank 142 = .ok (.getfield 60, 3) := by decide +kernel
theorem dX11_rank_145 : decode cX11_rank 145 = .ok (.bipush 22, 2) := by decide +kernel
theorem dX11_rank_147 : decode cX11_rank 147 = .ok (.aload_n 0, 1) := by decide +kernel
theorem dX11_rank_148 : decode cX11_rank 148 = .ok (.getfield 67, 3) := by decide +kernel
theorem dX11_rank_151 : decode cX11_rank 151 = .ok (.iload_n 1, 1) := by decide +kernel
theorem dX11_rank_152 : decode cX11_rank 152 = .ok (.iaload, 1) := by decide +kernel
theorem dX11_rank_153 : decode cX11_rank 153 = .ok (.imul, 1) := by decide +kernel
theorem dX11_rank_154 : decode cX11_rank 154 = .ok (.iload_n 3, 1) := by decide +kernel
theorem dX11_rank_155 : decode cX11_rank 155 = .ok (.iadd, 1) := by decide +kernel
theorem dX11_rank_156 : decode cX11_rank 156 = .ok (.baload, 1) := by decide +kernel
theorem dX11_rank_157 : decode cX11_rank 157 = .ok (.aload_n 0, 1) := by decide +kernel
theorem dX11_rank_158 : decode cX11_rank 158 = .ok (.getfield 56, 3) := by decide +kernel
theorem dX11_rank_161 : decode cX11_rank 161 = .ok (.iload_n 3, 1) := by decide +kernel
theorem dX11_rank_162 : decode cX11_rank 162 = .ok (.iaload, 1) := by decide +kernel
theorem dX11_rank_163 : decode cX11_rank 163 = .ok (.if_icmp .ne 7, 3) := by decide +kernel
theorem dX11_rank_166 : decode cX11_rank 166 = .ok (.iconst 1, 1) := by decide +kernel
theorem dX11_rank_167 : decode cX11_rank 167 = .ok (.goto 4, 3) := by decide +kernel
theorem dX11_rank_170 : decode cX11_rank 170 = .ok (.iconst 0, 1) := by decide +kernel
theorem dX11_rank_171 : decode cX11_rank 171 = .ok (.istore_n 2, 1) := by decide +kernel
theorem dX11_rank_172 : decode cX11_rank 172 = .ok (.iinc 3 1, 3) := by decide +kernel
theorem dX11_rank_175 : decode cX11_rank 175 = .ok (.goto (-46), 3) := by decide +kernel
theorem dX11_rank_178 : decode cX11_rank 178 = .ok (.iload_n 2, 1) := by decide +kernel
theorem dX11_rank_179 : decode cX11_rank 179 = .ok (.ifCond .eq 5, 3) := by decide +kernel
theorem dX11_rank_182 : decode cX11_rank 182 = .ok (.iload_n 1, 1) := by decide +kernel
theorem dX11_rank_183 : decode cX11_rank 183 = .ok (.ireturn, 1) := by decide +kernel
theorem dX11_rank_184 : decode cX11_rank 184 = .ok (.iinc 1 1, 3) := by decide +kernel
theorem dX11_rank_187 : decode cX11_rank 187 = .ok (.goto (-92), 3) := by decide +kernel
theorem dX11_rank_190 : decode cX11_rank 190 = .ok (.iconst (-1), 1) := by decide +kernel
theorem dX11_rank_191 : decode cX11_rank 191 = .ok (.ireturn, 1) := by decide +kernel
theorem dX11_step_0 : decode cX11_step 0 = .ok (.iload_n 1, 1) := by decide +kernel
theorem dX11_step_1 : decode cX11_step 1 = .ok (.iconst 0, 1) := by decide +kernel
theorem dX11_step_2 : decode cX11_step 2 = .ok (.iconst 2, 1) := by decide +kernel
theorem dX11_step_3 : decode cX11_step 3 = .ok (.invokestatic 136, 3) := by decide +kernel
theorem dX11_step_6 : decode cX11_step 6 = .ok (.ifCond .eq 55, 3) := by decide +kernel
theorem dX11_step_9 : decode cX11_step 9 = .ok (.iload_n 2, 1) := by decide +kernel
theorem dX11_step_10 : decode cX11_step 10 = .ok (.iconst 0, 1) := by decide +kernel
theorem dX11_step_11 : decode cX11_step 11 = .ok (.iconst 3, 1) := by decide +kernel
theorem dX11_step_12 : decode cX11_step 12 = .ok (.invokestatic 136, 3) := by decide +kernel
theorem dX11_step_15 : decode cX11_step 15 = .ok (.ifCond .eq 46, 3) := by decide +kernel
theorem dX11_step_18 : decode cX11_step 18 = .ok (.iload_n 3, 1) := by decide +kernel
theorem dX11_step_19 : decode cX11_step 19 = .ok (.iconst 0, 1) := by decide +kernel
theorem dX11_step_20 : decode cX11_step 20 = .ok (.iconst 3, 1) := by decide +kernel
theorem dX11_step_21 : decode cX11_step 21 = .ok (.invokestatic 136, 3) := by decide +kernel
theorem dX11_step_24 : decode cX11_step 24 = .ok (.ifCond .eq 37, 3) := by decide +kernel
end
section
theorem dX11_step_27 : decode cX11_step 27 = .ok (.iload_n 1, 1) := by decide +kernel
theorem dX11_step_28 : decode cX11_step 28 = .ok (.iconst 2, 1) := by decide +kernel
theorem dX11_step_29 : decode cX11_step 29 = .ok (.if_icmp .eq 13, 3) := by decide +kernel
theorem dX11_step_32 : decode cX11_step 32 = .ok (.iload 4, 2) := by decide +kernel
theorem dX11_step_34 : decode cX11_step 34 = .ok (.iconst 0, 1) := by decide +kernel
theorem dX11_step_35 : decode cX11_step 35 = .ok (.iconst 3, 1) := by decide +kernel
theorem dX11_step_36 : decode cX11_step 36 = .ok (.invokestatic 136, 3) := by decide +kernel
theorem dX11_step_39 : decode cX11_step 39 = .ok (.ifCond .eq 22, 3) := by decide +kernel
theorem dX11_step_42 : decode cX11_step 42 = .ok (.iload_n 1, 1) := by decide +kernel
theorem dX11_step_43 : decode cX11_step 43 = .ok (.ifCond .eq 14, 3) := by decide +kernel
theorem dX11_step_46 : decode cX11_step 46 = .ok (.iload 5, 2) := by decide +kernel
theorem dX11_step_48 : decode cX11_step 48 = .ok (.iconst 0, 1) := by decide +kernel
theorem dX11_step_49 : decode cX11_step 49 = .ok (.bipush 16, 2) := by decide +kernel
theorem dX11_step_51 : decode cX11_step 51 = .ok (.invokestatic 136, 3) := by decide +kernel
theorem dX11_step_54 : decode cX11_step 54 = .ok (.ifCond .eq 7, 3) := by decide +kernel
theorem dX11_step_57 : decode cX11_step 57 = .ok (.iconst 1, 1) := by decide +kernel
theorem dX11_step_58 : decode cX11_step 58 = .ok (.goto 4, 3) := by decide +kernel
theorem dX11_step_61 : decode cX11_step 61 = .ok (.iconst 0, 1) := by decide +kernel
theorem dX11_step_62 : decode cX11_step 62 = .ok (.istore 6, 2) := by decide +kernel
theorem dX11_step_64 : decode cX11_step 64 = .ok (.iload 6, 2) := by decide +kernel
theorem dX11_step_66 : decode cX11_step 66 = .ok (.ifCond .ne 6, 3) := by decide +kernel
theorem dX11_step_69 : decode cX11_step 69 = .ok (.bipush (-102), 2) := by decide +kernel
theorem dX11_step_71 : decode cX11_step 71 = .ok (.ireturn, 1) := by decide +kernel
theorem dX11_step_72 : decode cX11_step 72 = .ok (.aload_n 0, 1) := by decide +kernel
theorem dX11_step_73 : decode cX11_step 73 = .ok (.getfield 156, 3) := by decide +kernel
theorem dX11_step_76 : decode cX11_step 76 = .ok (.bipush 16, 2) := by decide +kernel
theorem dX11_step_78 : decode cX11_step 78 = .ok (.if_icmp .ne 6, 3) := by decide +kernel
theorem dX11_step_81 : decode cX11_step 81 = .ok (.bipush (-104), 2) := by decide +kernel
theorem dX11_step_83 : decode cX11_step 83 = .ok (.ireturn, 1) := by decide +kernel
theorem dX11_step_84 : decode cX11_step 84 = .ok (.aload_n 0, 1) := by decide +kernel
theorem dX11_step_85 : decode cX11_step 85 = .ok (.getfield 41, 3) := by decide +kernel
theorem dX11_step_88 : decode cX11_step 88 = .ok (.aload_n 0, 1) := by decide +kernel
theorem dX11_step_89 : decode cX11_step 89 = .ok (.getfield 156, 3) := by decide +kernel
theorem dX11_step_92 : decode cX11_step 92 = .ok (.iload_n 1, 1) := by decide +kernel
theorem dX11_step_93 : decode cX11_step 93 = .ok (.iastore, 1) := by decide +kernel
theorem dX11_step_94 : decode cX11_step 94 = .ok (.aload_n 0, 1) := by decide +kernel
theorem dX11_step_95 : decode cX11_step 95 = .ok (.getfield 44, 3) := by decide +kernel
theorem dX11_step_98 : decode cX11_step 98 = .ok (.aload_n 0, 1) := by decide +kernel
theorem dX11_step_99 : decode cX11_step 99 = .ok (.getfield 156, 3) := by decide +kernel
theorem dX11_step_102 : decode cX11_step 102 = .ok (.iload_n 2, 1) := by decide +kernel
theorem dX11_step_103 : decode cX11_step 103 = .ok (.iastore, 1) := by decide +kernel
theorem dX11_step_104 : decode cX11_step 104 = .ok (.aload_n 0, 1) := by decide +kernel
theorem dX11_step_105 : decode cX11_step 105 = .ok (.getfield 47, 3) := by decide +kernel
theorem dX11_step_108 : decode cX11_step 108 = .ok (.aload_n 0, 1) := by decide +kernel
theorem dX11_step_109 : decode cX11_step 109 = .ok (.getfield 156, 3) := by decide +kernel
theorem dX11_step_112 : decode cX11_step 112 = .ok (.iload_n 3, 1) := by decide +kernel
theorem dX11_step_113 : decode cX11_step 113 = .ok (.iastore, 1) := by decide +kernel
theorem dX11_step_114 : decode cX11_step 114 = .ok (.aload_n 0, 1) := by decide +kernel
theorem dX11_step_115 : decode cX11_step 115 = .ok (.getfield 50, 3) := by decide +kernel
theorem dX11_step_118 : decode cX11_step 118 = .ok (.aload_n 0, 1) := by decide +kernel
theorem dX11_step_119 : decode cX11_step 119 = .ok (.getfield 156, 3) := by decide +kernel
theorem dX11_step_122 : decode cX11_step 122 = .ok (.iload 4, 2) := by decide +kernel
theorem dX11_step_124 : decode cX11_step 124 = .ok (.iastore, 1) := by decide +kernel
theorem dX11_step_125 : decode cX11_step 125 = .ok (.aload_n 0, 1) := by decide +kernel
theorem dX11_step_126 : decode cX11_step 126 = .ok (.getfield 53, 3) := by decide +kernel
theorem dX11_step_129 : decode cX11_step 129 = .ok (.aload_n 0, 1) := by decide +kernel
theorem dX11_step_130 : decode cX11_step 130 = .ok (.getfield 156, 3) := by decide +kernel
theorem dX11_step_133 : decode cX11_step 133 = .ok (.iload 5, 2) := by decide +kernel
theorem dX11_step_135 : decode cX11_step 135 = .ok (.iastore, 1) := by decide +kernel
theorem dX11_step_136 : decode cX11_step 136 = .ok (.aload_n 0, 1) := by decide +kernel
theorem dX11_step_137 : decode cX11_step 137 = .ok (.dup, 1) := by decide +kernel
theorem dX11_step_138 : decode cX11_step 138 = .ok (.getfield 156, 3) := by decide +kernel
theorem dX11_step_141 : decode cX11_step 141 = .ok (.iconst 1, 1) := by decide +kernel
theorem dX11_step_142 : decode cX11_step 142 = .ok (.iadd, 1) := by decide +kernel
theorem dX11_step_143 : decode cX11_step 143 = .ok (.putfield 156, 3) := by decide +kernel
theorem dX11_step_146 : decode cX11_step 146 = .ok (.aload_n 0, 1) := by decide +kernel
theorem dX11_step_147 : decode cX11_step 147 = .ok (.iconst 0, 1) := by decide +kernel
theorem dX11_step_148 : decode cX11_step 148 = .ok (.putfield 130, 3) := by decide +kernel
theorem dX11_step_151 : decode cX11_step 151 = .ok (.aload_n 0, 1) := by decide +kernel
theorem dX11_step_152 : decode cX11_step 152 = .ok (.getfield 156, 3) := by decide +kernel
theorem dX11_step_155 : decode cX11_step 155 = .ok (.iconst 1, 1) := by decide +kernel
theorem dX11_step_156 : decode cX11_step 156 = .ok (.isub, 1) := by decide +kernel
theorem dX11_step_157 : decode cX11_step 157 = .ok (.ireturn, 1) := by decide +kernel
theorem dX11_erase_0 : decode cX11_erase 0 = .ok (.aload_n 0, 1) := by decide +kernel
theorem dX11_erase_1 : decode cX11_erase 1 = .ok (.getfield 156, 3) := by decide +kernel
theorem dX11_erase_4 : decode cX11_erase 4 = .ok (.istore_n 1, 1) := by decide +kernel
theorem dX11_erase_5 : decode cX11_erase 5 = .ok (.aload_n 0, 1) := by decide +kernel
theorem dX11_erase_6 : decode cX11_erase 6 = .ok (.iconst 0, 1) := by decide +kernel
theorem dX11_erase_7 : decode cX11_erase 7 = .ok (.putfield 156, 3) := by decide +kernel
theorem dX11_erase_10 : decode cX11_erase 10 = .ok (.aload_n 0, 1) := by decide +kernel
theorem dX11_erase_11 : decode cX11_erase 11 = .ok (.iconst 0, 1) := by decide +kernel
theorem dX11_erase_12 : decode cX11_erase 12 = .ok (.putfield 130, 3) := by decide +kernel
theorem dX11_erase_15 : decode cX11_erase 15 = .ok (.iload_n 1, 1) := by decide +kernel
theorem dX11_erase_16 : decode cX11_erase 16 = .ok (.ireturn, 1) := by decide +kernel
theorem dX11_lookRef_0 : decode cX11_lookRef 0 = .ok (.iconst 0, 1) := by decide +kernel
theorem dX11_lookRef_1 : decode cX11_lookRef 1 = .ok (.istore_n 2, 1) := by decide +kernel
theorem dX11_lookRef_2 : decode cX11_lookRef 2 = .ok (.iload_n 1, 1) := by decide +kernel
theorem dX11_lookRef_3 : decode cX11_lookRef 3 = .ok (.iconst (-1), 1) := by decide +kernel
theorem dX11_lookRef_4 : decode cX11_lookRef 4 = .ok (.if_icmp .eq 64, 3) := by decide +kernel
theorem dX11_lookRef_7 : decode cX11_lookRef 7 = .ok (.aload_n 0, 1) := by decide +kernel
theorem dX11_lookRef_8 : decode cX11_lookRef 8 = .ok (.getfield 120, 3) := by decide +kernel
theorem dX11_lookRef_11 : decode cX11_lookRef 11 = .ok (.iload_n 1, 1) := by decide +kernel
theorem dX11_lookRef_12 : decode cX11_lookRef 12 = .ok (.iaload, 1) := by decide +kernel
theorem dX11_lookRef_13 : decode cX11_lookRef 13 = .ok (.iconst (-1), 1) := by decide +kernel
theorem dX11_lookRef_14 : decode cX11_lookRef 14 = .ok (.if_icmp .ne 15, 3) := by decide +kernel
theorem dX11_lookRef_17 : decode cX11_lookRef 17 = .ok (.bipush 10, 2) := by decide +kernel
theorem dX11_lookRef_19 : decode cX11_lookRef 19 = .ok (.aload_n 0, 1) := by decide +kernel
theorem dX11_lookRef_20 : decode cX11_lookRef 20 = .ok (.getfield 96, 3) := by decide +kernel
theorem dX11_lookRef_23 : decode cX11_lookRef 23 = .ok (.iload_n 1, 1) := by decide +kernel
theorem dX11_lookRef_24 : decode cX11_lookRef 24 = .ok (.iaload, 1) := by decide +kernel
theorem dX11_lookRef_25 : decode cX11_lookRef 25 = .ok (.iadd, 1) := by decide +kernel
theorem dX11_lookRef_26 : decode cX11_lookRef 26 = .ok (.goto 11, 3) := by decide +kernel
theorem dX11_lookRef_29 : decode cX11_lookRef 29 = .ok (.iconst 1, 1) := by decide +kernel
theorem dX11_lookRef_30 : decode cX11_lookRef 30 = .ok (.aload_n 0, 1) := by decide +kernel
theorem dX11_lookRef_31 : decode cX11_lookRef 31 = .ok (.getfield 120, 3) := by decide +kernel
theorem dX11_lookRef_34 : decode cX11_lookRef 34 = .ok (.iload_n 1, 1) := by decide +kernel
theorem dX11_lookRef_35 : decode cX11_lookRef 35 = .ok (.iaload, 1) := by decide +kernel
theorem dX11_lookRef_36 : decode cX11_lookRef 36 = .ok (.iadd, 1) := by decide +kernel
theorem dX11_lookRef_37 : decode cX11_lookRef 37 = .ok (.istore_n 2, 1) := by decide +kernel
theorem dX11_lookRef_38 : decode cX11_lookRef 38 = .ok (.aload_n 0, 1) := by decide +kernel
theorem dX11_lookRef_39 : decode cX11_lookRef 39 = .ok (.getfield 120, 3) := by decide +kernel
theorem dX11_lookRef_42 : decode cX11_lookRef 42 = .ok (.iload_n 1, 1) := by decide +kernel
theorem dX11_lookRef_43 : decode cX11_lookRef 43 = .ok (.iaload, 1) := by decide +kernel
theorem dX11_lookRef_44 : decode cX11_lookRef 44 = .ok (.iconst (-1), 1) := by decide +kernel
theorem dX11_lookRef_45 : decode cX11_lookRef 45 = .ok (.if_icmp .ne 23, 3) := by decide +kernel
theorem dX11_lookRef_48 : decode cX11_lookRef 48 = .ok (.aload_n 0, 1) := by decide +kernel
theorem dX11_lookRef_49 : decode cX11_lookRef 49 = .ok (.getfield 120, 3) := by decide +kernel
theorem dX11_lookRef_52 : decode cX11_lookRef 52 = .ok (.iload_n 1, 1) := by decide +kernel
theorem dX11_lookRef_53 : decode cX11_lookRef 53 = .ok (.aload_n 0, 1) := by decide +kernel
theorem dX11_lookRef_54 : decode cX11_lookRef 54 = .ok (.getfield 224, 3) := by decide +kernel
theorem dX11_lookRef_57 : decode cX11_lookRef 57 = .ok (.iastore, 1) := by decide +kernel
theorem dX11_lookRef_58 : decode cX11_lookRef 58 = .ok (.aload_n 0, 1) := by decide +kernel
theorem dX11_lookRef_59 : decode cX11_lookRef 59 = .ok (.dup, 1) := by decide +kernel
theorem dX11_lookRef_60 : decode cX11_lookRef 60 = .ok (.getfield 224, 3) := by decide +kernel
theorem dX11_lookRef_63 : decode cX11_lookRef 63 = .ok (.iconst 1, 1) := by decide +kernel
theorem dX11_lookRef_64 : decode cX11_lookRef 64 = .ok (.iadd, 1) := by decide +kernel
theorem dX11_lookRef_65 : decode cX11_lookRef 65 = .ok (.putfield 224, 3) := by decide +kernel
theorem dX11_lookRef_68 : decode cX11_lookRef 68 = .ok (.aload_n 0, 1) := by decide +kernel
theorem dX11_lookRef_69 : decode cX11_lookRef 69 = .ok (.getfield 123, 3) := by decide +kernel
theorem dX11_lookRef_72 : decode cX11_lookRef 72 = .ok (.aload_n 0, 1) := by decide +kernel
theorem dX11_lookRef_73 : decode cX11_lookRef 73 = .ok (.getfield 227, 3) := by decide +kernel
theorem dX11_lookRef_76 : decode cX11_lookRef 76 = .ok (.iload_n 2, 1) := by decide +kernel
theorem dX11_lookRef_77 : decode cX11_lookRef 77 = .ok (.iastore, 1) := by decide +kernel
theorem dX11_lookRef_78 : decode cX11_lookRef 78 = .ok (.aload_n 0, 1) := by decide +kernel
theorem dX11_lookRef_79 : decode cX11_lookRef 79 = .ok (.dup, 1) := by decide +kernel
theorem dX11_lookRef_80 : decode cX11_lookRef 80 = .ok (.getfield 227, 3) := by decide +kernel
theorem dX11_lookRef_83 : decode cX11_lookRef 83 = .ok (.iconst 1, 1) := by decide +kernel
theorem dX11_lookRef_84 : decode cX11_lookRef 84 = .ok (.iadd, 1) := by decide +kernel
theorem dX11_lookRef_85 : decode cX11_lookRef 85 = .ok (.putfield 227, 3) := by decide +kernel
theorem dX11_lookRef_88 : decode cX11_lookRef 88 = .ok (.return_, 1) := by decide +kernel
theorem dX11_ask_0 : decode cX11_ask 0 = .ok (.aload_n 0, 1) := by decide +kernel
theorem dX11_ask_1 : decode cX11_ask 1 = .ok (.getfield 111, 3) := by decide +kernel
theorem dX11_ask_4 : decode cX11_ask 4 = .ok (.iload_n 1, 1) := by decide +kernel
theorem dX11_ask_5 : decode cX11_ask 5 = .ok (.baload, 1) := by decide +kernel
theorem dX11_ask_6 : decode cX11_ask 6 = .ok (.ifCond .eq 29, 3) := by decide +kernel
theorem dX11_ask_9 : decode cX11_ask 9 = .ok (.aload_n 0, 1) := by decide +kernel
theorem dX11_ask_10 : decode cX11_ask 10 = .ok (.getfield 114, 3) := by decide +kernel
theorem dX11_ask_13 : decode cX11_ask 13 = .ok (.iload_n 1, 1) := by decide +kernel
theorem dX11_ask_14 : decode cX11_ask 14 = .ok (.baload, 1) := by decide +kernel
theorem dX11_ask_15 : decode cX11_ask 15 = .ok (.ifCond .ne 20, 3) := by decide +kernel
theorem dX11_ask_18 : decode cX11_ask 18 = .ok (.aload_n 0, 1) := by decide +kernel
theorem dX11_ask_19 : decode cX11_ask 19 = .ok (.getfield 114, 3) := by decide +kernel
theorem dX11_ask_22 : decode cX11_ask 22 = .ok (.iload_n 1, 1) := by decide +kernel
theorem dX11_ask_23 : decode cX11_ask 23 = .ok (.iconst 1, 1) := by decide +kernel
theorem dX11_ask_24 : decode cX11_ask 24 = .ok (.bastore, 1) := by decide +kernel
theorem dX11_ask_25 : decode cX11_ask 25 = .ok (.aload_n 0, 1) := by decide +kernel
theorem dX11_ask_26 : decode cX11_ask 26 = .ok (.aload_n 0, 1) := by decide +kernel
theorem dX11_ask_27 : decode cX11_ask 27 = .ok (.getfield 99, 3) := by decide +kernel
theorem dX11_ask_30 : decode cX11_ask 30 = .ok (.iload_n 1, 1) := by decide +kernel
theorem dX11_ask_31 : decode cX11_ask 31 = .ok (.iaload, 1) := by decide +kernel
theorem dX11_ask_32 : decode cX11_ask 32 = .ok (.invokevirtual 230, 3) := by decide +kernel
theorem dX11_ask_35 : decode cX11_ask 35 = .ok (.return_, 1) := by decide +kernel
theorem dX11_askField_0 : decode cX11_askField 0 = .ok (.aload_n 0, 1) := by decide +kernel
theorem dX11_askField_1 : decode cX11_askField 1 = .ok (.getfield 117, 3) := by decide +kernel
theorem dX11_askField_4 : decode cX11_askField 4 = .ok (.iconst 4, 1) := by decide +kernel
theorem dX11_askField_5 : decode cX11_askField 5 = .ok (.iload_n 1, 1) := by decide +kernel
theorem dX11_askField_6 : decode cX11_askField 6 = .ok (.imul, 1) := by decide +kernel
theorem dX11_askField_7 : decode cX11_askField 7 = .ok (.iload_n 2, 1) := by decide +kernel
theorem dX11_askField_8 : decode cX11_askField 8 = .ok (.iadd, 1) := by decide +kernel
theorem dX11_askField_9 : decode cX11_askField 9 = .ok (.baload, 1) := by decide +kernel
theorem dX11_askField_10 : decode cX11_askField 10 = .ok (.ifCond .ne 64, 3) := by decide +kernel
theorem dX11_askField_13 : decode cX11_askField 13 = .ok (.aload_n 0, 1) := by decide +kernel
theorem dX11_askField_14 : decode cX11_askField 14 = .ok (.getfield 117, 3) := by decide +kernel
theorem dX11_askField_17 : decode cX11_askField 17 = .ok (.iconst 4, 1) := by decide +kernel
theorem dX11_askField_18 : decode cX11_askField 18 = .ok (.iload_n 1, 1) := by decide +kernel
theorem dX11_askField_19 : decode cX11_askField 19 = .ok (.imul, 1) := by decide +kernel
theorem dX11_askField_20 : decode cX11_askField 20 = .ok (.iload_n 2, 1) := by decide +kernel
theorem dX11_askField_21 : decode cX11_askField 21 = .ok (.iadd, 1) := by decide +kernel
theorem dX11_askField_22 : decode cX11_askField 22 = .ok (.iconst 1, 1) := by decide +kernel
theorem dX11_askField_23 : decode cX11_askField 23 = .ok (.bastore, 1) := by decide +kernel
theorem dX11_askField_24 : decode cX11_askField 24 = .ok (.iload_n 3, 1) := by decide +kernel
theorem dX11_askField_25 : decode cX11_askField 25 = .ok (.ifCond .ne 20, 3) := by decide +kernel
theorem dX11_askField_28 : decode cX11_askField 28 = .ok (.aload_n 0, 1) := by decide +kernel
theorem dX11_askField_29 : decode cX11_askField 29 = .ok (.aload_n 0, 1) := by decide +kernel
theorem dX11_askField_30 : decode cX11_askField 30 = .ok (.getfield 102, 3) := by decide +kernel
theorem dX11_askField_33 : decode cX11_askField 33 = .ok (.iconst 4, 1) := by decide +kernel
theorem dX11_askField_34 : decode cX11_askField 34 = .ok (.iload_n 1, 1) := by decide +kernel
theorem dX11_askField_35 : decode cX11_askField 35 = .ok (.imul, 1) := by decide +kernel
theorem dX11_askField_36 : decode cX11_askField 36 = .ok (.iload_n 2, 1) := by decide +kernel
theorem dX11_askField_37 : decode cX11_askField 37 = .ok (.iadd, 1) := by decide +kernel
theorem dX11_askField_38 : decode cX11_askField 38 = .ok (.iaload, 1) := by decide +kernel
theorem dX11_askField_39 : decode cX11_askField 39 = .ok (.invokevirtual 230, 3) := by decide +kernel
theorem dX11_askField_42 : decode cX11_askField 42 = .ok (.goto 32, 3) := by decide +kernel
theorem dX11_askField_45 : decode cX11_askField 45 = .ok (.aload_n 0, 1) := by decide +kernel
theorem dX11_askField_46 : decode cX11_askField 46 = .ok (.getfield 123, 3) := by decide +kernel
theorem dX11_askField_49 : decode cX11_askField 49 = .ok (.aload_n 0, 1) := by decide +kernel
theorem dX11_askField_50 : decode cX11_askField 50 = .ok (.getfield 227, 3) := by decide +kernel
theorem dX11_askField_53 : decode cX11_askField 53 = .ok (.aload_n 0, 1) := by decide +kernel
theorem dX11_askField_54 : decode cX11_askField 54 = .ok (.getfield 102, 3) := by decide +kernel
theorem dX11_askField_57 : decode cX11_askField 57 = .ok (.iconst 4, 1) := by decide +kernel
theorem dX11_askField_58 : decode cX11_askField 58 = .ok (.iload_n 1, 1) := by decide +kernel
theorem dX11_askField_59 : decode cX11_askField 59 = .ok (.imul, 1) := by decide +kernel
theorem dX11_askField_60 : decode cX11_askField 60 = .ok (.iload_n 2, 1) := by decide +kernel
theorem dX11_askField_61 : decode cX11_askField 61 = .ok (.iadd, 1) := by decide +kernel
theorem dX11_askField_62 : decode cX11_askField 62 = .ok (.iaload, 1) := by decide +kernel
theorem dX11_askField_63 : decode cX11_askField 63 = .ok (.iastore, 1) := by decide +kernel
theorem dX11_askField_64 : decode cX11_askField 64 = .ok (.aload_n 0, 1) := by decide +kernel
theorem dX11_askField_65 : decode cX11_askField 65 = .ok (.dup, 1) := by decide +kernel
theorem dX11_askField_66 : decode cX11_askField 66 = .ok (.getfield 227, 3) := by decide +kernel
theorem dX11_askField_69 : decode cX11_askField 69 = .ok (.iconst 1, 1) := by decide +kernel
theorem dX11_askField_70 : decode cX11_askField 70 = .ok (.iadd, 1) := by decide +kernel
theorem dX11_askField_71 : decode cX11_askField 71 = .ok (.putfield 227, 3) := by decide +kernel
theorem dX11_askField_74 : decode cX11_askField 74 = .ok (.return_, 1) := by decide +kernel
theorem dX11_doStep_0 : decode cX11_doStep 0 = .ok (.aload_n 0, 1) := by decide +kernel
theorem dX11_doStep_1 : decode cX11_doStep 1 = .ok (.getfield 44, 3) := by decide +kernel
theorem dX11_doStep_4 : decode cX11_doStep 4 = .ok (.iload_n 1, 1) := by decide +kernel
theorem dX11_doStep_5 : decode cX11_doStep 5 = .ok (.iaload, 1) := by decide +kernel
theorem dX11_doStep_6 : decode cX11_doStep 6 = .ok (.istore_n 2, 1) := by decide +kernel
theorem dX11_doStep_7 : decode cX11_doStep 7 = .ok (.aload_n 0, 1) := by decide +kernel
theorem dX11_doStep_8 : decode cX11_doStep 8 = .ok (.getfield 47, 3) := by decide +kernel
theorem dX11_doStep_11 : decode cX11_doStep 11 = .ok (.iload_n 1, 1) := by decide +kernel
theorem dX11_doStep_12 : decode cX11_doStep 12 = .ok (.iaload, 1) := by decide +kernel
theorem dX11_doStep_13 : decode cX11_doStep 13 = .ok (.istore_n 3, 1) := by decide +kernel
theorem dX11_doStep_14 : decode cX11_doStep 14 = .ok (.aload_n 0, 1) := by decide +kernel
theorem dX11_doStep_15 : decode cX11_doStep 15 = .ok (.iload_n 2, 1) := by decide +kernel
theorem dX11_doStep_16 : decode cX11_doStep 16 = .ok (.invokevirtual 233, 3) := by decide +kernel
theorem dX11_doStep_19 : decode cX11_doStep 19 = .ok (.aload_n 0, 1) := by decide +kernel
theorem dX11_doStep_20 : decode cX11_doStep 20 = .ok (.getfield 41, 3) := by decide +kernel
theorem dX11_doStep_23 : decode cX11_doStep 23 = .ok (.iload_n 1, 1) := by decide +kernel
theorem dX11_doStep_24 : decode cX11_doStep 24 = .ok (.iaload, 1) := by decide +kernel
theorem dX11_doStep_25 : decode cX11_doStep 25 = .ok (.iconst 2, 1) := by decide +kernel
theorem dX11_doStep_26 : decode cX11_doStep 26 = .ok (.if_icmp .ne 39, 3) := by decide +kernel
theorem dX11_doStep_29 : decode cX11_doStep 29 = .ok (.aload_n 0, 1) := by decide +kernel
theorem dX11_doStep_30 : decode cX11_doStep 30 = .ok (.iload_n 3, 1) := by decide +kernel
theorem dX11_doStep_31 : decode cX11_doStep 31 = .ok (.invokevirtual 233, 3) := by decide +kernel
theorem dX11_doStep_34 : decode cX11_doStep 34 = .ok (.aload_n 0, 1) := by decide +kernel
theorem dX11_doStep_35 : decode cX11_doStep 35 = .ok (.aload_n 0, 1) := by decide +kernel
theorem dX11_doStep_36 : decode cX11_doStep 36 = .ok (.getfield 108, 3) := by decide +kernel
theorem dX11_doStep_39 : decode cX11_doStep 39 = .ok (.iload_n 2, 1) := by decide +kernel
theorem dX11_doStep_40 : decode cX11_doStep 40 = .ok (.iaload, 1) := by decide +kernel
theorem dX11_doStep_41 : decode cX11_doStep 41 = .ok (.aload_n 0, 1) := by decide +kernel
theorem dX11_doStep_42 : decode cX11_doStep 42 = .ok (.getfield 108, 3) := by decide +kernel
theorem dX11_doStep_45 : decode cX11_doStep 45 = .ok (.iload_n 3, 1) := by decide +kernel
theorem dX11_doStep_46 : decode cX11_doStep 46 = .ok (.iaload, 1) := by decide +kernel
theorem dX11_doStep_47 : decode cX11_doStep 47 = .ok (.if_icmp .ne 12, 3) := by decide +kernel
theorem dX11_doStep_50 : decode cX11_doStep 50 = .ok (.aload_n 0, 1) := by decide +kernel
theorem dX11_doStep_51 : decode cX11_doStep 51 = .ok (.getfield 53, 3) := by decide +kernel
theorem dX11_doStep_54 : decode cX11_doStep 54 = .ok (.iload_n 1, 1) := by decide +kernel
theorem dX11_doStep_55 : decode cX11_doStep 55 = .ok (.iaload, 1) := by decide +kernel
theorem dX11_doStep_56 : decode cX11_doStep 56 = .ok (.goto 4, 3) := by decide +kernel
theorem dX11_doStep_59 : decode cX11_doStep 59 = .ok (.iconst 0, 1) := by decide +kernel
theorem dX11_doStep_60 : decode cX11_doStep 60 = .ok (.putfield 236, 3) := by decide +kernel
theorem dX11_doStep_63 : decode cX11_doStep 63 = .ok (.iconst 0, 1) := by decide +kernel
theorem dX11_doStep_64 : decode cX11_doStep 64 = .ok (.ireturn, 1) := by decide +kernel
theorem dX11_doStep_65 : decode cX11_doStep 65 = .ok (.aload_n 0, 1) := by decide +kernel
theorem dX11_doStep_66 : decode cX11_doStep 66 = .ok (.getfield 108, 3) := by decide +kernel
theorem dX11_doStep_69 : decode cX11_doStep 69 = .ok (.iload_n 2, 1) := by decide +kernel
theorem dX11_doStep_70 : decode cX11_doStep 70 = .ok (.iaload, 1) := by decide +kernel
theorem dX11_doStep_71 : decode cX11_doStep 71 = .ok (.istore 4, 2) := by decide +kernel
theorem dX11_doStep_73 : decode cX11_doStep 73 = .ok (.iload 4, 2) := by decide +kernel
theorem dX11_doStep_75 : decode cX11_doStep 75 = .ok (.iconst (-1), 1) := by decide +kernel
theorem dX11_doStep_76 : decode cX11_doStep 76 = .ok (.if_icmp .ne 5, 3) := by decide +kernel
theorem dX11_doStep_79 : decode cX11_doStep 79 = .ok (.iconst 1, 1) := by decide +kernel
theorem dX11_doStep_80 : decode cX11_doStep 80 = .ok (.ireturn, 1) := by decide +kernel
theorem dX11_doStep_81 : decode cX11_doStep 81 = .ok (.aload_n 0, 1) := by decide +kernel
theorem dX11_doStep_82 : decode cX11_doStep 82 = .ok (.getfield 96, 3) := by decide +kernel
theorem dX11_doStep_85 : decode cX11_doStep 85 = .ok (.iload 4, 2) := by decide +kernel
theorem dX11_doStep_87 : decode cX11_doStep 87 = .ok (.iaload, 1) := by decide +kernel
theorem dX11_doStep_88 : decode cX11_doStep 88 = .ok (.istore 5, 2) := by decide +kernel
theorem dX11_doStep_90 : decode cX11_doStep 90 = .ok (.aload_n 0, 1) := by decide +kernel
theorem dX11_doStep_91 : decode cX11_doStep 91 = .ok (.iload 5, 2) := by decide +kernel
theorem dX11_doStep_93 : decode cX11_doStep 93 = .ok (.iload_n 3, 1) := by decide +kernel
theorem dX11_doStep_94 : decode cX11_doStep 94 = .ok (.invokevirtual 146, 3) := by decide +kernel
theorem dX11_doStep_97 : decode cX11_doStep 97 = .ok (.ifCond .eq 19, 3) := by decide +kernel
theorem dX11_doStep_100 : decode cX11_doStep 100 = .ok (.aload_n 0, 1) := by decide +kernel
theorem dX11_doStep_101 : decode cX11_doStep 101 = .ok (.iload 5, 2) := by decide +kernel
theorem dX11_doStep_103 : decode cX11_doStep 103 = .ok (.iload_n 3, 1) := by decide +kernel
theorem dX11_doStep_104 : decode cX11_doStep 104 = .ok (.aload_n 0, 1) := by decide +kernel
theorem dX11_doStep_105 : decode cX11_doStep 105 = .ok (.getfield 41, 3) := by decide +kernel
theorem dX11_doStep_108 : decode cX11_doStep 108 = .ok (.iload_n 1, 1) := by decide +kernel
theorem dX11_doStep_109 : decode cX11_doStep 109 = .ok (.iaload, 1) := by decide +kernel
theorem dX11_doStep_110 : decode cX11_doStep 110 = .ok (.invokevirtual 150, 3) := by decide +kernel
theorem dX11_doStep_113 : decode cX11_doStep 113 = .ok (.ifCond .ne 5, 3) := by decide +kernel
theorem dX11_doStep_116 : decode cX11_doStep 116 = .ok (.iconst 2, 1) := by decide +kernel
theorem dX11_doStep_117 : decode cX11_doStep 117 = .ok (.ireturn, 1) := by decide +kernel
theorem dX11_doStep_118 : decode cX11_doStep 118 = .ok (.aload_n 0, 1) := by decide +kernel
theorem dX11_doStep_119 : decode cX11_doStep 119 = .ok (.iload 4, 2) := by decide +kernel
theorem dX11_doStep_121 : decode cX11_doStep 121 = .ok (.iload_n 3, 1) := by decide +kernel
theorem dX11_doStep_122 : decode cX11_doStep 122 = .ok (.aload_n 0, 1) := by decide +kernel
theorem dX11_doStep_123 : decode cX11_doStep 123 = .ok (.getfield 41, 3) := by decide +kernel
theorem dX11_doStep_126 : decode cX11_doStep 126 = .ok (.iload_n 1, 1) := by decide +kernel
theorem dX11_doStep_127 : decode cX11_doStep 127 = .ok (.iaload, 1) := by decide +kernel
theorem dX11_doStep_128 : decode cX11_doStep 128 = .ok (.invokevirtual 239, 3) := by decide +kernel
theorem dX11_doStep_131 : decode cX11_doStep 131 = .ok (.aload_n 0, 1) := by decide +kernel
theorem dX11_doStep_132 : decode cX11_doStep 132 = .ok (.getfield 41, 3) := by decide +kernel
theorem dX11_doStep_135 : decode cX11_doStep 135 = .ok (.iload_n 1, 1) := by decide +kernel
theorem dX11_doStep_136 : decode cX11_doStep 136 = .ok (.iaload, 1) := by decide +kernel
theorem dX11_doStep_137 : decode cX11_doStep 137 = .ok (.ifCond .ne 40, 3) := by decide +kernel
theorem dX11_doStep_140 : decode cX11_doStep 140 = .ok (.aload_n 0, 1) := by decide +kernel
theorem dX11_doStep_141 : decode cX11_doStep 141 = .ok (.getfield 108, 3) := by decide +kernel
theorem dX11_doStep_144 : decode cX11_doStep 144 = .ok (.aload_n 0, 1) := by decide +kernel
theorem dX11_doStep_145 : decode cX11_doStep 145 = .ok (.getfield 50, 3) := by decide +kernel
theorem dX11_doStep_148 : decode cX11_doStep 148 = .ok (.iload_n 1, 1) := by decide +kernel
theorem dX11_doStep_149 : decode cX11_doStep 149 = .ok (.iaload, 1) := by decide +kernel
theorem dX11_doStep_150 : decode cX11_doStep 150 = .ok (.aload_n 0, 1) := by decide +kernel
theorem dX11_doStep_151 : decode cX11_doStep 151 = .ok (.getfield 102, 3) := by decide +kernel
theorem dX11_doStep_154 : decode cX11_doStep 154 = .ok (.iconst 4, 1) := by decide +kernel
theorem dX11_doStep_155 : decode cX11_doStep 155 = .ok (.iload 4, 2) := by decide +kernel
theorem dX11_doStep_157 : decode cX11_doStep 157 = .ok (.imul, 1) := by decide +kernel
theorem dX11_doStep_158 : decode cX11_doStep 158 = .ok (.iload_n 3, 1) := by decide +kernel
theorem dX11_doStep_159 : decode cX11_doStep 159 = .ok (.iadd, 1) := by decide +kernel
theorem dX11_doStep_160 : decode cX11_doStep 160 = .ok (.iaload, 1) := by decide +kernel
theorem dX11_doStep_161 : decode cX11_doStep 161 = .ok (.iastore, 1) := by decide +kernel
theorem dX11_doStep_162 : decode cX11_doStep 162 = .ok (.aload_n 0, 1) := by decide +kernel
theorem dX11_doStep_163 : decode cX11_doStep 163 = .ok (.getfield 111, 3) := by decide +kernel
theorem dX11_doStep_166 : decode cX11_doStep 166 = .ok (.aload_n 0, 1) := by decide +kernel
theorem dX11_doStep_167 : decode cX11_doStep 167 = .ok (.getfield 50, 3) := by decide +kernel
theorem dX11_doStep_170 : decode cX11_doStep 170 = .ok (.iload_n 1, 1) := by decide +kernel
theorem dX11_doStep_171 : decode cX11_doStep 171 = .ok (.iaload, 1) := by decide +kernel
theorem dX11_doStep_172 : decode cX11_doStep 172 = .ok (.iconst 0, 1) := by decide +kernel
theorem dX11_doStep_173 : decode cX11_doStep 173 = .ok (.bastore, 1) := by decide +kernel
theorem dX11_doStep_174 : decode cX11_doStep 174 = .ok (.goto 37, 3) := by decide +kernel
theorem dX11_doStep_177 : decode cX11_doStep 177 = .ok (.aload_n 0, 1) := by decide +kernel
theorem dX11_doStep_178 : decode cX11_doStep 178 = .ok (.aload_n 0, 1) := by decide +kernel
theorem dX11_doStep_179 : decode cX11_doStep 179 = .ok (.getfield 102, 3) := by decide +kernel
theorem dX11_doStep_182 : decode cX11_doStep 182 = .ok (.iconst 4, 1) := by decide +kernel
theorem dX11_doStep_183 : decode cX11_doStep 183 = .ok (.iload 4, 2) := by decide +kernel
theorem dX11_doStep_185 : decode cX11_doStep 185 = .ok (.imul, 1) := by decide +kernel
theorem dX11_doStep_186 : decode cX11_doStep 186 = .ok (.iload_n 3, 1) := by decide +kernel
theorem dX11_doStep_187 : decode cX11_doStep 187 = .ok (.iadd, 1) := by decide +kernel
theorem dX11_doStep_188 : decode cX11_doStep 188 = .ok (.iaload, 1) := by decide +kernel
theorem dX11_doStep_189 : decode cX11_doStep 189 = .ok (.aload_n 0, 1) := by decide +kernel
theorem dX11_doStep_190 : decode cX11_doStep 190 = .ok (.getfield 50, 3) := by decide +kernel
theorem dX11_doStep_193 : decode cX11_doStep 193 = .ok (.iload_n 1, 1) := by decide +kernel
theorem dX11_doStep_194 : decode cX11_doStep 194 = .ok (.iaload, 1) := by decide +kernel
theorem dX11_doStep_195 : decode cX11_doStep 195 = .ok (.if_icmp .ne 12, 3) := by decide +kernel
theorem dX11_doStep_198 : decode cX11_doStep 198 = .ok (.aload_n 0, 1) := by decide +kernel
theorem dX11_doStep_199 : decode cX11_doStep 199 = .ok (.getfield 53, 3) := by decide +kernel
theorem dX11_doStep_202 : decode cX11_doStep 202 = .ok (.iload_n 1, 1) := by decide +kernel
theorem dX11_doStep_203 : decode cX11_doStep 203 = .ok (.iaload, 1) := by decide +kernel
theorem dX11_doStep_204 : decode cX11_doStep 204 = .ok (.goto 4, 3) := by decide +kernel
theorem dX11_doStep_207 : decode cX11_doStep 207 = .ok (.iconst 0, 1) := by decide +kernel
theorem dX11_doStep_208 : decode cX11_doStep 208 = .ok (.putfield 236, 3) := by decide +kernel
theorem dX11_doStep_211 : decode cX11_doStep 211 = .ok (.iconst 0, 1) := by decide +kernel
theorem dX11_doStep_212 : decode cX11_doStep 212 = .ok (.ireturn, 1) := by decide +kernel
theorem dX11_playHeap_0 : decode cX11_playHeap 0 = .ok (.iconst 0, 1) := by decide +kernel
theorem dX11_playHeap_1 : decode cX11_playHeap 1 = .ok (.istore_n 1, 1) := by decide +kernel
theorem dX11_playHeap_2 : decode cX11_playHeap 2 = .ok (.iload_n 1, 1) := by decide +kernel
theorem dX11_playHeap_3 : decode cX11_playHeap 3 = .ok (.iconst 4, 1) := by decide +kernel
theorem dX11_playHeap_4 : decode cX11_playHeap 4 = .ok (.if_icmp .ge 52, 3) := by decide +kernel
theorem dX11_playHeap_7 : decode cX11_playHeap 7 = .ok (.aload_n 0, 1) := by decide +kernel
theorem dX11_playHeap_8 : decode cX11_playHeap 8 = .ok (.getfield 111, 3) := by decide +kernel
theorem dX11_playHeap_11 : decode cX11_playHeap 11 = .ok (.iload_n 1, 1) := by decide +kernel
theorem dX11_playHeap_12 : decode cX11_playHeap 12 = .ok (.iload_n 1, 1) := by decide +kernel
theorem dX11_playHeap_13 : decode cX11_playHeap 13 = .ok (.aload_n 0, 1) := by decide +kernel
theorem dX11_playHeap_14 : decode cX11_playHeap 14 = .ok (.getfield 143, 3) := by decide +kernel
theorem dX11_playHeap_17 : decode cX11_playHeap 17 = .ok (.if_icmp .ge 7, 3) := by decide +kernel
theorem dX11_playHeap_20 : decode cX11_playHeap 20 = .ok (.iconst 1, 1) := by decide +kernel
theorem dX11_playHeap_21 : decode cX11_playHeap 21 = .ok (.goto 4, 3) := by decide +kernel
theorem dX11_playHeap_24 : decode cX11_playHeap 24 = .ok (.iconst 0, 1) := by decide +kernel
theorem dX11_playHeap_25 : decode cX11_playHeap 25 = .ok (.bastore, 1) := by decide +kernel
theorem dX11_playHeap_26 : decode cX11_playHeap 26 = .ok (.aload_n 0, 1) := by decide +kernel
theorem dX11_playHeap_27 : decode cX11_playHeap 27 = .ok (.getfield 108, 3) := by decide +kernel
theorem dX11_playHeap_30 : decode cX11_playHeap 30 = .ok (.iload_n 1, 1) := by decide +kernel
theorem dX11_playHeap_31 : decode cX11_playHeap 31 = .ok (.iload_n 1, 1) := by decide +kernel
theorem dX11_playHeap_32 : decode cX11_playHeap 32 = .ok (.aload_n 0, 1) := by decide +kernel
theorem dX11_playHeap_33 : decode cX11_playHeap 33 = .ok (.getfield 143, 3) := by decide +kernel
theorem dX11_playHeap_36 : decode cX11_playHeap 36 = .ok (.if_icmp .ge 12, 3) := by decide +kernel
theorem dX11_playHeap_39 : decode cX11_playHeap 39 = .ok (.aload_n 0, 1) := by decide +kernel
theorem dX11_playHeap_40 : decode cX11_playHeap 40 = .ok (.getfield 99, 3) := by decide +kernel
theorem dX11_playHeap_43 : decode cX11_playHeap 43 = .ok (.iload_n 1, 1) := by decide +kernel
theorem dX11_playHeap_44 : decode cX11_playHeap 44 = .ok (.iaload, 1) := by decide +kernel
theorem dX11_playHeap_45 : decode cX11_playHeap 45 = .ok (.goto 4, 3) := by decide +kernel
theorem dX11_playHeap_48 : decode cX11_playHeap 48 = .ok (.iconst (-1), 1) := by decide +kernel
theorem dX11_playHeap_49 : decode cX11_playHeap 49 = .ok (.iastore, 1) := by decide +kernel
theorem dX11_playHeap_50 : decode cX11_playHeap 50 = .ok (.iinc 1 1, 3) := by decide +kernel
theorem dX11_playHeap_53 : decode cX11_playHeap 53 = .ok (.goto (-51), 3) := by decide +kernel
theorem dX11_playHeap_56 : decode cX11_playHeap 56 = .ok (.aload_n 0, 1) := by decide +kernel
theorem dX11_playHeap_57 : decode cX11_playHeap 57 = .ok (.getfield 114, 3) := by decide +kernel
theorem dX11_playHeap_60 : decode cX11_playHeap 60 = .ok (.iconst 0, 1) := by decide +kernel
theorem dX11_playHeap_61 : decode cX11_playHeap 61 = .ok (.iconst 0, 1) := by decide +kernel
theorem dX11_playHeap_62 : decode cX11_playHeap 62 = .ok (.bastore, 1) := by decide +kernel
theorem dX11_playHeap_63 : decode cX11_playHeap 63 = .ok (.aload_n 0, 1) := by decide +kernel
theorem dX11_playHeap_64 : decode cX11_playHeap 64 = .ok (.getfield 114, 3) := by decide +kernel
theorem dX11_playHeap_67 : decode cX11_playHeap 67 = .ok (.iconst 1, 1) := by decide +kernel
theorem dX11_playHeap_68 : decode cX11_playHeap 68 = .ok (.iconst 0, 1) := by decide +kernel
theorem dX11_playHeap_69 : decode cX11_playHeap 69 = .ok (.bastore, 1) := by decide +kernel
theorem dX11_playHeap_70 : decode cX11_playHeap 70 = .ok (.iconst 0, 1) := by decide +kernel
theorem dX11_playHeap_71 : decode cX11_playHeap 71 = .ok (.istore_n 1, 1) := by decide +kernel
theorem dX11_playHeap_72 : decode cX11_playHeap 72 = .ok (.iload_n 1, 1) := by decide +kernel
theorem dX11_playHeap_73 : decode cX11_playHeap 73 = .ok (.bipush 20, 2) := by decide +kernel
theorem dX11_playHeap_75 : decode cX11_playHeap 75 = .ok (.if_icmp .ge 16, 3) := by decide +kernel
theorem dX11_playHeap_78 : decode cX11_playHeap 78 = .ok (.aload_n 0, 1) := by decide +kernel
theorem dX11_playHeap_79 : decode cX11_playHeap 79 = .ok (.getfield 117, 3) := by decide +kernel
theorem dX11_playHeap_82 : decode cX11_playHeap 82 = .ok (.iload_n 1, 1) := by decide +kernel
theorem dX11_playHeap_83 : decode cX11_playHeap 83 = .ok (.iconst 0, 1) := by decide +kernel
theorem dX11_playHeap_84 : decode cX11_playHeap 84 = .ok (.bastore, 1) := by decide +kernel
theorem dX11_playHeap_85 : decode cX11_playHeap 85 = .ok (.iinc 1 1, 3) := by decide +kernel
theorem dX11_playHeap_88 : decode cX11_playHeap 88 = .ok (.goto (-16), 3) := by decide +kernel
theorem dX11_playHeap_91 : decode cX11_playHeap 91 = .ok (.iconst 0, 1) := by decide +kernel
theorem dX11_playHeap_92 : decode cX11_playHeap 92 = .ok (.istore_n 1, 1) := by decide +kernel
theorem dX11_playHeap_93 : decode cX11_playHeap 93 = .ok (.iload_n 1, 1) := by decide +kernel
theorem dX11_playHeap_94 : decode cX11_playHeap 94 = .ok (.iconst 5, 1) := by decide +kernel
theorem dX11_playHeap_95 : decode cX11_playHeap 95 = .ok (.if_icmp .ge 16, 3) := by decide +kernel
theorem dX11_playHeap_98 : decode cX11_playHeap 98 = .ok (.aload_n 0, 1) := by decide +kernel
theorem dX11_playHeap_99 : decode cX11_playHeap 99 = .ok (.getfield 120, 3) := by decide +kernel
theorem dX11_playHeap_102 : decode cX11_playHeap 102 = .ok (.iload_n 1, 1) := by decide +kernel
theorem dX11_playHeap_103 : decode cX11_playHeap 103 = .ok (.iconst (-1), 1) := by decide +kernel
theorem dX11_playHeap_104 : decode cX11_playHeap 104 = .ok (.iastore, 1) := by decide +kernel
theorem dX11_playHeap_105 : decode cX11_playHeap 105 = .ok (.iinc 1 1, 3) := by decide +kernel
theorem dX11_playHeap_108 : decode cX11_playHeap 108 = .ok (.goto (-15), 3) := by decide +kernel
theorem dX11_playHeap_111 : decode cX11_playHeap 111 = .ok (.aload_n 0, 1) := by decide +kernel
theorem dX11_playHeap_112 : decode cX11_playHeap 112 = .ok (.iconst 0, 1) := by decide +kernel
theorem dX11_playHeap_113 : decode cX11_playHeap 113 = .ok (.putfield 224, 3) := by decide +kernel
theorem dX11_playHeap_116 : decode cX11_playHeap 116 = .ok (.aload_n 0, 1) := by decide +kernel
theorem dX11_playHeap_117 : decode cX11_playHeap 117 = .ok (.iconst 0, 1) := by decide +kernel
theorem dX11_playHeap_118 : decode cX11_playHeap 118 = .ok (.putfield 227, 3) := by decide +kernel
theorem dX11_playHeap_121 : decode cX11_playHeap 121 = .ok (.aload_n 0, 1) := by decide +kernel
theorem dX11_playHeap_122 : decode cX11_playHeap 122 = .ok (.iconst 0, 1) := by decide +kernel
theorem dX11_playHeap_123 : decode cX11_playHeap 123 = .ok (.putfield 243, 3) := by decide +kernel
theorem dX11_playHeap_126 : decode cX11_playHeap 126 = .ok (.iconst 0, 1) := by decide +kernel
theorem dX11_playHeap_127 : decode cX11_playHeap 127 = .ok (.istore_n 1, 1) := by decide +kernel
theorem dX11_playHeap_128 : decode cX11_playHeap 128 = .ok (.iconst 0, 1) := by decide +kernel
theorem dX11_playHeap_129 : decode cX11_playHeap 129 = .ok (.istore_n 2, 1) := by decide +kernel
theorem dX11_playHeap_130 : decode cX11_playHeap 130 = .ok (.iload_n 2, 1) := by decide +kernel
theorem dX11_playHeap_131 : decode cX11_playHeap 131 = .ok (.aload_n 0, 1) := by decide +kernel
theorem dX11_playHeap_132 : decode cX11_playHeap 132 = .ok (.getfield 156, 3) := by decide +kernel
theorem dX11_playHeap_135 : decode cX11_playHeap 135 = .ok (.if_icmp .ge 40, 3) := by decide +kernel
theorem dX11_playHeap_138 : decode cX11_playHeap 138 = .ok (.iload_n 1, 1) := by decide +kernel
theorem dX11_playHeap_139 : decode cX11_playHeap 139 = .ok (.ifCond .ne 36, 3) := by decide +kernel
theorem dX11_playHeap_142 : decode cX11_playHeap 142 = .ok (.aload_n 0, 1) := by decide +kernel
theorem dX11_playHeap_143 : decode cX11_playHeap 143 = .ok (.iconst 0, 1) := by decide +kernel
theorem dX11_playHeap_144 : decode cX11_playHeap 144 = .ok (.putfield 236, 3) := by decide +kernel
theorem dX11_playHeap_147 : decode cX11_playHeap 147 = .ok (.aload_n 0, 1) := by decide +kernel
theorem dX11_playHeap_148 : decode cX11_playHeap 148 = .ok (.dup, 1) := by decide +kernel
theorem dX11_playHeap_149 : decode cX11_playHeap 149 = .ok (.getfield 243, 3) := by decide +kernel
theorem dX11_playHeap_152 : decode cX11_playHeap 152 = .ok (.iconst 1, 1) := by decide +kernel
theorem dX11_playHeap_153 : decode cX11_playHeap 153 = .ok (.iadd, 1) := by decide +kernel
theorem dX11_playHeap_154 : decode cX11_playHeap 154 = .ok (.putfield 243, 3) := by decide +kernel
theorem dX11_playHeap_157 : decode cX11_playHeap 157 = .ok (.aload_n 0, 1) := by decide +kernel
theorem dX11_playHeap_158 : decode cX11_playHeap 158 = .ok (.iload_n 2, 1) := by decide +kernel
theorem dX11_playHeap_159 : decode cX11_playHeap 159 = .ok (.invokevirtual 246, 3) := by decide +kernel
theorem dX11_playHeap_162 : decode cX11_playHeap 162 = .ok (.istore_n 1, 1) := by decide +kernel
theorem dX11_playHeap_163 : decode cX11_playHeap 163 = .ok (.iload_n 2, 1) := by decide +kernel
theorem dX11_playHeap_164 : decode cX11_playHeap 164 = .ok (.iconst 1, 1) := by decide +kernel
theorem dX11_playHeap_165 : decode cX11_playHeap 165 = .ok (.iadd, 1) := by decide +kernel
theorem dX11_playHeap_166 : decode cX11_playHeap 166 = .ok (.aload_n 0, 1) := by decide +kernel
theorem dX11_playHeap_167 : decode cX11_playHeap 167 = .ok (.getfield 236, 3) := by decide +kernel
theorem dX11_playHeap_170 : decode cX11_playHeap 170 = .ok (.iadd, 1) := by decide +kernel
theorem dX11_playHeap_171 : decode cX11_playHeap 171 = .ok (.istore_n 2, 1) := by decide +kernel
theorem dX11_playHeap_172 : decode cX11_playHeap 172 = .ok (.goto (-42), 3) := by decide +kernel
theorem dX11_playHeap_175 : decode cX11_playHeap 175 = .ok (.iload_n 1, 1) := by decide +kernel
theorem dX11_playHeap_176 : decode cX11_playHeap 176 = .ok (.ireturn, 1) := by decide +kernel
theorem dX11_compareLooks_0 : decode cX11_compareLooks 0 = .ok (.iconst 0, 1) := by decide +kernel
theorem dX11_compareLooks_1 : decode cX11_compareLooks 1 = .ok (.istore_n 3, 1) := by decide +kernel
theorem dX11_compareLooks_2 : decode cX11_compareLooks 2 = .ok (.iload_n 3, 1) := by decide +kernel
theorem dX11_compareLooks_3 : decode cX11_compareLooks 3 = .ok (.aload_n 0, 1) := by decide +kernel
theorem dX11_compareLooks_4 : decode cX11_compareLooks 4 = .ok (.getfield 78, 3) := by decide +kernel
theorem dX11_compareLooks_7 : decode cX11_compareLooks 7 = .ok (.iload_n 1, 1) := by decide +kernel
theorem dX11_compareLooks_8 : decode cX11_compareLooks 8 = .ok (.baload, 1) := by decide +kernel
theorem dX11_compareLooks_9 : decode cX11_compareLooks 9 = .ok (.if_icmp .ge 44, 3) := by decide +kernel
theorem dX11_compareLooks_12 : decode cX11_compareLooks 12 = .ok (.iload_n 3, 1) := by decide +kernel
theorem dX11_compareLooks_13 : decode cX11_compareLooks 13 = .ok (.aload_n 0, 1) := by decide +kernel
theorem dX11_compareLooks_14 : decode cX11_compareLooks 14 = .ok (.getfield 78, 3) := by decide +kernel
theorem dX11_compareLooks_17 : decode cX11_compareLooks 17 = .ok (.iload_n 2, 1) := by decide +kernel
theorem dX11_compareLooks_18 : decode cX11_compareLooks 18 = .ok (.baload, 1) := by decide +kernel
theorem dX11_compareLooks_19 : decode cX11_compareLooks 19 = .ok (.if_icmp .ge 34, 3) := by decide +kernel
theorem dX11_compareLooks_22 : decode cX11_compareLooks 22 = .ok (.aload_n 0, 1) := by decide +kernel
theorem dX11_compareLooks_23 : decode cX11_compareLooks 23 = .ok (.getfield 75, 3) := by decide +kernel
theorem dX11_compareLooks_26 : decode cX11_compareLooks 26 = .ok (.bipush 20, 2) := by decide +kernel
theorem dX11_compareLooks_28 : decode cX11_compareLooks 28 = .ok (.iload_n 1, 1) := by decide +kernel
theorem dX11_compareLooks_29 : decode cX11_compareLooks 29 = .ok (.imul, 1) := by decide +kernel
theorem dX11_compareLooks_30 : decode cX11_compareLooks 30 = .ok (.iload_n 3, 1) := by decide +kernel
theorem dX11_compareLooks_31 : decode cX11_compareLooks 31 = .ok (.iadd, 1) := by decide +kernel
theorem dX11_compareLooks_32 : decode cX11_compareLooks 32 = .ok (.baload, 1) := by decide +kernel
theorem dX11_compareLooks_33 : decode cX11_compareLooks 33 = .ok (.aload_n 0, 1) := by decide +kernel
theorem dX11_compareLooks_34 : decode cX11_compareLooks 34 = .ok (.getfield 75, 3) := by decide +kernel
theorem dX11_compareLooks_37 : decode cX11_compareLooks 37 = .ok (.bipush 20, 2) := by decide +kernel
theorem dX11_compareLooks_39 : decode cX11_compareLooks 39 = .ok (.iload_n 2, 1) := by decide +kernel
theorem dX11_compareLooks_40 : decode cX11_compareLooks 40 = .ok (.imul, 1) := by decide +kernel
theorem dX11_compareLooks_41 : decode cX11_compareLooks 41 = .ok (.iload_n 3, 1) := by decide +kernel
theorem dX11_compareLooks_42 : decode cX11_compareLooks 42 = .ok (.iadd, 1) := by decide +kernel
theorem dX11_compareLooks_43 : decode cX11_compareLooks 43 = .ok (.baload, 1) := by decide +kernel
theorem dX11_compareLooks_44 : decode cX11_compareLooks 44 = .ok (.if_icmp .ne 9, 3) := by decide +kernel
theorem dX11_compareLooks_47 : decode cX11_compareLooks 47 = .ok (.iinc 3 1, 3) := by decide +kernel
theorem dX11_compareLooks_50 : decode cX11_compareLooks 50 = .ok (.goto (-48), 3) := by decide +kernel
theorem dX11_compareLooks_53 : decode cX11_compareLooks 53 = .ok (.iload_n 3, 1) := by decide +kernel
theorem dX11_compareLooks_54 : decode cX11_compareLooks 54 = .ok (.aload_n 0, 1) := by decide +kernel
theorem dX11_compareLooks_55 : decode cX11_compareLooks 55 = .ok (.getfield 78, 3) := by decide +kernel
theorem dX11_compareLooks_58 : decode cX11_compareLooks 58 = .ok (.iload_n 1, 1) := by decide +kernel
theorem dX11_compareLooks_59 : decode cX11_compareLooks 59 = .ok (.baload, 1) := by decide +kernel
theorem dX11_compareLooks_60 : decode cX11_compareLooks 60 = .ok (.if_icmp .ge 17, 3) := by decide +kernel
theorem dX11_compareLooks_63 : decode cX11_compareLooks 63 = .ok (.aload_n 0, 1) := by decide +kernel
theorem dX11_compareLooks_64 : decode cX11_compareLooks 64 = .ok (.getfield 75, 3) := by decide +kernel
theorem dX11_compareLooks_67 : decode cX11_compareLooks 67 = .ok (.bipush 20, 2) := by decide +kernel
theorem dX11_compareLooks_69 : decode cX11_compareLooks 69 = .ok (.iload_n 1, 1) := by decide +kernel
theorem dX11_compareLooks_70 : decode cX11_compareLooks 70 = .ok (.imul, 1) := by decide +kernel
theorem dX11_compareLooks_71 : decode cX11_compareLooks 71 = .ok (.iload_n 3, 1) := by decide +kernel
theorem dX11_compareLooks_72 : decode cX11_compareLooks 72 = .ok (.iadd, 1) := by decide +kernel
theorem dX11_compareLooks_73 : decode cX11_compareLooks 73 = .ok (.baload, 1) := by decide +kernel
theorem dX11_compareLooks_74 : decode cX11_compareLooks 74 = .ok (.goto 4, 3) := by decide +kernel
theorem dX11_compareLooks_77 : decode cX11_compareLooks 77 = .ok (.iconst (-1), 1) := by decide +kernel
theorem dX11_compareLooks_78 : decode cX11_compareLooks 78 = .ok (.istore 4, 2) := by decide +kernel
theorem dX11_compareLooks_80 : decode cX11_compareLooks 80 = .ok (.iload_n 3, 1) := by decide +kernel
theorem dX11_compareLooks_81 : decode cX11_compareLooks 81 = .ok (.aload_n 0, 1) := by decide +kernel
theorem dX11_compareLooks_82 : decode cX11_compareLooks 82 = .ok (.getfield 78, 3) := by decide +kernel
theorem dX11_compareLooks_85 : decode cX11_compareLooks 85 = .ok (.iload_n 2, 1) := by decide +kernel
theorem dX11_compareLooks_86 : decode cX11_compareLooks 86 = .ok (.baload, 1) := by decide +kernel
theorem dX11_compareLooks_87 : decode cX11_compareLooks 87 = .ok (.if_icmp .ge 17, 3) := by decide +kernel
theorem dX11_compareLooks_90 : decode cX11_compareLooks 90 = .ok (.aload_n 0, 1) := by decide +kernel
theorem dX11_compareLooks_91 : decode cX11_compareLooks 91 = .ok (.getfield 75, 3) := by decide +kernel
theorem dX11_compareLooks_94 : decode cX11_compareLooks 94 = .ok (.bipush 20, 2) := by decide +kernel
theorem dX11_compareLooks_96 : decode cX11_compareLooks 96 = .ok (.iload_n 2, 1) := by decide +kernel
theorem dX11_compareLooks_97 : decode cX11_compareLooks 97 = .ok (.imul, 1) := by decide +kernel
theorem dX11_compareLooks_98 : decode cX11_compareLooks 98 = .ok (.iload_n 3, 1) := by decide +kernel
theorem dX11_compareLooks_99 : decode cX11_compareLooks 99 = .ok (.iadd, 1) := by decide +kernel
theorem dX11_compareLooks_100 : decode cX11_compareLooks 100 = .ok (.baload, 1) := by decide +kernel
theorem dX11_compareLooks_101 : decode cX11_compareLooks 101 = .ok (.goto 4, 3) := by decide +kernel
theorem dX11_compareLooks_104 : decode cX11_compareLooks 104 = .ok (.iconst (-1), 1) := by decide +kernel
theorem dX11_compareLooks_105 : decode cX11_compareLooks 105 = .ok (.istore 5, 2) := by decide +kernel
theorem dX11_compareLooks_107 : decode cX11_compareLooks 107 = .ok (.iload 4, 2) := by decide +kernel
theorem dX11_compareLooks_109 : decode cX11_compareLooks 109 = .ok (.iload 5, 2) := by decide +kernel
theorem dX11_compareLooks_111 : decode cX11_compareLooks 111 = .ok (.isub, 1) := by decide +kernel
theorem dX11_compareLooks_112 : decode cX11_compareLooks 112 = .ok (.ireturn, 1) := by decide +kernel
theorem dX11_placeOf_0 : decode cX11_placeOf 0 = .ok (.iconst 0, 1) := by decide +kernel
theorem dX11_placeOf_1 : decode cX11_placeOf 1 = .ok (.istore_n 2, 1) := by decide +kernel
theorem dX11_placeOf_2 : decode cX11_placeOf 2 = .ok (.aload_n 0, 1) := by decide +kernel
theorem dX11_placeOf_3 : decode cX11_placeOf 3 = .ok (.getfield 249, 3) := by decide +kernel
theorem dX11_placeOf_6 : decode cX11_placeOf 6 = .ok (.istore_n 3, 1) := by decide +kernel
theorem dX11_placeOf_7 : decode cX11_placeOf 7 = .ok (.iload_n 2, 1) := by decide +kernel
theorem dX11_placeOf_8 : decode cX11_placeOf 8 = .ok (.iload_n 3, 1) := by decide +kernel
theorem dX11_placeOf_9 : decode cX11_placeOf 9 = .ok (.if_icmp .ge 61, 3) := by decide +kernel
theorem dX11_placeOf_12 : decode cX11_placeOf 12 = .ok (.iload_n 2, 1) := by decide +kernel
theorem dX11_placeOf_13 : decode cX11_placeOf 13 = .ok (.iload_n 3, 1) := by decide +kernel
theorem dX11_placeOf_14 : decode cX11_placeOf 14 = .ok (.iadd, 1) := by decide +kernel
theorem dX11_placeOf_15 : decode cX11_placeOf 15 = .ok (.iconst 2, 1) := by decide +kernel
theorem dX11_placeOf_16 : decode cX11_placeOf 16 = .ok (.idiv, 1) := by decide +kernel
theorem dX11_placeOf_17 : decode cX11_placeOf 17 = .ok (.istore 4, 2) := by decide +kernel
theorem dX11_placeOf_19 : decode cX11_placeOf 19 = .ok (.aload_n 0, 1) := by decide +kernel
theorem dX11_placeOf_20 : decode cX11_placeOf 20 = .ok (.iload_n 1, 1) := by decide +kernel
theorem dX11_placeOf_21 : decode cX11_placeOf 21 = .ok (.aload_n 0, 1) := by decide +kernel
theorem dX11_placeOf_22 : decode cX11_placeOf 22 = .ok (.getfield 87, 3) := by decide +kernel
theorem dX11_placeOf_25 : decode cX11_placeOf 25 = .ok (.iload 4, 2) := by decide +kernel
theorem dX11_placeOf_27 : decode cX11_placeOf 27 = .ok (.iaload, 1) := by decide +kernel
theorem dX11_placeOf_28 : decode cX11_placeOf 28 = .ok (.invokevirtual 252, 3) := by decide +kernel
theorem dX11_placeOf_31 : decode cX11_placeOf 31 = .ok (.istore 5, 2) := by decide +kernel
theorem dX11_placeOf_33 : decode cX11_placeOf 33 = .ok (.iload 5, 2) := by decide +kernel
theorem dX11_placeOf_35 : decode cX11_placeOf 35 = .ok (.ifCond .ne 6, 3) := by decide +kernel
theorem dX11_placeOf_38 : decode cX11_placeOf 38 = .ok (.iload 4, 2) := by decide +kernel
theorem dX11_placeOf_40 : decode cX11_placeOf 40 = .ok (.ireturn, 1) := by decide +kernel
theorem dX11_placeOf_41 : decode cX11_placeOf 41 = .ok (.iload 5, 2) := by decide +kernel
theorem dX11_placeOf_43 : decode cX11_placeOf 43 = .ok (.ifCond .le 10, 3) := by decide +kernel
theorem dX11_placeOf_46 : decode cX11_placeOf 46 = .ok (.iload 4, 2) := by decide +kernel
theorem dX11_placeOf_48 : decode cX11_placeOf 48 = .ok (.iconst 1, 1) := by decide +kernel
theorem dX11_placeOf_49 : decode cX11_placeOf 49 = .ok (.iadd, 1) := by decide +kernel
theorem dX11_placeOf_50 : decode cX11_placeOf 50 = .ok (.goto 4, 3) := by decide +kernel
theorem dX11_placeOf_53 : decode cX11_placeOf 53 = .ok (.iload_n 2, 1) := by decide +kernel
theorem dX11_placeOf_54 : decode cX11_placeOf 54 = .ok (.istore_n 2, 1) := by decide +kernel
theorem dX11_placeOf_55 : decode cX11_placeOf 55 = .ok (.iload 5, 2) := by decide +kernel
theorem dX11_placeOf_57 : decode cX11_placeOf 57 = .ok (.ifCond .ge 8, 3) := by decide +kernel
theorem dX11_placeOf_60 : decode cX11_placeOf 60 = .ok (.iload 4, 2) := by decide +kernel
theorem dX11_placeOf_62 : decode cX11_placeOf 62 = .ok (.goto 4, 3) := by decide +kernel
theorem dX11_placeOf_65 : decode cX11_placeOf 65 = .ok (.iload_n 3, 1) := by decide +kernel
theorem dX11_placeOf_66 : decode cX11_placeOf 66 = .ok (.istore_n 3, 1) := by decide +kernel
theorem dX11_placeOf_67 : decode cX11_placeOf 67 = .ok (.goto (-60), 3) := by decide +kernel
theorem dX11_placeOf_70 : decode cX11_placeOf 70 = .ok (.iload_n 2, 1) := by decide +kernel
theorem dX11_placeOf_71 : decode cX11_placeOf 71 = .ok (.sipush 5000, 3) := by decide +kernel
theorem dX11_placeOf_74 : decode cX11_placeOf 74 = .ok (.isub, 1) := by decide +kernel
theorem dX11_placeOf_75 : decode cX11_placeOf 75 = .ok (.ireturn, 1) := by decide +kernel
theorem dX11_playAll_0 : decode cX11_playAll 0 = .ok (.aload_n 0, 1) := by decide +kernel
theorem dX11_playAll_1 : decode cX11_playAll 1 = .ok (.invokevirtual 217, 3) := by decide +kernel
theorem dX11_playAll_4 : decode cX11_playAll 4 = .ok (.ifCond .ne 5, 3) := by decide +kernel
theorem dX11_playAll_7 : decode cX11_playAll 7 = .ok (.iconst 0, 1) := by decide +kernel
theorem dX11_playAll_8 : decode cX11_playAll 8 = .ok (.ireturn, 1) := by decide +kernel
theorem dX11_playAll_9 : decode cX11_playAll 9 = .ok (.aload_n 0, 1) := by decide +kernel
theorem dX11_playAll_10 : decode cX11_playAll 10 = .ok (.getfield 130, 3) := by decide +kernel
theorem dX11_playAll_13 : decode cX11_playAll 13 = .ok (.ifCond .eq 5, 3) := by decide +kernel
theorem dX11_playAll_16 : decode cX11_playAll 16 = .ok (.iconst 1, 1) := by decide +kernel
theorem dX11_playAll_17 : decode cX11_playAll 17 = .ok (.ireturn, 1) := by decide +kernel
theorem dX11_playAll_18 : decode cX11_playAll 18 = .ok (.aload_n 0, 1) := by decide +kernel
theorem dX11_playAll_19 : decode cX11_playAll 19 = .ok (.iconst 1, 1) := by decide +kernel
theorem dX11_playAll_20 : decode cX11_playAll 20 = .ok (.putfield 130, 3) := by decide +kernel
theorem dX11_playAll_23 : decode cX11_playAll 23 = .ok (.aload_n 0, 1) := by decide +kernel
theorem dX11_playAll_24 : decode cX11_playAll 24 = .ok (.iconst 0, 1) := by decide +kernel
theorem dX11_playAll_25 : decode cX11_playAll 25 = .ok (.putfield 249, 3) := by decide +kernel
theorem dX11_playAll_28 : decode cX11_playAll 28 = .ok (.iconst 0, 1) := by decide +kernel
theorem dX11_playAll_29 : decode cX11_playAll 29 = .ok (.istore_n 1, 1) := by decide +kernel
theorem dX11_playAll_30 : decode cX11_playAll 30 = .ok (.iload_n 1, 1) := by decide +kernel
theorem dX11_playAll_31 : decode cX11_playAll 31 = .ok (.aload_n 0, 1) := by decide +kernel
theorem dX11_playAll_32 : decode cX11_playAll 32 = .ok (.getfield 205, 3) := by decide +kernel
theorem dX11_playAll_35 : decode cX11_playAll 35 = .ok (.if_icmp .ge 146, 3) := by decide +kernel
theorem dX11_playAll_38 : decode cX11_playAll 38 = .ok (.aload_n 0, 1) := by decide +kernel
theorem dX11_playAll_39 : decode cX11_playAll 39 = .ok (.iload_n 1, 1) := by decide +kernel
theorem dX11_playAll_40 : decode cX11_playAll 40 = .ok (.invokevirtual 221, 3) := by decide +kernel
theorem dX11_playAll_43 : decode cX11_playAll 43 = .ok (.aload_n 0, 1) := by decide +kernel
theorem dX11_playAll_44 : decode cX11_playAll 44 = .ok (.getfield 81, 3) := by decide +kernel
theorem dX11_playAll_47 : decode cX11_playAll 47 = .ok (.iload_n 1, 1) := by decide +kernel
theorem dX11_playAll_48 : decode cX11_playAll 48 = .ok (.aload_n 0, 1) := by decide +kernel
theorem dX11_playAll_49 : decode cX11_playAll 49 = .ok (.invokevirtual 255, 3) := by decide +kernel
theorem dX11_playAll_52 : decode cX11_playAll 52 = .ok (.i2b, 1) := by decide +kernel
theorem dX11_playAll_53 : decode cX11_playAll 53 = .ok (.bastore, 1) := by decide +kernel
theorem dX11_playAll_54 : decode cX11_playAll 54 = .ok (.aload_n 0, 1) := by decide +kernel
theorem dX11_playAll_55 : decode cX11_playAll 55 = .ok (.getfield 84, 3) := by decide +kernel
theorem dX11_playAll_58 : decode cX11_playAll 58 = .ok (.iload_n 1, 1) := by decide +kernel
theorem dX11_playAll_59 : decode cX11_playAll 59 = .ok (.aload_n 0, 1) := by decide +kernel
theorem dX11_playAll_60 : decode cX11_playAll 60 = .ok (.getfield 243, 3) := by decide +kernel
theorem dX11_playAll_63 : decode cX11_playAll 63 = .ok (.i2b, 1) := by decide +kernel
theorem dX11_playAll_64 : decode cX11_playAll 64 = .ok (.bastore, 1) := by decide +kernel
theorem dX11_playAll_65 : decode cX11_playAll 65 = .ok (.aload_n 0, 1) := by decide +kernel
theorem dX11_playAll_66 : decode cX11_playAll 66 = .ok (.getfield 78, 3) := by decide +kernel
theorem dX11_playAll_69 : decode cX11_playAll 69 = .ok (.iload_n 1, 1) := by decide +kernel
theorem dX11_playAll_70 : decode cX11_playAll 70 = .ok (.aload_n 0, 1) := by decide +kernel
theorem dX11_playAll_71 : decode cX11_playAll 71 = .ok (.getfield 227, 3) := by decide +kernel
theorem dX11_playAll_74 : decode cX11_playAll 74 = .ok (.i2b, 1) := by decide +kernel
theorem dX11_playAll_75 : decode cX11_playAll 75 = .ok (.bastore, 1) := by decide +kernel
theorem dX11_playAll_76 : decode cX11_playAll 76 = .ok (.iconst 0, 1) := by decide +kernel
theorem dX11_playAll_77 : decode cX11_playAll 77 = .ok (.istore_n 2, 1) := by decide +kernel
theorem dX11_playAll_78 : decode cX11_playAll 78 = .ok (.iload_n 2, 1) := by decide +kernel
theorem dX11_playAll_79 : decode cX11_playAll 79 = .ok (.aload_n 0, 1) := by decide +kernel
theorem dX11_playAll_80 : decode cX11_playAll 80 = .ok (.getfield 227, 3) := by decide +kernel
theorem dX11_playAll_83 : decode cX11_playAll 83 = .ok (.if_icmp .ge 27, 3) := by decide +kernel
theorem dX11_playAll_86 : decode cX11_playAll 86 = .ok (.aload_n 0, 1) := by decide +kernel
theorem dX11_playAll_87 : decode cX11_playAll 87 = .ok (.getfield 75, 3) := by decide +kernel
theorem dX11_playAll_90 : decode cX11_playAll 90 = .ok (.bipush 20, 2) := by decide +kernel
theorem dX11_playAll_92 : decode cX11_playAll 92 = .ok (.iload_n 1, 1) := by decide +kernel
theorem dX11_playAll_93 : decode cX11_playAll 93 = .ok (.imul, 1) := by decide +kernel
theorem dX11_playAll_94 : decode cX11_playAll 94 = .ok (.iload_n 2, 1) := by decide +kernel
theorem dX11_playAll_95 : decode cX11_playAll 95 = .ok (.iadd, 1) := by decide +kernel
theorem dX11_playAll_96 : decode cX11_playAll 96 = .ok (.aload_n 0, 1) := by decide +kernel
theorem dX11_playAll_97 : decode cX11_playAll 97 = .ok (.getfield 123, 3) := by decide +kernel
theorem dX11_playAll_100 : decode cX11_playAll 100 = .ok (.iload_n 2, 1) := by decide +kernel
theorem dX11_playAll_101 : decode cX11_playAll 101 = .ok (.iaload, 1) := by decide +kernel
theorem dX11_playAll_102 : decode cX11_playAll 102 = .ok (.i2b, 1) := by decide +kernel
theorem dX11_playAll_103 : decode cX11_playAll 103 = .ok (.bastore, 1) := by decide +kernel
theorem dX11_playAll_104 : decode cX11_playAll 104 = .ok (.iinc 2 1, 3) := by decide +kernel
theorem dX11_playAll_107 : decode cX11_playAll 107 = .ok (.goto (-29), 3) := by decide +kernel
theorem dX11_playAll_110 : decode cX11_playAll 110 = .ok (.aload_n 0, 1) := by decide +kernel
theorem dX11_playAll_111 : decode cX11_playAll 111 = .ok (.iload_n 1, 1) := by decide +kernel
theorem dX11_playAll_112 : decode cX11_playAll 112 = .ok (.invokevirtual 259, 3) := by decide +kernel
theorem dX11_playAll_115 : decode cX11_playAll 115 = .ok (.istore_n 2, 1) := by decide +kernel
theorem dX11_playAll_116 : decode cX11_playAll 116 = .ok (.iload_n 2, 1) := by decide +kernel
theorem dX11_playAll_117 : decode cX11_playAll 117 = .ok (.ifCond .ge 58, 3) := by decide +kernel
theorem dX11_playAll_120 : decode cX11_playAll 120 = .ok (.aload_n 0, 1) := by decide +kernel
theorem dX11_playAll_121 : decode cX11_playAll 121 = .ok (.getfield 249, 3) := by decide +kernel
theorem dX11_playAll_124 : decode cX11_playAll 124 = .ok (.istore_n 3, 1) := by decide +kernel
theorem dX11_playAll_125 : decode cX11_playAll 125 = .ok (.iload_n 3, 1) := by decide +kernel
theorem dX11_playAll_126 : decode cX11_playAll 126 = .ok (.iload_n 2, 1) := by decide +kernel
theorem dX11_playAll_127 : decode cX11_playAll 127 = .ok (.sipush 5000, 3) := by decide +kernel
theorem dX11_playAll_130 : decode cX11_playAll 130 = .ok (.iadd, 1) := by decide +kernel
theorem dX11_playAll_131 : decode cX11_playAll 131 = .ok (.if_icmp .le 23, 3) := by decide +kernel
theorem dX11_playAll_134 : decode cX11_playAll 134 = .ok (.aload_n 0, 1) := by decide +kernel
theorem dX11_playAll_135 : decode cX11_playAll 135 = .ok (.getfield 87, 3) := by decide +kernel
theorem dX11_playAll_138 : decode cX11_playAll 138 = .ok (.iload_n 3, 1) := by decide +kernel
theorem dX11_playAll_139 : decode cX11_playAll 139 = .ok (.aload_n 0, 1) := by decide +kernel
theorem dX11_playAll_140 : decode cX11_playAll 140 = .ok (.getfield 87, 3) := by decide +kernel
theorem dX11_playAll_143 : decode cX11_playAll 143 = .ok (.iload_n 3, 1) := by decide +kernel
theorem dX11_playAll_144 : decode cX11_playAll 144 = .ok (.iconst 1, 1) := by decide +kernel
theorem dX11_playAll_145 : decode cX11_playAll 145 = .ok (.isub, 1) := by decide +kernel
theorem dX11_playAll_146 : decode cX11_playAll 146 = .ok (.iaload, 1) := by decide +kernel
theorem dX11_playAll_147 : decode cX11_playAll 147 = .ok (.iastore, 1) := by decide +kernel
theorem dX11_playAll_148 : decode cX11_playAll 148 = .ok (.iinc 3 (-1), 3) := by decide +kernel
theorem dX11_playAll_151 : decode cX11_playAll 151 = .ok (.goto (-26), 3) := by decide +kernel
theorem dX11_playAll_154 : decode cX11_playAll 154 = .ok (.aload_n 0, 1) := by decide +kernel
theorem dX11_playAll_155 : decode cX11_playAll 155 = .ok (.getfield 87, 3) := by decide +kernel
theorem dX11_playAll_158 : decode cX11_playAll 158 = .ok (.iload_n 2, 1) := by decide +kernel
theorem dX11_playAll_159 : decode cX11_playAll 159 = .ok (.sipush 5000, 3) := by decide +kernel
theorem dX11_playAll_162 : decode cX11_playAll 162 = .ok (.iadd, 1) := by decide +kernel
theorem dX11_playAll_163 : decode cX11_playAll 163 = .ok (.iload_n 1, 1) := by decide +kernel
theorem dX11_playAll_164 : decode cX11_playAll 164 = .ok (.iastore, 1) := by decide +kernel
theorem dX11_playAll_165 : decode cX11_playAll 165 = .ok (.aload_n 0, 1) := by decide +kernel
theorem dX11_playAll_166 : decode cX11_playAll 166 = .ok (.dup, 1) := by decide +kernel
theorem dX11_playAll_167 : decode cX11_playAll 167 = .ok (.getfield 249, 3) := by decide +kernel
theorem dX11_playAll_170 : decode cX11_playAll 170 = .ok (.iconst 1, 1) := by decide +kernel
theorem dX11_playAll_171 : decode cX11_playAll 171 = .ok (.iadd, 1) := by decide +kernel
theorem dX11_playAll_172 : decode cX11_playAll 172 = .ok (.putfield 249, 3) := by decide +kernel
theorem dX11_playAll_175 : decode cX11_playAll 175 = .ok (.iinc 1 1, 3) := by decide +kernel
theorem dX11_playAll_178 : decode cX11_playAll 178 = .ok (.goto (-148), 3) := by decide +kernel
theorem dX11_playAll_181 : decode cX11_playAll 181 = .ok (.iconst 0, 1) := by decide +kernel
theorem dX11_playAll_182 : decode cX11_playAll 182 = .ok (.istore_n 1, 1) := by decide +kernel
theorem dX11_playAll_183 : decode cX11_playAll 183 = .ok (.iload_n 1, 1) := by decide +kernel
theorem dX11_playAll_184 : decode cX11_playAll 184 = .ok (.aload_n 0, 1) := by decide +kernel
theorem dX11_playAll_185 : decode cX11_playAll 185 = .ok (.getfield 205, 3) := by decide +kernel
theorem dX11_playAll_188 : decode cX11_playAll 188 = .ok (.if_icmp .ge 20, 3) := by decide +kernel
theorem dX11_playAll_191 : decode cX11_playAll 191 = .ok (.aload_n 0, 1) := by decide +kernel
theorem dX11_playAll_192 : decode cX11_playAll 192 = .ok (.getfield 90, 3) := by decide +kernel
theorem dX11_playAll_195 : decode cX11_playAll 195 = .ok (.iload_n 1, 1) := by decide +kernel
theorem dX11_playAll_196 : decode cX11_playAll 196 = .ok (.aload_n 0, 1) := by decide +kernel
theorem dX11_playAll_197 : decode cX11_playAll 197 = .ok (.iload_n 1, 1) := by decide +kernel
theorem dX11_playAll_198 : decode cX11_playAll 198 = .ok (.invokevirtual 259, 3) := by decide +kernel
theorem dX11_playAll_201 : decode cX11_playAll 201 = .ok (.iastore, 1) := by decide +kernel
theorem dX11_playAll_202 : decode cX11_playAll 202 = .ok (.iinc 1 1, 3) := by decide +kernel
theorem dX11_playAll_205 : decode cX11_playAll 205 = .ok (.goto (-22), 3) := by decide +kernel
theorem dX11_playAll_208 : decode cX11_playAll 208 = .ok (.iconst 1, 1) := by decide +kernel
theorem dX11_playAll_209 : decode cX11_playAll 209 = .ok (.ireturn, 1) := by decide +kernel
theorem dX11_ends_0 : decode cX11_ends 0 = .ok (.aload_n 0, 1) := by decide +kernel
theorem dX11_ends_1 : decode cX11_ends 1 = .ok (.invokevirtual 262, 3) := by decide +kernel
theorem dX11_ends_4 : decode cX11_ends 4 = .ok (.ifCond .eq 10, 3) := by decide +kernel
theorem dX11_ends_7 : decode cX11_ends 7 = .ok (.aload_n 0, 1) := by decide +kernel
theorem dX11_ends_8 : decode cX11_ends 8 = .ok (.getfield 249, 3) := by decide +kernel
theorem dX11_ends_11 : decode cX11_ends 11 = .ok (.goto 5, 3) := by decide +kernel
theorem dX11_ends_14 : decode cX11_ends 14 = .ok (.bipush (-104), 2) := by decide +kernel
theorem dX11_ends_16 : decode cX11_ends 16 = .ok (.ireturn, 1) := by decide +kernel
theorem dX11_end_0 : decode cX11_end 0 = .ok (.aload_n 0, 1) := by decide +kernel
theorem dX11_end_1 : decode cX11_end 1 = .ok (.invokevirtual 262, 3) := by decide +kernel
theorem dX11_end_4 : decode cX11_end 4 = .ok (.ifCond .ne 6, 3) := by decide +kernel
theorem dX11_end_7 : decode cX11_end 7 = .ok (.bipush (-104), 2) := by decide +kernel
theorem dX11_end_9 : decode cX11_end 9 = .ok (.ireturn, 1) := by decide +kernel
theorem dX11_end_10 : decode cX11_end 10 = .ok (.iload_n 1, 1) := by decide +kernel
theorem dX11_end_11 : decode cX11_end 11 = .ok (.iconst 0, 1) := by decide +kernel
theorem dX11_end_12 : decode cX11_end 12 = .ok (.aload_n 0, 1) := by decide +kernel
theorem dX11_end_13 : decode cX11_end 13 = .ok (.getfield 249, 3) := by decide +kernel
theorem dX11_end_16 : decode cX11_end 16 = .ok (.iconst 1, 1) := by decide +kernel
theorem dX11_end_17 : decode cX11_end 17 = .ok (.isub, 1) := by decide +kernel
theorem dX11_end_18 : decode cX11_end 18 = .ok (.invokestatic 136, 3) := by decide +kernel
theorem dX11_end_21 : decode cX11_end 21 = .ok (.ifCond .ne 6, 3) := by decide +kernel
theorem dX11_end_24 : decode cX11_end 24 = .ok (.bipush (-101), 2) := by decide +kernel
theorem dX11_end_26 : decode cX11_end 26 = .ok (.ireturn, 1) := by decide +kernel
theorem dX11_end_27 : decode cX11_end 27 = .ok (.aload_n 0, 1) := by decide +kernel
theorem dX11_end_28 : decode cX11_end 28 = .ok (.getfield 87, 3) := by decide +kernel
theorem dX11_end_31 : decode cX11_end 31 = .ok (.iload_n 1, 1) := by decide +kernel
theorem dX11_end_32 : decode cX11_end 32 = .ok (.iaload, 1) := by decide +kernel
theorem dX11_end_33 : decode cX11_end 33 = .ok (.istore_n 3, 1) := by decide +kernel
theorem dX11_end_34 : decode cX11_end 34 = .ok (.iconst 0, 1) := by decide +kernel
theorem dX11_end_35 : decode cX11_end 35 = .ok (.istore 4, 2) := by decide +kernel
theorem dX11_end_37 : decode cX11_end 37 = .ok (.iconst 0, 1) := by decide +kernel
theorem dX11_end_38 : decode cX11_end 38 = .ok (.istore 5, 2) := by decide +kernel
theorem dX11_end_40 : decode cX11_end 40 = .ok (.iconst 0, 1) := by decide +kernel
theorem dX11_end_41 : decode cX11_end 41 = .ok (.istore 6, 2) := by decide +kernel
theorem dX11_end_43 : decode cX11_end 43 = .ok (.iload 6, 2) := by decide +kernel
theorem dX11_end_45 : decode cX11_end 45 = .ok (.aload_n 0, 1) := by decide +kernel
theorem dX11_end_46 : decode cX11_end 46 = .ok (.getfield 205, 3) := by decide +kernel
theorem dX11_end_49 : decode cX11_end 49 = .ok (.if_icmp .ge 61, 3) := by decide +kernel
theorem dX11_end_52 : decode cX11_end 52 = .ok (.iload 4, 2) := by decide +kernel
theorem dX11_end_54 : decode cX11_end 54 = .ok (.aload_n 0, 1) := by decide +kernel
theorem dX11_end_55 : decode cX11_end 55 = .ok (.getfield 90, 3) := by decide +kernel
theorem dX11_end_58 : decode cX11_end 58 = .ok (.iload 6, 2) := by decide +kernel
theorem dX11_end_60 : decode cX11_end 60 = .ok (.iaload, 1) := by decide +kernel
theorem dX11_end_61 : decode cX11_end 61 = .ok (.iload_n 1, 1) := by decide +kernel
theorem dX11_end_62 : decode cX11_end 62 = .ok (.if_icmp .ne 7, 3) := by decide +kernel
theorem dX11_end_65 : decode cX11_end 65 = .ok (.iconst 1, 1) := by decide +kernel
theorem dX11_end_66 : decode cX11_end 66 = .ok (.goto 4, 3) := by decide +kernel
theorem dX11_end_69 : decode cX11_end 69 = .ok (.iconst 0, 1) := by decide +kernel
theorem dX11_end_70 : decode cX11_end 70 = .ok (.iadd, 1) := by decide +kernel
theorem dX11_end_71 : decode cX11_end 71 = .ok (.istore 4, 2) := by decide +kernel
theorem dX11_end_73 : decode cX11_end 73 = .ok (.iload 5, 2) := by decide +kernel
theorem dX11_end_75 : decode cX11_end 75 = .ok (.aload_n 0, 1) := by decide +kernel
theorem dX11_end_76 : decode cX11_end 76 = .ok (.getfield 90, 3) := by decide +kernel
theorem dX11_end_79 : decode cX11_end 79 = .ok (.iload 6, 2) := by decide +kernel
theorem dX11_end_81 : decode cX11_end 81 = .ok (.iaload, 1) := by decide +kernel
theorem dX11_end_82 : decode cX11_end 82 = .ok (.iload_n 1, 1) := by decide +kernel
theorem dX11_end_83 : decode cX11_end 83 = .ok (.if_icmp .ne 17, 3) := by decide +kernel
theorem dX11_end_86 : decode cX11_end 86 = .ok (.aload_n 0, 1) := by decide +kernel
theorem dX11_end_87 : decode cX11_end 87 = .ok (.getfield 70, 3) := by decide +kernel
theorem dX11_end_90 : decode cX11_end 90 = .ok (.iload 6, 2) := by decide +kernel
theorem dX11_end_92 : decode cX11_end 92 = .ok (.baload, 1) := by decide +kernel
theorem dX11_end_93 : decode cX11_end 93 = .ok (.ifCond .eq 7, 3) := by decide +kernel
theorem dX11_end_96 : decode cX11_end 96 = .ok (.iconst 1, 1) := by decide +kernel
theorem dX11_end_97 : decode cX11_end 97 = .ok (.goto 4, 3) := by decide +kernel
theorem dX11_end_100 : decode cX11_end 100 = .ok (.iconst 0, 1) := by decide +kernel
theorem dX11_end_101 : decode cX11_end 101 = .ok (.iadd, 1) := by decide +kernel
theorem dX11_end_102 : decode cX11_end 102 = .ok (.istore 5, 2) := by decide +kernel
theorem dX11_end_104 : decode cX11_end 104 = .ok (.iinc 6 1, 3) := by decide +kernel
theorem dX11_end_107 : decode cX11_end 107 = .ok (.goto (-64), 3) := by decide +kernel
theorem dX11_end_110 : decode cX11_end 110 = .ok (.iload_n 2, 1) := by decide +kernel
theorem dX11_end_111 : decode cX11_end 111 = .ok (.tableswitch 60 0 4 #[33, 40, 47, 50, 53], 33) := by decide +kernel
theorem dX11_end_144 : decode cX11_end 144 = .ok (.aload_n 0, 1) := by decide +kernel
theorem dX11_end_145 : decode cX11_end 145 = .ok (.getfield 81, 3) := by decide +kernel
theorem dX11_end_148 : decode cX11_end 148 = .ok (.iload_n 3, 1) := by decide +kernel
theorem dX11_end_149 : decode cX11_end 149 = .ok (.baload, 1) := by decide +kernel
theorem dX11_end_150 : decode cX11_end 150 = .ok (.ireturn, 1) := by decide +kernel
theorem dX11_end_151 : decode cX11_end 151 = .ok (.aload_n 0, 1) := by decide +kernel
theorem dX11_end_152 : decode cX11_end 152 = .ok (.getfield 78, 3) := by decide +kernel
theorem dX11_end_155 : decode cX11_end 155 = .ok (.iload_n 3, 1) := by decide +kernel
theorem dX11_end_156 : decode cX11_end 156 = .ok (.baload, 1) := by decide +kernel
theorem dX11_end_157 : decode cX11_end 157 = .ok (.ireturn, 1) := by decide +kernel
theorem dX11_end_158 : decode cX11_end 158 = .ok (.iload 4, 2) := by decide +kernel
theorem dX11_end_160 : decode cX11_end 160 = .ok (.ireturn, 1) := by decide +kernel
theorem dX11_end_161 : decode cX11_end 161 = .ok (.iload 5, 2) := by decide +kernel
theorem dX11_end_163 : decode cX11_end 163 = .ok (.ireturn, 1) := by decide +kernel
theorem dX11_end_164 : decode cX11_end 164 = .ok (.aload_n 0, 1) := by decide +kernel
theorem dX11_end_165 : decode cX11_end 165 = .ok (.getfield 84, 3) := by decide +kernel
theorem dX11_end_168 : decode cX11_end 168 = .ok (.iload_n 3, 1) := by decide +kernel
theorem dX11_end_169 : decode cX11_end 169 = .ok (.baload, 1) := by decide +kernel
theorem dX11_end_170 : decode cX11_end 170 = .ok (.ireturn, 1) := by decide +kernel
theorem dX11_end_171 : decode cX11_end 171 = .ok (.bipush (-102), 2) := by decide +kernel
theorem dX11_end_173 : decode cX11_end 173 = .ok (.ireturn, 1) := by decide +kernel
theorem dX11_look_0 : decode cX11_look 0 = .ok (.aload_n 0, 1) := by decide +kernel
theorem dX11_look_1 : decode cX11_look 1 = .ok (.invokevirtual 262, 3) := by decide +kernel
theorem dX11_look_4 : decode cX11_look 4 = .ok (.ifCond .ne 6, 3) := by decide +kernel
theorem dX11_look_7 : decode cX11_look 7 = .ok (.bipush (-104), 2) := by decide +kernel
theorem dX11_look_9 : decode cX11_look 9 = .ok (.ireturn, 1) := by decide +kernel
theorem dX11_look_10 : decode cX11_look 10 = .ok (.iload_n 1, 1) := by decide +kernel
theorem dX11_look_11 : decode cX11_look 11 = .ok (.iconst 0, 1) := by decide +kernel
theorem dX11_look_12 : decode cX11_look 12 = .ok (.aload_n 0, 1) := by decide +kernel
theorem dX11_look_13 : decode cX11_look 13 = .ok (.getfield 249, 3) := by decide +kernel
theorem dX11_look_16 : decode cX11_look 16 = .ok (.iconst 1, 1) := by decide +kernel
theorem dX11_look_17 : decode cX11_look 17 = .ok (.isub, 1) := by decide +kernel
theorem dX11_look_18 : decode cX11_look 18 = .ok (.invokestatic 136, 3) := by decide +kernel
theorem dX11_look_21 : decode cX11_look 21 = .ok (.ifCond .eq 7, 3) := by decide +kernel
theorem dX11_look_24 : decode cX11_look 24 = .ok (.iload_n 2, 1) := by decide +kernel
theorem dX11_look_25 : decode cX11_look 25 = .ok (.ifCond .ge 6, 3) := by decide +kernel
theorem dX11_look_28 : decode cX11_look 28 = .ok (.bipush (-101), 2) := by decide +kernel
theorem dX11_look_30 : decode cX11_look 30 = .ok (.ireturn, 1) := by decide +kernel
theorem dX11_look_31 : decode cX11_look 31 = .ok (.iload_n 2, 1) := by decide +kernel
theorem dX11_look_32 : decode cX11_look 32 = .ok (.aload_n 0, 1) := by decide +kernel
theorem dX11_look_33 : decode cX11_look 33 = .ok (.getfield 78, 3) := by decide +kernel
theorem dX11_look_36 : decode cX11_look 36 = .ok (.aload_n 0, 1) := by decide +kernel
theorem dX11_look_37 : decode cX11_look 37 = .ok (.getfield 87, 3) := by decide +kernel
theorem dX11_look_40 : decode cX11_look 40 = .ok (.iload_n 1, 1) := by decide +kernel
theorem dX11_look_41 : decode cX11_look 41 = .ok (.iaload, 1) := by decide +kernel
theorem dX11_look_42 : decode cX11_look 42 = .ok (.baload, 1) := by decide +kernel
theorem dX11_look_43 : decode cX11_look 43 = .ok (.if_icmp .ge 22, 3) := by decide +kernel
theorem dX11_look_46 : decode cX11_look 46 = .ok (.aload_n 0, 1) := by decide +kernel
theorem dX11_look_47 : decode cX11_look 47 = .ok (.getfield 75, 3) := by decide +kernel
theorem dX11_look_50 : decode cX11_look 50 = .ok (.bipush 20, 2) := by decide +kernel
theorem dX11_look_52 : decode cX11_look 52 = .ok (.aload_n 0, 1) := by decide +kernel
theorem dX11_look_53 : decode cX11_look 53 = .ok (.getfield 87, 3) := by decide +kernel
theorem dX11_look_56 : decode cX11_look 56 = .ok (.iload_n 1, 1) := by decide +kernel
theorem dX11_look_57 : decode cX11_look 57 = .ok (.iaload, 1) := by decide +kernel
theorem dX11_look_58 : decode cX11_look 58 = .ok (.imul, 1) := by decide +kernel
theorem dX11_look_59 : decode cX11_look 59 = .ok (.iload_n 2, 1) := by decide +kernel
theorem dX11_look_60 : decode cX11_look 60 = .ok (.iadd, 1) := by decide +kernel
theorem dX11_look_61 : decode cX11_look 61 = .ok (.baload, 1) := by decide +kernel
theorem dX11_look_62 : decode cX11_look 62 = .ok (.goto 4, 3) := by decide +kernel
theorem dX11_look_65 : decode cX11_look 65 = .ok (.iconst (-1), 1) := by decide +kernel
theorem dX11_look_66 : decode cX11_look 66 = .ok (.ireturn, 1) := by decide +kernel
theorem dX11_endOf_0 : decode cX11_endOf 0 = .ok (.aload_n 0, 1) := by decide +kernel
theorem dX11_endOf_1 : decode cX11_endOf 1 = .ok (.invokevirtual 262, 3) := by decide +kernel
theorem dX11_endOf_4 : decode cX11_endOf 4 = .ok (.ifCond .ne 6, 3) := by decide +kernel
theorem dX11_endOf_7 : decode cX11_endOf 7 = .ok (.bipush (-104), 2) := by decide +kernel
theorem dX11_endOf_9 : decode cX11_endOf 9 = .ok (.ireturn, 1) := by decide +kernel
theorem dX11_endOf_10 : decode cX11_endOf 10 = .ok (.iload_n 1, 1) := by decide +kernel
theorem dX11_endOf_11 : decode cX11_endOf 11 = .ok (.iconst 0, 1) := by decide +kernel
theorem dX11_endOf_12 : decode cX11_endOf 12 = .ok (.aload_n 0, 1) := by decide +kernel
theorem dX11_endOf_13 : decode cX11_endOf 13 = .ok (.getfield 208, 3) := by decide +kernel
theorem dX11_endOf_16 : decode cX11_endOf 16 = .ok (.iconst 1, 1) := by decide +kernel
theorem dX11_endOf_17 : decode cX11_endOf 17 = .ok (.isub, 1) := by decide +kernel
theorem dX11_endOf_18 : decode cX11_endOf 18 = .ok (.invokestatic 136, 3) := by decide +kernel
theorem dX11_endOf_21 : decode cX11_endOf 21 = .ok (.ifCond .eq 17, 3) := by decide +kernel
theorem dX11_endOf_24 : decode cX11_endOf 24 = .ok (.aload_n 0, 1) := by decide +kernel
theorem dX11_endOf_25 : decode cX11_endOf 25 = .ok (.getfield 90, 3) := by decide +kernel
theorem dX11_endOf_28 : decode cX11_endOf 28 = .ok (.aload_n 0, 1) := by decide +kernel
theorem dX11_endOf_29 : decode cX11_endOf 29 = .ok (.getfield 67, 3) := by decide +kernel
theorem dX11_endOf_32 : decode cX11_endOf 32 = .ok (.iload_n 1, 1) := by decide +kernel
theorem dX11_endOf_33 : decode cX11_endOf 33 = .ok (.iaload, 1) := by decide +kernel
theorem dX11_endOf_34 : decode cX11_endOf 34 = .ok (.iaload, 1) := by decide +kernel
theorem dX11_endOf_35 : decode cX11_endOf 35 = .ok (.goto 5, 3) := by decide +kernel
theorem dX11_endOf_38 : decode cX11_endOf 38 = .ok (.bipush (-101), 2) := by decide +kernel
theorem dX11_endOf_40 : decode cX11_endOf 40 = .ok (.ireturn, 1) := by decide +kernel
end
section
theorem dX8_init_0 : decode cX8_init 0 = .ok (.aload_n 0, 1) := by decide +kernel
theorem dX8_init_1 : decode cX8_init 1 = .ok (.invokespecial 3, 3) := by decide +kernel
theorem dX8_init_4 : decode cX8_init 4 = .ok (.aload_n 0, 1) := by decide +kernel
theorem dX8_init_5 : decode cX8_init 5 = .ok (.iconst 4, 1) := by decide +kernel
theorem dX8_init_6 : decode cX8_init 6 = .ok (.newarray .int, 2) := by decide +kernel
theorem dX8_init_8 : decode cX8_init 8 = .ok (.putfield 9, 3) := by decide +kernel
theorem dX8_init_11 : decode cX8_init 11 = .ok (.aload_n 0, 1) := by decide +kernel
theorem dX8_init_12 : decode cX8_init 12 = .ok (.iconst 4, 1) := by decide +kernel
theorem dX8_init_13 : decode cX8_init 13 = .ok (.newarray .int, 2) := by decide +kernel
theorem dX8_init_15 : decode cX8_init 15 = .ok (.putfield 15, 3) := by decide +kernel
theorem dX8_init_18 : decode cX8_init 18 = .ok (.aload_n 0, 1) := by decide +kernel
theorem dX8_init_19 : decode cX8_init 19 = .ok (.bipush 16, 2) := by decide +kernel
theorem dX8_init_21 : decode cX8_init 21 = .ok (.newarray .int, 2) := by decide +kernel
theorem dX8_init_23 : decode cX8_init 23 = .ok (.putfield 18, 3) := by decide +kernel
theorem dX8_init_26 : decode cX8_init 26 = .ok (.aload_n 0, 1) := by decide +kernel
theorem dX8_init_27 : decode cX8_init 27 = .ok (.iconst 2, 1) := by decide +kernel
theorem dX8_init_28 : decode cX8_init 28 = .ok (.newarray .int, 2) := by decide +kernel
theorem dX8_init_30 : decode cX8_init 30 = .ok (.putfield 21, 3) := by decide +kernel
theorem dX8_init_33 : decode cX8_init 33 = .ok (.aload_n 0, 1) := by decide +kernel
theorem dX8_init_34 : decode cX8_init 34 = .ok (.iconst 0, 1) := by decide +kernel
theorem dX8_init_35 : decode cX8_init 35 = .ok (.putfield 24, 3) := by decide +kernel
theorem dX8_init_38 : decode cX8_init 38 = .ok (.aload_n 0, 1) := by decide +kernel
theorem dX8_init_39 : decode cX8_init 39 = .ok (.iconst 0, 1) := by decide +kernel
theorem dX8_init_40 : decode cX8_init 40 = .ok (.putfield 28, 3) := by decide +kernel
theorem dX8_init_43 : decode cX8_init 43 = .ok (.aload_n 0, 1) := by decide +kernel
theorem dX8_init_44 : decode cX8_init 44 = .ok (.iconst 3, 1) := by decide +kernel
theorem dX8_init_45 : decode cX8_init 45 = .ok (.putfield 31, 3) := by decide +kernel
theorem dX8_init_48 : decode cX8_init 48 = .ok (.return_, 1) := by decide +kernel
theorem dX8_isRefType_0 : decode cX8_isRefType 0 = .ok (.iload_n 0, 1) := by decide +kernel
theorem dX8_isRefType_1 : decode cX8_isRefType 1 = .ok (.ifCond .lt 12, 3) := by decide +kernel
theorem dX8_isRefType_4 : decode cX8_isRefType 4 = .ok (.iload_n 0, 1) := by decide +kernel
theorem dX8_isRefType_5 : decode cX8_isRefType 5 = .ok (.iconst 4, 1) := by decide +kernel
theorem dX8_isRefType_6 : decode cX8_isRefType 6 = .ok (.if_icmp .ge 7, 3) := by decide +kernel
theorem dX8_isRefType_9 : decode cX8_isRefType 9 = .ok (.iconst 1, 1) := by decide +kernel
theorem dX8_isRefType_10 : decode cX8_isRefType 10 = .ok (.goto 4, 3) := by decide +kernel
theorem dX8_isRefType_13 : decode cX8_isRefType 13 = .ok (.iconst 0, 1) := by decide +kernel
theorem dX8_isRefType_14 : decode cX8_isRefType 14 = .ok (.ireturn, 1) := by decide +kernel
theorem dX8_isKind_0 : decode cX8_isKind 0 = .ok (.iload_n 1, 1) := by decide +kernel
theorem dX8_isKind_1 : decode cX8_isKind 1 = .ok (.ifCond .lt 15, 3) := by decide +kernel
theorem dX8_isKind_4 : decode cX8_isKind 4 = .ok (.iload_n 1, 1) := by decide +kernel
theorem dX8_isKind_5 : decode cX8_isKind 5 = .ok (.aload_n 0, 1) := by decide +kernel
theorem dX8_isKind_6 : decode cX8_isKind 6 = .ok (.getfield 24, 3) := by decide +kernel
theorem dX8_isKind_9 : decode cX8_isKind 9 = .ok (.if_icmp .ge 7, 3) := by decide +kernel
theorem dX8_isKind_12 : decode cX8_isKind 12 = .ok (.iconst 1, 1) := by decide +kernel
theorem dX8_isKind_13 : decode cX8_isKind 13 = .ok (.goto 4, 3) := by decide +kernel
theorem dX8_isKind_16 : decode cX8_isKind 16 = .ok (.iconst 0, 1) := by decide +kernel
theorem dX8_isKind_17 : decode cX8_isKind 17 = .ok (.ireturn, 1) := by decide +kernel
theorem dX8_isUnder_0 : decode cX8_isUnder 0 = .ok (.iload_n 1, 1) := by decide +kernel
theorem dX8_isUnder_1 : decode cX8_isUnder 1 = .ok (.ifCond .lt 41, 3) := by decide +kernel
theorem dX8_isUnder_4 : decode cX8_isUnder 4 = .ok (.iload_n 1, 1) := by decide +kernel
theorem dX8_isUnder_5 : decode cX8_isUnder 5 = .ok (.aload_n 0, 1) := by decide +kernel
theorem dX8_isUnder_6 : decode cX8_isUnder 6 = .ok (.getfield 24, 3) := by decide +kernel
theorem dX8_isUnder_9 : decode cX8_isUnder 9 = .ok (.if_icmp .ge 33, 3) := by decide +kernel
theorem dX8_isUnder_12 : decode cX8_isUnder 12 = .ok (.iload_n 2, 1) := by decide +kernel
theorem dX8_isUnder_13 : decode cX8_isUnder 13 = .ok (.ifCond .lt 29, 3) := by decide +kernel
theorem dX8_isUnder_16 : decode cX8_isUnder 16 = .ok (.iload_n 2, 1) := by decide +kernel
theorem dX8_isUnder_17 : decode cX8_isUnder 17 = .ok (.aload_n 0, 1) := by decide +kernel
theorem dX8_isUnder_18 : decode cX8_isUnder 18 = .ok (.getfield 24, 3) := by decide +kernel
theorem dX8_isUnder_21 : decode cX8_isUnder 21 = .ok (.if_icmp .ge 21, 3) := by decide +kernel
theorem dX8_isUnder_24 : decode cX8_isUnder 24 = .ok (.aload_n 0, 1) := by decide +kernel
theorem dX8_isUnder_25 : decode cX8_isUnder 25 = .ok (.getfield 9, 3) := by decide +kernel
theorem dX8_isUnder_28 : decode cX8_isUnder 28 = .ok (.iload_n 1, 1) := by decide +kernel
theorem dX8_isUnder_29 : decode cX8_isUnder 29 = .ok (.iaload, 1) := by decide +kernel
theorem dX8_isUnder_30 : decode cX8_isUnder 30 = .ok (.iload_n 2, 1) := by decide +kernel
theorem dX8_isUnder_31 : decode cX8_isUnder 31 = .ok (.ishr, 1) := by decide +kernel
theorem dX8_isUnder_32 : decode cX8_isUnder 32 = .ok (.iconst 1, 1) := by decide +kernel
theorem dX8_isUnder_33 : decode cX8_isUnder 33 = .ok (.iand, 1) := by decide +kernel
theorem dX8_isUnder_34 : decode cX8_isUnder 34 = .ok (.iconst 1, 1) := by decide +kernel
theorem dX8_isUnder_35 : decode cX8_isUnder 35 = .ok (.if_icmp .ne 7, 3) := by decide +kernel
theorem dX8_isUnder_38 : decode cX8_isUnder 38 = .ok (.iconst 1, 1) := by decide +kernel
theorem dX8_isUnder_39 : decode cX8_isUnder 39 = .ok (.goto 4, 3) := by decide +kernel
theorem dX8_isUnder_42 : decode cX8_isUnder 42 = .ok (.iconst 0, 1) := by decide +kernel
theorem dX8_isUnder_43 : decode cX8_isUnder 43 = .ok (.ireturn, 1) := by decide +kernel
theorem dX8_isSuper_0 : decode cX8_isSuper 0 = .ok (.iload_n 1, 1) := by decide +kernel
theorem dX8_isSuper_1 : decode cX8_isSuper 1 = .ok (.iconst 1, 1) := by decide +kernel
theorem dX8_isSuper_2 : decode cX8_isSuper 2 = .ok (.iadd, 1) := by decide +kernel
theorem dX8_isSuper_3 : decode cX8_isSuper 3 = .ok (.istore_n 2, 1) := by decide +kernel
theorem dX8_isSuper_4 : decode cX8_isSuper 4 = .ok (.iload_n 2, 1) := by decide +kernel
theorem dX8_isSuper_5 : decode cX8_isSuper 5 = .ok (.aload_n 0, 1) := by decide +kernel
theorem dX8_isSuper_6 : decode cX8_isSuper 6 = .ok (.getfield 24, 3) := by decide +kernel
theorem dX8_isSuper_9 : decode cX8_isSuper 9 = .ok (.if_icmp .ge 20, 3) := by decide +kernel
theorem dX8_isSuper_12 : decode cX8_isSuper 12 = .ok (.aload_n 0, 1) := by decide +kernel
theorem dX8_isSuper_13 : decode cX8_isSuper 13 = .ok (.iload_n 2, 1) := by decide +kernel
theorem dX8_isSuper_14 : decode cX8_isSuper 14 = .ok (.iload_n 1, 1) := by decide +kernel
theorem dX8_isSuper_15 : decode cX8_isSuper 15 = .ok (.invokevirtual 34, 3) := by decide +kernel
theorem dX8_isSuper_18 : decode cX8_isSuper 18 = .ok (.ifCond .eq 5, 3) := by decide +kernel
theorem dX8_isSuper_21 : decode cX8_isSuper 21 = .ok (.iconst 1, 1) := by decide +kernel
theorem dX8_isSuper_22 : decode cX8_isSuper 22 = .ok (.ireturn, 1) := by decide +kernel
theorem dX8_isSuper_23 : decode cX8_isSuper 23 = .ok (.iinc 2 1, 3) := by decide +kernel
theorem dX8_isSuper_26 : decode cX8_isSuper 26 = .ok (.goto (-22), 3) := by decide +kernel
theorem dX8_isSuper_29 : decode cX8_isSuper 29 = .ok (.iconst 0, 1) := by decide +kernel
theorem dX8_isSuper_30 : decode cX8_isSuper 30 = .ok (.ireturn, 1) := by decide +kernel
theorem dX8_fieldsOf_0 : decode cX8_fieldsOf 0 = .ok (.iload_n 1, 1) := by decide +kernel
theorem dX8_fieldsOf_1 : decode cX8_fieldsOf 1 = .ok (.ifCond .lt 20, 3) := by decide +kernel
theorem dX8_fieldsOf_4 : decode cX8_fieldsOf 4 = .ok (.iload_n 1, 1) := by decide +kernel
theorem dX8_fieldsOf_5 : decode cX8_fieldsOf 5 = .ok (.aload_n 0, 1) := by decide +kernel
theorem dX8_fieldsOf_6 : decode cX8_fieldsOf 6 = .ok (.getfield 24, 3) := by decide +kernel
theorem dX8_fieldsOf_9 : decode cX8_fieldsOf 9 = .ok (.if_icmp .ge 12, 3) := by decide +kernel
theorem dX8_fieldsOf_12 : decode cX8_fieldsOf 12 = .ok (.aload_n 0, 1) := by decide +kernel
theorem dX8_fieldsOf_13 : decode cX8_fieldsOf 13 = .ok (.getfield 15, 3) := by decide +kernel
theorem dX8_fieldsOf_16 : decode cX8_fieldsOf 16 = .ok (.iload_n 1, 1) := by decide +kernel
theorem dX8_fieldsOf_17 : decode cX8_fieldsOf 17 = .ok (.iaload, 1) := by decide +kernel
theorem dX8_fieldsOf_18 : decode cX8_fieldsOf 18 = .ok (.goto 4, 3) := by decide +kernel
theorem dX8_fieldsOf_21 : decode cX8_fieldsOf 21 = .ok (.iconst 0, 1) := by decide +kernel
theorem dX8_fieldsOf_22 : decode cX8_fieldsOf 22 = .ok (.ireturn, 1) := by decide +kernel
theorem dX8_typeOf_0 : decode cX8_typeOf 0 = .ok (.iload_n 1, 1) := by decide +kernel
theorem dX8_typeOf_1 : decode cX8_typeOf 1 = .ok (.ifCond .lt 25, 3) := by decide +kernel
theorem dX8_typeOf_4 : decode cX8_typeOf 4 = .ok (.iload_n 1, 1) := by decide +kernel
theorem dX8_typeOf_5 : decode cX8_typeOf 5 = .ok (.aload_n 0, 1) := by decide +kernel
theorem dX8_typeOf_6 : decode cX8_typeOf 6 = .ok (.getfield 24, 3) := by decide +kernel
theorem dX8_typeOf_9 : decode cX8_typeOf 9 = .ok (.if_icmp .ge 17, 3) := by decide +kernel
theorem dX8_typeOf_12 : decode cX8_typeOf 12 = .ok (.iload_n 2, 1) := by decide +kernel
theorem dX8_typeOf_13 : decode cX8_typeOf 13 = .ok (.ifCond .lt 13, 3) := by decide +kernel
theorem dX8_typeOf_16 : decode cX8_typeOf 16 = .ok (.iload_n 2, 1) := by decide +kernel
theorem dX8_typeOf_17 : decode cX8_typeOf 17 = .ok (.aload_n 0, 1) := by decide +kernel
theorem dX8_typeOf_18 : decode cX8_typeOf 18 = .ok (.getfield 15, 3) := by decide +kernel
theorem dX8_typeOf_21 : decode cX8_typeOf 21 = .ok (.iload_n 1, 1) := by decide +kernel
theorem dX8_typeOf_22 : decode cX8_typeOf 22 = .ok (.iaload, 1) := by decide +kernel
theorem dX8_typeOf_23 : decode cX8_typeOf 23 = .ok (.if_icmp .lt 5, 3) := by decide +kernel
theorem dX8_typeOf_26 : decode cX8_typeOf 26 = .ok (.iconst (-1), 1) := by decide +kernel
theorem dX8_typeOf_27 : decode cX8_typeOf 27 = .ok (.ireturn, 1) := by decide +kernel
theorem dX8_typeOf_28 : decode cX8_typeOf 28 = .ok (.aload_n 0, 1) := by decide +kernel
theorem dX8_typeOf_29 : decode cX8_typeOf 29 = .ok (.getfield 18, 3) := by decide +kernel
theorem dX8_typeOf_32 : decode cX8_typeOf 32 = .ok (.iload_n 1, 1) := by decide +kernel
theorem dX8_typeOf_33 : decode cX8_typeOf 33 = .ok (.iconst 4, 1) := by decide +kernel
theorem dX8_typeOf_34 : decode cX8_typeOf 34 = .ok (.imul, 1) := by decide +kernel
theorem dX8_typeOf_35 : decode cX8_typeOf 35 = .ok (.iload_n 2, 1) := by decide +kernel
theorem dX8_typeOf_36 : decode cX8_typeOf 36 = .ok (.iadd, 1) := by decide +kernel
theorem dX8_typeOf_37 : decode cX8_typeOf 37 = .ok (.iaload, 1) := by decide +kernel
theorem dX8_typeOf_38 : decode cX8_typeOf 38 = .ok (.ireturn, 1) := by decide +kernel
theorem dX8_typeOfInput_0 : decode cX8_typeOfInput 0 = .ok (.iload_n 1, 1) := by decide +kernel
theorem dX8_typeOfInput_1 : decode cX8_typeOfInput 1 = .ok (.ifCond .lt 20, 3) := by decide +kernel
theorem dX8_typeOfInput_4 : decode cX8_typeOfInput 4 = .ok (.iload_n 1, 1) := by decide +kernel
theorem dX8_typeOfInput_5 : decode cX8_typeOfInput 5 = .ok (.aload_n 0, 1) := by decide +kernel
theorem dX8_typeOfInput_6 : decode cX8_typeOfInput 6 = .ok (.getfield 28, 3) := by decide +kernel
theorem dX8_typeOfInput_9 : decode cX8_typeOfInput 9 = .ok (.if_icmp .ge 12, 3) := by decide +kernel
theorem dX8_typeOfInput_12 : decode cX8_typeOfInput 12 = .ok (.aload_n 0, 1) := by decide +kernel
theorem dX8_typeOfInput_13 : decode cX8_typeOfInput 13 = .ok (.getfield 21, 3) := by decide +kernel
theorem dX8_typeOfInput_16 : decode cX8_typeOfInput 16 = .ok (.iload_n 1, 1) := by decide +kernel
theorem dX8_typeOfInput_17 : decode cX8_typeOfInput 17 = .ok (.iaload, 1) := by decide +kernel
theorem dX8_typeOfInput_18 : decode cX8_typeOfInput 18 = .ok (.goto 4, 3) := by decide +kernel
theorem dX8_typeOfInput_21 : decode cX8_typeOfInput 21 = .ok (.iconst (-1), 1) := by decide +kernel
theorem dX8_typeOfInput_22 : decode cX8_typeOfInput 22 = .ok (.ireturn, 1) := by decide +kernel
theorem dX8_hasField_0 : decode cX8_hasField 0 = .ok (.aload_n 0, 1) := by decide +kernel
theorem dX8_hasField_1 : decode cX8_hasField 1 = .ok (.iload_n 1, 1) := by decide +kernel
theorem dX8_hasField_2 : decode cX8_hasField 2 = .ok (.iload_n 2, 1) := by decide +kernel
theorem dX8_hasField_3 : decode cX8_hasField 3 = .ok (.invokevirtual 38, 3) := by decide +kernel
theorem dX8_hasField_6 : decode cX8_hasField 6 = .ok (.iconst (-1), 1) := by decide +kernel
theorem dX8_hasField_7 : decode cX8_hasField 7 = .ok (.if_icmp .eq 7, 3) := by decide +kernel
theorem dX8_hasField_10 : decode cX8_hasField 10 = .ok (.iconst 1, 1) := by decide +kernel
theorem dX8_hasField_11 : decode cX8_hasField 11 = .ok (.goto 4, 3) := by decide +kernel
theorem dX8_hasField_14 : decode cX8_hasField 14 = .ok (.iconst 0, 1) := by decide +kernel
theorem dX8_hasField_15 : decode cX8_hasField 15 = .ok (.ireturn, 1) := by decide +kernel
theorem dX8_isRef_0 : decode cX8_isRef 0 = .ok (.aload_n 0, 1) := by decide +kernel
theorem dX8_isRef_1 : decode cX8_isRef 1 = .ok (.iload_n 1, 1) := by decide +kernel
theorem dX8_isRef_2 : decode cX8_isRef 2 = .ok (.iload_n 2, 1) := by decide +kernel
theorem dX8_isRef_3 : decode cX8_isRef 3 = .ok (.invokevirtual 38, 3) := by decide +kernel
theorem dX8_isRef_6 : decode cX8_isRef 6 = .ok (.invokestatic 42, 3) := by decide +kernel
theorem dX8_isRef_9 : decode cX8_isRef 9 = .ok (.ireturn, 1) := by decide +kernel
theorem dX8_isNumber_0 : decode cX8_isNumber 0 = .ok (.aload_n 0, 1) := by decide +kernel
theorem dX8_isNumber_1 : decode cX8_isNumber 1 = .ok (.iload_n 1, 1) := by decide +kernel
theorem dX8_isNumber_2 : decode cX8_isNumber 2 = .ok (.iload_n 2, 1) := by decide +kernel
theorem dX8_isNumber_3 : decode cX8_isNumber 3 = .ok (.invokevirtual 38, 3) := by decide +kernel
theorem dX8_isNumber_6 : decode cX8_isNumber 6 = .ok (.iconst 4, 1) := by decide +kernel
theorem dX8_isNumber_7 : decode cX8_isNumber 7 = .ok (.if_icmp .lt 7, 3) := by decide +kernel
theorem dX8_isNumber_10 : decode cX8_isNumber 10 = .ok (.iconst 1, 1) := by decide +kernel
theorem dX8_isNumber_11 : decode cX8_isNumber 11 = .ok (.goto 4, 3) := by decide +kernel
theorem dX8_isNumber_14 : decode cX8_isNumber 14 = .ok (.iconst 0, 1) := by decide +kernel
theorem dX8_isNumber_15 : decode cX8_isNumber 15 = .ok (.ireturn, 1) := by decide +kernel
theorem dX8_addKind_0 : decode cX8_addKind 0 = .ok (.aload_n 0, 1) := by decide +kernel
theorem dX8_addKind_1 : decode cX8_addKind 1 = .ok (.getfield 24, 3) := by decide +kernel
theorem dX8_addKind_4 : decode cX8_addKind 4 = .ok (.iconst 4, 1) := by decide +kernel
theorem dX8_addKind_5 : decode cX8_addKind 5 = .ok (.if_icmp .lt 6, 3) := by decide +kernel
theorem dX8_addKind_8 : decode cX8_addKind 8 = .ok (.bipush (-104), 2) := by decide +kernel
theorem dX8_addKind_10 : decode cX8_addKind 10 = .ok (.ireturn, 1) := by decide +kernel
theorem dX8_addKind_11 : decode cX8_addKind 11 = .ok (.aload_n 0, 1) := by decide +kernel
theorem dX8_addKind_12 : decode cX8_addKind 12 = .ok (.getfield 24, 3) := by decide +kernel
theorem dX8_addKind_15 : decode cX8_addKind 15 = .ok (.istore_n 2, 1) := by decide +kernel
theorem dX8_addKind_16 : decode cX8_addKind 16 = .ok (.aload_n 0, 1) := by decide +kernel
theorem dX8_addKind_17 : decode cX8_addKind 17 = .ok (.getfield 9, 3) := by decide +kernel
theorem dX8_addKind_20 : decode cX8_addKind 20 = .ok (.iload_n 2, 1) := by decide +kernel
theorem dX8_addKind_21 : decode cX8_addKind 21 = .ok (.iconst 1, 1) := by decide +kernel
theorem dX8_addKind_22 : decode cX8_addKind 22 = .ok (.iload_n 2, 1) := by decide +kernel
theorem dX8_addKind_23 : decode cX8_addKind 23 = .ok (.ishl, 1) := by decide +kernel
theorem dX8_addKind_24 : decode cX8_addKind 24 = .ok (.iastore, 1) := by decide +kernel
theorem dX8_addKind_25 : decode cX8_addKind 25 = .ok (.aload_n 0, 1) := by decide +kernel
theorem dX8_addKind_26 : decode cX8_addKind 26 = .ok (.getfield 15, 3) := by decide +kernel
theorem dX8_addKind_29 : decode cX8_addKind 29 = .ok (.iload_n 2, 1) := by decide +kernel
theorem dX8_addKind_30 : decode cX8_addKind 30 = .ok (.iconst 0, 1) := by decide +kernel
theorem dX8_addKind_31 : decode cX8_addKind 31 = .ok (.iastore, 1) := by decide +kernel
theorem dX8_addKind_32 : decode cX8_addKind 32 = .ok (.aload_n 0, 1) := by decide +kernel
theorem dX8_addKind_33 : decode cX8_addKind 33 = .ok (.iload_n 1, 1) := by decide +kernel
theorem dX8_addKind_34 : decode cX8_addKind 34 = .ok (.invokevirtual 46, 3) := by decide +kernel
theorem dX8_addKind_37 : decode cX8_addKind 37 = .ok (.ifCond .eq 48, 3) := by decide +kernel
theorem dX8_addKind_40 : decode cX8_addKind 40 = .ok (.aload_n 0, 1) := by decide +kernel
theorem dX8_addKind_41 : decode cX8_addKind 41 = .ok (.getfield 9, 3) := by decide +kernel
theorem dX8_addKind_44 : decode cX8_addKind 44 = .ok (.iload_n 2, 1) := by decide +kernel
theorem dX8_addKind_45 : decode cX8_addKind 45 = .ok (.dup2, 1) := by decide +kernel
theorem dX8_addKind_46 : decode cX8_addKind 46 = .ok (.iaload, 1) := by decide +kernel
theorem dX8_addKind_47 : decode cX8_addKind 47 = .ok (.aload_n 0, 1) := by decide +kernel
theorem dX8_addKind_48 : decode cX8_addKind 48 = .ok (.getfield 9, 3) := by decide +kernel
theorem dX8_addKind_51 : decode cX8_addKind 51 = .ok (.iload_n 1, 1) := by decide +kernel
theorem dX8_addKind_52 : decode cX8_addKind 52 = .ok (.iaload, 1) := by decide +kernel
theorem dX8_addKind_53 : decode cX8_addKind 53 = .ok (.ior, 1) := by decide +kernel
theorem dX8_addKind_54 : decode cX8_addKind 54 = .ok (.iastore, 1) := by decide +kernel
theorem dX8_addKind_55 : decode cX8_addKind 55 = .ok (.aload_n 0, 1) := by decide +kernel
theorem dX8_addKind_56 : decode cX8_addKind 56 = .ok (.getfield 15, 3) := by decide +kernel
theorem dX8_addKind_59 : decode cX8_addKind 59 = .ok (.iload_n 2, 1) := by decide +kernel
theorem dX8_addKind_60 : decode cX8_addKind 60 = .ok (.aload_n 0, 1) := by decide +kernel
theorem dX8_addKind_61 : decode cX8_addKind 61 = .ok (.getfield 15, 3) := by decide +kernel
theorem dX8_addKind_64 : decode cX8_addKind 64 = .ok (.iload_n 1, 1) := by decide +kernel
theorem dX8_addKind_65 : decode cX8_addKind 65 = .ok (.iaload, 1) := by decide +kernel
theorem dX8_addKind_66 : decode cX8_addKind 66 = .ok (.iastore, 1) := by decide +kernel
theorem dX8_addKind_67 : decode cX8_addKind 67 = .ok (.aload_n 0, 1) := by decide +kernel
theorem dX8_addKind_68 : decode cX8_addKind 68 = .ok (.getfield 18, 3) := by decide +kernel
theorem dX8_addKind_71 : decode cX8_addKind 71 = .ok (.iload_n 1, 1) := by decide +kernel
theorem dX8_addKind_72 : decode cX8_addKind 72 = .ok (.iconst 4, 1) := by decide +kernel
theorem dX8_addKind_73 : decode cX8_addKind 73 = .ok (.imul, 1) := by decide +kernel
theorem dX8_addKind_74 : decode cX8_addKind 74 = .ok (.aload_n 0, 1) := by decide +kernel
theorem dX8_addKind_75 : decode cX8_addKind 75 = .ok (.getfield 18, 3) := by decide +kernel
theorem dX8_addKind_78 : decode cX8_addKind 78 = .ok (.iload_n 2, 1) := by decide +kernel
theorem dX8_addKind_79 : decode cX8_addKind 79 = .ok (.iconst 4, 1) := by decide +kernel
theorem dX8_addKind_80 : decode cX8_addKind 80 = .ok (.imul, 1) := by decide +kernel
theorem dX8_addKind_81 : decode cX8_addKind 81 = .ok (.iconst 4, 1) := by decide +kernel
theorem dX8_addKind_82 : decode cX8_addKind 82 = .ok (.invokestatic 49, 3) := by decide +kernel
theorem dX8_addKind_85 : decode cX8_addKind 85 = .ok (.aload_n 0, 1) := by decide +kernel
theorem dX8_addKind_86 : decode cX8_addKind 86 = .ok (.dup, 1) := by decide +kernel
theorem dX8_addKind_87 : decode cX8_addKind 87 = .ok (.getfield 24, 3) := by decide +kernel
theorem dX8_addKind_90 : decode cX8_addKind 90 = .ok (.iconst 1, 1) := by decide +kernel
theorem dX8_addKind_91 : decode cX8_addKind 91 = .ok (.iadd, 1) := by decide +kernel
theorem dX8_addKind_92 : decode cX8_addKind 92 = .ok (.putfield 24, 3) := by decide +kernel
theorem dX8_addKind_95 : decode cX8_addKind 95 = .ok (.iload_n 2, 1) := by decide +kernel
theorem dX8_addKind_96 : decode cX8_addKind 96 = .ok (.ireturn, 1) := by decide +kernel
theorem dX8_addField_0 : decode cX8_addField 0 = .ok (.aload_n 0, 1) := by decide +kernel
theorem dX8_addField_1 : decode cX8_addField 1 = .ok (.iload_n 1, 1) := by decide +kernel
theorem dX8_addField_2 : decode cX8_addField 2 = .ok (.invokevirtual 55, 3) := by decide +kernel
theorem dX8_addField_5 : decode cX8_addField 5 = .ok (.istore 4, 2) := by decide +kernel
theorem dX8_addField_7 : decode cX8_addField 7 = .ok (.aload_n 0, 1) := by decide +kernel
theorem dX8_addField_8 : decode cX8_addField 8 = .ok (.iload_n 1, 1) := by decide +kernel
theorem dX8_addField_9 : decode cX8_addField 9 = .ok (.invokevirtual 46, 3) := by decide +kernel
theorem dX8_addField_12 : decode cX8_addField 12 = .ok (.ifCond .eq 9, 3) := by decide +kernel
theorem dX8_addField_15 : decode cX8_addField 15 = .ok (.iload 4, 2) := by decide +kernel
theorem dX8_addField_17 : decode cX8_addField 17 = .ok (.iconst 4, 1) := by decide +kernel
theorem dX8_addField_18 : decode cX8_addField 18 = .ok (.if_icmp .lt 6, 3) := by decide +kernel
theorem dX8_addField_21 : decode cX8_addField 21 = .ok (.bipush (-104), 2) := by decide +kernel
theorem dX8_addField_23 : decode cX8_addField 23 = .ok (.ireturn, 1) := by decide +kernel
theorem dX8_addField_24 : decode cX8_addField 24 = .ok (.aload_n 0, 1) := by decide +kernel
theorem dX8_addField_25 : decode cX8_addField 25 = .ok (.getfield 18, 3) := by decide +kernel
theorem dX8_addField_28 : decode cX8_addField 28 = .ok (.iload_n 1, 1) := by decide +kernel
theorem dX8_addField_29 : decode cX8_addField 29 = .ok (.iconst 4, 1) := by decide +kernel
theorem dX8_addField_30 : decode cX8_addField 30 = .ok (.imul, 1) := by decide +kernel
theorem dX8_addField_31 : decode cX8_addField 31 = .ok (.iload 4, 2) := by decide +kernel
theorem dX8_addField_33 : decode cX8_addField 33 = .ok (.iadd, 1) := by decide +kernel
theorem dX8_addField_34 : decode cX8_addField 34 = .ok (.iload_n 2, 1) := by decide +kernel
theorem dX8_addField_35 : decode cX8_addField 35 = .ok (.ifCond .ne 7, 3) := by decide +kernel
theorem dX8_addField_38 : decode cX8_addField 38 = .ok (.iload_n 3, 1) := by decide +kernel
theorem dX8_addField_39 : decode cX8_addField 39 = .ok (.goto 6, 3) := by decide +kernel
theorem dX8_addField_42 : decode cX8_addField 42 = .ok (.iconst 4, 1) := by decide +kernel
theorem dX8_addField_43 : decode cX8_addField 43 = .ok (.iload_n 3, 1) := by decide +kernel
theorem dX8_addField_44 : decode cX8_addField 44 = .ok (.iadd, 1) := by decide +kernel
theorem dX8_addField_45 : decode cX8_addField 45 = .ok (.iastore, 1) := by decide +kernel
theorem dX8_addField_46 : decode cX8_addField 46 = .ok (.aload_n 0, 1) := by decide +kernel
theorem dX8_addField_47 : decode cX8_addField 47 = .ok (.getfield 15, 3) := by decide +kernel
theorem dX8_addField_50 : decode cX8_addField 50 = .ok (.iload_n 1, 1) := by decide +kernel
theorem dX8_addField_51 : decode cX8_addField 51 = .ok (.iload 4, 2) := by decide +kernel
theorem dX8_addField_53 : decode cX8_addField 53 = .ok (.iconst 1, 1) := by decide +kernel
theorem dX8_addField_54 : decode cX8_addField 54 = .ok (.iadd, 1) := by decide +kernel
theorem dX8_addField_55 : decode cX8_addField 55 = .ok (.iastore, 1) := by decide +kernel
theorem dX8_addField_56 : decode cX8_addField 56 = .ok (.iload 4, 2) := by decide +kernel
theorem dX8_addField_58 : decode cX8_addField 58 = .ok (.ireturn, 1) := by decide +kernel
theorem dX8_addInput_0 : decode cX8_addInput 0 = .ok (.aload_n 0, 1) := by decide +kernel
theorem dX8_addInput_1 : decode cX8_addInput 1 = .ok (.getfield 28, 3) := by decide +kernel
theorem dX8_addInput_4 : decode cX8_addInput 4 = .ok (.iconst 2, 1) := by decide +kernel
theorem dX8_addInput_5 : decode cX8_addInput 5 = .ok (.if_icmp .lt 6, 3) := by decide +kernel
theorem dX8_addInput_8 : decode cX8_addInput 8 = .ok (.bipush (-104), 2) := by decide +kernel
theorem dX8_addInput_10 : decode cX8_addInput 10 = .ok (.ireturn, 1) := by decide +kernel
theorem dX8_addInput_11 : decode cX8_addInput 11 = .ok (.aload_n 0, 1) := by decide +kernel
theorem dX8_addInput_12 : decode cX8_addInput 12 = .ok (.getfield 21, 3) := by decide +kernel
theorem dX8_addInput_15 : decode cX8_addInput 15 = .ok (.aload_n 0, 1) := by decide +kernel
theorem dX8_addInput_16 : decode cX8_addInput 16 = .ok (.getfield 28, 3) := by decide +kernel
theorem dX8_addInput_19 : decode cX8_addInput 19 = .ok (.iload_n 1, 1) := by decide +kernel
theorem dX8_addInput_20 : decode cX8_addInput 20 = .ok (.iastore, 1) := by decide +kernel
theorem dX8_addInput_21 : decode cX8_addInput 21 = .ok (.aload_n 0, 1) := by decide +kernel
theorem dX8_addInput_22 : decode cX8_addInput 22 = .ok (.dup, 1) := by decide +kernel
theorem dX8_addInput_23 : decode cX8_addInput 23 = .ok (.getfield 28, 3) := by decide +kernel
theorem dX8_addInput_26 : decode cX8_addInput 26 = .ok (.iconst 1, 1) := by decide +kernel
theorem dX8_addInput_27 : decode cX8_addInput 27 = .ok (.iadd, 1) := by decide +kernel
theorem dX8_addInput_28 : decode cX8_addInput 28 = .ok (.putfield 28, 3) := by decide +kernel
theorem dX8_addInput_31 : decode cX8_addInput 31 = .ok (.aload_n 0, 1) := by decide +kernel
theorem dX8_addInput_32 : decode cX8_addInput 32 = .ok (.getfield 28, 3) := by decide +kernel
theorem dX8_addInput_35 : decode cX8_addInput 35 = .ok (.iconst 1, 1) := by decide +kernel
theorem dX8_addInput_36 : decode cX8_addInput 36 = .ok (.isub, 1) := by decide +kernel
theorem dX8_addInput_37 : decode cX8_addInput 37 = .ok (.ireturn, 1) := by decide +kernel
theorem dX5_init_0 : decode cX5_init 0 = .ok (.aload_n 0, 1) := by decide +kernel
theorem dX5_init_1 : decode cX5_init 1 = .ok (.invokespecial 3, 3) := by decide +kernel
theorem dX5_init_4 : decode cX5_init 4 = .ok (.aload_n 0, 1) := by decide +kernel
theorem dX5_init_5 : decode cX5_init 5 = .ok (.bipush 32, 2) := by decide +kernel
theorem dX5_init_7 : decode cX5_init 7 = .ok (.newarray .long, 2) := by decide +kernel
theorem dX5_init_9 : decode cX5_init 9 = .ok (.putfield 9, 3) := by decide +kernel
theorem dX5_init_12 : decode cX5_init 12 = .ok (.aload_n 0, 1) := by decide +kernel
theorem dX5_init_13 : decode cX5_init 13 = .ok (.iconst 0, 1) := by decide +kernel
theorem dX5_init_14 : decode cX5_init 14 = .ok (.putfield 15, 3) := by decide +kernel
theorem dX5_init_17 : decode cX5_init 17 = .ok (.return_, 1) := by decide +kernel
theorem dX5_drop_0 : decode cX5_drop 0 = .ok (.aload_n 0, 1) := by decide +kernel
theorem dX5_drop_1 : decode cX5_drop 1 = .ok (.iconst 0, 1) := by decide +kernel
theorem dX5_drop_2 : decode cX5_drop 2 = .ok (.putfield 15, 3) := by decide +kernel
theorem dX5_drop_5 : decode cX5_drop 5 = .ok (.return_, 1) := by decide +kernel
theorem dX5_add_0 : decode cX5_add 0 = .ok (.aload_n 0, 1) := by decide +kernel
theorem dX5_add_1 : decode cX5_add 1 = .ok (.getfield 15, 3) := by decide +kernel
theorem dX5_add_4 : decode cX5_add 4 = .ok (.sipush 4000, 3) := by decide +kernel
theorem dX5_add_7 : decode cX5_add 7 = .ok (.if_icmp .le 4, 3) := by decide +kernel
theorem dX5_add_10 : decode cX5_add 10 = .ok (.return_, 1) := by decide +kernel
theorem dX5_add_11 : decode cX5_add 11 = .ok (.iconst 2, 1) := by decide +kernel
theorem dX5_add_12 : decode cX5_add 12 = .ok (.aload_n 0, 1) := by decide +kernel
theorem dX5_add_13 : decode cX5_add 13 = .ok (.getfield 15, 3) := by decide +kernel
theorem dX5_add_16 : decode cX5_add 16 = .ok (.imul, 1) := by decide +kernel
theorem dX5_add_17 : decode cX5_add 17 = .ok (.iconst 1, 1) := by decide +kernel
theorem dX5_add_18 : decode cX5_add 18 = .ok (.iadd, 1) := by decide +kernel
theorem dX5_add_19 : decode cX5_add 19 = .ok (.aload_n 0, 1) := by decide +kernel
theorem dX5_add_20 : decode cX5_add 20 = .ok (.getfield 9, 3) := by decide +kernel
theorem dX5_add_23 : decode cX5_add 23 = .ok (.arraylength, 1) := by decide +kernel
theorem dX5_add_24 : decode cX5_add 24 = .ok (.if_icmp .lt 21, 3) := by decide +kernel
theorem dX5_add_27 : decode cX5_add 27 = .ok (.aload_n 0, 1) := by decide +kernel
theorem dX5_add_28 : decode cX5_add 28 = .ok (.aload_n 0, 1) := by decide +kernel
theorem dX5_add_29 : decode cX5_add 29 = .ok (.getfield 9, 3) := by decide +kernel
theorem dX5_add_32 : decode cX5_add 32 = .ok (.iconst 2, 1) := by decide +kernel
theorem dX5_add_33 : decode cX5_add 33 = .ok (.aload_n 0, 1) := by decide +kernel
theorem dX5_add_34 : decode cX5_add 34 = .ok (.getfield 9, 3) := by decide +kernel
theorem dX5_add_37 : decode cX5_add 37 = .ok (.arraylength, 1) := by decide +kernel
theorem dX5_add_38 : decode cX5_add 38 = .ok (.imul, 1) := by decide +kernel
theorem dX5_add_39 : decode cX5_add 39 = .ok (.invokestatic 19, 3) := by decide +kernel
theorem dX5_add_42 : decode cX5_add 42 = .ok (.putfield 9, 3) := by decide +kernel
theorem dX5_add_45 : decode cX5_add 45 = .ok (.aload_n 0, 1) := by decide +kernel
theorem dX5_add_46 : decode cX5_add 46 = .ok (.getfield 9, 3) := by decide +kernel
theorem dX5_add_49 : decode cX5_add 49 = .ok (.iconst 2, 1) := by decide +kernel
theorem dX5_add_50 : decode cX5_add 50 = .ok (.aload_n 0, 1) := by decide +kernel
theorem dX5_add_51 : decode cX5_add 51 = .ok (.getfield 15, 3) := by decide +kernel
theorem dX5_add_54 : decode cX5_add 54 = .ok (.imul, 1) := by decide +kernel
theorem dX5_add_55 : decode cX5_add 55 = .ok (.aload_n 1, 1) := by decide +kernel
theorem dX5_add_56 : decode cX5_add 56 = .ok (.iconst 0, 1) := by decide +kernel
theorem dX5_add_57 : decode cX5_add 57 = .ok (.iload_n 2, 1) := by decide +kernel
theorem dX5_add_58 : decode cX5_add 58 = .ok (.invokestatic 25, 3) := by decide +kernel
theorem dX5_add_61 : decode cX5_add 61 = .ok (.lastore, 1) := by decide +kernel
theorem dX5_add_62 : decode cX5_add 62 = .ok (.aload_n 0, 1) := by decide +kernel
theorem dX5_add_63 : decode cX5_add 63 = .ok (.getfield 9, 3) := by decide +kernel
theorem dX5_add_66 : decode cX5_add 66 = .ok (.iconst 2, 1) := by decide +kernel
theorem dX5_add_67 : decode cX5_add 67 = .ok (.aload_n 0, 1) := by decide +kernel
theorem dX5_add_68 : decode cX5_add 68 = .ok (.getfield 15, 3) := by decide +kernel
theorem dX5_add_71 : decode cX5_add 71 = .ok (.imul, 1) := by decide +kernel
theorem dX5_add_72 : decode cX5_add 72 = .ok (.iconst 1, 1) := by decide +kernel
theorem dX5_add_73 : decode cX5_add 73 = .ok (.iadd, 1) := by decide +kernel
theorem dX5_add_74 : decode cX5_add 74 = .ok (.aload_n 1, 1) := by decide +kernel
theorem dX5_add_75 : decode cX5_add 75 = .ok (.bipush 11, 2) := by decide +kernel
theorem dX5_add_77 : decode cX5_add 77 = .ok (.iload_n 2, 1) := by decide +kernel
theorem dX5_add_78 : decode cX5_add 78 = .ok (.invokestatic 25, 3) := by decide +kernel
theorem dX5_add_81 : decode cX5_add 81 = .ok (.lastore, 1) := by decide +kernel
theorem dX5_add_82 : decode cX5_add 82 = .ok (.aload_n 0, 1) := by decide +kernel
theorem dX5_add_83 : decode cX5_add 83 = .ok (.dup, 1) := by decide +kernel
theorem dX5_add_84 : decode cX5_add 84 = .ok (.getfield 15, 3) := by decide +kernel
theorem dX5_add_87 : decode cX5_add 87 = .ok (.iconst 1, 1) := by decide +kernel
theorem dX5_add_88 : decode cX5_add 88 = .ok (.iadd, 1) := by decide +kernel
theorem dX5_add_89 : decode cX5_add 89 = .ok (.putfield 15, 3) := by decide +kernel
theorem dX5_add_92 : decode cX5_add 92 = .ok (.return_, 1) := by decide +kernel
theorem dX5_choiceAt_0 : decode cX5_choiceAt 0 = .ok (.iload_n 1, 1) := by decide +kernel
theorem dX5_choiceAt_1 : decode cX5_choiceAt 1 = .ok (.ifCond .lt 21, 3) := by decide +kernel
theorem dX5_choiceAt_4 : decode cX5_choiceAt 4 = .ok (.iload_n 1, 1) := by decide +kernel
theorem dX5_choiceAt_5 : decode cX5_choiceAt 5 = .ok (.aload_n 0, 1) := by decide +kernel
theorem dX5_choiceAt_6 : decode cX5_choiceAt 6 = .ok (.getfield 15, 3) := by decide +kernel
theorem dX5_choiceAt_9 : decode cX5_choiceAt 9 = .ok (.if_icmp .ge 13, 3) := by decide +kernel
theorem dX5_choiceAt_12 : decode cX5_choiceAt 12 = .ok (.iload_n 2, 1) := by decide +kernel
theorem dX5_choiceAt_13 : decode cX5_choiceAt 13 = .ok (.ifCond .lt 9, 3) := by decide +kernel
theorem dX5_choiceAt_16 : decode cX5_choiceAt 16 = .ok (.iload_n 2, 1) := by decide +kernel
theorem dX5_choiceAt_17 : decode cX5_choiceAt 17 = .ok (.bipush 22, 2) := by decide +kernel
theorem dX5_choiceAt_19 : decode cX5_choiceAt 19 = .ok (.if_icmp .lt 5, 3) := by decide +kernel
theorem dX5_choiceAt_22 : decode cX5_choiceAt 22 = .ok (.iconst 0, 1) := by decide +kernel
theorem dX5_choiceAt_23 : decode cX5_choiceAt 23 = .ok (.ireturn, 1) := by decide +kernel
theorem dX5_choiceAt_24 : decode cX5_choiceAt 24 = .ok (.aload_n 0, 1) := by decide +kernel
theorem dX5_choiceAt_25 : decode cX5_choiceAt 25 = .ok (.getfield 9, 3) := by decide +kernel
theorem dX5_choiceAt_28 : decode cX5_choiceAt 28 = .ok (.iconst 2, 1) := by decide +kernel
theorem dX5_choiceAt_29 : decode cX5_choiceAt 29 = .ok (.iload_n 1, 1) := by decide +kernel
theorem dX5_choiceAt_30 : decode cX5_choiceAt 30 = .ok (.imul, 1) := by decide +kernel
theorem dX5_choiceAt_31 : decode cX5_choiceAt 31 = .ok (.iload_n 2, 1) := by decide +kernel
theorem dX5_choiceAt_32 : decode cX5_choiceAt 32 = .ok (.bipush 11, 2) := by decide +kernel
theorem dX5_choiceAt_34 : decode cX5_choiceAt 34 = .ok (.idiv, 1) := by decide +kernel
theorem dX5_choiceAt_35 : decode cX5_choiceAt 35 = .ok (.iadd, 1) := by decide +kernel
theorem dX5_choiceAt_36 : decode cX5_choiceAt 36 = .ok (.laload, 1) := by decide +kernel
theorem dX5_choiceAt_37 : decode cX5_choiceAt 37 = .ok (.lstore_n 3, 1) := by decide +kernel
theorem dX5_choiceAt_38 : decode cX5_choiceAt 38 = .ok (.lload_n 3, 1) := by decide +kernel
theorem dX5_choiceAt_39 : decode cX5_choiceAt 39 = .ok (.iconst 4, 1) := by decide +kernel
theorem dX5_choiceAt_40 : decode cX5_choiceAt 40 = .ok (.bipush 10, 2) := by decide +kernel
theorem dX5_choiceAt_42 : decode cX5_choiceAt 42 = .ok (.iload_n 2, 1) := by decide +kernel
theorem dX5_choiceAt_43 : decode cX5_choiceAt 43 = .ok (.bipush 11, 2) := by decide +kernel
theorem dX5_choiceAt_45 : decode cX5_choiceAt 45 = .ok (.irem, 1) := by decide +kernel
theorem dX5_choiceAt_46 : decode cX5_choiceAt 46 = .ok (.isub, 1) := by decide +kernel
theorem dX5_choiceAt_47 : decode cX5_choiceAt 47 = .ok (.imul, 1) := by decide +kernel
theorem dX5_choiceAt_48 : decode cX5_choiceAt 48 = .ok (.lshr, 1) := by decide +kernel
theorem dX5_choiceAt_49 : decode cX5_choiceAt 49 = .ok (.l2i, 1) := by decide +kernel
theorem dX5_choiceAt_50 : decode cX5_choiceAt 50 = .ok (.bipush 15, 2) := by decide +kernel
theorem dX5_choiceAt_52 : decode cX5_choiceAt 52 = .ok (.iand, 1) := by decide +kernel
theorem dX5_choiceAt_53 : decode cX5_choiceAt 53 = .ok (.istore 5, 2) := by decide +kernel
theorem dX5_choiceAt_55 : decode cX5_choiceAt 55 = .ok (.iload 5, 2) := by decide +kernel
theorem dX5_choiceAt_57 : decode cX5_choiceAt 57 = .ok (.bipush 6, 2) := by decide +kernel
theorem dX5_choiceAt_59 : decode cX5_choiceAt 59 = .ok (.if_icmp .ge 8, 3) := by decide +kernel
theorem dX5_choiceAt_62 : decode cX5_choiceAt 62 = .ok (.iload 5, 2) := by decide +kernel
theorem dX5_choiceAt_64 : decode cX5_choiceAt 64 = .ok (.goto 11, 3) := by decide +kernel
theorem dX5_choiceAt_67 : decode cX5_choiceAt 67 = .ok (.iload 5, 2) := by decide +kernel
theorem dX5_choiceAt_69 : decode cX5_choiceAt 69 = .ok (.bipush 6, 2) := by decide +kernel
theorem dX5_choiceAt_71 : decode cX5_choiceAt 71 = .ok (.isub, 1) := by decide +kernel
theorem dX5_choiceAt_72 : decode cX5_choiceAt 72 = .ok (.bipush 10, 2) := by decide +kernel
theorem dX5_choiceAt_74 : decode cX5_choiceAt 74 = .ok (.iadd, 1) := by decide +kernel
theorem dX5_choiceAt_75 : decode cX5_choiceAt 75 = .ok (.ireturn, 1) := by decide +kernel
theorem dX5_dropLast_0 : decode cX5_dropLast 0 = .ok (.aload_n 0, 1) := by decide +kernel
theorem dX5_dropLast_1 : decode cX5_dropLast 1 = .ok (.getfield 15, 3) := by decide +kernel
theorem dX5_dropLast_4 : decode cX5_dropLast 4 = .ok (.ifCond .le 13, 3) := by decide +kernel
theorem dX5_dropLast_7 : decode cX5_dropLast 7 = .ok (.aload_n 0, 1) := by decide +kernel
theorem dX5_dropLast_8 : decode cX5_dropLast 8 = .ok (.dup, 1) := by decide +kernel
theorem dX5_dropLast_9 : decode cX5_dropLast 9 = .ok (.getfield 15, 3) := by decide +kernel
theorem dX5_dropLast_12 : decode cX5_dropLast 12 = .ok (.iconst 1, 1) := by decide +kernel
theorem dX5_dropLast_13 : decode cX5_dropLast 13 = .ok (.isub, 1) := by decide +kernel
theorem dX5_dropLast_14 : decode cX5_dropLast 14 = .ok (.putfield 15, 3) := by decide +kernel
theorem dX5_dropLast_17 : decode cX5_dropLast 17 = .ok (.return_, 1) := by decide +kernel
theorem dX5_compare_0 : decode cX5_compare 0 = .ok (.iload_n 1, 1) := by decide +kernel
theorem dX5_compare_1 : decode cX5_compare 1 = .ok (.ifCond .lt 23, 3) := by decide +kernel
theorem dX5_compare_4 : decode cX5_compare 4 = .ok (.iload_n 1, 1) := by decide +kernel
theorem dX5_compare_5 : decode cX5_compare 5 = .ok (.aload_n 0, 1) := by decide +kernel
theorem dX5_compare_6 : decode cX5_compare 6 = .ok (.getfield 15, 3) := by decide +kernel
theorem dX5_compare_9 : decode cX5_compare 9 = .ok (.if_icmp .ge 15, 3) := by decide +kernel
theorem dX5_compare_12 : decode cX5_compare 12 = .ok (.iload_n 2, 1) := by decide +kernel
theorem dX5_compare_13 : decode cX5_compare 13 = .ok (.ifCond .lt 11, 3) := by decide +kernel
theorem dX5_compare_16 : decode cX5_compare 16 = .ok (.iload_n 2, 1) := by decide +kernel
theorem dX5_compare_17 : decode cX5_compare 17 = .ok (.aload_n 0, 1) := by decide +kernel
theorem dX5_compare_18 : decode cX5_compare 18 = .ok (.getfield 15, 3) := by decide +kernel
theorem dX5_compare_21 : decode cX5_compare 21 = .ok (.if_icmp .lt 5, 3) := by decide +kernel
theorem dX5_compare_24 : decode cX5_compare 24 = .ok (.iconst 0, 1) := by decide +kernel
theorem dX5_compare_25 : decode cX5_compare 25 = .ok (.ireturn, 1) := by decide +kernel
theorem dX5_compare_26 : decode cX5_compare 26 = .ok (.aload_n 0, 1) := by decide +kernel
theorem dX5_compare_27 : decode cX5_compare 27 = .ok (.getfield 9, 3) := by decide +kernel
theorem dX5_compare_30 : decode cX5_compare 30 = .ok (.iconst 2, 1) := by decide +kernel
theorem dX5_compare_31 : decode cX5_compare 31 = .ok (.iload_n 1, 1) := by decide +kernel
theorem dX5_compare_32 : decode cX5_compare 32 = .ok (.imul, 1) := by decide +kernel
theorem dX5_compare_33 : decode cX5_compare 33 = .ok (.laload, 1) := by decide +kernel
theorem dX5_compare_34 : decode cX5_compare 34 = .ok (.aload_n 0, 1) := by decide +kernel
theorem dX5_compare_35 : decode cX5_compare 35 = .ok (.getfield 9, 3) := by decide +kernel
theorem dX5_compare_38 : decode cX5_compare 38 = .ok (.iconst 2, 1) := by decide +kernel
theorem dX5_compare_39 : decode cX5_compare 39 = .ok (.iload_n 2, 1) := by decide +kernel
theorem dX5_compare_40 : decode cX5_compare 40 = .ok (.imul, 1) := by decide +kernel
theorem dX5_compare_41 : decode cX5_compare 41 = .ok (.laload, 1) := by decide +kernel
theorem dX5_compare_42 : decode cX5_compare 42 = .ok (.invokestatic 29, 3) := by decide +kernel
theorem dX5_compare_45 : decode cX5_compare 45 = .ok (.istore_n 3, 1) := by decide +kernel
theorem dX5_compare_46 : decode cX5_compare 46 = .ok (.iload_n 3, 1) := by decide +kernel
theorem dX5_compare_47 : decode cX5_compare 47 = .ok (.ifCond .eq 7, 3) := by decide +kernel
theorem dX5_compare_50 : decode cX5_compare 50 = .ok (.iload_n 3, 1) := by decide +kernel
theorem dX5_compare_51 : decode cX5_compare 51 = .ok (.goto 26, 3) := by decide +kernel
theorem dX5_compare_54 : decode cX5_compare 54 = .ok (.aload_n 0, 1) := by decide +kernel
theorem dX5_compare_55 : decode cX5_compare 55 = .ok (.getfield 9, 3) := by decide +kernel
theorem dX5_compare_58 : decode cX5_compare 58 = .ok (.iconst 2, 1) := by decide +kernel
theorem dX5_compare_59 : decode cX5_compare 59 = .ok (.iload_n 1, 1) := by decide +kernel
theorem dX5_compare_60 : decode cX5_compare 60 = .ok (.imul, 1) := by decide +kernel
theorem dX5_compare_61 : decode cX5_compare 61 = .ok (.iconst 1, 1) := by decide +kernel
theorem dX5_compare_62 : decode cX5_compare 62 = .ok (.iadd, 1) := by decide +kernel
theorem dX5_compare_63 : decode cX5_compare 63 = .ok (.laload, 1) := by decide +kernel
theorem dX5_compare_64 : decode cX5_compare 64 = .ok (.aload_n 0, 1) := by decide +kernel
theorem dX5_compare_65 : decode cX5_compare 65 = .ok (.getfield 9, 3) := by decide +kernel
theorem dX5_compare_68 : decode cX5_compare 68 = .ok (.iconst 2, 1) := by decide +kernel
theorem dX5_compare_69 : decode cX5_compare 69 = .ok (.iload_n 2, 1) := by decide +kernel
theorem dX5_compare_70 : decode cX5_compare 70 = .ok (.imul, 1) := by decide +kernel
theorem dX5_compare_71 : decode cX5_compare 71 = .ok (.iconst 1, 1) := by decide +kernel
theorem dX5_compare_72 : decode cX5_compare 72 = .ok (.iadd, 1) := by decide +kernel
theorem dX5_compare_73 : decode cX5_compare 73 = .ok (.laload, 1) := by decide +kernel
theorem dX5_compare_74 : decode cX5_compare 74 = .ok (.invokestatic 29, 3) := by decide +kernel
theorem dX5_compare_77 : decode cX5_compare 77 = .ok (.ireturn, 1) := by decide +kernel
theorem dX5_find_0 : decode cX5_find 0 = .ok (.aload_n 1, 1) := by decide +kernel
theorem dX5_find_1 : decode cX5_find 1 = .ok (.iconst 0, 1) := by decide +kernel
theorem dX5_find_2 : decode cX5_find 2 = .ok (.iload_n 2, 1) := by decide +kernel
theorem dX5_find_3 : decode cX5_find 3 = .ok (.invokestatic 25, 3) := by decide +kernel
theorem dX5_find_6 : decode cX5_find 6 = .ok (.lstore_n 3, 1) := by decide +kernel
theorem dX5_find_7 : decode cX5_find 7 = .ok (.aload_n 1, 1) := by decide +kernel
theorem dX5_find_8 : decode cX5_find 8 = .ok (.bipush 11, 2) := by decide +kernel
theorem dX5_find_10 : decode cX5_find 10 = .ok (.iload_n 2, 1) := by decide +kernel
theorem dX5_find_11 : decode cX5_find 11 = .ok (.invokestatic 25, 3) := by decide +kernel
theorem dX5_find_14 : decode cX5_find 14 = .ok (.lstore 5, 2) := by decide +kernel
theorem dX5_find_16 : decode cX5_find 16 = .ok (.iconst 0, 1) := by decide +kernel
theorem dX5_find_17 : decode cX5_find 17 = .ok (.istore 7, 2) := by decide +kernel
theorem dX5_find_19 : decode cX5_find 19 = .ok (.aload_n 0, 1) := by decide +kernel
theorem dX5_find_20 : decode cX5_find 20 = .ok (.getfield 15, 3) := by decide +kernel
theorem dX5_find_23 : decode cX5_find 23 = .ok (.iconst 1, 1) := by decide +kernel
theorem dX5_find_24 : decode cX5_find 24 = .ok (.isub, 1) := by decide +kernel
theorem dX5_find_25 : decode cX5_find 25 = .ok (.istore 8, 2) := by decide +kernel
theorem dX5_find_27 : decode cX5_find 27 = .ok (.iconst 0, 1) := by decide +kernel
theorem dX5_find_28 : decode cX5_find 28 = .ok (.istore 9, 2) := by decide +kernel
theorem dX5_find_30 : decode cX5_find 30 = .ok (.iload 9, 2) := by decide +kernel
theorem dX5_find_32 : decode cX5_find 32 = .ok (.bipush 32, 2) := by decide +kernel
theorem dX5_find_34 : decode cX5_find 34 = .ok (.if_icmp .ge 91, 3) := by decide +kernel
theorem dX5_find_37 : decode cX5_find 37 = .ok (.iload 7, 2) := by decide +kernel
theorem dX5_find_39 : decode cX5_find 39 = .ok (.iload 8, 2) := by decide +kernel
theorem dX5_find_41 : decode cX5_find 41 = .ok (.if_icmp .gt 84, 3) := by decide +kernel
theorem dX5_find_44 : decode cX5_find 44 = .ok (.iload 7, 2) := by decide +kernel
theorem dX5_find_46 : decode cX5_find 46 = .ok (.iload 8, 2) := by decide +kernel
theorem dX5_find_48 : decode cX5_find 48 = .ok (.iadd, 1) := by decide +kernel
theorem dX5_find_49 : decode cX5_find 49 = .ok (.iconst 2, 1) := by decide +kernel
theorem dX5_find_50 : decode cX5_find 50 = .ok (.idiv, 1) := by decide +kernel
theorem dX5_find_51 : decode cX5_find 51 = .ok (.istore 10, 2) := by decide +kernel
theorem dX5_find_53 : decode cX5_find 53 = .ok (.aload_n 0, 1) := by decide +kernel
theorem dX5_find_54 : decode cX5_find 54 = .ok (.getfield 9, 3) := by decide +kernel
theorem dX5_find_57 : decode cX5_find 57 = .ok (.iconst 2, 1) := by decide +kernel
theorem dX5_find_58 : decode cX5_find 58 = .ok (.iload 10, 2) := by decide +kernel
theorem dX5_find_60 : decode cX5_find 60 = .ok (.imul, 1) := by decide +kernel
theorem dX5_find_61 : decode cX5_find 61 = .ok (.laload, 1) := by decide +kernel
theorem dX5_find_62 : decode cX5_find 62 = .ok (.lload_n 3, 1) := by decide +kernel
theorem dX5_find_63 : decode cX5_find 63 = .ok (.invokestatic 29, 3) := by decide +kernel
theorem dX5_find_66 : decode cX5_find 66 = .ok (.istore 11, 2) := by decide +kernel
theorem dX5_find_68 : decode cX5_find 68 = .ok (.iload 11, 2) := by decide +kernel
theorem dX5_find_70 : decode cX5_find 70 = .ok (.ifCond .ne 21, 3) := by decide +kernel
theorem dX5_find_73 : decode cX5_find 73 = .ok (.aload_n 0, 1) := by decide +kernel
theorem dX5_find_74 : decode cX5_find 74 = .ok (.getfield 9, 3) := by decide +kernel
theorem dX5_find_77 : decode cX5_find 77 = .ok (.iconst 2, 1) := by decide +kernel
theorem dX5_find_78 : decode cX5_find 78 = .ok (.iload 10, 2) := by decide +kernel
theorem dX5_find_80 : decode cX5_find 80 = .ok (.imul, 1) := by decide +kernel
theorem dX5_find_81 : decode cX5_find 81 = .ok (.iconst 1, 1) := by decide +kernel
theorem dX5_find_82 : decode cX5_find 82 = .ok (.iadd, 1) := by decide +kernel
theorem dX5_find_83 : decode cX5_find 83 = .ok (.laload, 1) := by decide +kernel
theorem dX5_find_84 : decode cX5_find 84 = .ok (.lload 5, 2) := by decide +kernel
theorem dX5_find_86 : decode cX5_find 86 = .ok (.invokestatic 29, 3) := by decide +kernel
theorem dX5_find_89 : decode cX5_find 89 = .ok (.istore 11, 2) := by decide +kernel
theorem dX5_find_91 : decode cX5_find 91 = .ok (.iload 11, 2) := by decide +kernel
theorem dX5_find_93 : decode cX5_find 93 = .ok (.ifCond .ne 6, 3) := by decide +kernel
theorem dX5_find_96 : decode cX5_find 96 = .ok (.iload 10, 2) := by decide +kernel
theorem dX5_find_98 : decode cX5_find 98 = .ok (.ireturn, 1) := by decide +kernel
theorem dX5_find_99 : decode cX5_find 99 = .ok (.iload 11, 2) := by decide +kernel
theorem dX5_find_101 : decode cX5_find 101 = .ok (.ifCond .ge 12, 3) := by decide +kernel
theorem dX5_find_104 : decode cX5_find 104 = .ok (.iload 10, 2) := by decide +kernel
theorem dX5_find_106 : decode cX5_find 106 = .ok (.iconst 1, 1) := by decide +kernel
theorem dX5_find_107 : decode cX5_find 107 = .ok (.iadd, 1) := by decide +kernel
theorem dX5_find_108 : decode cX5_find 108 = .ok (.istore 7, 2) := by decide +kernel
theorem dX5_find_110 : decode cX5_find 110 = .ok (.goto 9, 3) := by decide +kernel
theorem dX5_find_113 : decode cX5_find 113 = .ok (.iload 10, 2) := by decide +kernel
theorem dX5_find_115 : decode cX5_find 115 = .ok (.iconst 1, 1) := by decide +kernel
theorem dX5_find_116 : decode cX5_find 116 = .ok (.isub, 1) := by decide +kernel
theorem dX5_find_117 : decode cX5_find 117 = .ok (.istore 8, 2) := by decide +kernel
theorem dX5_find_119 : decode cX5_find 119 = .ok (.iinc 9 1, 3) := by decide +kernel
theorem dX5_find_122 : decode cX5_find 122 = .ok (.goto (-92), 3) := by decide +kernel
theorem dX5_find_125 : decode cX5_find 125 = .ok (.iconst (-1), 1) := by decide +kernel
theorem dX5_find_126 : decode cX5_find 126 = .ok (.ireturn, 1) := by decide +kernel
theorem dX5_pack_0 : decode cX5_pack 0 = .ok (.iload_n 2, 1) := by decide +kernel
theorem dX5_pack_1 : decode cX5_pack 1 = .ok (.aload_n 0, 1) := by decide +kernel
theorem dX5_pack_2 : decode cX5_pack 2 = .ok (.arraylength, 1) := by decide +kernel
theorem dX5_pack_3 : decode cX5_pack 3 = .ok (.invokestatic 35, 3) := by decide +kernel
theorem dX5_pack_6 : decode cX5_pack 6 = .ok (.istore_n 3, 1) := by decide +kernel
theorem dX5_pack_7 : decode cX5_pack 7 = .ok (.lconst 0, 1) := by decide +kernel
theorem dX5_pack_8 : decode cX5_pack 8 = .ok (.lstore 4, 2) := by decide +kernel
theorem dX5_pack_10 : decode cX5_pack 10 = .ok (.iload_n 1, 1) := by decide +kernel
theorem dX5_pack_11 : decode cX5_pack 11 = .ok (.istore 6, 2) := by decide +kernel
theorem dX5_pack_13 : decode cX5_pack 13 = .ok (.iload 6, 2) := by decide +kernel
theorem dX5_pack_15 : decode cX5_pack 15 = .ok (.iload_n 1, 1) := by decide +kernel
theorem dX5_pack_16 : decode cX5_pack 16 = .ok (.bipush 11, 2) := by decide +kernel
theorem dX5_pack_18 : decode cX5_pack 18 = .ok (.iadd, 1) := by decide +kernel
theorem dX5_pack_19 : decode cX5_pack 19 = .ok (.if_icmp .ge 60, 3) := by decide +kernel
theorem dX5_pack_22 : decode cX5_pack 22 = .ok (.iload 6, 2) := by decide +kernel
theorem dX5_pack_24 : decode cX5_pack 24 = .ok (.iload_n 3, 1) := by decide +kernel
theorem dX5_pack_25 : decode cX5_pack 25 = .ok (.if_icmp .ge 10, 3) := by decide +kernel
theorem dX5_pack_28 : decode cX5_pack 28 = .ok (.aload_n 0, 1) := by decide +kernel
theorem dX5_pack_29 : decode cX5_pack 29 = .ok (.iload 6, 2) := by decide +kernel
theorem dX5_pack_31 : decode cX5_pack 31 = .ok (.iaload, 1) := by decide +kernel
theorem dX5_pack_32 : decode cX5_pack 32 = .ok (.goto 4, 3) := by decide +kernel
theorem dX5_pack_35 : decode cX5_pack 35 = .ok (.iconst 0, 1) := by decide +kernel
theorem dX5_pack_36 : decode cX5_pack 36 = .ok (.istore 7, 2) := by decide +kernel
theorem dX5_pack_38 : decode cX5_pack 38 = .ok (.iload 7, 2) := by decide +kernel
theorem dX5_pack_40 : decode cX5_pack 40 = .ok (.bipush 10, 2) := by decide +kernel
theorem dX5_pack_42 : decode cX5_pack 42 = .ok (.if_icmp .ge 8, 3) := by decide +kernel
theorem dX5_pack_45 : decode cX5_pack 45 = .ok (.iload 7, 2) := by decide +kernel
theorem dX5_pack_47 : decode cX5_pack 47 = .ok (.goto 11, 3) := by decide +kernel
theorem dX5_pack_50 : decode cX5_pack 50 = .ok (.iload 7, 2) := by decide +kernel
theorem dX5_pack_52 : decode cX5_pack 52 = .ok (.bipush 10, 2) := by decide +kernel
theorem dX5_pack_54 : decode cX5_pack 54 = .ok (.isub, 1) := by decide +kernel
theorem dX5_pack_55 : decode cX5_pack 55 = .ok (.bipush 6, 2) := by decide +kernel
theorem dX5_pack_57 : decode cX5_pack 57 = .ok (.iadd, 1) := by decide +kernel
theorem dX5_pack_58 : decode cX5_pack 58 = .ok (.istore 8, 2) := by decide +kernel
theorem dX5_pack_60 : decode cX5_pack 60 = .ok (.lload 4, 2) := by decide +kernel
theorem dX5_pack_62 : decode cX5_pack 62 = .ok (.iconst 4, 1) := by decide +kernel
theorem dX5_pack_63 : decode cX5_pack 63 = .ok (.lshl, 1) := by decide +kernel
theorem dX5_pack_64 : decode cX5_pack 64 = .ok (.iload 8, 2) := by decide +kernel
theorem dX5_pack_66 : decode cX5_pack 66 = .ok (.bipush 15, 2) := by decide +kernel
theorem dX5_pack_68 : decode cX5_pack 68 = .ok (.iand, 1) := by decide +kernel
theorem dX5_pack_69 : decode cX5_pack 69 = .ok (.i2l, 1) := by decide +kernel
theorem dX5_pack_70 : decode cX5_pack 70 = .ok (.lor, 1) := by decide +kernel
theorem dX5_pack_71 : decode cX5_pack 71 = .ok (.lstore 4, 2) := by decide +kernel
theorem dX5_pack_73 : decode cX5_pack 73 = .ok (.iinc 6 1, 3) := by decide +kernel
theorem dX5_pack_76 : decode cX5_pack 76 = .ok (.goto (-63), 3) := by decide +kernel
theorem dX5_pack_79 : decode cX5_pack 79 = .ok (.lload 4, 2) := by decide +kernel
theorem dX5_pack_81 : decode cX5_pack 81 = .ok (.lreturn, 1) := by decide +kernel
theorem dX2_init_0 : decode cX2_init 0 = .ok (.aload_n 0, 1) := by decide +kernel
theorem dX2_init_1 : decode cX2_init 1 = .ok (.invokespecial 3, 3) := by decide +kernel
theorem dX2_init_4 : decode cX2_init 4 = .ok (.aload_n 0, 1) := by decide +kernel
theorem dX2_init_5 : decode cX2_init 5 = .ok (.iconst 5, 1) := by decide +kernel
theorem dX2_init_6 : decode cX2_init 6 = .ok (.newarray .int, 2) := by decide +kernel
theorem dX2_init_8 : decode cX2_init 8 = .ok (.putfield 9, 3) := by decide +kernel
theorem dX2_init_11 : decode cX2_init 11 = .ok (.aload_n 0, 1) := by decide +kernel
theorem dX2_init_12 : decode cX2_init 12 = .ok (.bipush 22, 2) := by decide +kernel
theorem dX2_init_14 : decode cX2_init 14 = .ok (.newarray .int, 2) := by decide +kernel
theorem dX2_init_16 : decode cX2_init 16 = .ok (.putfield 15, 3) := by decide +kernel
theorem dX2_init_19 : decode cX2_init 19 = .ok (.aload_n 0, 1) := by decide +kernel
theorem dX2_init_20 : decode cX2_init 20 = .ok (.bipush 22, 2) := by decide +kernel
theorem dX2_init_22 : decode cX2_init 22 = .ok (.newarray .int, 2) := by decide +kernel
theorem dX2_init_24 : decode cX2_init 24 = .ok (.putfield 18, 3) := by decide +kernel
theorem dX2_init_27 : decode cX2_init 27 = .ok (.aload_n 0, 1) := by decide +kernel
theorem dX2_init_28 : decode cX2_init 28 = .ok (.bipush 22, 2) := by decide +kernel
theorem dX2_init_30 : decode cX2_init 30 = .ok (.newarray .int, 2) := by decide +kernel
theorem dX2_init_32 : decode cX2_init 32 = .ok (.putfield 21, 3) := by decide +kernel
theorem dX2_init_35 : decode cX2_init 35 = .ok (.aload_n 0, 1) := by decide +kernel
theorem dX2_init_36 : decode cX2_init 36 = .ok (.bipush 22, 2) := by decide +kernel
theorem dX2_init_38 : decode cX2_init 38 = .ok (.newarray .int, 2) := by decide +kernel
theorem dX2_init_40 : decode cX2_init 40 = .ok (.putfield 24, 3) := by decide +kernel
theorem dX2_init_43 : decode cX2_init 43 = .ok (.aload_n 0, 1) := by decide +kernel
theorem dX2_init_44 : decode cX2_init 44 = .ok (.bipush 22, 2) := by decide +kernel
theorem dX2_init_46 : decode cX2_init 46 = .ok (.newarray .int, 2) := by decide +kernel
theorem dX2_init_48 : decode cX2_init 48 = .ok (.putfield 27, 3) := by decide +kernel
theorem dX2_init_51 : decode cX2_init 51 = .ok (.aload_n 0, 1) := by decide +kernel
theorem dX2_init_52 : decode cX2_init 52 = .ok (.iconst 0, 1) := by decide +kernel
theorem dX2_init_53 : decode cX2_init 53 = .ok (.putfield 30, 3) := by decide +kernel
theorem dX2_init_56 : decode cX2_init 56 = .ok (.aload_n 0, 1) := by decide +kernel
theorem dX2_init_57 : decode cX2_init 57 = .ok (.iconst 0, 1) := by decide +kernel
theorem dX2_init_58 : decode cX2_init 58 = .ok (.putfield 34, 3) := by decide +kernel
theorem dX2_init_61 : decode cX2_init 61 = .ok (.aload_n 0, 1) := by decide +kernel
theorem dX2_init_62 : decode cX2_init 62 = .ok (.iconst (-1), 1) := by decide +kernel
theorem dX2_init_63 : decode cX2_init 63 = .ok (.putfield 37, 3) := by decide +kernel
theorem dX2_init_66 : decode cX2_init 66 = .ok (.aload_n 0, 1) := by decide +kernel
theorem dX2_init_67 : decode cX2_init 67 = .ok (.iconst (-1), 1) := by decide +kernel
theorem dX2_init_68 : decode cX2_init 68 = .ok (.putfield 40, 3) := by decide +kernel
theorem dX2_init_71 : decode cX2_init 71 = .ok (.aload_n 0, 1) := by decide +kernel
theorem dX2_init_72 : decode cX2_init 72 = .ok (.aload_n 1, 1) := by decide +kernel
theorem dX2_init_73 : decode cX2_init 73 = .ok (.putfield 43, 3) := by decide +kernel
theorem dX2_init_76 : decode cX2_init 76 = .ok (.return_, 1) := by decide +kernel
theorem dX2_isMet_0 : decode cX2_isMet 0 = .ok (.iload_n 1, 1) := by decide +kernel
theorem dX2_isMet_1 : decode cX2_isMet 1 = .ok (.ifCond .lt 15, 3) := by decide +kernel
theorem dX2_isMet_4 : decode cX2_isMet 4 = .ok (.iload_n 1, 1) := by decide +kernel
theorem dX2_isMet_5 : decode cX2_isMet 5 = .ok (.aload_n 0, 1) := by decide +kernel
theorem dX2_isMet_6 : decode cX2_isMet 6 = .ok (.getfield 34, 3) := by decide +kernel
theorem dX2_isMet_9 : decode cX2_isMet 9 = .ok (.if_icmp .ge 7, 3) := by decide +kernel
theorem dX2_isMet_12 : decode cX2_isMet 12 = .ok (.iconst 1, 1) := by decide +kernel
theorem dX2_isMet_13 : decode cX2_isMet 13 = .ok (.goto 4, 3) := by decide +kernel
theorem dX2_isMet_16 : decode cX2_isMet 16 = .ok (.iconst 0, 1) := by decide +kernel
theorem dX2_isMet_17 : decode cX2_isMet 17 = .ok (.ireturn, 1) := by decide +kernel
theorem dX2_kindOf_0 : decode cX2_kindOf 0 = .ok (.iload_n 1, 1) := by decide +kernel
theorem dX2_kindOf_1 : decode cX2_kindOf 1 = .ok (.ifCond .lt 20, 3) := by decide +kernel
theorem dX2_kindOf_4 : decode cX2_kindOf 4 = .ok (.iload_n 1, 1) := by decide +kernel
theorem dX2_kindOf_5 : decode cX2_kindOf 5 = .ok (.aload_n 0, 1) := by decide +kernel
theorem dX2_kindOf_6 : decode cX2_kindOf 6 = .ok (.getfield 34, 3) := by decide +kernel
theorem dX2_kindOf_9 : decode cX2_kindOf 9 = .ok (.if_icmp .ge 12, 3) := by decide +kernel
theorem dX2_kindOf_12 : decode cX2_kindOf 12 = .ok (.aload_n 0, 1) := by decide +kernel
theorem dX2_kindOf_13 : decode cX2_kindOf 13 = .ok (.getfield 9, 3) := by decide +kernel
theorem dX2_kindOf_16 : decode cX2_kindOf 16 = .ok (.iload_n 1, 1) := by decide +kernel
theorem dX2_kindOf_17 : decode cX2_kindOf 17 = .ok (.iaload, 1) := by decide +kernel
theorem dX2_kindOf_18 : decode cX2_kindOf 18 = .ok (.goto 4, 3) := by decide +kernel
theorem dX2_kindOf_21 : decode cX2_kindOf 21 = .ok (.iconst (-1), 1) := by decide +kernel
theorem dX2_kindOf_22 : decode cX2_kindOf 22 = .ok (.ireturn, 1) := by decide +kernel
theorem dX2_isUnder_0 : decode cX2_isUnder 0 = .ok (.iload_n 1, 1) := by decide +kernel
theorem dX2_isUnder_1 : decode cX2_isUnder 1 = .ok (.ifCond .lt 32, 3) := by decide +kernel
theorem dX2_isUnder_4 : decode cX2_isUnder 4 = .ok (.iload_n 1, 1) := by decide +kernel
theorem dX2_isUnder_5 : decode cX2_isUnder 5 = .ok (.aload_n 0, 1) := by decide +kernel
theorem dX2_isUnder_6 : decode cX2_isUnder 6 = .ok (.getfield 34, 3) := by decide +kernel
theorem dX2_isUnder_9 : decode cX2_isUnder 9 = .ok (.if_icmp .ge 24, 3) := by decide +kernel
theorem dX2_isUnder_12 : decode cX2_isUnder 12 = .ok (.aload_n 0, 1) := by decide +kernel
theorem dX2_isUnder_13 : decode cX2_isUnder 13 = .ok (.getfield 43, 3) := by decide +kernel
theorem dX2_isUnder_16 : decode cX2_isUnder 16 = .ok (.aload_n 0, 1) := by decide +kernel
theorem dX2_isUnder_17 : decode cX2_isUnder 17 = .ok (.getfield 9, 3) := by decide +kernel
theorem dX2_isUnder_20 : decode cX2_isUnder 20 = .ok (.iload_n 1, 1) := by decide +kernel
theorem dX2_isUnder_21 : decode cX2_isUnder 21 = .ok (.iaload, 1) := by decide +kernel
theorem dX2_isUnder_22 : decode cX2_isUnder 22 = .ok (.iload_n 2, 1) := by decide +kernel
theorem dX2_isUnder_23 : decode cX2_isUnder 23 = .ok (.invokevirtual 47, 3) := by decide +kernel
theorem dX2_isUnder_26 : decode cX2_isUnder 26 = .ok (.ifCond .eq 7, 3) := by decide +kernel
theorem dX2_isUnder_29 : decode cX2_isUnder 29 = .ok (.iconst 1, 1) := by decide +kernel
theorem dX2_isUnder_30 : decode cX2_isUnder 30 = .ok (.goto 4, 3) := by decide +kernel
theorem dX2_isUnder_33 : decode cX2_isUnder 33 = .ok (.iconst 0, 1) := by decide +kernel
theorem dX2_isUnder_34 : decode cX2_isUnder 34 = .ok (.ireturn, 1) := by decide +kernel
theorem dX2_choiceAt_0 : decode cX2_choiceAt 0 = .ok (.iload_n 1, 1) := by decide +kernel
theorem dX2_choiceAt_1 : decode cX2_choiceAt 1 = .ok (.ifCond .lt 20, 3) := by decide +kernel
theorem dX2_choiceAt_4 : decode cX2_choiceAt 4 = .ok (.iload_n 1, 1) := by decide +kernel
theorem dX2_choiceAt_5 : decode cX2_choiceAt 5 = .ok (.aload_n 0, 1) := by decide +kernel
theorem dX2_choiceAt_6 : decode cX2_choiceAt 6 = .ok (.getfield 30, 3) := by decide +kernel
theorem dX2_choiceAt_9 : decode cX2_choiceAt 9 = .ok (.if_icmp .ge 12, 3) := by decide +kernel
theorem dX2_choiceAt_12 : decode cX2_choiceAt 12 = .ok (.aload_n 0, 1) := by decide +kernel
theorem dX2_choiceAt_13 : decode cX2_choiceAt 13 = .ok (.getfield 18, 3) := by decide +kernel
theorem dX2_choiceAt_16 : decode cX2_choiceAt 16 = .ok (.iload_n 1, 1) := by decide +kernel
theorem dX2_choiceAt_17 : decode cX2_choiceAt 17 = .ok (.iaload, 1) := by decide +kernel
theorem dX2_choiceAt_18 : decode cX2_choiceAt 18 = .ok (.goto 4, 3) := by decide +kernel
theorem dX2_choiceAt_21 : decode cX2_choiceAt 21 = .ok (.iconst (-1), 1) := by decide +kernel
theorem dX2_choiceAt_22 : decode cX2_choiceAt 22 = .ok (.ireturn, 1) := by decide +kernel
theorem dX2_inputTells_0 : decode cX2_inputTells 0 = .ok (.iload_n 1, 1) := by decide +kernel
theorem dX2_inputTells_1 : decode cX2_inputTells 1 = .ok (.ifCond .lt 23, 3) := by decide +kernel
theorem dX2_inputTells_4 : decode cX2_inputTells 4 = .ok (.iload_n 1, 1) := by decide +kernel
theorem dX2_inputTells_5 : decode cX2_inputTells 5 = .ok (.aload_n 0, 1) := by decide +kernel
theorem dX2_inputTells_6 : decode cX2_inputTells 6 = .ok (.getfield 43, 3) := by decide +kernel
theorem dX2_inputTells_9 : decode cX2_inputTells 9 = .ok (.getfield 53, 3) := by decide +kernel
theorem dX2_inputTells_12 : decode cX2_inputTells 12 = .ok (.if_icmp .ge 12, 3) := by decide +kernel
theorem dX2_inputTells_15 : decode cX2_inputTells 15 = .ok (.aload_n 0, 1) := by decide +kernel
theorem dX2_inputTells_16 : decode cX2_inputTells 16 = .ok (.getfield 15, 3) := by decide +kernel
theorem dX2_inputTells_19 : decode cX2_inputTells 19 = .ok (.iload_n 1, 1) := by decide +kernel
theorem dX2_inputTells_20 : decode cX2_inputTells 20 = .ok (.iaload, 1) := by decide +kernel
theorem dX2_inputTells_21 : decode cX2_inputTells 21 = .ok (.goto 4, 3) := by decide +kernel
theorem dX2_inputTells_24 : decode cX2_inputTells 24 = .ok (.iconst (-1), 1) := by decide +kernel
theorem dX2_inputTells_25 : decode cX2_inputTells 25 = .ok (.ireturn, 1) := by decide +kernel
theorem dX2_fieldTells_0 : decode cX2_fieldTells 0 = .ok (.iload_n 1, 1) := by decide +kernel
theorem dX2_fieldTells_1 : decode cX2_fieldTells 1 = .ok (.ifCond .lt 20, 3) := by decide +kernel
theorem dX2_fieldTells_4 : decode cX2_fieldTells 4 = .ok (.iload_n 1, 1) := by decide +kernel
theorem dX2_fieldTells_5 : decode cX2_fieldTells 5 = .ok (.aload_n 0, 1) := by decide +kernel
theorem dX2_fieldTells_6 : decode cX2_fieldTells 6 = .ok (.getfield 34, 3) := by decide +kernel
theorem dX2_fieldTells_9 : decode cX2_fieldTells 9 = .ok (.if_icmp .ge 12, 3) := by decide +kernel
theorem dX2_fieldTells_12 : decode cX2_fieldTells 12 = .ok (.iload_n 2, 1) := by decide +kernel
theorem dX2_fieldTells_13 : decode cX2_fieldTells 13 = .ok (.ifCond .lt 8, 3) := by decide +kernel
theorem dX2_fieldTells_16 : decode cX2_fieldTells 16 = .ok (.iload_n 2, 1) := by decide +kernel
theorem dX2_fieldTells_17 : decode cX2_fieldTells 17 = .ok (.iconst 4, 1) := by decide +kernel
theorem dX2_fieldTells_18 : decode cX2_fieldTells 18 = .ok (.if_icmp .lt 5, 3) := by decide +kernel
theorem dX2_fieldTells_21 : decode cX2_fieldTells 21 = .ok (.iconst (-1), 1) := by decide +kernel
theorem dX2_fieldTells_22 : decode cX2_fieldTells 22 = .ok (.ireturn, 1) := by decide +kernel
theorem dX2_fieldTells_23 : decode cX2_fieldTells 23 = .ok (.aload_n 0, 1) := by decide +kernel
theorem dX2_fieldTells_24 : decode cX2_fieldTells 24 = .ok (.getfield 15, 3) := by decide +kernel
theorem dX2_fieldTells_27 : decode cX2_fieldTells 27 = .ok (.iconst 2, 1) := by decide +kernel
theorem dX2_fieldTells_28 : decode cX2_fieldTells 28 = .ok (.iload_n 1, 1) := by decide +kernel
theorem dX2_fieldTells_29 : decode cX2_fieldTells 29 = .ok (.iconst 4, 1) := by decide +kernel
theorem dX2_fieldTells_30 : decode cX2_fieldTells 30 = .ok (.imul, 1) := by decide +kernel
theorem dX2_fieldTells_31 : decode cX2_fieldTells 31 = .ok (.iadd, 1) := by decide +kernel
theorem dX2_fieldTells_32 : decode cX2_fieldTells 32 = .ok (.iload_n 2, 1) := by decide +kernel
theorem dX2_fieldTells_33 : decode cX2_fieldTells 33 = .ok (.iadd, 1) := by decide +kernel
theorem dX2_fieldTells_34 : decode cX2_fieldTells 34 = .ok (.iaload, 1) := by decide +kernel
theorem dX2_fieldTells_35 : decode cX2_fieldTells 35 = .ok (.ireturn, 1) := by decide +kernel
theorem dX2_begin_0 : decode cX2_begin 0 = .ok (.aload_n 0, 1) := by decide +kernel
theorem dX2_begin_1 : decode cX2_begin 1 = .ok (.iconst 0, 1) := by decide +kernel
theorem dX2_begin_2 : decode cX2_begin 2 = .ok (.putfield 30, 3) := by decide +kernel
theorem dX2_begin_5 : decode cX2_begin 5 = .ok (.aload_n 0, 1) := by decide +kernel
theorem dX2_begin_6 : decode cX2_begin 6 = .ok (.iconst 0, 1) := by decide +kernel
theorem dX2_begin_7 : decode cX2_begin 7 = .ok (.putfield 34, 3) := by decide +kernel
theorem dX2_begin_10 : decode cX2_begin 10 = .ok (.aload_n 0, 1) := by decide +kernel
theorem dX2_begin_11 : decode cX2_begin 11 = .ok (.iconst 0, 1) := by decide +kernel
theorem dX2_begin_12 : decode cX2_begin 12 = .ok (.invokevirtual 56, 3) := by decide +kernel
theorem dX2_begin_15 : decode cX2_begin 15 = .ok (.return_, 1) := by decide +kernel
theorem dX2_fill_0 : decode cX2_fill 0 = .ok (.iconst 0, 1) := by decide +kernel
theorem dX2_fill_1 : decode cX2_fill 1 = .ok (.istore_n 1, 1) := by decide +kernel
theorem dX2_fill_2 : decode cX2_fill 2 = .ok (.iload_n 1, 1) := by decide +kernel
theorem dX2_fill_3 : decode cX2_fill 3 = .ok (.bipush 22, 2) := by decide +kernel
theorem dX2_fill_5 : decode cX2_fill 5 = .ok (.if_icmp .ge 22, 3) := by decide +kernel
theorem dX2_fill_8 : decode cX2_fill 8 = .ok (.aload_n 0, 1) := by decide +kernel
theorem dX2_fill_9 : decode cX2_fill 9 = .ok (.getfield 37, 3) := by decide +kernel
theorem dX2_fill_12 : decode cX2_fill 12 = .ok (.iconst (-1), 1) := by decide +kernel
theorem dX2_fill_13 : decode cX2_fill 13 = .ok (.if_icmp .eq 14, 3) := by decide +kernel
theorem dX2_fill_16 : decode cX2_fill 16 = .ok (.aload_n 0, 1) := by decide +kernel
theorem dX2_fill_17 : decode cX2_fill 17 = .ok (.iconst 0, 1) := by decide +kernel
theorem dX2_fill_18 : decode cX2_fill 18 = .ok (.invokevirtual 60, 3) := by decide +kernel
theorem dX2_fill_21 : decode cX2_fill 21 = .ok (.iinc 1 1, 3) := by decide +kernel
theorem dX2_fill_24 : decode cX2_fill 24 = .ok (.goto (-22), 3) := by decide +kernel
theorem dX2_fill_27 : decode cX2_fill 27 = .ok (.return_, 1) := by decide +kernel
theorem dX2_raise_0 : decode cX2_raise 0 = .ok (.aload_n 0, 1) := by decide +kernel
theorem dX2_raise_1 : decode cX2_raise 1 = .ok (.getfield 30, 3) := by decide +kernel
theorem dX2_raise_4 : decode cX2_raise 4 = .ok (.iconst 1, 1) := by decide +kernel
theorem dX2_raise_5 : decode cX2_raise 5 = .ok (.isub, 1) := by decide +kernel
theorem dX2_raise_6 : decode cX2_raise 6 = .ok (.istore_n 1, 1) := by decide +kernel
theorem dX2_raise_7 : decode cX2_raise 7 = .ok (.iload_n 1, 1) := by decide +kernel
theorem dX2_raise_8 : decode cX2_raise 8 = .ok (.ifCond .lt 37, 3) := by decide +kernel
theorem dX2_raise_11 : decode cX2_raise 11 = .ok (.aload_n 0, 1) := by decide +kernel
theorem dX2_raise_12 : decode cX2_raise 12 = .ok (.iload_n 1, 1) := by decide +kernel
theorem dX2_raise_13 : decode cX2_raise 13 = .ok (.invokevirtual 63, 3) := by decide +kernel
theorem dX2_raise_16 : decode cX2_raise 16 = .ok (.aload_n 0, 1) := by decide +kernel
theorem dX2_raise_17 : decode cX2_raise 17 = .ok (.aload_n 0, 1) := by decide +kernel
theorem dX2_raise_18 : decode cX2_raise 18 = .ok (.getfield 18, 3) := by decide +kernel
theorem dX2_raise_21 : decode cX2_raise 21 = .ok (.iload_n 1, 1) := by decide +kernel
theorem dX2_raise_22 : decode cX2_raise 22 = .ok (.iaload, 1) := by decide +kernel
theorem dX2_raise_23 : decode cX2_raise 23 = .ok (.invokevirtual 66, 3) := by decide +kernel
theorem dX2_raise_26 : decode cX2_raise 26 = .ok (.istore_n 2, 1) := by decide +kernel
theorem dX2_raise_27 : decode cX2_raise 27 = .ok (.iload_n 2, 1) := by decide +kernel
theorem dX2_raise_28 : decode cX2_raise 28 = .ok (.iconst (-1), 1) := by decide +kernel
theorem dX2_raise_29 : decode cX2_raise 29 = .ok (.if_icmp .eq 10, 3) := by decide +kernel
theorem dX2_raise_32 : decode cX2_raise 32 = .ok (.aload_n 0, 1) := by decide +kernel
theorem dX2_raise_33 : decode cX2_raise 33 = .ok (.iload_n 2, 1) := by decide +kernel
theorem dX2_raise_34 : decode cX2_raise 34 = .ok (.invokevirtual 60, 3) := by decide +kernel
theorem dX2_raise_37 : decode cX2_raise 37 = .ok (.iconst 1, 1) := by decide +kernel
theorem dX2_raise_38 : decode cX2_raise 38 = .ok (.ireturn, 1) := by decide +kernel
theorem dX2_raise_39 : decode cX2_raise 39 = .ok (.iinc 1 (-1), 3) := by decide +kernel
theorem dX2_raise_42 : decode cX2_raise 42 = .ok (.goto (-35), 3) := by decide +kernel
theorem dX2_raise_45 : decode cX2_raise 45 = .ok (.iconst 0, 1) := by decide +kernel
theorem dX2_raise_46 : decode cX2_raise 46 = .ok (.ireturn, 1) := by decide +kernel
theorem dX2_load_0 : decode cX2_load 0 = .ok (.aload_n 0, 1) := by decide +kernel
theorem dX2_load_1 : decode cX2_load 1 = .ok (.aload_n 1, 1) := by decide +kernel
theorem dX2_load_2 : decode cX2_load 2 = .ok (.iload_n 2, 1) := by decide +kernel
theorem dX2_load_3 : decode cX2_load 3 = .ok (.invokevirtual 70, 3) := by decide +kernel
theorem dX2_load_6 : decode cX2_load 6 = .ok (.istore_n 3, 1) := by decide +kernel
theorem dX2_load_7 : decode cX2_load 7 = .ok (.aload_n 0, 1) := by decide +kernel
theorem dX2_load_8 : decode cX2_load 8 = .ok (.iload_n 3, 1) := by decide +kernel
theorem dX2_load_9 : decode cX2_load 9 = .ok (.invokevirtual 63, 3) := by decide +kernel
theorem dX2_load_12 : decode cX2_load 12 = .ok (.iload_n 3, 1) := by decide +kernel
theorem dX2_load_13 : decode cX2_load 13 = .ok (.istore 4, 2) := by decide +kernel
theorem dX2_load_15 : decode cX2_load 15 = .ok (.iload 4, 2) := by decide +kernel
theorem dX2_load_17 : decode cX2_load 17 = .ok (.bipush 22, 2) := by decide +kernel
theorem dX2_load_19 : decode cX2_load 19 = .ok (.if_icmp .ge 28, 3) := by decide +kernel
theorem dX2_load_22 : decode cX2_load 22 = .ok (.aload_n 0, 1) := by decide +kernel
theorem dX2_load_23 : decode cX2_load 23 = .ok (.getfield 37, 3) := by decide +kernel
theorem dX2_load_26 : decode cX2_load 26 = .ok (.iconst (-1), 1) := by decide +kernel
theorem dX2_load_27 : decode cX2_load 27 = .ok (.if_icmp .eq 20, 3) := by decide +kernel
theorem dX2_load_30 : decode cX2_load 30 = .ok (.aload_n 0, 1) := by decide +kernel
theorem dX2_load_31 : decode cX2_load 31 = .ok (.aload_n 1, 1) := by decide +kernel
theorem dX2_load_32 : decode cX2_load 32 = .ok (.iload_n 2, 1) := by decide +kernel
theorem dX2_load_33 : decode cX2_load 33 = .ok (.iload 4, 2) := by decide +kernel
theorem dX2_load_35 : decode cX2_load 35 = .ok (.invokevirtual 74, 3) := by decide +kernel
theorem dX2_load_38 : decode cX2_load 38 = .ok (.invokevirtual 60, 3) := by decide +kernel
theorem dX2_load_41 : decode cX2_load 41 = .ok (.iinc 4 1, 3) := by decide +kernel
theorem dX2_load_44 : decode cX2_load 44 = .ok (.goto (-29), 3) := by decide +kernel
theorem dX2_load_47 : decode cX2_load 47 = .ok (.return_, 1) := by decide +kernel
theorem dX2_loadUnsure_0 : decode cX2_loadUnsure 0 = .ok (.aload_n 0, 1) := by decide +kernel
theorem dX2_loadUnsure_1 : decode cX2_loadUnsure 1 = .ok (.invokevirtual 80, 3) := by decide +kernel
theorem dX2_loadUnsure_4 : decode cX2_loadUnsure 4 = .ok (.iconst 0, 1) := by decide +kernel
theorem dX2_loadUnsure_5 : decode cX2_loadUnsure 5 = .ok (.istore_n 3, 1) := by decide +kernel
theorem dX2_loadUnsure_6 : decode cX2_loadUnsure 6 = .ok (.iload_n 3, 1) := by decide +kernel
theorem dX2_loadUnsure_7 : decode cX2_loadUnsure 7 = .ok (.iload_n 2, 1) := by decide +kernel
theorem dX2_loadUnsure_8 : decode cX2_loadUnsure 8 = .ok (.if_icmp .ge 34, 3) := by decide +kernel
theorem dX2_loadUnsure_11 : decode cX2_loadUnsure 11 = .ok (.iload_n 3, 1) := by decide +kernel
theorem dX2_loadUnsure_12 : decode cX2_loadUnsure 12 = .ok (.aload_n 1, 1) := by decide +kernel
theorem dX2_loadUnsure_13 : decode cX2_loadUnsure 13 = .ok (.arraylength, 1) := by decide +kernel
theorem dX2_loadUnsure_14 : decode cX2_loadUnsure 14 = .ok (.if_icmp .ge 28, 3) := by decide +kernel
theorem dX2_loadUnsure_17 : decode cX2_loadUnsure 17 = .ok (.aload_n 0, 1) := by decide +kernel
theorem dX2_loadUnsure_18 : decode cX2_loadUnsure 18 = .ok (.aload_n 1, 1) := by decide +kernel
theorem dX2_loadUnsure_19 : decode cX2_loadUnsure 19 = .ok (.iload_n 3, 1) := by decide +kernel
theorem dX2_loadUnsure_20 : decode cX2_loadUnsure 20 = .ok (.iaload, 1) := by decide +kernel
theorem dX2_loadUnsure_21 : decode cX2_loadUnsure 21 = .ok (.invokevirtual 83, 3) := by decide +kernel
theorem dX2_loadUnsure_24 : decode cX2_loadUnsure 24 = .ok (.ifCond .ne 5, 3) := by decide +kernel
theorem dX2_loadUnsure_27 : decode cX2_loadUnsure 27 = .ok (.iload_n 3, 1) := by decide +kernel
theorem dX2_loadUnsure_28 : decode cX2_loadUnsure 28 = .ok (.ireturn, 1) := by decide +kernel
theorem dX2_loadUnsure_29 : decode cX2_loadUnsure 29 = .ok (.aload_n 0, 1) := by decide +kernel
theorem dX2_loadUnsure_30 : decode cX2_loadUnsure 30 = .ok (.aload_n 1, 1) := by decide +kernel
theorem dX2_loadUnsure_31 : decode cX2_loadUnsure 31 = .ok (.iload_n 3, 1) := by decide +kernel
theorem dX2_loadUnsure_32 : decode cX2_loadUnsure 32 = .ok (.iaload, 1) := by decide +kernel
theorem dX2_loadUnsure_33 : decode cX2_loadUnsure 33 = .ok (.invokevirtual 60, 3) := by decide +kernel
theorem dX2_loadUnsure_36 : decode cX2_loadUnsure 36 = .ok (.iinc 3 1, 3) := by decide +kernel
theorem dX2_loadUnsure_39 : decode cX2_loadUnsure 39 = .ok (.goto (-33), 3) := by decide +kernel
theorem dX2_loadUnsure_42 : decode cX2_loadUnsure 42 = .ok (.aload_n 0, 1) := by decide +kernel
theorem dX2_loadUnsure_43 : decode cX2_loadUnsure 43 = .ok (.getfield 37, 3) := by decide +kernel
theorem dX2_loadUnsure_46 : decode cX2_loadUnsure 46 = .ok (.iconst (-1), 1) := by decide +kernel
theorem dX2_loadUnsure_47 : decode cX2_loadUnsure 47 = .ok (.if_icmp .ne 7, 3) := by decide +kernel
theorem dX2_loadUnsure_50 : decode cX2_loadUnsure 50 = .ok (.iconst (-1), 1) := by decide +kernel
theorem dX2_loadUnsure_51 : decode cX2_loadUnsure 51 = .ok (.goto 4, 3) := by decide +kernel
theorem dX2_loadUnsure_54 : decode cX2_loadUnsure 54 = .ok (.iload_n 2, 1) := by decide +kernel
theorem dX2_loadUnsure_55 : decode cX2_loadUnsure 55 = .ok (.ireturn, 1) := by decide +kernel
theorem dX2_countAlike_0 : decode cX2_countAlike 0 = .ok (.iconst 0, 1) := by decide +kernel
theorem dX2_countAlike_1 : decode cX2_countAlike 1 = .ok (.istore_n 3, 1) := by decide +kernel
theorem dX2_countAlike_2 : decode cX2_countAlike 2 = .ok (.iload_n 3, 1) := by decide +kernel
theorem dX2_countAlike_3 : decode cX2_countAlike 3 = .ok (.aload_n 0, 1) := by decide +kernel
theorem dX2_countAlike_4 : decode cX2_countAlike 4 = .ok (.getfield 30, 3) := by decide +kernel
theorem dX2_countAlike_7 : decode cX2_countAlike 7 = .ok (.if_icmp .ge 26, 3) := by decide +kernel
theorem dX2_countAlike_10 : decode cX2_countAlike 10 = .ok (.aload_n 0, 1) := by decide +kernel
theorem dX2_countAlike_11 : decode cX2_countAlike 11 = .ok (.getfield 18, 3) := by decide +kernel
theorem dX2_countAlike_14 : decode cX2_countAlike 14 = .ok (.iload_n 3, 1) := by decide +kernel
theorem dX2_countAlike_15 : decode cX2_countAlike 15 = .ok (.iaload, 1) := by decide +kernel
theorem dX2_countAlike_16 : decode cX2_countAlike 16 = .ok (.aload_n 1, 1) := by decide +kernel
theorem dX2_countAlike_17 : decode cX2_countAlike 17 = .ok (.iload_n 2, 1) := by decide +kernel
theorem dX2_countAlike_18 : decode cX2_countAlike 18 = .ok (.iload_n 3, 1) := by decide +kernel
theorem dX2_countAlike_19 : decode cX2_countAlike 19 = .ok (.invokevirtual 74, 3) := by decide +kernel
theorem dX2_countAlike_22 : decode cX2_countAlike 22 = .ok (.if_icmp .eq 5, 3) := by decide +kernel
theorem dX2_countAlike_25 : decode cX2_countAlike 25 = .ok (.iload_n 3, 1) := by decide +kernel
theorem dX2_countAlike_26 : decode cX2_countAlike 26 = .ok (.ireturn, 1) := by decide +kernel
theorem dX2_countAlike_27 : decode cX2_countAlike 27 = .ok (.iinc 3 1, 3) := by decide +kernel
theorem dX2_countAlike_30 : decode cX2_countAlike 30 = .ok (.goto (-28), 3) := by decide +kernel
theorem dX2_countAlike_33 : decode cX2_countAlike 33 = .ok (.aload_n 0, 1) := by decide +kernel
theorem dX2_countAlike_34 : decode cX2_countAlike 34 = .ok (.getfield 30, 3) := by decide +kernel
theorem dX2_countAlike_37 : decode cX2_countAlike 37 = .ok (.ireturn, 1) := by decide +kernel
theorem dX2_backTo_0 : decode cX2_backTo 0 = .ok (.iload_n 1, 1) := by decide +kernel
theorem dX2_backTo_1 : decode cX2_backTo 1 = .ok (.ifCond .lt 46, 3) := by decide +kernel
theorem dX2_backTo_4 : decode cX2_backTo 4 = .ok (.iload_n 1, 1) := by decide +kernel
theorem dX2_backTo_5 : decode cX2_backTo 5 = .ok (.aload_n 0, 1) := by decide +kernel
theorem dX2_backTo_6 : decode cX2_backTo 6 = .ok (.getfield 30, 3) := by decide +kernel
theorem dX2_backTo_9 : decode cX2_backTo 9 = .ok (.if_icmp .ge 38, 3) := by decide +kernel
theorem dX2_backTo_12 : decode cX2_backTo 12 = .ok (.aload_n 0, 1) := by decide +kernel
theorem dX2_backTo_13 : decode cX2_backTo 13 = .ok (.aload_n 0, 1) := by decide +kernel
theorem dX2_backTo_14 : decode cX2_backTo 14 = .ok (.getfield 21, 3) := by decide +kernel
theorem dX2_backTo_17 : decode cX2_backTo 17 = .ok (.iload_n 1, 1) := by decide +kernel
theorem dX2_backTo_18 : decode cX2_backTo 18 = .ok (.iaload, 1) := by decide +kernel
theorem dX2_backTo_19 : decode cX2_backTo 19 = .ok (.putfield 37, 3) := by decide +kernel
theorem dX2_backTo_22 : decode cX2_backTo 22 = .ok (.aload_n 0, 1) := by decide +kernel
theorem dX2_backTo_23 : decode cX2_backTo 23 = .ok (.aload_n 0, 1) := by decide +kernel
theorem dX2_backTo_24 : decode cX2_backTo 24 = .ok (.getfield 24, 3) := by decide +kernel
theorem dX2_backTo_27 : decode cX2_backTo 27 = .ok (.iload_n 1, 1) := by decide +kernel
theorem dX2_backTo_28 : decode cX2_backTo 28 = .ok (.iaload, 1) := by decide +kernel
theorem dX2_backTo_29 : decode cX2_backTo 29 = .ok (.putfield 40, 3) := by decide +kernel
theorem dX2_backTo_32 : decode cX2_backTo 32 = .ok (.aload_n 0, 1) := by decide +kernel
theorem dX2_backTo_33 : decode cX2_backTo 33 = .ok (.aload_n 0, 1) := by decide +kernel
theorem dX2_backTo_34 : decode cX2_backTo 34 = .ok (.getfield 27, 3) := by decide +kernel
theorem dX2_backTo_37 : decode cX2_backTo 37 = .ok (.iload_n 1, 1) := by decide +kernel
theorem dX2_backTo_38 : decode cX2_backTo 38 = .ok (.iaload, 1) := by decide +kernel
theorem dX2_backTo_39 : decode cX2_backTo 39 = .ok (.putfield 34, 3) := by decide +kernel
theorem dX2_backTo_42 : decode cX2_backTo 42 = .ok (.aload_n 0, 1) := by decide +kernel
theorem dX2_backTo_43 : decode cX2_backTo 43 = .ok (.iload_n 1, 1) := by decide +kernel
theorem dX2_backTo_44 : decode cX2_backTo 44 = .ok (.putfield 30, 3) := by decide +kernel
theorem dX2_backTo_47 : decode cX2_backTo 47 = .ok (.return_, 1) := by decide +kernel
theorem dX2_choiceAbove_0 : decode cX2_choiceAbove 0 = .ok (.aload_n 0, 1) := by decide +kernel
theorem dX2_choiceAbove_1 : decode cX2_choiceAbove 1 = .ok (.getfield 40, 3) := by decide +kernel
theorem dX2_choiceAbove_4 : decode cX2_choiceAbove 4 = .ok (.invokestatic 87, 3) := by decide +kernel
theorem dX2_choiceAbove_7 : decode cX2_choiceAbove 7 = .ok (.ifCond .ne 21, 3) := by decide +kernel
theorem dX2_choiceAbove_10 : decode cX2_choiceAbove 10 = .ok (.aload_n 0, 1) := by decide +kernel
theorem dX2_choiceAbove_11 : decode cX2_choiceAbove 11 = .ok (.iload_n 1, 1) := by decide +kernel
theorem dX2_choiceAbove_12 : decode cX2_choiceAbove 12 = .ok (.iconst 1, 1) := by decide +kernel
theorem dX2_choiceAbove_13 : decode cX2_choiceAbove 13 = .ok (.iadd, 1) := by decide +kernel
theorem dX2_choiceAbove_14 : decode cX2_choiceAbove 14 = .ok (.invokevirtual 83, 3) := by decide +kernel
theorem dX2_choiceAbove_17 : decode cX2_choiceAbove 17 = .ok (.ifCond .eq 9, 3) := by decide +kernel
theorem dX2_choiceAbove_20 : decode cX2_choiceAbove 20 = .ok (.iload_n 1, 1) := by decide +kernel
end
section
theorem dX2_choiceAbove_21 : decode cX2_choiceAbove 21 = .ok (.iconst 1, 1) := by decide +kernel
theorem dX2_choiceAbove_22 : decode cX2_choiceAbove 22 = .ok (.iadd, 1) := by decide +kernel
theorem dX2_choiceAbove_23 : decode cX2_choiceAbove 23 = .ok (.goto 4, 3) := by decide +kernel
theorem dX2_choiceAbove_26 : decode cX2_choiceAbove 26 = .ok (.iconst (-1), 1) := by decide +kernel
theorem dX2_choiceAbove_27 : decode cX2_choiceAbove 27 = .ok (.ireturn, 1) := by decide +kernel
theorem dX2_choiceAbove_28 : decode cX2_choiceAbove 28 = .ok (.iload_n 1, 1) := by decide +kernel
theorem dX2_choiceAbove_29 : decode cX2_choiceAbove 29 = .ok (.iconst 1, 1) := by decide +kernel
theorem dX2_choiceAbove_30 : decode cX2_choiceAbove 30 = .ok (.iadd, 1) := by decide +kernel
theorem dX2_choiceAbove_31 : decode cX2_choiceAbove 31 = .ok (.istore_n 2, 1) := by decide +kernel
theorem dX2_choiceAbove_32 : decode cX2_choiceAbove 32 = .ok (.iload_n 2, 1) := by decide +kernel
theorem dX2_choiceAbove_33 : decode cX2_choiceAbove 33 = .ok (.aload_n 0, 1) := by decide +kernel
theorem dX2_choiceAbove_34 : decode cX2_choiceAbove 34 = .ok (.getfield 34, 3) := by decide +kernel
theorem dX2_choiceAbove_37 : decode cX2_choiceAbove 37 = .ok (.if_icmp .gt 19, 3) := by decide +kernel
theorem dX2_choiceAbove_40 : decode cX2_choiceAbove 40 = .ok (.aload_n 0, 1) := by decide +kernel
theorem dX2_choiceAbove_41 : decode cX2_choiceAbove 41 = .ok (.iload_n 2, 1) := by decide +kernel
theorem dX2_choiceAbove_42 : decode cX2_choiceAbove 42 = .ok (.invokevirtual 83, 3) := by decide +kernel
theorem dX2_choiceAbove_45 : decode cX2_choiceAbove 45 = .ok (.ifCond .eq 5, 3) := by decide +kernel
theorem dX2_choiceAbove_48 : decode cX2_choiceAbove 48 = .ok (.iload_n 2, 1) := by decide +kernel
theorem dX2_choiceAbove_49 : decode cX2_choiceAbove 49 = .ok (.ireturn, 1) := by decide +kernel
theorem dX2_choiceAbove_50 : decode cX2_choiceAbove 50 = .ok (.iinc 2 1, 3) := by decide +kernel
theorem dX2_choiceAbove_53 : decode cX2_choiceAbove 53 = .ok (.goto (-21), 3) := by decide +kernel
theorem dX2_choiceAbove_56 : decode cX2_choiceAbove 56 = .ok (.iload_n 1, 1) := by decide +kernel
theorem dX2_choiceAbove_57 : decode cX2_choiceAbove 57 = .ok (.iconst 1, 1) := by decide +kernel
theorem dX2_choiceAbove_58 : decode cX2_choiceAbove 58 = .ok (.iadd, 1) := by decide +kernel
theorem dX2_choiceAbove_59 : decode cX2_choiceAbove 59 = .ok (.bipush 10, 2) := by decide +kernel
theorem dX2_choiceAbove_61 : decode cX2_choiceAbove 61 = .ok (.invokestatic 90, 3) := by decide +kernel
theorem dX2_choiceAbove_64 : decode cX2_choiceAbove 64 = .ok (.istore_n 2, 1) := by decide +kernel
theorem dX2_choiceAbove_65 : decode cX2_choiceAbove 65 = .ok (.iload_n 2, 1) := by decide +kernel
theorem dX2_choiceAbove_66 : decode cX2_choiceAbove 66 = .ok (.bipush 10, 2) := by decide +kernel
theorem dX2_choiceAbove_68 : decode cX2_choiceAbove 68 = .ok (.aload_n 0, 1) := by decide +kernel
theorem dX2_choiceAbove_69 : decode cX2_choiceAbove 69 = .ok (.getfield 43, 3) := by decide +kernel
theorem dX2_choiceAbove_72 : decode cX2_choiceAbove 72 = .ok (.getfield 95, 3) := by decide +kernel
theorem dX2_choiceAbove_75 : decode cX2_choiceAbove 75 = .ok (.iadd, 1) := by decide +kernel
theorem dX2_choiceAbove_76 : decode cX2_choiceAbove 76 = .ok (.if_icmp .ge 19, 3) := by decide +kernel
theorem dX2_choiceAbove_79 : decode cX2_choiceAbove 79 = .ok (.aload_n 0, 1) := by decide +kernel
theorem dX2_choiceAbove_80 : decode cX2_choiceAbove 80 = .ok (.iload_n 2, 1) := by decide +kernel
theorem dX2_choiceAbove_81 : decode cX2_choiceAbove 81 = .ok (.invokevirtual 83, 3) := by decide +kernel
theorem dX2_choiceAbove_84 : decode cX2_choiceAbove 84 = .ok (.ifCond .eq 5, 3) := by decide +kernel
theorem dX2_choiceAbove_87 : decode cX2_choiceAbove 87 = .ok (.iload_n 2, 1) := by decide +kernel
theorem dX2_choiceAbove_88 : decode cX2_choiceAbove 88 = .ok (.ireturn, 1) := by decide +kernel
theorem dX2_choiceAbove_89 : decode cX2_choiceAbove 89 = .ok (.iinc 2 1, 3) := by decide +kernel
theorem dX2_choiceAbove_92 : decode cX2_choiceAbove 92 = .ok (.goto (-27), 3) := by decide +kernel
theorem dX2_choiceAbove_95 : decode cX2_choiceAbove 95 = .ok (.iconst (-1), 1) := by decide +kernel
theorem dX2_choiceAbove_96 : decode cX2_choiceAbove 96 = .ok (.ireturn, 1) := by decide +kernel
theorem dX2_allows_0 : decode cX2_allows 0 = .ok (.aload_n 0, 1) := by decide +kernel
theorem dX2_allows_1 : decode cX2_allows 1 = .ok (.getfield 37, 3) := by decide +kernel
theorem dX2_allows_4 : decode cX2_allows 4 = .ok (.iconst (-1), 1) := by decide +kernel
theorem dX2_allows_5 : decode cX2_allows 5 = .ok (.if_icmp .eq 7, 3) := by decide +kernel
theorem dX2_allows_8 : decode cX2_allows 8 = .ok (.iload_n 1, 1) := by decide +kernel
theorem dX2_allows_9 : decode cX2_allows 9 = .ok (.ifCond .ge 5, 3) := by decide +kernel
theorem dX2_allows_12 : decode cX2_allows 12 = .ok (.iconst 0, 1) := by decide +kernel
theorem dX2_allows_13 : decode cX2_allows 13 = .ok (.ireturn, 1) := by decide +kernel
theorem dX2_allows_14 : decode cX2_allows 14 = .ok (.aload_n 0, 1) := by decide +kernel
theorem dX2_allows_15 : decode cX2_allows 15 = .ok (.getfield 40, 3) := by decide +kernel
theorem dX2_allows_18 : decode cX2_allows 18 = .ok (.invokestatic 87, 3) := by decide +kernel
theorem dX2_allows_21 : decode cX2_allows 21 = .ok (.ifCond .ne 19, 3) := by decide +kernel
theorem dX2_allows_24 : decode cX2_allows 24 = .ok (.iload_n 1, 1) := by decide +kernel
theorem dX2_allows_25 : decode cX2_allows 25 = .ok (.aload_n 0, 1) := by decide +kernel
theorem dX2_allows_26 : decode cX2_allows 26 = .ok (.getfield 40, 3) := by decide +kernel
theorem dX2_allows_29 : decode cX2_allows 29 = .ok (.iconst 4, 1) := by decide +kernel
theorem dX2_allows_30 : decode cX2_allows 30 = .ok (.isub, 1) := by decide +kernel
theorem dX2_allows_31 : decode cX2_allows 31 = .ok (.if_icmp .gt 7, 3) := by decide +kernel
theorem dX2_allows_34 : decode cX2_allows 34 = .ok (.iconst 1, 1) := by decide +kernel
theorem dX2_allows_35 : decode cX2_allows 35 = .ok (.goto 4, 3) := by decide +kernel
theorem dX2_allows_38 : decode cX2_allows 38 = .ok (.iconst 0, 1) := by decide +kernel
theorem dX2_allows_39 : decode cX2_allows 39 = .ok (.ireturn, 1) := by decide +kernel
theorem dX2_allows_40 : decode cX2_allows 40 = .ok (.iload_n 1, 1) := by decide +kernel
theorem dX2_allows_41 : decode cX2_allows 41 = .ok (.aload_n 0, 1) := by decide +kernel
theorem dX2_allows_42 : decode cX2_allows 42 = .ok (.getfield 34, 3) := by decide +kernel
theorem dX2_allows_45 : decode cX2_allows 45 = .ok (.if_icmp .gt 34, 3) := by decide +kernel
theorem dX2_allows_48 : decode cX2_allows 48 = .ok (.iload_n 1, 1) := by decide +kernel
theorem dX2_allows_49 : decode cX2_allows 49 = .ok (.ifCond .eq 24, 3) := by decide +kernel
theorem dX2_allows_52 : decode cX2_allows 52 = .ok (.aload_n 0, 1) := by decide +kernel
theorem dX2_allows_53 : decode cX2_allows 53 = .ok (.getfield 43, 3) := by decide +kernel
theorem dX2_allows_56 : decode cX2_allows 56 = .ok (.aload_n 0, 1) := by decide +kernel
theorem dX2_allows_57 : decode cX2_allows 57 = .ok (.iload_n 1, 1) := by decide +kernel
theorem dX2_allows_58 : decode cX2_allows 58 = .ok (.iconst 1, 1) := by decide +kernel
theorem dX2_allows_59 : decode cX2_allows 59 = .ok (.isub, 1) := by decide +kernel
theorem dX2_allows_60 : decode cX2_allows 60 = .ok (.invokevirtual 98, 3) := by decide +kernel
theorem dX2_allows_63 : decode cX2_allows 63 = .ok (.aload_n 0, 1) := by decide +kernel
theorem dX2_allows_64 : decode cX2_allows 64 = .ok (.getfield 40, 3) := by decide +kernel
theorem dX2_allows_67 : decode cX2_allows 67 = .ok (.invokevirtual 47, 3) := by decide +kernel
theorem dX2_allows_70 : decode cX2_allows 70 = .ok (.ifCond .eq 7, 3) := by decide +kernel
theorem dX2_allows_73 : decode cX2_allows 73 = .ok (.iconst 1, 1) := by decide +kernel
theorem dX2_allows_74 : decode cX2_allows 74 = .ok (.goto 4, 3) := by decide +kernel
theorem dX2_allows_77 : decode cX2_allows 77 = .ok (.iconst 0, 1) := by decide +kernel
theorem dX2_allows_78 : decode cX2_allows 78 = .ok (.ireturn, 1) := by decide +kernel
theorem dX2_allows_79 : decode cX2_allows 79 = .ok (.iload_n 1, 1) := by decide +kernel
theorem dX2_allows_80 : decode cX2_allows 80 = .ok (.bipush 10, 2) := by decide +kernel
theorem dX2_allows_82 : decode cX2_allows 82 = .ok (.if_icmp .lt 39, 3) := by decide +kernel
theorem dX2_allows_85 : decode cX2_allows 85 = .ok (.aload_n 0, 1) := by decide +kernel
theorem dX2_allows_86 : decode cX2_allows 86 = .ok (.getfield 34, 3) := by decide +kernel
theorem dX2_allows_89 : decode cX2_allows 89 = .ok (.aload_n 0, 1) := by decide +kernel
theorem dX2_allows_90 : decode cX2_allows 90 = .ok (.getfield 43, 3) := by decide +kernel
theorem dX2_allows_93 : decode cX2_allows 93 = .ok (.getfield 101, 3) := by decide +kernel
theorem dX2_allows_96 : decode cX2_allows 96 = .ok (.if_icmp .ge 25, 3) := by decide +kernel
theorem dX2_allows_99 : decode cX2_allows 99 = .ok (.aload_n 0, 1) := by decide +kernel
theorem dX2_allows_100 : decode cX2_allows 100 = .ok (.getfield 43, 3) := by decide +kernel
theorem dX2_allows_103 : decode cX2_allows 103 = .ok (.iload_n 1, 1) := by decide +kernel
theorem dX2_allows_104 : decode cX2_allows 104 = .ok (.bipush 10, 2) := by decide +kernel
theorem dX2_allows_106 : decode cX2_allows 106 = .ok (.isub, 1) := by decide +kernel
theorem dX2_allows_107 : decode cX2_allows 107 = .ok (.aload_n 0, 1) := by decide +kernel
theorem dX2_allows_108 : decode cX2_allows 108 = .ok (.getfield 40, 3) := by decide +kernel
theorem dX2_allows_111 : decode cX2_allows 111 = .ok (.invokevirtual 47, 3) := by decide +kernel
theorem dX2_allows_114 : decode cX2_allows 114 = .ok (.ifCond .eq 7, 3) := by decide +kernel
theorem dX2_allows_117 : decode cX2_allows 117 = .ok (.iconst 1, 1) := by decide +kernel
theorem dX2_allows_118 : decode cX2_allows 118 = .ok (.goto 4, 3) := by decide +kernel
theorem dX2_allows_121 : decode cX2_allows 121 = .ok (.iconst 0, 1) := by decide +kernel
theorem dX2_allows_122 : decode cX2_allows 122 = .ok (.ireturn, 1) := by decide +kernel
theorem dX2_take_0 : decode cX2_take 0 = .ok (.aload_n 0, 1) := by decide +kernel
theorem dX2_take_1 : decode cX2_take 1 = .ok (.getfield 37, 3) := by decide +kernel
theorem dX2_take_4 : decode cX2_take 4 = .ok (.ifCond .lt 21, 3) := by decide +kernel
theorem dX2_take_7 : decode cX2_take 7 = .ok (.aload_n 0, 1) := by decide +kernel
theorem dX2_take_8 : decode cX2_take 8 = .ok (.getfield 37, 3) := by decide +kernel
theorem dX2_take_11 : decode cX2_take 11 = .ok (.bipush 22, 2) := by decide +kernel
theorem dX2_take_13 : decode cX2_take 13 = .ok (.if_icmp .ge 12, 3) := by decide +kernel
theorem dX2_take_16 : decode cX2_take 16 = .ok (.aload_n 0, 1) := by decide +kernel
theorem dX2_take_17 : decode cX2_take 17 = .ok (.getfield 30, 3) := by decide +kernel
theorem dX2_take_20 : decode cX2_take 20 = .ok (.bipush 22, 2) := by decide +kernel
theorem dX2_take_22 : decode cX2_take 22 = .ok (.if_icmp .lt 4, 3) := by decide +kernel
theorem dX2_take_25 : decode cX2_take 25 = .ok (.return_, 1) := by decide +kernel
theorem dX2_take_26 : decode cX2_take 26 = .ok (.aload_n 0, 1) := by decide +kernel
theorem dX2_take_27 : decode cX2_take 27 = .ok (.getfield 21, 3) := by decide +kernel
theorem dX2_take_30 : decode cX2_take 30 = .ok (.aload_n 0, 1) := by decide +kernel
theorem dX2_take_31 : decode cX2_take 31 = .ok (.getfield 30, 3) := by decide +kernel
theorem dX2_take_34 : decode cX2_take 34 = .ok (.aload_n 0, 1) := by decide +kernel
theorem dX2_take_35 : decode cX2_take 35 = .ok (.getfield 37, 3) := by decide +kernel
theorem dX2_take_38 : decode cX2_take 38 = .ok (.iastore, 1) := by decide +kernel
theorem dX2_take_39 : decode cX2_take 39 = .ok (.aload_n 0, 1) := by decide +kernel
theorem dX2_take_40 : decode cX2_take 40 = .ok (.getfield 24, 3) := by decide +kernel
theorem dX2_take_43 : decode cX2_take 43 = .ok (.aload_n 0, 1) := by decide +kernel
theorem dX2_take_44 : decode cX2_take 44 = .ok (.getfield 30, 3) := by decide +kernel
theorem dX2_take_47 : decode cX2_take 47 = .ok (.aload_n 0, 1) := by decide +kernel
theorem dX2_take_48 : decode cX2_take 48 = .ok (.getfield 40, 3) := by decide +kernel
theorem dX2_take_51 : decode cX2_take 51 = .ok (.iastore, 1) := by decide +kernel
theorem dX2_take_52 : decode cX2_take 52 = .ok (.aload_n 0, 1) := by decide +kernel
theorem dX2_take_53 : decode cX2_take 53 = .ok (.getfield 18, 3) := by decide +kernel
theorem dX2_take_56 : decode cX2_take 56 = .ok (.aload_n 0, 1) := by decide +kernel
theorem dX2_take_57 : decode cX2_take 57 = .ok (.getfield 30, 3) := by decide +kernel
theorem dX2_take_60 : decode cX2_take 60 = .ok (.iload_n 1, 1) := by decide +kernel
theorem dX2_take_61 : decode cX2_take 61 = .ok (.iastore, 1) := by decide +kernel
theorem dX2_take_62 : decode cX2_take 62 = .ok (.aload_n 0, 1) := by decide +kernel
theorem dX2_take_63 : decode cX2_take 63 = .ok (.getfield 27, 3) := by decide +kernel
theorem dX2_take_66 : decode cX2_take 66 = .ok (.aload_n 0, 1) := by decide +kernel
theorem dX2_take_67 : decode cX2_take 67 = .ok (.getfield 30, 3) := by decide +kernel
theorem dX2_take_70 : decode cX2_take 70 = .ok (.aload_n 0, 1) := by decide +kernel
theorem dX2_take_71 : decode cX2_take 71 = .ok (.getfield 34, 3) := by decide +kernel
theorem dX2_take_74 : decode cX2_take 74 = .ok (.iastore, 1) := by decide +kernel
theorem dX2_take_75 : decode cX2_take 75 = .ok (.aload_n 0, 1) := by decide +kernel
theorem dX2_take_76 : decode cX2_take 76 = .ok (.dup, 1) := by decide +kernel
theorem dX2_take_77 : decode cX2_take 77 = .ok (.getfield 30, 3) := by decide +kernel
theorem dX2_take_80 : decode cX2_take 80 = .ok (.iconst 1, 1) := by decide +kernel
theorem dX2_take_81 : decode cX2_take 81 = .ok (.iadd, 1) := by decide +kernel
theorem dX2_take_82 : decode cX2_take 82 = .ok (.putfield 30, 3) := by decide +kernel
theorem dX2_take_85 : decode cX2_take 85 = .ok (.aload_n 0, 1) := by decide +kernel
theorem dX2_take_86 : decode cX2_take 86 = .ok (.getfield 15, 3) := by decide +kernel
theorem dX2_take_89 : decode cX2_take 89 = .ok (.aload_n 0, 1) := by decide +kernel
theorem dX2_take_90 : decode cX2_take 90 = .ok (.getfield 37, 3) := by decide +kernel
theorem dX2_take_93 : decode cX2_take 93 = .ok (.aload_n 0, 1) := by decide +kernel
theorem dX2_take_94 : decode cX2_take 94 = .ok (.getfield 40, 3) := by decide +kernel
theorem dX2_take_97 : decode cX2_take 97 = .ok (.invokestatic 87, 3) := by decide +kernel
theorem dX2_take_100 : decode cX2_take 100 = .ok (.ifCond .eq 11, 3) := by decide +kernel
theorem dX2_take_103 : decode cX2_take 103 = .ok (.aload_n 0, 1) := by decide +kernel
theorem dX2_take_104 : decode cX2_take 104 = .ok (.iload_n 1, 1) := by decide +kernel
theorem dX2_take_105 : decode cX2_take 105 = .ok (.invokevirtual 104, 3) := by decide +kernel
theorem dX2_take_108 : decode cX2_take 108 = .ok (.goto 4, 3) := by decide +kernel
theorem dX2_take_111 : decode cX2_take 111 = .ok (.iload_n 1, 1) := by decide +kernel
theorem dX2_take_112 : decode cX2_take 112 = .ok (.iastore, 1) := by decide +kernel
theorem dX2_take_113 : decode cX2_take 113 = .ok (.aload_n 0, 1) := by decide +kernel
theorem dX2_take_114 : decode cX2_take 114 = .ok (.aload_n 0, 1) := by decide +kernel
theorem dX2_take_115 : decode cX2_take 115 = .ok (.getfield 37, 3) := by decide +kernel
theorem dX2_take_118 : decode cX2_take 118 = .ok (.iconst 1, 1) := by decide +kernel
theorem dX2_take_119 : decode cX2_take 119 = .ok (.iadd, 1) := by decide +kernel
theorem dX2_take_120 : decode cX2_take 120 = .ok (.invokevirtual 56, 3) := by decide +kernel
theorem dX2_take_123 : decode cX2_take 123 = .ok (.return_, 1) := by decide +kernel
theorem dX2_objectOf_0 : decode cX2_objectOf 0 = .ok (.iload_n 1, 1) := by decide +kernel
theorem dX2_objectOf_1 : decode cX2_objectOf 1 = .ok (.bipush 10, 2) := by decide +kernel
theorem dX2_objectOf_3 : decode cX2_objectOf 3 = .ok (.if_icmp .ge 7, 3) := by decide +kernel
theorem dX2_objectOf_6 : decode cX2_objectOf 6 = .ok (.iload_n 1, 1) := by decide +kernel
theorem dX2_objectOf_7 : decode cX2_objectOf 7 = .ok (.iconst 1, 1) := by decide +kernel
theorem dX2_objectOf_8 : decode cX2_objectOf 8 = .ok (.isub, 1) := by decide +kernel
theorem dX2_objectOf_9 : decode cX2_objectOf 9 = .ok (.ireturn, 1) := by decide +kernel
theorem dX2_objectOf_10 : decode cX2_objectOf 10 = .ok (.aload_n 0, 1) := by decide +kernel
theorem dX2_objectOf_11 : decode cX2_objectOf 11 = .ok (.getfield 34, 3) := by decide +kernel
theorem dX2_objectOf_14 : decode cX2_objectOf 14 = .ok (.iconst 5, 1) := by decide +kernel
theorem dX2_objectOf_15 : decode cX2_objectOf 15 = .ok (.if_icmp .lt 5, 3) := by decide +kernel
theorem dX2_objectOf_18 : decode cX2_objectOf 18 = .ok (.iconst (-1), 1) := by decide +kernel
theorem dX2_objectOf_19 : decode cX2_objectOf 19 = .ok (.ireturn, 1) := by decide +kernel
theorem dX2_objectOf_20 : decode cX2_objectOf 20 = .ok (.aload_n 0, 1) := by decide +kernel
theorem dX2_objectOf_21 : decode cX2_objectOf 21 = .ok (.getfield 9, 3) := by decide +kernel
theorem dX2_objectOf_24 : decode cX2_objectOf 24 = .ok (.aload_n 0, 1) := by decide +kernel
theorem dX2_objectOf_25 : decode cX2_objectOf 25 = .ok (.getfield 34, 3) := by decide +kernel
theorem dX2_objectOf_28 : decode cX2_objectOf 28 = .ok (.iload_n 1, 1) := by decide +kernel
theorem dX2_objectOf_29 : decode cX2_objectOf 29 = .ok (.bipush 10, 2) := by decide +kernel
theorem dX2_objectOf_31 : decode cX2_objectOf 31 = .ok (.isub, 1) := by decide +kernel
theorem dX2_objectOf_32 : decode cX2_objectOf 32 = .ok (.iastore, 1) := by decide +kernel
theorem dX2_objectOf_33 : decode cX2_objectOf 33 = .ok (.aload_n 0, 1) := by decide +kernel
theorem dX2_objectOf_34 : decode cX2_objectOf 34 = .ok (.dup, 1) := by decide +kernel
theorem dX2_objectOf_35 : decode cX2_objectOf 35 = .ok (.getfield 34, 3) := by decide +kernel
theorem dX2_objectOf_38 : decode cX2_objectOf 38 = .ok (.iconst 1, 1) := by decide +kernel
theorem dX2_objectOf_39 : decode cX2_objectOf 39 = .ok (.iadd, 1) := by decide +kernel
theorem dX2_objectOf_40 : decode cX2_objectOf 40 = .ok (.putfield 34, 3) := by decide +kernel
theorem dX2_objectOf_43 : decode cX2_objectOf 43 = .ok (.aload_n 0, 1) := by decide +kernel
theorem dX2_objectOf_44 : decode cX2_objectOf 44 = .ok (.getfield 34, 3) := by decide +kernel
theorem dX2_objectOf_47 : decode cX2_objectOf 47 = .ok (.iconst 1, 1) := by decide +kernel
theorem dX2_objectOf_48 : decode cX2_objectOf 48 = .ok (.isub, 1) := by decide +kernel
theorem dX2_objectOf_49 : decode cX2_objectOf 49 = .ok (.ireturn, 1) := by decide +kernel
theorem dX2_waitFrom_0 : decode cX2_waitFrom 0 = .ok (.iconst 2, 1) := by decide +kernel
theorem dX2_waitFrom_1 : decode cX2_waitFrom 1 = .ok (.aload_n 0, 1) := by decide +kernel
theorem dX2_waitFrom_2 : decode cX2_waitFrom 2 = .ok (.getfield 34, 3) := by decide +kernel
theorem dX2_waitFrom_5 : decode cX2_waitFrom 5 = .ok (.iconst 4, 1) := by decide +kernel
theorem dX2_waitFrom_6 : decode cX2_waitFrom 6 = .ok (.imul, 1) := by decide +kernel
theorem dX2_waitFrom_7 : decode cX2_waitFrom 7 = .ok (.iadd, 1) := by decide +kernel
theorem dX2_waitFrom_8 : decode cX2_waitFrom 8 = .ok (.istore_n 2, 1) := by decide +kernel
theorem dX2_waitFrom_9 : decode cX2_waitFrom 9 = .ok (.iload_n 1, 1) := by decide +kernel
theorem dX2_waitFrom_10 : decode cX2_waitFrom 10 = .ok (.istore_n 3, 1) := by decide +kernel
theorem dX2_waitFrom_11 : decode cX2_waitFrom 11 = .ok (.iload_n 3, 1) := by decide +kernel
theorem dX2_waitFrom_12 : decode cX2_waitFrom 12 = .ok (.iload_n 2, 1) := by decide +kernel
theorem dX2_waitFrom_13 : decode cX2_waitFrom 13 = .ok (.if_icmp .ge 67, 3) := by decide +kernel
theorem dX2_waitFrom_16 : decode cX2_waitFrom 16 = .ok (.iload_n 3, 1) := by decide +kernel
theorem dX2_waitFrom_17 : decode cX2_waitFrom 17 = .ok (.iconst 2, 1) := by decide +kernel
theorem dX2_waitFrom_18 : decode cX2_waitFrom 18 = .ok (.isub, 1) := by decide +kernel
theorem dX2_waitFrom_19 : decode cX2_waitFrom 19 = .ok (.istore 4, 2) := by decide +kernel
theorem dX2_waitFrom_21 : decode cX2_waitFrom 21 = .ok (.aload_n 0, 1) := by decide +kernel
theorem dX2_waitFrom_22 : decode cX2_waitFrom 22 = .ok (.iload 4, 2) := by decide +kernel
theorem dX2_waitFrom_24 : decode cX2_waitFrom 24 = .ok (.ifCond .ge 14, 3) := by decide +kernel
theorem dX2_waitFrom_27 : decode cX2_waitFrom 27 = .ok (.aload_n 0, 1) := by decide +kernel
theorem dX2_waitFrom_28 : decode cX2_waitFrom 28 = .ok (.getfield 43, 3) := by decide +kernel
theorem dX2_waitFrom_31 : decode cX2_waitFrom 31 = .ok (.iload_n 3, 1) := by decide +kernel
theorem dX2_waitFrom_32 : decode cX2_waitFrom 32 = .ok (.invokevirtual 107, 3) := by decide +kernel
theorem dX2_waitFrom_35 : decode cX2_waitFrom 35 = .ok (.goto 22, 3) := by decide +kernel
theorem dX2_waitFrom_38 : decode cX2_waitFrom 38 = .ok (.aload_n 0, 1) := by decide +kernel
theorem dX2_waitFrom_39 : decode cX2_waitFrom 39 = .ok (.getfield 43, 3) := by decide +kernel
theorem dX2_waitFrom_42 : decode cX2_waitFrom 42 = .ok (.aload_n 0, 1) := by decide +kernel
theorem dX2_waitFrom_43 : decode cX2_waitFrom 43 = .ok (.iload 4, 2) := by decide +kernel
theorem dX2_waitFrom_45 : decode cX2_waitFrom 45 = .ok (.iconst 4, 1) := by decide +kernel
theorem dX2_waitFrom_46 : decode cX2_waitFrom 46 = .ok (.idiv, 1) := by decide +kernel
theorem dX2_waitFrom_47 : decode cX2_waitFrom 47 = .ok (.invokevirtual 98, 3) := by decide +kernel
theorem dX2_waitFrom_50 : decode cX2_waitFrom 50 = .ok (.iload 4, 2) := by decide +kernel
theorem dX2_waitFrom_52 : decode cX2_waitFrom 52 = .ok (.iconst 4, 1) := by decide +kernel
theorem dX2_waitFrom_53 : decode cX2_waitFrom 53 = .ok (.irem, 1) := by decide +kernel
theorem dX2_waitFrom_54 : decode cX2_waitFrom 54 = .ok (.invokevirtual 110, 3) := by decide +kernel
theorem dX2_waitFrom_57 : decode cX2_waitFrom 57 = .ok (.putfield 40, 3) := by decide +kernel
theorem dX2_waitFrom_60 : decode cX2_waitFrom 60 = .ok (.aload_n 0, 1) := by decide +kernel
theorem dX2_waitFrom_61 : decode cX2_waitFrom 61 = .ok (.getfield 40, 3) := by decide +kernel
theorem dX2_waitFrom_64 : decode cX2_waitFrom 64 = .ok (.iconst (-1), 1) := by decide +kernel
theorem dX2_waitFrom_65 : decode cX2_waitFrom 65 = .ok (.if_icmp .eq 9, 3) := by decide +kernel
theorem dX2_waitFrom_68 : decode cX2_waitFrom 68 = .ok (.aload_n 0, 1) := by decide +kernel
theorem dX2_waitFrom_69 : decode cX2_waitFrom 69 = .ok (.iload_n 3, 1) := by decide +kernel
theorem dX2_waitFrom_70 : decode cX2_waitFrom 70 = .ok (.putfield 37, 3) := by decide +kernel
theorem dX2_waitFrom_73 : decode cX2_waitFrom 73 = .ok (.return_, 1) := by decide +kernel
theorem dX2_waitFrom_74 : decode cX2_waitFrom 74 = .ok (.iinc 3 1, 3) := by decide +kernel
theorem dX2_waitFrom_77 : decode cX2_waitFrom 77 = .ok (.goto (-66), 3) := by decide +kernel
theorem dX2_waitFrom_80 : decode cX2_waitFrom 80 = .ok (.aload_n 0, 1) := by decide +kernel
theorem dX2_waitFrom_81 : decode cX2_waitFrom 81 = .ok (.iconst (-1), 1) := by decide +kernel
theorem dX2_waitFrom_82 : decode cX2_waitFrom 82 = .ok (.putfield 37, 3) := by decide +kernel
theorem dX2_waitFrom_85 : decode cX2_waitFrom 85 = .ok (.aload_n 0, 1) := by decide +kernel
theorem dX2_waitFrom_86 : decode cX2_waitFrom 86 = .ok (.iconst (-1), 1) := by decide +kernel
theorem dX2_waitFrom_87 : decode cX2_waitFrom 87 = .ok (.putfield 40, 3) := by decide +kernel
theorem dX2_waitFrom_90 : decode cX2_waitFrom 90 = .ok (.return_, 1) := by decide +kernel
theorem dX6_init_0 : decode cX6_init 0 = .ok (.aload_n 0, 1) := by decide +kernel
theorem dX6_init_1 : decode cX6_init 1 = .ok (.invokespecial 3, 3) := by decide +kernel
theorem dX6_init_4 : decode cX6_init 4 = .ok (.aload_n 0, 1) := by decide +kernel
theorem dX6_init_5 : decode cX6_init 5 = .ok (.iload_n 1, 1) := by decide +kernel
theorem dX6_init_6 : decode cX6_init 6 = .ok (.putfield 9, 3) := by decide +kernel
theorem dX6_init_9 : decode cX6_init 9 = .ok (.aload_n 0, 1) := by decide +kernel
theorem dX6_init_10 : decode cX6_init 10 = .ok (.iload_n 2, 1) := by decide +kernel
theorem dX6_init_11 : decode cX6_init 11 = .ok (.putfield 15, 3) := by decide +kernel
theorem dX6_init_14 : decode cX6_init 14 = .ok (.aload_n 0, 1) := by decide +kernel
theorem dX6_init_15 : decode cX6_init 15 = .ok (.iload_n 3, 1) := by decide +kernel
theorem dX6_init_16 : decode cX6_init 16 = .ok (.putfield 18, 3) := by decide +kernel
theorem dX6_init_19 : decode cX6_init 19 = .ok (.aload_n 0, 1) := by decide +kernel
theorem dX6_init_20 : decode cX6_init 20 = .ok (.iload 4, 2) := by decide +kernel
theorem dX6_init_22 : decode cX6_init 22 = .ok (.iload_n 3, 1) := by decide +kernel
theorem dX6_init_23 : decode cX6_init 23 = .ok (.if_icmp .ne 17, 3) := by decide +kernel
theorem dX6_init_26 : decode cX6_init 26 = .ok (.iload_n 1, 1) := by decide +kernel
theorem dX6_init_27 : decode cX6_init 27 = .ok (.iconst 1, 1) := by decide +kernel
theorem dX6_init_28 : decode cX6_init 28 = .ok (.if_icmp .eq 8, 3) := by decide +kernel
theorem dX6_init_31 : decode cX6_init 31 = .ok (.iload_n 1, 1) := by decide +kernel
theorem dX6_init_32 : decode cX6_init 32 = .ok (.iconst 2, 1) := by decide +kernel
theorem dX6_init_33 : decode cX6_init 33 = .ok (.if_icmp .ne 7, 3) := by decide +kernel
theorem dX6_init_36 : decode cX6_init 36 = .ok (.iconst (-1), 1) := by decide +kernel
theorem dX6_init_37 : decode cX6_init 37 = .ok (.goto 5, 3) := by decide +kernel
theorem dX6_init_40 : decode cX6_init 40 = .ok (.iload 4, 2) := by decide +kernel
theorem dX6_init_42 : decode cX6_init 42 = .ok (.putfield 21, 3) := by decide +kernel
theorem dX6_init_45 : decode cX6_init 45 = .ok (.return_, 1) := by decide +kernel
theorem dX6_holdsIn_0 : decode cX6_holdsIn 0 = .ok (.aload_n 0, 1) := by decide +kernel
theorem dX6_holdsIn_1 : decode cX6_holdsIn 1 = .ok (.getfield 9, 3) := by decide +kernel
theorem dX6_holdsIn_4 : decode cX6_holdsIn 4 = .ok (.lookupswitch 74 #[(1, 36), (2, 42), (6, 48)], 36) := by decide +kernel
theorem dX6_holdsIn_40 : decode cX6_holdsIn 40 = .ok (.aload_n 0, 1) := by decide +kernel
theorem dX6_holdsIn_41 : decode cX6_holdsIn 41 = .ok (.aload_n 1, 1) := by decide +kernel
theorem dX6_holdsIn_42 : decode cX6_holdsIn 42 = .ok (.invokevirtual 24, 3) := by decide +kernel
theorem dX6_holdsIn_45 : decode cX6_holdsIn 45 = .ok (.ireturn, 1) := by decide +kernel
theorem dX6_holdsIn_46 : decode cX6_holdsIn 46 = .ok (.aload_n 0, 1) := by decide +kernel
theorem dX6_holdsIn_47 : decode cX6_holdsIn 47 = .ok (.aload_n 1, 1) := by decide +kernel
theorem dX6_holdsIn_48 : decode cX6_holdsIn 48 = .ok (.invokevirtual 28, 3) := by decide +kernel
theorem dX6_holdsIn_51 : decode cX6_holdsIn 51 = .ok (.ireturn, 1) := by decide +kernel
theorem dX6_holdsIn_52 : decode cX6_holdsIn 52 = .ok (.aload_n 1, 1) := by decide +kernel
theorem dX6_holdsIn_53 : decode cX6_holdsIn 53 = .ok (.iconst 0, 1) := by decide +kernel
theorem dX6_holdsIn_54 : decode cX6_holdsIn 54 = .ok (.invokevirtual 31, 3) := by decide +kernel
theorem dX6_holdsIn_57 : decode cX6_holdsIn 57 = .ok (.istore_n 2, 1) := by decide +kernel
theorem dX6_holdsIn_58 : decode cX6_holdsIn 58 = .ok (.iload_n 2, 1) := by decide +kernel
theorem dX6_holdsIn_59 : decode cX6_holdsIn 59 = .ok (.iconst (-1), 1) := by decide +kernel
theorem dX6_holdsIn_60 : decode cX6_holdsIn 60 = .ok (.if_icmp .eq 12, 3) := by decide +kernel
theorem dX6_holdsIn_63 : decode cX6_holdsIn 63 = .ok (.iload_n 2, 1) := by decide +kernel
theorem dX6_holdsIn_64 : decode cX6_holdsIn 64 = .ok (.aload_n 1, 1) := by decide +kernel
theorem dX6_holdsIn_65 : decode cX6_holdsIn 65 = .ok (.iconst 1, 1) := by decide +kernel
theorem dX6_holdsIn_66 : decode cX6_holdsIn 66 = .ok (.invokevirtual 31, 3) := by decide +kernel
theorem dX6_holdsIn_69 : decode cX6_holdsIn 69 = .ok (.if_icmp .eq 7, 3) := by decide +kernel
theorem dX6_holdsIn_72 : decode cX6_holdsIn 72 = .ok (.iconst 1, 1) := by decide +kernel
theorem dX6_holdsIn_73 : decode cX6_holdsIn 73 = .ok (.goto 4, 3) := by decide +kernel
theorem dX6_holdsIn_76 : decode cX6_holdsIn 76 = .ok (.iconst 0, 1) := by decide +kernel
theorem dX6_holdsIn_77 : decode cX6_holdsIn 77 = .ok (.ireturn, 1) := by decide +kernel
theorem dX6_holdsIn_78 : decode cX6_holdsIn 78 = .ok (.iconst 0, 1) := by decide +kernel
theorem dX6_holdsIn_79 : decode cX6_holdsIn 79 = .ok (.istore_n 3, 1) := by decide +kernel
theorem dX6_holdsIn_80 : decode cX6_holdsIn 80 = .ok (.iload_n 3, 1) := by decide +kernel
theorem dX6_holdsIn_81 : decode cX6_holdsIn 81 = .ok (.aload_n 1, 1) := by decide +kernel
theorem dX6_holdsIn_82 : decode cX6_holdsIn 82 = .ok (.getfield 37, 3) := by decide +kernel
theorem dX6_holdsIn_85 : decode cX6_holdsIn 85 = .ok (.if_icmp .ge 32, 3) := by decide +kernel
theorem dX6_holdsIn_88 : decode cX6_holdsIn 88 = .ok (.aload_n 1, 1) := by decide +kernel
theorem dX6_holdsIn_89 : decode cX6_holdsIn 89 = .ok (.iload_n 3, 1) := by decide +kernel
theorem dX6_holdsIn_90 : decode cX6_holdsIn 90 = .ok (.aload_n 0, 1) := by decide +kernel
theorem dX6_holdsIn_91 : decode cX6_holdsIn 91 = .ok (.getfield 15, 3) := by decide +kernel
theorem dX6_holdsIn_94 : decode cX6_holdsIn 94 = .ok (.invokevirtual 40, 3) := by decide +kernel
theorem dX6_holdsIn_97 : decode cX6_holdsIn 97 = .ok (.ifCond .eq 14, 3) := by decide +kernel
theorem dX6_holdsIn_100 : decode cX6_holdsIn 100 = .ok (.aload_n 0, 1) := by decide +kernel
theorem dX6_holdsIn_101 : decode cX6_holdsIn 101 = .ok (.aload_n 1, 1) := by decide +kernel
theorem dX6_holdsIn_102 : decode cX6_holdsIn 102 = .ok (.iload_n 3, 1) := by decide +kernel
theorem dX6_holdsIn_103 : decode cX6_holdsIn 103 = .ok (.invokevirtual 44, 3) := by decide +kernel
theorem dX6_holdsIn_106 : decode cX6_holdsIn 106 = .ok (.ifCond .ne 5, 3) := by decide +kernel
theorem dX6_holdsIn_109 : decode cX6_holdsIn 109 = .ok (.iconst 0, 1) := by decide +kernel
theorem dX6_holdsIn_110 : decode cX6_holdsIn 110 = .ok (.ireturn, 1) := by decide +kernel
theorem dX6_holdsIn_111 : decode cX6_holdsIn 111 = .ok (.iinc 3 1, 3) := by decide +kernel
theorem dX6_holdsIn_114 : decode cX6_holdsIn 114 = .ok (.goto (-34), 3) := by decide +kernel
theorem dX6_holdsIn_117 : decode cX6_holdsIn 117 = .ok (.iconst 1, 1) := by decide +kernel
theorem dX6_holdsIn_118 : decode cX6_holdsIn 118 = .ok (.ireturn, 1) := by decide +kernel
theorem dX6_holdsAt_0 : decode cX6_holdsAt 0 = .ok (.aload_n 1, 1) := by decide +kernel
theorem dX6_holdsAt_1 : decode cX6_holdsAt 1 = .ok (.iload_n 2, 1) := by decide +kernel
theorem dX6_holdsAt_2 : decode cX6_holdsAt 2 = .ok (.aload_n 0, 1) := by decide +kernel
theorem dX6_holdsAt_3 : decode cX6_holdsAt 3 = .ok (.getfield 18, 3) := by decide +kernel
theorem dX6_holdsAt_6 : decode cX6_holdsAt 6 = .ok (.invokevirtual 48, 3) := by decide +kernel
theorem dX6_holdsAt_9 : decode cX6_holdsAt 9 = .ok (.istore_n 3, 1) := by decide +kernel
theorem dX6_holdsAt_10 : decode cX6_holdsAt 10 = .ok (.aload_n 0, 1) := by decide +kernel
theorem dX6_holdsAt_11 : decode cX6_holdsAt 11 = .ok (.getfield 9, 3) := by decide +kernel
theorem dX6_holdsAt_14 : decode cX6_holdsAt 14 = .ok (.tableswitch 160 0 5 #[38, 160, 160, 49, 85, 124], 38) := by decide +kernel
theorem dX6_holdsAt_52 : decode cX6_holdsAt 52 = .ok (.iload_n 3, 1) := by decide +kernel
theorem dX6_holdsAt_53 : decode cX6_holdsAt 53 = .ok (.iconst (-1), 1) := by decide +kernel
theorem dX6_holdsAt_54 : decode cX6_holdsAt 54 = .ok (.if_icmp .eq 7, 3) := by decide +kernel
theorem dX6_holdsAt_57 : decode cX6_holdsAt 57 = .ok (.iconst 1, 1) := by decide +kernel
theorem dX6_holdsAt_58 : decode cX6_holdsAt 58 = .ok (.goto 4, 3) := by decide +kernel
theorem dX6_holdsAt_61 : decode cX6_holdsAt 61 = .ok (.iconst 0, 1) := by decide +kernel
theorem dX6_holdsAt_62 : decode cX6_holdsAt 62 = .ok (.ireturn, 1) := by decide +kernel
theorem dX6_holdsAt_63 : decode cX6_holdsAt 63 = .ok (.iload_n 3, 1) := by decide +kernel
theorem dX6_holdsAt_64 : decode cX6_holdsAt 64 = .ok (.iconst (-1), 1) := by decide +kernel
theorem dX6_holdsAt_65 : decode cX6_holdsAt 65 = .ok (.if_icmp .eq 28, 3) := by decide +kernel
theorem dX6_holdsAt_68 : decode cX6_holdsAt 68 = .ok (.aload_n 1, 1) := by decide +kernel
theorem dX6_holdsAt_69 : decode cX6_holdsAt 69 = .ok (.iload_n 3, 1) := by decide +kernel
theorem dX6_holdsAt_70 : decode cX6_holdsAt 70 = .ok (.aload_n 0, 1) := by decide +kernel
theorem dX6_holdsAt_71 : decode cX6_holdsAt 71 = .ok (.getfield 15, 3) := by decide +kernel
theorem dX6_holdsAt_74 : decode cX6_holdsAt 74 = .ok (.invokevirtual 40, 3) := by decide +kernel
theorem dX6_holdsAt_77 : decode cX6_holdsAt 77 = .ok (.ifCond .eq 20, 3) := by decide +kernel
theorem dX6_holdsAt_80 : decode cX6_holdsAt 80 = .ok (.aload_n 1, 1) := by decide +kernel
theorem dX6_holdsAt_81 : decode cX6_holdsAt 81 = .ok (.iload_n 3, 1) := by decide +kernel
theorem dX6_holdsAt_82 : decode cX6_holdsAt 82 = .ok (.aload_n 0, 1) := by decide +kernel
theorem dX6_holdsAt_83 : decode cX6_holdsAt 83 = .ok (.getfield 21, 3) := by decide +kernel
theorem dX6_holdsAt_86 : decode cX6_holdsAt 86 = .ok (.invokevirtual 48, 3) := by decide +kernel
theorem dX6_holdsAt_89 : decode cX6_holdsAt 89 = .ok (.iload_n 2, 1) := by decide +kernel
theorem dX6_holdsAt_90 : decode cX6_holdsAt 90 = .ok (.if_icmp .ne 7, 3) := by decide +kernel
theorem dX6_holdsAt_93 : decode cX6_holdsAt 93 = .ok (.iconst 1, 1) := by decide +kernel
theorem dX6_holdsAt_94 : decode cX6_holdsAt 94 = .ok (.goto 4, 3) := by decide +kernel
theorem dX6_holdsAt_97 : decode cX6_holdsAt 97 = .ok (.iconst 0, 1) := by decide +kernel
theorem dX6_holdsAt_98 : decode cX6_holdsAt 98 = .ok (.ireturn, 1) := by decide +kernel
theorem dX6_holdsAt_99 : decode cX6_holdsAt 99 = .ok (.aload_n 1, 1) := by decide +kernel
theorem dX6_holdsAt_100 : decode cX6_holdsAt 100 = .ok (.iload_n 3, 1) := by decide +kernel
theorem dX6_holdsAt_101 : decode cX6_holdsAt 101 = .ok (.aload_n 0, 1) := by decide +kernel
theorem dX6_holdsAt_102 : decode cX6_holdsAt 102 = .ok (.getfield 15, 3) := by decide +kernel
theorem dX6_holdsAt_105 : decode cX6_holdsAt 105 = .ok (.invokevirtual 40, 3) := by decide +kernel
theorem dX6_holdsAt_108 : decode cX6_holdsAt 108 = .ok (.ifCond .eq 24, 3) := by decide +kernel
theorem dX6_holdsAt_111 : decode cX6_holdsAt 111 = .ok (.aload_n 1, 1) := by decide +kernel
theorem dX6_holdsAt_112 : decode cX6_holdsAt 112 = .ok (.iload_n 2, 1) := by decide +kernel
theorem dX6_holdsAt_113 : decode cX6_holdsAt 113 = .ok (.aload_n 0, 1) := by decide +kernel
theorem dX6_holdsAt_114 : decode cX6_holdsAt 114 = .ok (.getfield 21, 3) := by decide +kernel
theorem dX6_holdsAt_117 : decode cX6_holdsAt 117 = .ok (.invokevirtual 48, 3) := by decide +kernel
theorem dX6_holdsAt_120 : decode cX6_holdsAt 120 = .ok (.aload_n 1, 1) := by decide +kernel
theorem dX6_holdsAt_121 : decode cX6_holdsAt 121 = .ok (.iload_n 3, 1) := by decide +kernel
theorem dX6_holdsAt_122 : decode cX6_holdsAt 122 = .ok (.aload_n 0, 1) := by decide +kernel
theorem dX6_holdsAt_123 : decode cX6_holdsAt 123 = .ok (.getfield 21, 3) := by decide +kernel
theorem dX6_holdsAt_126 : decode cX6_holdsAt 126 = .ok (.invokevirtual 48, 3) := by decide +kernel
theorem dX6_holdsAt_129 : decode cX6_holdsAt 129 = .ok (.if_icmp .gt 7, 3) := by decide +kernel
theorem dX6_holdsAt_132 : decode cX6_holdsAt 132 = .ok (.iconst 1, 1) := by decide +kernel
theorem dX6_holdsAt_133 : decode cX6_holdsAt 133 = .ok (.goto 4, 3) := by decide +kernel
theorem dX6_holdsAt_136 : decode cX6_holdsAt 136 = .ok (.iconst 0, 1) := by decide +kernel
theorem dX6_holdsAt_137 : decode cX6_holdsAt 137 = .ok (.ireturn, 1) := by decide +kernel
theorem dX6_holdsAt_138 : decode cX6_holdsAt 138 = .ok (.iload_n 3, 1) := by decide +kernel
theorem dX6_holdsAt_139 : decode cX6_holdsAt 139 = .ok (.iconst (-1), 1) := by decide +kernel
theorem dX6_holdsAt_140 : decode cX6_holdsAt 140 = .ok (.if_icmp .ne 7, 3) := by decide +kernel
theorem dX6_holdsAt_143 : decode cX6_holdsAt 143 = .ok (.iconst 1, 1) := by decide +kernel
theorem dX6_holdsAt_144 : decode cX6_holdsAt 144 = .ok (.goto 4, 3) := by decide +kernel
theorem dX6_holdsAt_147 : decode cX6_holdsAt 147 = .ok (.iconst 0, 1) := by decide +kernel
theorem dX6_holdsAt_148 : decode cX6_holdsAt 148 = .ok (.aload_n 1, 1) := by decide +kernel
theorem dX6_holdsAt_149 : decode cX6_holdsAt 149 = .ok (.iload_n 2, 1) := by decide +kernel
theorem dX6_holdsAt_150 : decode cX6_holdsAt 150 = .ok (.aload_n 0, 1) := by decide +kernel
theorem dX6_holdsAt_151 : decode cX6_holdsAt 151 = .ok (.getfield 21, 3) := by decide +kernel
theorem dX6_holdsAt_154 : decode cX6_holdsAt 154 = .ok (.invokevirtual 48, 3) := by decide +kernel
theorem dX6_holdsAt_157 : decode cX6_holdsAt 157 = .ok (.ifCond .ne 7, 3) := by decide +kernel
theorem dX6_holdsAt_160 : decode cX6_holdsAt 160 = .ok (.iconst 1, 1) := by decide +kernel
theorem dX6_holdsAt_161 : decode cX6_holdsAt 161 = .ok (.goto 4, 3) := by decide +kernel
theorem dX6_holdsAt_164 : decode cX6_holdsAt 164 = .ok (.iconst 0, 1) := by decide +kernel
theorem dX6_holdsAt_165 : decode cX6_holdsAt 165 = .ok (.if_icmp .ne 7, 3) := by decide +kernel
theorem dX6_holdsAt_168 : decode cX6_holdsAt 168 = .ok (.iconst 1, 1) := by decide +kernel
theorem dX6_holdsAt_169 : decode cX6_holdsAt 169 = .ok (.goto 4, 3) := by decide +kernel
theorem dX6_holdsAt_172 : decode cX6_holdsAt 172 = .ok (.iconst 0, 1) := by decide +kernel
theorem dX6_holdsAt_173 : decode cX6_holdsAt 173 = .ok (.ireturn, 1) := by decide +kernel
theorem dX6_holdsAt_174 : decode cX6_holdsAt 174 = .ok (.iconst 1, 1) := by decide +kernel
theorem dX6_holdsAt_175 : decode cX6_holdsAt 175 = .ok (.ireturn, 1) := by decide +kernel
theorem dX6_hasNoCycle_0 : decode cX6_hasNoCycle 0 = .ok (.iconst 1, 1) := by decide +kernel
theorem dX6_hasNoCycle_1 : decode cX6_hasNoCycle 1 = .ok (.aload_n 1, 1) := by decide +kernel
theorem dX6_hasNoCycle_2 : decode cX6_hasNoCycle 2 = .ok (.getfield 37, 3) := by decide +kernel
theorem dX6_hasNoCycle_5 : decode cX6_hasNoCycle 5 = .ok (.ishl, 1) := by decide +kernel
theorem dX6_hasNoCycle_6 : decode cX6_hasNoCycle 6 = .ok (.iconst 1, 1) := by decide +kernel
theorem dX6_hasNoCycle_7 : decode cX6_hasNoCycle 7 = .ok (.isub, 1) := by decide +kernel
theorem dX6_hasNoCycle_8 : decode cX6_hasNoCycle 8 = .ok (.istore_n 2, 1) := by decide +kernel
theorem dX6_hasNoCycle_9 : decode cX6_hasNoCycle 9 = .ok (.iconst 0, 1) := by decide +kernel
theorem dX6_hasNoCycle_10 : decode cX6_hasNoCycle 10 = .ok (.istore_n 3, 1) := by decide +kernel
theorem dX6_hasNoCycle_11 : decode cX6_hasNoCycle 11 = .ok (.iload_n 3, 1) := by decide +kernel
theorem dX6_hasNoCycle_12 : decode cX6_hasNoCycle 12 = .ok (.iconst 5, 1) := by decide +kernel
theorem dX6_hasNoCycle_13 : decode cX6_hasNoCycle 13 = .ok (.if_icmp .ge 87, 3) := by decide +kernel
theorem dX6_hasNoCycle_16 : decode cX6_hasNoCycle 16 = .ok (.iload_n 2, 1) := by decide +kernel
theorem dX6_hasNoCycle_17 : decode cX6_hasNoCycle 17 = .ok (.ifCond .eq 83, 3) := by decide +kernel
theorem dX6_hasNoCycle_20 : decode cX6_hasNoCycle 20 = .ok (.iconst 0, 1) := by decide +kernel
theorem dX6_hasNoCycle_21 : decode cX6_hasNoCycle 21 = .ok (.istore 4, 2) := by decide +kernel
theorem dX6_hasNoCycle_23 : decode cX6_hasNoCycle 23 = .ok (.iload 4, 2) := by decide +kernel
theorem dX6_hasNoCycle_25 : decode cX6_hasNoCycle 25 = .ok (.aload_n 1, 1) := by decide +kernel
theorem dX6_hasNoCycle_26 : decode cX6_hasNoCycle 26 = .ok (.getfield 37, 3) := by decide +kernel
theorem dX6_hasNoCycle_29 : decode cX6_hasNoCycle 29 = .ok (.if_icmp .ge 65, 3) := by decide +kernel
theorem dX6_hasNoCycle_32 : decode cX6_hasNoCycle 32 = .ok (.aload_n 1, 1) := by decide +kernel
theorem dX6_hasNoCycle_33 : decode cX6_hasNoCycle 33 = .ok (.iload 4, 2) := by decide +kernel
theorem dX6_hasNoCycle_35 : decode cX6_hasNoCycle 35 = .ok (.aload_n 0, 1) := by decide +kernel
theorem dX6_hasNoCycle_36 : decode cX6_hasNoCycle 36 = .ok (.getfield 15, 3) := by decide +kernel
theorem dX6_hasNoCycle_39 : decode cX6_hasNoCycle 39 = .ok (.invokevirtual 40, 3) := by decide +kernel
theorem dX6_hasNoCycle_42 : decode cX6_hasNoCycle 42 = .ok (.ifCond .eq 27, 3) := by decide +kernel
theorem dX6_hasNoCycle_45 : decode cX6_hasNoCycle 45 = .ok (.aload_n 1, 1) := by decide +kernel
theorem dX6_hasNoCycle_46 : decode cX6_hasNoCycle 46 = .ok (.iload 4, 2) := by decide +kernel
theorem dX6_hasNoCycle_48 : decode cX6_hasNoCycle 48 = .ok (.aload_n 0, 1) := by decide +kernel
theorem dX6_hasNoCycle_49 : decode cX6_hasNoCycle 49 = .ok (.getfield 18, 3) := by decide +kernel
theorem dX6_hasNoCycle_52 : decode cX6_hasNoCycle 52 = .ok (.invokestatic 52, 3) := by decide +kernel
theorem dX6_hasNoCycle_55 : decode cX6_hasNoCycle 55 = .ok (.aload_n 1, 1) := by decide +kernel
theorem dX6_hasNoCycle_56 : decode cX6_hasNoCycle 56 = .ok (.iload 4, 2) := by decide +kernel
theorem dX6_hasNoCycle_58 : decode cX6_hasNoCycle 58 = .ok (.aload_n 0, 1) := by decide +kernel
theorem dX6_hasNoCycle_59 : decode cX6_hasNoCycle 59 = .ok (.getfield 21, 3) := by decide +kernel
theorem dX6_hasNoCycle_62 : decode cX6_hasNoCycle 62 = .ok (.invokestatic 52, 3) := by decide +kernel
theorem dX6_hasNoCycle_65 : decode cX6_hasNoCycle 65 = .ok (.ior, 1) := by decide +kernel
theorem dX6_hasNoCycle_66 : decode cX6_hasNoCycle 66 = .ok (.goto 4, 3) := by decide +kernel
theorem dX6_hasNoCycle_69 : decode cX6_hasNoCycle 69 = .ok (.iconst 0, 1) := by decide +kernel
theorem dX6_hasNoCycle_70 : decode cX6_hasNoCycle 70 = .ok (.istore 5, 2) := by decide +kernel
theorem dX6_hasNoCycle_72 : decode cX6_hasNoCycle 72 = .ok (.iload 5, 2) := by decide +kernel
theorem dX6_hasNoCycle_74 : decode cX6_hasNoCycle 74 = .ok (.iload_n 2, 1) := by decide +kernel
theorem dX6_hasNoCycle_75 : decode cX6_hasNoCycle 75 = .ok (.iand, 1) := by decide +kernel
theorem dX6_hasNoCycle_76 : decode cX6_hasNoCycle 76 = .ok (.ifCond .ne 12, 3) := by decide +kernel
theorem dX6_hasNoCycle_79 : decode cX6_hasNoCycle 79 = .ok (.iload_n 2, 1) := by decide +kernel
theorem dX6_hasNoCycle_80 : decode cX6_hasNoCycle 80 = .ok (.iconst 1, 1) := by decide +kernel
theorem dX6_hasNoCycle_81 : decode cX6_hasNoCycle 81 = .ok (.iload 4, 2) := by decide +kernel
theorem dX6_hasNoCycle_83 : decode cX6_hasNoCycle 83 = .ok (.ishl, 1) := by decide +kernel
theorem dX6_hasNoCycle_84 : decode cX6_hasNoCycle 84 = .ok (.iconst (-1), 1) := by decide +kernel
theorem dX6_hasNoCycle_85 : decode cX6_hasNoCycle 85 = .ok (.ixor, 1) := by decide +kernel
theorem dX6_hasNoCycle_86 : decode cX6_hasNoCycle 86 = .ok (.iand, 1) := by decide +kernel
theorem dX6_hasNoCycle_87 : decode cX6_hasNoCycle 87 = .ok (.istore_n 2, 1) := by decide +kernel
theorem dX6_hasNoCycle_88 : decode cX6_hasNoCycle 88 = .ok (.iinc 4 1, 3) := by decide +kernel
theorem dX6_hasNoCycle_91 : decode cX6_hasNoCycle 91 = .ok (.goto (-68), 3) := by decide +kernel
theorem dX6_hasNoCycle_94 : decode cX6_hasNoCycle 94 = .ok (.iinc 3 1, 3) := by decide +kernel
theorem dX6_hasNoCycle_97 : decode cX6_hasNoCycle 97 = .ok (.goto (-86), 3) := by decide +kernel
theorem dX6_hasNoCycle_100 : decode cX6_hasNoCycle 100 = .ok (.iload_n 2, 1) := by decide +kernel
theorem dX6_hasNoCycle_101 : decode cX6_hasNoCycle 101 = .ok (.ifCond .ne 7, 3) := by decide +kernel
theorem dX6_hasNoCycle_104 : decode cX6_hasNoCycle 104 = .ok (.iconst 1, 1) := by decide +kernel
theorem dX6_hasNoCycle_105 : decode cX6_hasNoCycle 105 = .ok (.goto 4, 3) := by decide +kernel
theorem dX6_hasNoCycle_108 : decode cX6_hasNoCycle 108 = .ok (.iconst 0, 1) := by decide +kernel
theorem dX6_hasNoCycle_109 : decode cX6_hasNoCycle 109 = .ok (.ireturn, 1) := by decide +kernel
theorem dX6_sharesNothing_0 : decode cX6_sharesNothing 0 = .ok (.iconst 0, 1) := by decide +kernel
theorem dX6_sharesNothing_1 : decode cX6_sharesNothing 1 = .ok (.istore_n 2, 1) := by decide +kernel
theorem dX6_sharesNothing_2 : decode cX6_sharesNothing 2 = .ok (.iconst 0, 1) := by decide +kernel
theorem dX6_sharesNothing_3 : decode cX6_sharesNothing 3 = .ok (.istore_n 3, 1) := by decide +kernel
theorem dX6_sharesNothing_4 : decode cX6_sharesNothing 4 = .ok (.iload_n 3, 1) := by decide +kernel
theorem dX6_sharesNothing_5 : decode cX6_sharesNothing 5 = .ok (.aload_n 1, 1) := by decide +kernel
theorem dX6_sharesNothing_6 : decode cX6_sharesNothing 6 = .ok (.getfield 37, 3) := by decide +kernel
theorem dX6_sharesNothing_9 : decode cX6_sharesNothing 9 = .ok (.if_icmp .ge 71, 3) := by decide +kernel
theorem dX6_sharesNothing_12 : decode cX6_sharesNothing 12 = .ok (.aload_n 1, 1) := by decide +kernel
theorem dX6_sharesNothing_13 : decode cX6_sharesNothing 13 = .ok (.iload_n 3, 1) := by decide +kernel
theorem dX6_sharesNothing_14 : decode cX6_sharesNothing 14 = .ok (.aload_n 0, 1) := by decide +kernel
theorem dX6_sharesNothing_15 : decode cX6_sharesNothing 15 = .ok (.getfield 15, 3) := by decide +kernel
theorem dX6_sharesNothing_18 : decode cX6_sharesNothing 18 = .ok (.invokevirtual 40, 3) := by decide +kernel
theorem dX6_sharesNothing_21 : decode cX6_sharesNothing 21 = .ok (.ifCond .eq 53, 3) := by decide +kernel
theorem dX6_sharesNothing_24 : decode cX6_sharesNothing 24 = .ok (.aload_n 1, 1) := by decide +kernel
theorem dX6_sharesNothing_25 : decode cX6_sharesNothing 25 = .ok (.iload_n 3, 1) := by decide +kernel
theorem dX6_sharesNothing_26 : decode cX6_sharesNothing 26 = .ok (.aload_n 0, 1) := by decide +kernel
theorem dX6_sharesNothing_27 : decode cX6_sharesNothing 27 = .ok (.getfield 18, 3) := by decide +kernel
theorem dX6_sharesNothing_30 : decode cX6_sharesNothing 30 = .ok (.invokestatic 52, 3) := by decide +kernel
theorem dX6_sharesNothing_33 : decode cX6_sharesNothing 33 = .ok (.istore 4, 2) := by decide +kernel
theorem dX6_sharesNothing_35 : decode cX6_sharesNothing 35 = .ok (.aload_n 1, 1) := by decide +kernel
theorem dX6_sharesNothing_36 : decode cX6_sharesNothing 36 = .ok (.iload_n 3, 1) := by decide +kernel
theorem dX6_sharesNothing_37 : decode cX6_sharesNothing 37 = .ok (.aload_n 0, 1) := by decide +kernel
theorem dX6_sharesNothing_38 : decode cX6_sharesNothing 38 = .ok (.getfield 21, 3) := by decide +kernel
theorem dX6_sharesNothing_41 : decode cX6_sharesNothing 41 = .ok (.invokestatic 52, 3) := by decide +kernel
theorem dX6_sharesNothing_44 : decode cX6_sharesNothing 44 = .ok (.istore 5, 2) := by decide +kernel
theorem dX6_sharesNothing_46 : decode cX6_sharesNothing 46 = .ok (.iload 4, 2) := by decide +kernel
theorem dX6_sharesNothing_48 : decode cX6_sharesNothing 48 = .ok (.iload 5, 2) := by decide +kernel
theorem dX6_sharesNothing_50 : decode cX6_sharesNothing 50 = .ok (.iand, 1) := by decide +kernel
theorem dX6_sharesNothing_51 : decode cX6_sharesNothing 51 = .ok (.ifCond .ne 13, 3) := by decide +kernel
theorem dX6_sharesNothing_54 : decode cX6_sharesNothing 54 = .ok (.iload 4, 2) := by decide +kernel
theorem dX6_sharesNothing_56 : decode cX6_sharesNothing 56 = .ok (.iload 5, 2) := by decide +kernel
theorem dX6_sharesNothing_58 : decode cX6_sharesNothing 58 = .ok (.ior, 1) := by decide +kernel
theorem dX6_sharesNothing_59 : decode cX6_sharesNothing 59 = .ok (.iload_n 2, 1) := by decide +kernel
theorem dX6_sharesNothing_60 : decode cX6_sharesNothing 60 = .ok (.iand, 1) := by decide +kernel
theorem dX6_sharesNothing_61 : decode cX6_sharesNothing 61 = .ok (.ifCond .eq 5, 3) := by decide +kernel
theorem dX6_sharesNothing_64 : decode cX6_sharesNothing 64 = .ok (.iconst 0, 1) := by decide +kernel
theorem dX6_sharesNothing_65 : decode cX6_sharesNothing 65 = .ok (.ireturn, 1) := by decide +kernel
theorem dX6_sharesNothing_66 : decode cX6_sharesNothing 66 = .ok (.iload_n 2, 1) := by decide +kernel
theorem dX6_sharesNothing_67 : decode cX6_sharesNothing 67 = .ok (.iload 4, 2) := by decide +kernel
theorem dX6_sharesNothing_69 : decode cX6_sharesNothing 69 = .ok (.iload 5, 2) := by decide +kernel
theorem dX6_sharesNothing_71 : decode cX6_sharesNothing 71 = .ok (.ior, 1) := by decide +kernel
theorem dX6_sharesNothing_72 : decode cX6_sharesNothing 72 = .ok (.ior, 1) := by decide +kernel
theorem dX6_sharesNothing_73 : decode cX6_sharesNothing 73 = .ok (.istore_n 2, 1) := by decide +kernel
theorem dX6_sharesNothing_74 : decode cX6_sharesNothing 74 = .ok (.iinc 3 1, 3) := by decide +kernel
theorem dX6_sharesNothing_77 : decode cX6_sharesNothing 77 = .ok (.goto (-73), 3) := by decide +kernel
theorem dX6_sharesNothing_80 : decode cX6_sharesNothing 80 = .ok (.iconst 1, 1) := by decide +kernel
theorem dX6_sharesNothing_81 : decode cX6_sharesNothing 81 = .ok (.ireturn, 1) := by decide +kernel
theorem dX6_bit_0 : decode cX6_bit 0 = .ok (.aload_n 0, 1) := by decide +kernel
theorem dX6_bit_1 : decode cX6_bit 1 = .ok (.iload_n 1, 1) := by decide +kernel
theorem dX6_bit_2 : decode cX6_bit 2 = .ok (.iload_n 2, 1) := by decide +kernel
theorem dX6_bit_3 : decode cX6_bit 3 = .ok (.invokevirtual 48, 3) := by decide +kernel
theorem dX6_bit_6 : decode cX6_bit 6 = .ok (.istore_n 3, 1) := by decide +kernel
theorem dX6_bit_7 : decode cX6_bit 7 = .ok (.iload_n 3, 1) := by decide +kernel
theorem dX6_bit_8 : decode cX6_bit 8 = .ok (.iconst (-1), 1) := by decide +kernel
theorem dX6_bit_9 : decode cX6_bit 9 = .ok (.if_icmp .ne 7, 3) := by decide +kernel
theorem dX6_bit_12 : decode cX6_bit 12 = .ok (.iconst 0, 1) := by decide +kernel
theorem dX6_bit_13 : decode cX6_bit 13 = .ok (.goto 6, 3) := by decide +kernel
theorem dX6_bit_16 : decode cX6_bit 16 = .ok (.iconst 1, 1) := by decide +kernel
theorem dX6_bit_17 : decode cX6_bit 17 = .ok (.iload_n 3, 1) := by decide +kernel
theorem dX6_bit_18 : decode cX6_bit 18 = .ok (.ishl, 1) := by decide +kernel
theorem dX6_bit_19 : decode cX6_bit 19 = .ok (.ireturn, 1) := by decide +kernel
theorem dX7_init_0 : decode cX7_init 0 = .ok (.aload_n 0, 1) := by decide +kernel
theorem dX7_init_1 : decode cX7_init 1 = .ok (.invokespecial 3, 3) := by decide +kernel
theorem dX7_init_4 : decode cX7_init 4 = .ok (.aload_n 0, 1) := by decide +kernel
theorem dX7_init_5 : decode cX7_init 5 = .ok (.bipush 6, 2) := by decide +kernel
theorem dX7_init_7 : decode cX7_init 7 = .ok (.anewarray 9, 3) := by decide +kernel
theorem dX7_init_10 : decode cX7_init 10 = .ok (.putfield 11, 3) := by decide +kernel
theorem dX7_init_13 : decode cX7_init 13 = .ok (.aload_n 0, 1) := by decide +kernel
theorem dX7_init_14 : decode cX7_init 14 = .ok (.iconst 0, 1) := by decide +kernel
theorem dX7_init_15 : decode cX7_init 15 = .ok (.putfield 17, 3) := by decide +kernel
theorem dX7_init_18 : decode cX7_init 18 = .ok (.return_, 1) := by decide +kernel
theorem dX7_add_0 : decode cX7_add 0 = .ok (.aload_n 0, 1) := by decide +kernel
theorem dX7_add_1 : decode cX7_add 1 = .ok (.getfield 17, 3) := by decide +kernel
theorem dX7_add_4 : decode cX7_add 4 = .ok (.bipush 6, 2) := by decide +kernel
theorem dX7_add_6 : decode cX7_add 6 = .ok (.if_icmp .lt 6, 3) := by decide +kernel
theorem dX7_add_9 : decode cX7_add 9 = .ok (.bipush (-104), 2) := by decide +kernel
theorem dX7_add_11 : decode cX7_add 11 = .ok (.ireturn, 1) := by decide +kernel
theorem dX7_add_12 : decode cX7_add 12 = .ok (.aload_n 0, 1) := by decide +kernel
theorem dX7_add_13 : decode cX7_add 13 = .ok (.getfield 11, 3) := by decide +kernel
theorem dX7_add_16 : decode cX7_add 16 = .ok (.aload_n 0, 1) := by decide +kernel
theorem dX7_add_17 : decode cX7_add 17 = .ok (.getfield 17, 3) := by decide +kernel
theorem dX7_add_20 : decode cX7_add 20 = .ok (.aload_n 1, 1) := by decide +kernel
theorem dX7_add_21 : decode cX7_add 21 = .ok (.aastore, 1) := by decide +kernel
theorem dX7_add_22 : decode cX7_add 22 = .ok (.aload_n 0, 1) := by decide +kernel
theorem dX7_add_23 : decode cX7_add 23 = .ok (.dup, 1) := by decide +kernel
theorem dX7_add_24 : decode cX7_add 24 = .ok (.getfield 17, 3) := by decide +kernel
theorem dX7_add_27 : decode cX7_add 27 = .ok (.iconst 1, 1) := by decide +kernel
theorem dX7_add_28 : decode cX7_add 28 = .ok (.iadd, 1) := by decide +kernel
theorem dX7_add_29 : decode cX7_add 29 = .ok (.putfield 17, 3) := by decide +kernel
theorem dX7_add_32 : decode cX7_add 32 = .ok (.aload_n 0, 1) := by decide +kernel
theorem dX7_add_33 : decode cX7_add 33 = .ok (.getfield 17, 3) := by decide +kernel
theorem dX7_add_36 : decode cX7_add 36 = .ok (.iconst 1, 1) := by decide +kernel
theorem dX7_add_37 : decode cX7_add 37 = .ok (.isub, 1) := by decide +kernel
theorem dX7_add_38 : decode cX7_add 38 = .ok (.ireturn, 1) := by decide +kernel
theorem dX7_drop_0 : decode cX7_drop 0 = .ok (.aload_n 0, 1) := by decide +kernel
theorem dX7_drop_1 : decode cX7_drop 1 = .ok (.getfield 17, 3) := by decide +kernel
theorem dX7_drop_4 : decode cX7_drop 4 = .ok (.istore_n 1, 1) := by decide +kernel
theorem dX7_drop_5 : decode cX7_drop 5 = .ok (.aload_n 0, 1) := by decide +kernel
theorem dX7_drop_6 : decode cX7_drop 6 = .ok (.iconst 0, 1) := by decide +kernel
theorem dX7_drop_7 : decode cX7_drop 7 = .ok (.putfield 17, 3) := by decide +kernel
theorem dX7_drop_10 : decode cX7_drop 10 = .ok (.iload_n 1, 1) := by decide +kernel
theorem dX7_drop_11 : decode cX7_drop 11 = .ok (.ireturn, 1) := by decide +kernel
theorem dX7_holdFrom_0 : decode cX7_holdFrom 0 = .ok (.iload_n 1, 1) := by decide +kernel
theorem dX7_holdFrom_1 : decode cX7_holdFrom 1 = .ok (.iconst 0, 1) := by decide +kernel
theorem dX7_holdFrom_2 : decode cX7_holdFrom 2 = .ok (.invokestatic 21, 3) := by decide +kernel
theorem dX7_holdFrom_5 : decode cX7_holdFrom 5 = .ok (.istore_n 3, 1) := by decide +kernel
theorem dX7_holdFrom_6 : decode cX7_holdFrom 6 = .ok (.iload_n 3, 1) := by decide +kernel
theorem dX7_holdFrom_7 : decode cX7_holdFrom 7 = .ok (.aload_n 0, 1) := by decide +kernel
theorem dX7_holdFrom_8 : decode cX7_holdFrom 8 = .ok (.getfield 17, 3) := by decide +kernel
theorem dX7_holdFrom_11 : decode cX7_holdFrom 11 = .ok (.if_icmp .ge 33, 3) := by decide +kernel
theorem dX7_holdFrom_14 : decode cX7_holdFrom 14 = .ok (.aload_n 0, 1) := by decide +kernel
theorem dX7_holdFrom_15 : decode cX7_holdFrom 15 = .ok (.getfield 11, 3) := by decide +kernel
theorem dX7_holdFrom_18 : decode cX7_holdFrom 18 = .ok (.iload_n 3, 1) := by decide +kernel
theorem dX7_holdFrom_19 : decode cX7_holdFrom 19 = .ok (.aaload, 1) := by decide +kernel
theorem dX7_holdFrom_20 : decode cX7_holdFrom 20 = .ok (.astore 4, 2) := by decide +kernel
theorem dX7_holdFrom_22 : decode cX7_holdFrom 22 = .ok (.aload 4, 2) := by decide +kernel
theorem dX7_holdFrom_24 : decode cX7_holdFrom 24 = .ok (.ifnull 14, 3) := by decide +kernel
theorem dX7_holdFrom_27 : decode cX7_holdFrom 27 = .ok (.aload 4, 2) := by decide +kernel
theorem dX7_holdFrom_29 : decode cX7_holdFrom 29 = .ok (.aload_n 2, 1) := by decide +kernel
theorem dX7_holdFrom_30 : decode cX7_holdFrom 30 = .ok (.invokevirtual 27, 3) := by decide +kernel
theorem dX7_holdFrom_33 : decode cX7_holdFrom 33 = .ok (.ifCond .ne 5, 3) := by decide +kernel
theorem dX7_holdFrom_36 : decode cX7_holdFrom 36 = .ok (.iconst 0, 1) := by decide +kernel
theorem dX7_holdFrom_37 : decode cX7_holdFrom 37 = .ok (.ireturn, 1) := by decide +kernel
theorem dX7_holdFrom_38 : decode cX7_holdFrom 38 = .ok (.iinc 3 1, 3) := by decide +kernel
theorem dX7_holdFrom_41 : decode cX7_holdFrom 41 = .ok (.goto (-35), 3) := by decide +kernel
theorem dX7_holdFrom_44 : decode cX7_holdFrom 44 = .ok (.iconst 1, 1) := by decide +kernel
theorem dX7_holdFrom_45 : decode cX7_holdFrom 45 = .ok (.ireturn, 1) := by decide +kernel
theorem dX4_init_0 : decode cX4_init 0 = .ok (.aload_n 0, 1) := by decide +kernel
theorem dX4_init_1 : decode cX4_init 1 = .ok (.invokespecial 3, 3) := by decide +kernel
theorem dX4_init_4 : decode cX4_init 4 = .ok (.aload_n 0, 1) := by decide +kernel
theorem dX4_init_5 : decode cX4_init 5 = .ok (.bipush 16, 2) := by decide +kernel
theorem dX4_init_7 : decode cX4_init 7 = .ok (.anewarray 9, 3) := by decide +kernel
theorem dX4_init_10 : decode cX4_init 10 = .ok (.putfield 11, 3) := by decide +kernel
theorem dX4_init_13 : decode cX4_init 13 = .ok (.aload_n 0, 1) := by decide +kernel
theorem dX4_init_14 : decode cX4_init 14 = .ok (.iconst 0, 1) := by decide +kernel
theorem dX4_init_15 : decode cX4_init 15 = .ok (.putfield 17, 3) := by decide +kernel
theorem dX4_init_18 : decode cX4_init 18 = .ok (.return_, 1) := by decide +kernel
theorem dX4_add_0 : decode cX4_add 0 = .ok (.aload_n 0, 1) := by decide +kernel
theorem dX4_add_1 : decode cX4_add 1 = .ok (.getfield 17, 3) := by decide +kernel
theorem dX4_add_4 : decode cX4_add 4 = .ok (.bipush 16, 2) := by decide +kernel
theorem dX4_add_6 : decode cX4_add 6 = .ok (.if_icmp .lt 6, 3) := by decide +kernel
theorem dX4_add_9 : decode cX4_add 9 = .ok (.bipush (-104), 2) := by decide +kernel
theorem dX4_add_11 : decode cX4_add 11 = .ok (.ireturn, 1) := by decide +kernel
theorem dX4_add_12 : decode cX4_add 12 = .ok (.aload_n 0, 1) := by decide +kernel
theorem dX4_add_13 : decode cX4_add 13 = .ok (.getfield 11, 3) := by decide +kernel
theorem dX4_add_16 : decode cX4_add 16 = .ok (.aload_n 0, 1) := by decide +kernel
theorem dX4_add_17 : decode cX4_add 17 = .ok (.getfield 17, 3) := by decide +kernel
theorem dX4_add_20 : decode cX4_add 20 = .ok (.aload_n 1, 1) := by decide +kernel
theorem dX4_add_21 : decode cX4_add 21 = .ok (.aastore, 1) := by decide +kernel
theorem dX4_add_22 : decode cX4_add 22 = .ok (.aload_n 0, 1) := by decide +kernel
theorem dX4_add_23 : decode cX4_add 23 = .ok (.dup, 1) := by decide +kernel
theorem dX4_add_24 : decode cX4_add 24 = .ok (.getfield 17, 3) := by decide +kernel
theorem dX4_add_27 : decode cX4_add 27 = .ok (.iconst 1, 1) := by decide +kernel
theorem dX4_add_28 : decode cX4_add 28 = .ok (.iadd, 1) := by decide +kernel
theorem dX4_add_29 : decode cX4_add 29 = .ok (.putfield 17, 3) := by decide +kernel
theorem dX4_add_32 : decode cX4_add 32 = .ok (.aload_n 0, 1) := by decide +kernel
theorem dX4_add_33 : decode cX4_add 33 = .ok (.getfield 17, 3) := by decide +kernel
theorem dX4_add_36 : decode cX4_add 36 = .ok (.iconst 1, 1) := by decide +kernel
theorem dX4_add_37 : decode cX4_add 37 = .ok (.isub, 1) := by decide +kernel
theorem dX4_add_38 : decode cX4_add 38 = .ok (.ireturn, 1) := by decide +kernel
theorem dX4_drop_0 : decode cX4_drop 0 = .ok (.aload_n 0, 1) := by decide +kernel
theorem dX4_drop_1 : decode cX4_drop 1 = .ok (.getfield 17, 3) := by decide +kernel
theorem dX4_drop_4 : decode cX4_drop 4 = .ok (.istore_n 1, 1) := by decide +kernel
theorem dX4_drop_5 : decode cX4_drop 5 = .ok (.aload_n 0, 1) := by decide +kernel
theorem dX4_drop_6 : decode cX4_drop 6 = .ok (.iconst 0, 1) := by decide +kernel
theorem dX4_drop_7 : decode cX4_drop 7 = .ok (.putfield 17, 3) := by decide +kernel
theorem dX4_drop_10 : decode cX4_drop 10 = .ok (.iload_n 1, 1) := by decide +kernel
theorem dX4_drop_11 : decode cX4_drop 11 = .ok (.ireturn, 1) := by decide +kernel
theorem dX4_stepAt_0 : decode cX4_stepAt 0 = .ok (.iload_n 1, 1) := by decide +kernel
theorem dX4_stepAt_1 : decode cX4_stepAt 1 = .ok (.ifCond .lt 20, 3) := by decide +kernel
theorem dX4_stepAt_4 : decode cX4_stepAt 4 = .ok (.iload_n 1, 1) := by decide +kernel
theorem dX4_stepAt_5 : decode cX4_stepAt 5 = .ok (.aload_n 0, 1) := by decide +kernel
theorem dX4_stepAt_6 : decode cX4_stepAt 6 = .ok (.getfield 17, 3) := by decide +kernel
theorem dX4_stepAt_9 : decode cX4_stepAt 9 = .ok (.if_icmp .ge 12, 3) := by decide +kernel
theorem dX4_stepAt_12 : decode cX4_stepAt 12 = .ok (.aload_n 0, 1) := by decide +kernel
theorem dX4_stepAt_13 : decode cX4_stepAt 13 = .ok (.getfield 11, 3) := by decide +kernel
theorem dX4_stepAt_16 : decode cX4_stepAt 16 = .ok (.iload_n 1, 1) := by decide +kernel
theorem dX4_stepAt_17 : decode cX4_stepAt 17 = .ok (.aaload, 1) := by decide +kernel
theorem dX4_stepAt_18 : decode cX4_stepAt 18 = .ok (.goto 4, 3) := by decide +kernel
theorem dX4_stepAt_21 : decode cX4_stepAt 21 = .ok (.aconst_null, 1) := by decide +kernel
theorem dX4_stepAt_22 : decode cX4_stepAt 22 = .ok (.areturn, 1) := by decide +kernel
theorem dX9_init_0 : decode cX9_init 0 = .ok (.aload_n 0, 1) := by decide +kernel
theorem dX9_init_1 : decode cX9_init 1 = .ok (.invokespecial 1, 3) := by decide +kernel
theorem dX9_init_4 : decode cX9_init 4 = .ok (.aload_n 0, 1) := by decide +kernel
theorem dX9_init_5 : decode cX9_init 5 = .ok (.iload_n 1, 1) := by decide +kernel
theorem dX9_init_6 : decode cX9_init 6 = .ok (.putfield 7, 3) := by decide +kernel
theorem dX9_init_9 : decode cX9_init 9 = .ok (.aload_n 0, 1) := by decide +kernel
theorem dX9_init_10 : decode cX9_init 10 = .ok (.iload_n 2, 1) := by decide +kernel
theorem dX9_init_11 : decode cX9_init 11 = .ok (.putfield 13, 3) := by decide +kernel
theorem dX9_init_14 : decode cX9_init 14 = .ok (.aload_n 0, 1) := by decide +kernel
theorem dX9_init_15 : decode cX9_init 15 = .ok (.iload_n 3, 1) := by decide +kernel
theorem dX9_init_16 : decode cX9_init 16 = .ok (.putfield 16, 3) := by decide +kernel
theorem dX9_init_19 : decode cX9_init 19 = .ok (.aload_n 0, 1) := by decide +kernel
theorem dX9_init_20 : decode cX9_init 20 = .ok (.iload 4, 2) := by decide +kernel
theorem dX9_init_22 : decode cX9_init 22 = .ok (.putfield 19, 3) := by decide +kernel
theorem dX9_init_25 : decode cX9_init 25 = .ok (.aload_n 0, 1) := by decide +kernel
theorem dX9_init_26 : decode cX9_init 26 = .ok (.iload 5, 2) := by decide +kernel
theorem dX9_init_28 : decode cX9_init 28 = .ok (.putfield 22, 3) := by decide +kernel
theorem dX9_init_31 : decode cX9_init 31 = .ok (.return_, 1) := by decide +kernel
theorem dX3_init_0 : decode cX3_init 0 = .ok (.aload_n 0, 1) := by decide +kernel
theorem dX3_init_1 : decode cX3_init 1 = .ok (.invokespecial 3, 3) := by decide +kernel
theorem dX3_init_4 : decode cX3_init 4 = .ok (.aload_n 0, 1) := by decide +kernel
theorem dX3_init_5 : decode cX3_init 5 = .ok (.iconst 4, 1) := by decide +kernel
theorem dX3_init_6 : decode cX3_init 6 = .ok (.newarray .int, 2) := by decide +kernel
theorem dX3_init_8 : decode cX3_init 8 = .ok (.putfield 9, 3) := by decide +kernel
theorem dX3_init_11 : decode cX3_init 11 = .ok (.aload_n 0, 1) := by decide +kernel
theorem dX3_init_12 : decode cX3_init 12 = .ok (.iconst 5, 1) := by decide +kernel
theorem dX3_init_13 : decode cX3_init 13 = .ok (.newarray .int, 2) := by decide +kernel
theorem dX3_init_15 : decode cX3_init 15 = .ok (.putfield 15, 3) := by decide +kernel
theorem dX3_init_18 : decode cX3_init 18 = .ok (.aload_n 0, 1) := by decide +kernel
theorem dX3_init_19 : decode cX3_init 19 = .ok (.bipush 22, 2) := by decide +kernel
theorem dX3_init_21 : decode cX3_init 21 = .ok (.newarray .int, 2) := by decide +kernel
theorem dX3_init_23 : decode cX3_init 23 = .ok (.putfield 18, 3) := by decide +kernel
theorem dX3_init_26 : decode cX3_init 26 = .ok (.aload_n 0, 1) := by decide +kernel
theorem dX3_init_27 : decode cX3_init 27 = .ok (.iconst 0, 1) := by decide +kernel
theorem dX3_init_28 : decode cX3_init 28 = .ok (.putfield 21, 3) := by decide +kernel
theorem dX3_init_31 : decode cX3_init 31 = .ok (.aload_n 0, 1) := by decide +kernel
theorem dX3_init_32 : decode cX3_init 32 = .ok (.iconst 0, 1) := by decide +kernel
theorem dX3_init_33 : decode cX3_init 33 = .ok (.putfield 25, 3) := by decide +kernel
theorem dX3_init_36 : decode cX3_init 36 = .ok (.aload_n 0, 1) := by decide +kernel
theorem dX3_init_37 : decode cX3_init 37 = .ok (.iconst 0, 1) := by decide +kernel
theorem dX3_init_38 : decode cX3_init 38 = .ok (.putfield 28, 3) := by decide +kernel
theorem dX3_init_41 : decode cX3_init 41 = .ok (.aload_n 0, 1) := by decide +kernel
theorem dX3_init_42 : decode cX3_init 42 = .ok (.iconst 0, 1) := by decide +kernel
theorem dX3_init_43 : decode cX3_init 43 = .ok (.putfield 31, 3) := by decide +kernel
theorem dX3_init_46 : decode cX3_init 46 = .ok (.aload_n 0, 1) := by decide +kernel
theorem dX3_init_47 : decode cX3_init 47 = .ok (.iconst 0, 1) := by decide +kernel
theorem dX3_init_48 : decode cX3_init 48 = .ok (.putfield 34, 3) := by decide +kernel
theorem dX3_init_51 : decode cX3_init 51 = .ok (.aload_n 0, 1) := by decide +kernel
theorem dX3_init_52 : decode cX3_init 52 = .ok (.iconst 0, 1) := by decide +kernel
theorem dX3_init_53 : decode cX3_init 53 = .ok (.putfield 37, 3) := by decide +kernel
theorem dX3_init_56 : decode cX3_init 56 = .ok (.aload_n 0, 1) := by decide +kernel
theorem dX3_init_57 : decode cX3_init 57 = .ok (.aload_n 1, 1) := by decide +kernel
theorem dX3_init_58 : decode cX3_init 58 = .ok (.putfield 40, 3) := by decide +kernel
theorem dX3_init_61 : decode cX3_init 61 = .ok (.return_, 1) := by decide +kernel
theorem dX3_lookAt_0 : decode cX3_lookAt 0 = .ok (.iload_n 1, 1) := by decide +kernel
theorem dX3_lookAt_1 : decode cX3_lookAt 1 = .ok (.ifCond .lt 20, 3) := by decide +kernel
theorem dX3_lookAt_4 : decode cX3_lookAt 4 = .ok (.iload_n 1, 1) := by decide +kernel
theorem dX3_lookAt_5 : decode cX3_lookAt 5 = .ok (.aload_n 0, 1) := by decide +kernel
theorem dX3_lookAt_6 : decode cX3_lookAt 6 = .ok (.getfield 21, 3) := by decide +kernel
theorem dX3_lookAt_9 : decode cX3_lookAt 9 = .ok (.if_icmp .ge 12, 3) := by decide +kernel
theorem dX3_lookAt_12 : decode cX3_lookAt 12 = .ok (.aload_n 0, 1) := by decide +kernel
theorem dX3_lookAt_13 : decode cX3_lookAt 13 = .ok (.getfield 18, 3) := by decide +kernel
theorem dX3_lookAt_16 : decode cX3_lookAt 16 = .ok (.iload_n 1, 1) := by decide +kernel
theorem dX3_lookAt_17 : decode cX3_lookAt 17 = .ok (.iaload, 1) := by decide +kernel
theorem dX3_lookAt_18 : decode cX3_lookAt 18 = .ok (.goto 4, 3) := by decide +kernel
theorem dX3_lookAt_21 : decode cX3_lookAt 21 = .ok (.iconst (-1), 1) := by decide +kernel
theorem dX3_lookAt_22 : decode cX3_lookAt 22 = .ok (.ireturn, 1) := by decide +kernel
theorem dX3_run_0 : decode cX3_run 0 = .ok (.aload_n 0, 1) := by decide +kernel
theorem dX3_run_1 : decode cX3_run 1 = .ok (.invokevirtual 44, 3) := by decide +kernel
theorem dX3_run_4 : decode cX3_run 4 = .ok (.iconst 0, 1) := by decide +kernel
theorem dX3_run_5 : decode cX3_run 5 = .ok (.istore_n 2, 1) := by decide +kernel
theorem dX3_run_6 : decode cX3_run 6 = .ok (.iconst 0, 1) := by decide +kernel
theorem dX3_run_7 : decode cX3_run 7 = .ok (.istore_n 3, 1) := by decide +kernel
theorem dX3_run_8 : decode cX3_run 8 = .ok (.iload_n 3, 1) := by decide +kernel
theorem dX3_run_9 : decode cX3_run 9 = .ok (.bipush 16, 2) := by decide +kernel
theorem dX3_run_11 : decode cX3_run 11 = .ok (.if_icmp .ge 40, 3) := by decide +kernel
theorem dX3_run_14 : decode cX3_run 14 = .ok (.aload_n 0, 1) := by decide +kernel
theorem dX3_run_15 : decode cX3_run 15 = .ok (.getfield 37, 3) := by decide +kernel
theorem dX3_run_18 : decode cX3_run 18 = .ok (.ifCond .ne 33, 3) := by decide +kernel
theorem dX3_run_21 : decode cX3_run 21 = .ok (.aload_n 1, 1) := by decide +kernel
theorem dX3_run_22 : decode cX3_run 22 = .ok (.iload_n 2, 1) := by decide +kernel
theorem dX3_run_23 : decode cX3_run 23 = .ok (.invokevirtual 47, 3) := by decide +kernel
theorem dX3_run_26 : decode cX3_run 26 = .ok (.astore 4, 2) := by decide +kernel
theorem dX3_run_28 : decode cX3_run 28 = .ok (.aload 4, 2) := by decide +kernel
theorem dX3_run_30 : decode cX3_run 30 = .ok (.ifnonnull 4, 3) := by decide +kernel
theorem dX3_run_33 : decode cX3_run 33 = .ok (.return_, 1) := by decide +kernel
theorem dX3_run_34 : decode cX3_run 34 = .ok (.iload_n 2, 1) := by decide +kernel
theorem dX3_run_35 : decode cX3_run 35 = .ok (.iconst 1, 1) := by decide +kernel
theorem dX3_run_36 : decode cX3_run 36 = .ok (.aload_n 0, 1) := by decide +kernel
theorem dX3_run_37 : decode cX3_run 37 = .ok (.aload 4, 2) := by decide +kernel
theorem dX3_run_39 : decode cX3_run 39 = .ok (.invokevirtual 53, 3) := by decide +kernel
theorem dX3_run_42 : decode cX3_run 42 = .ok (.iadd, 1) := by decide +kernel
theorem dX3_run_43 : decode cX3_run 43 = .ok (.iadd, 1) := by decide +kernel
theorem dX3_run_44 : decode cX3_run 44 = .ok (.istore_n 2, 1) := by decide +kernel
theorem dX3_run_45 : decode cX3_run 45 = .ok (.iinc 3 1, 3) := by decide +kernel
theorem dX3_run_48 : decode cX3_run 48 = .ok (.goto (-40), 3) := by decide +kernel
theorem dX3_run_51 : decode cX3_run 51 = .ok (.return_, 1) := by decide +kernel
theorem dX3_begin_0 : decode cX3_begin 0 = .ok (.aload_n 0, 1) := by decide +kernel
theorem dX3_begin_1 : decode cX3_begin 1 = .ok (.getfield 9, 3) := by decide +kernel
theorem dX3_begin_4 : decode cX3_begin 4 = .ok (.iconst (-1), 1) := by decide +kernel
theorem dX3_begin_5 : decode cX3_begin 5 = .ok (.invokestatic 57, 3) := by decide +kernel
theorem dX3_begin_8 : decode cX3_begin 8 = .ok (.aload_n 0, 1) := by decide +kernel
theorem dX3_begin_9 : decode cX3_begin 9 = .ok (.getfield 15, 3) := by decide +kernel
theorem dX3_begin_12 : decode cX3_begin 12 = .ok (.iconst (-1), 1) := by decide +kernel
theorem dX3_begin_13 : decode cX3_begin 13 = .ok (.invokestatic 57, 3) := by decide +kernel
theorem dX3_begin_16 : decode cX3_begin 16 = .ok (.aload_n 0, 1) := by decide +kernel
theorem dX3_begin_17 : decode cX3_begin 17 = .ok (.iconst 0, 1) := by decide +kernel
theorem dX3_begin_18 : decode cX3_begin 18 = .ok (.putfield 21, 3) := by decide +kernel
theorem dX3_begin_21 : decode cX3_begin 21 = .ok (.aload_n 0, 1) := by decide +kernel
theorem dX3_begin_22 : decode cX3_begin 22 = .ok (.iconst 0, 1) := by decide +kernel
theorem dX3_begin_23 : decode cX3_begin 23 = .ok (.putfield 25, 3) := by decide +kernel
theorem dX3_begin_26 : decode cX3_begin 26 = .ok (.aload_n 0, 1) := by decide +kernel
theorem dX3_begin_27 : decode cX3_begin 27 = .ok (.iconst 0, 1) := by decide +kernel
theorem dX3_begin_28 : decode cX3_begin 28 = .ok (.putfield 28, 3) := by decide +kernel
theorem dX3_begin_31 : decode cX3_begin 31 = .ok (.aload_n 0, 1) := by decide +kernel
theorem dX3_begin_32 : decode cX3_begin 32 = .ok (.iconst 0, 1) := by decide +kernel
theorem dX3_begin_33 : decode cX3_begin 33 = .ok (.putfield 34, 3) := by decide +kernel
theorem dX3_begin_36 : decode cX3_begin 36 = .ok (.aload_n 0, 1) := by decide +kernel
theorem dX3_begin_37 : decode cX3_begin 37 = .ok (.iconst 0, 1) := by decide +kernel
theorem dX3_begin_38 : decode cX3_begin 38 = .ok (.putfield 37, 3) := by decide +kernel
theorem dX3_begin_41 : decode cX3_begin 41 = .ok (.iconst 0, 1) := by decide +kernel
theorem dX3_begin_42 : decode cX3_begin 42 = .ok (.istore_n 1, 1) := by decide +kernel
theorem dX3_begin_43 : decode cX3_begin 43 = .ok (.iload_n 1, 1) := by decide +kernel
theorem dX3_begin_44 : decode cX3_begin 44 = .ok (.iconst 2, 1) := by decide +kernel
theorem dX3_begin_45 : decode cX3_begin 45 = .ok (.if_icmp .ge 23, 3) := by decide +kernel
theorem dX3_begin_48 : decode cX3_begin 48 = .ok (.aload_n 0, 1) := by decide +kernel
theorem dX3_begin_49 : decode cX3_begin 49 = .ok (.getfield 9, 3) := by decide +kernel
theorem dX3_begin_52 : decode cX3_begin 52 = .ok (.iload_n 1, 1) := by decide +kernel
theorem dX3_begin_53 : decode cX3_begin 53 = .ok (.aload_n 0, 1) := by decide +kernel
theorem dX3_begin_54 : decode cX3_begin 54 = .ok (.getfield 40, 3) := by decide +kernel
theorem dX3_begin_57 : decode cX3_begin 57 = .ok (.iload_n 1, 1) := by decide +kernel
theorem dX3_begin_58 : decode cX3_begin 58 = .ok (.invokevirtual 63, 3) := by decide +kernel
theorem dX3_begin_61 : decode cX3_begin 61 = .ok (.iastore, 1) := by decide +kernel
theorem dX3_begin_62 : decode cX3_begin 62 = .ok (.iinc 1 1, 3) := by decide +kernel
theorem dX3_begin_65 : decode cX3_begin 65 = .ok (.goto (-22), 3) := by decide +kernel
theorem dX3_begin_68 : decode cX3_begin 68 = .ok (.aload_n 0, 1) := by decide +kernel
theorem dX3_begin_69 : decode cX3_begin 69 = .ok (.iconst 1, 1) := by decide +kernel
theorem dX3_begin_70 : decode cX3_begin 70 = .ok (.aload_n 0, 1) := by decide +kernel
theorem dX3_begin_71 : decode cX3_begin 71 = .ok (.getfield 40, 3) := by decide +kernel
theorem dX3_begin_74 : decode cX3_begin 74 = .ok (.getfield 69, 3) := by decide +kernel
theorem dX3_begin_77 : decode cX3_begin 77 = .ok (.getfield 73, 3) := by decide +kernel
theorem dX3_begin_80 : decode cX3_begin 80 = .ok (.ishl, 1) := by decide +kernel
theorem dX3_begin_81 : decode cX3_begin 81 = .ok (.iconst 1, 1) := by decide +kernel
theorem dX3_begin_82 : decode cX3_begin 82 = .ok (.isub, 1) := by decide +kernel
theorem dX3_begin_83 : decode cX3_begin 83 = .ok (.putfield 31, 3) := by decide +kernel
theorem dX3_begin_86 : decode cX3_begin 86 = .ok (.return_, 1) := by decide +kernel
theorem dX3_leftOutBehind_0 : decode cX3_leftOutBehind 0 = .ok (.aload_n 0, 1) := by decide +kernel
theorem dX3_leftOutBehind_1 : decode cX3_leftOutBehind 1 = .ok (.dup, 1) := by decide +kernel
theorem dX3_leftOutBehind_2 : decode cX3_leftOutBehind 2 = .ok (.getfield 34, 3) := by decide +kernel
theorem dX3_leftOutBehind_5 : decode cX3_leftOutBehind 5 = .ok (.iconst 1, 1) := by decide +kernel
theorem dX3_leftOutBehind_6 : decode cX3_leftOutBehind 6 = .ok (.iadd, 1) := by decide +kernel
theorem dX3_leftOutBehind_7 : decode cX3_leftOutBehind 7 = .ok (.putfield 34, 3) := by decide +kernel
theorem dX3_leftOutBehind_10 : decode cX3_leftOutBehind 10 = .ok (.aload_n 0, 1) := by decide +kernel
theorem dX3_leftOutBehind_11 : decode cX3_leftOutBehind 11 = .ok (.aload_n 1, 1) := by decide +kernel
theorem dX3_leftOutBehind_12 : decode cX3_leftOutBehind 12 = .ok (.getfield 78, 3) := by decide +kernel
theorem dX3_leftOutBehind_15 : decode cX3_leftOutBehind 15 = .ok (.invokevirtual 83, 3) := by decide +kernel
theorem dX3_leftOutBehind_18 : decode cX3_leftOutBehind 18 = .ok (.istore_n 2, 1) := by decide +kernel
theorem dX3_leftOutBehind_19 : decode cX3_leftOutBehind 19 = .ok (.aload_n 1, 1) := by decide +kernel
theorem dX3_leftOutBehind_20 : decode cX3_leftOutBehind 20 = .ok (.getfield 86, 3) := by decide +kernel
theorem dX3_leftOutBehind_23 : decode cX3_leftOutBehind 23 = .ok (.iconst 2, 1) := by decide +kernel
theorem dX3_leftOutBehind_24 : decode cX3_leftOutBehind 24 = .ok (.if_icmp .ne 24, 3) := by decide +kernel
theorem dX3_leftOutBehind_27 : decode cX3_leftOutBehind 27 = .ok (.iload_n 2, 1) := by decide +kernel
theorem dX3_leftOutBehind_28 : decode cX3_leftOutBehind 28 = .ok (.aload_n 0, 1) := by decide +kernel
theorem dX3_leftOutBehind_29 : decode cX3_leftOutBehind 29 = .ok (.aload_n 1, 1) := by decide +kernel
theorem dX3_leftOutBehind_30 : decode cX3_leftOutBehind 30 = .ok (.getfield 89, 3) := by decide +kernel
theorem dX3_leftOutBehind_33 : decode cX3_leftOutBehind 33 = .ok (.invokevirtual 83, 3) := by decide +kernel
theorem dX3_leftOutBehind_36 : decode cX3_leftOutBehind 36 = .ok (.if_icmp .ne 10, 3) := by decide +kernel
theorem dX3_leftOutBehind_39 : decode cX3_leftOutBehind 39 = .ok (.aload_n 1, 1) := by decide +kernel
theorem dX3_leftOutBehind_40 : decode cX3_leftOutBehind 40 = .ok (.getfield 92, 3) := by decide +kernel
theorem dX3_leftOutBehind_43 : decode cX3_leftOutBehind 43 = .ok (.goto 4, 3) := by decide +kernel
theorem dX3_leftOutBehind_46 : decode cX3_leftOutBehind 46 = .ok (.iconst 0, 1) := by decide +kernel
theorem dX3_leftOutBehind_47 : decode cX3_leftOutBehind 47 = .ok (.ireturn, 1) := by decide +kernel
theorem dX3_leftOutBehind_48 : decode cX3_leftOutBehind 48 = .ok (.iload_n 2, 1) := by decide +kernel
theorem dX3_leftOutBehind_49 : decode cX3_leftOutBehind 49 = .ok (.iconst (-1), 1) := by decide +kernel
theorem dX3_leftOutBehind_50 : decode cX3_leftOutBehind 50 = .ok (.if_icmp .ne 10, 3) := by decide +kernel
theorem dX3_leftOutBehind_53 : decode cX3_leftOutBehind 53 = .ok (.aload_n 0, 1) := by decide +kernel
theorem dX3_leftOutBehind_54 : decode cX3_leftOutBehind 54 = .ok (.iconst 1, 1) := by decide +kernel
theorem dX3_leftOutBehind_55 : decode cX3_leftOutBehind 55 = .ok (.putfield 37, 3) := by decide +kernel
theorem dX3_leftOutBehind_58 : decode cX3_leftOutBehind 58 = .ok (.iconst 0, 1) := by decide +kernel
theorem dX3_leftOutBehind_59 : decode cX3_leftOutBehind 59 = .ok (.ireturn, 1) := by decide +kernel
theorem dX3_leftOutBehind_60 : decode cX3_leftOutBehind 60 = .ok (.aload_n 0, 1) := by decide +kernel
theorem dX3_leftOutBehind_61 : decode cX3_leftOutBehind 61 = .ok (.getfield 40, 3) := by decide +kernel
theorem dX3_leftOutBehind_64 : decode cX3_leftOutBehind 64 = .ok (.getfield 69, 3) := by decide +kernel
theorem dX3_leftOutBehind_67 : decode cX3_leftOutBehind 67 = .ok (.aload_n 0, 1) := by decide +kernel
theorem dX3_leftOutBehind_68 : decode cX3_leftOutBehind 68 = .ok (.getfield 40, 3) := by decide +kernel
theorem dX3_leftOutBehind_71 : decode cX3_leftOutBehind 71 = .ok (.iload_n 2, 1) := by decide +kernel
theorem dX3_leftOutBehind_72 : decode cX3_leftOutBehind 72 = .ok (.invokevirtual 95, 3) := by decide +kernel
theorem dX3_leftOutBehind_75 : decode cX3_leftOutBehind 75 = .ok (.aload_n 1, 1) := by decide +kernel
theorem dX3_leftOutBehind_76 : decode cX3_leftOutBehind 76 = .ok (.getfield 89, 3) := by decide +kernel
theorem dX3_leftOutBehind_79 : decode cX3_leftOutBehind 79 = .ok (.invokevirtual 98, 3) := by decide +kernel
theorem dX3_leftOutBehind_82 : decode cX3_leftOutBehind 82 = .ok (.istore_n 3, 1) := by decide +kernel
theorem dX3_leftOutBehind_83 : decode cX3_leftOutBehind 83 = .ok (.iload_n 3, 1) := by decide +kernel
theorem dX3_leftOutBehind_84 : decode cX3_leftOutBehind 84 = .ok (.invokestatic 102, 3) := by decide +kernel
theorem dX3_leftOutBehind_87 : decode cX3_leftOutBehind 87 = .ok (.istore 4, 2) := by decide +kernel
theorem dX3_leftOutBehind_89 : decode cX3_leftOutBehind 89 = .ok (.iload_n 3, 1) := by decide +kernel
theorem dX3_leftOutBehind_90 : decode cX3_leftOutBehind 90 = .ok (.iconst (-1), 1) := by decide +kernel
theorem dX3_leftOutBehind_91 : decode cX3_leftOutBehind 91 = .ok (.if_icmp .eq 20, 3) := by decide +kernel
theorem dX3_leftOutBehind_94 : decode cX3_leftOutBehind 94 = .ok (.iload 4, 2) := by decide +kernel
theorem dX3_leftOutBehind_96 : decode cX3_leftOutBehind 96 = .ok (.aload_n 1, 1) := by decide +kernel
theorem dX3_leftOutBehind_97 : decode cX3_leftOutBehind 97 = .ok (.getfield 86, 3) := by decide +kernel
theorem dX3_leftOutBehind_100 : decode cX3_leftOutBehind 100 = .ok (.ifCond .ne 7, 3) := by decide +kernel
theorem dX3_leftOutBehind_103 : decode cX3_leftOutBehind 103 = .ok (.iconst 1, 1) := by decide +kernel
theorem dX3_leftOutBehind_104 : decode cX3_leftOutBehind 104 = .ok (.goto 4, 3) := by decide +kernel
theorem dX3_leftOutBehind_107 : decode cX3_leftOutBehind 107 = .ok (.iconst 0, 1) := by decide +kernel
theorem dX3_leftOutBehind_108 : decode cX3_leftOutBehind 108 = .ok (.if_icmp .eq 10, 3) := by decide +kernel
theorem dX3_leftOutBehind_111 : decode cX3_leftOutBehind 111 = .ok (.aload_n 0, 1) := by decide +kernel
theorem dX3_leftOutBehind_112 : decode cX3_leftOutBehind 112 = .ok (.iconst 2, 1) := by decide +kernel
theorem dX3_leftOutBehind_113 : decode cX3_leftOutBehind 113 = .ok (.putfield 37, 3) := by decide +kernel
theorem dX3_leftOutBehind_116 : decode cX3_leftOutBehind 116 = .ok (.iconst 0, 1) := by decide +kernel
theorem dX3_leftOutBehind_117 : decode cX3_leftOutBehind 117 = .ok (.ireturn, 1) := by decide +kernel
theorem dX3_leftOutBehind_118 : decode cX3_leftOutBehind 118 = .ok (.aload_n 0, 1) := by decide +kernel
theorem dX3_leftOutBehind_119 : decode cX3_leftOutBehind 119 = .ok (.getfield 40, 3) := by decide +kernel
theorem dX3_leftOutBehind_122 : decode cX3_leftOutBehind 122 = .ok (.iload_n 2, 1) := by decide +kernel
theorem dX3_leftOutBehind_123 : decode cX3_leftOutBehind 123 = .ok (.aload_n 1, 1) := by decide +kernel
theorem dX3_leftOutBehind_124 : decode cX3_leftOutBehind 124 = .ok (.getfield 89, 3) := by decide +kernel
theorem dX3_leftOutBehind_127 : decode cX3_leftOutBehind 127 = .ok (.invokevirtual 106, 3) := by decide +kernel
theorem dX3_leftOutBehind_130 : decode cX3_leftOutBehind 130 = .ok (.istore 5, 2) := by decide +kernel
theorem dX3_leftOutBehind_132 : decode cX3_leftOutBehind 132 = .ok (.aload_n 0, 1) := by decide +kernel
theorem dX3_leftOutBehind_133 : decode cX3_leftOutBehind 133 = .ok (.iconst 2, 1) := by decide +kernel
theorem dX3_leftOutBehind_134 : decode cX3_leftOutBehind 134 = .ok (.iload_n 2, 1) := by decide +kernel
theorem dX3_leftOutBehind_135 : decode cX3_leftOutBehind 135 = .ok (.iconst 4, 1) := by decide +kernel
theorem dX3_leftOutBehind_136 : decode cX3_leftOutBehind 136 = .ok (.imul, 1) := by decide +kernel
theorem dX3_leftOutBehind_137 : decode cX3_leftOutBehind 137 = .ok (.iadd, 1) := by decide +kernel
theorem dX3_leftOutBehind_138 : decode cX3_leftOutBehind 138 = .ok (.aload_n 1, 1) := by decide +kernel
theorem dX3_leftOutBehind_139 : decode cX3_leftOutBehind 139 = .ok (.getfield 89, 3) := by decide +kernel
theorem dX3_leftOutBehind_142 : decode cX3_leftOutBehind 142 = .ok (.iadd, 1) := by decide +kernel
theorem dX3_leftOutBehind_143 : decode cX3_leftOutBehind 143 = .ok (.iload 4, 2) := by decide +kernel
theorem dX3_leftOutBehind_145 : decode cX3_leftOutBehind 145 = .ok (.iload 5, 2) := by decide +kernel
theorem dX3_leftOutBehind_147 : decode cX3_leftOutBehind 147 = .ok (.invokevirtual 109, 3) := by decide +kernel
theorem dX3_leftOutBehind_150 : decode cX3_leftOutBehind 150 = .ok (.aload_n 1, 1) := by decide +kernel
theorem dX3_leftOutBehind_151 : decode cX3_leftOutBehind 151 = .ok (.getfield 86, 3) := by decide +kernel
theorem dX3_leftOutBehind_154 : decode cX3_leftOutBehind 154 = .ok (.iconst 1, 1) := by decide +kernel
theorem dX3_leftOutBehind_155 : decode cX3_leftOutBehind 155 = .ok (.if_icmp .ne 21, 3) := by decide +kernel
theorem dX3_leftOutBehind_158 : decode cX3_leftOutBehind 158 = .ok (.iload 5, 2) := by decide +kernel
theorem dX3_leftOutBehind_160 : decode cX3_leftOutBehind 160 = .ok (.aload_n 1, 1) := by decide +kernel
theorem dX3_leftOutBehind_161 : decode cX3_leftOutBehind 161 = .ok (.getfield 113, 3) := by decide +kernel
theorem dX3_leftOutBehind_164 : decode cX3_leftOutBehind 164 = .ok (.if_icmp .ne 10, 3) := by decide +kernel
theorem dX3_leftOutBehind_167 : decode cX3_leftOutBehind 167 = .ok (.aload_n 1, 1) := by decide +kernel
theorem dX3_leftOutBehind_168 : decode cX3_leftOutBehind 168 = .ok (.getfield 92, 3) := by decide +kernel
theorem dX3_leftOutBehind_171 : decode cX3_leftOutBehind 171 = .ok (.goto 4, 3) := by decide +kernel
theorem dX3_leftOutBehind_174 : decode cX3_leftOutBehind 174 = .ok (.iconst 0, 1) := by decide +kernel
end
section
theorem dX3_leftOutBehind_175 : decode cX3_leftOutBehind 175 = .ok (.ireturn, 1) := by decide +kernel
theorem dX3_leftOutBehind_176 : decode cX3_leftOutBehind 176 = .ok (.aload_n 0, 1) := by decide +kernel
theorem dX3_leftOutBehind_177 : decode cX3_leftOutBehind 177 = .ok (.aload_n 1, 1) := by decide +kernel
theorem dX3_leftOutBehind_178 : decode cX3_leftOutBehind 178 = .ok (.getfield 113, 3) := by decide +kernel
theorem dX3_leftOutBehind_181 : decode cX3_leftOutBehind 181 = .ok (.iload 5, 2) := by decide +kernel
theorem dX3_leftOutBehind_183 : decode cX3_leftOutBehind 183 = .ok (.invokevirtual 116, 3) := by decide +kernel
theorem dX3_leftOutBehind_186 : decode cX3_leftOutBehind 186 = .ok (.iconst 0, 1) := by decide +kernel
theorem dX3_leftOutBehind_187 : decode cX3_leftOutBehind 187 = .ok (.ireturn, 1) := by decide +kernel
theorem dX3_asked_0 : decode cX3_asked 0 = .ok (.iload_n 1, 1) := by decide +kernel
theorem dX3_asked_1 : decode cX3_asked 1 = .ok (.invokestatic 120, 3) := by decide +kernel
theorem dX3_asked_4 : decode cX3_asked 4 = .ok (.ifCond .ne 5, 3) := by decide +kernel
theorem dX3_asked_7 : decode cX3_asked 7 = .ok (.iconst (-1), 1) := by decide +kernel
theorem dX3_asked_8 : decode cX3_asked 8 = .ok (.ireturn, 1) := by decide +kernel
theorem dX3_asked_9 : decode cX3_asked 9 = .ok (.aload_n 0, 1) := by decide +kernel
theorem dX3_asked_10 : decode cX3_asked 10 = .ok (.getfield 31, 3) := by decide +kernel
theorem dX3_asked_13 : decode cX3_asked 13 = .ok (.iload_n 1, 1) := by decide +kernel
theorem dX3_asked_14 : decode cX3_asked 14 = .ok (.ishr, 1) := by decide +kernel
theorem dX3_asked_15 : decode cX3_asked 15 = .ok (.iconst 1, 1) := by decide +kernel
theorem dX3_asked_16 : decode cX3_asked 16 = .ok (.iand, 1) := by decide +kernel
theorem dX3_asked_17 : decode cX3_asked 17 = .ok (.iconst 1, 1) := by decide +kernel
theorem dX3_asked_18 : decode cX3_asked 18 = .ok (.if_icmp .ne 15, 3) := by decide +kernel
theorem dX3_asked_21 : decode cX3_asked 21 = .ok (.aload_n 0, 1) := by decide +kernel
theorem dX3_asked_22 : decode cX3_asked 22 = .ok (.iload_n 1, 1) := by decide +kernel
theorem dX3_asked_23 : decode cX3_asked 23 = .ok (.iconst 1, 1) := by decide +kernel
theorem dX3_asked_24 : decode cX3_asked 24 = .ok (.aload_n 0, 1) := by decide +kernel
theorem dX3_asked_25 : decode cX3_asked 25 = .ok (.getfield 9, 3) := by decide +kernel
theorem dX3_asked_28 : decode cX3_asked 28 = .ok (.iload_n 1, 1) := by decide +kernel
theorem dX3_asked_29 : decode cX3_asked 29 = .ok (.iaload, 1) := by decide +kernel
theorem dX3_asked_30 : decode cX3_asked 30 = .ok (.invokevirtual 109, 3) := by decide +kernel
theorem dX3_asked_33 : decode cX3_asked 33 = .ok (.aload_n 0, 1) := by decide +kernel
theorem dX3_asked_34 : decode cX3_asked 34 = .ok (.getfield 9, 3) := by decide +kernel
theorem dX3_asked_37 : decode cX3_asked 37 = .ok (.iload_n 1, 1) := by decide +kernel
theorem dX3_asked_38 : decode cX3_asked 38 = .ok (.iaload, 1) := by decide +kernel
theorem dX3_asked_39 : decode cX3_asked 39 = .ok (.ireturn, 1) := by decide +kernel
theorem dX3_change_0 : decode cX3_change 0 = .ok (.iload_n 1, 1) := by decide +kernel
theorem dX3_change_1 : decode cX3_change 1 = .ok (.invokestatic 120, 3) := by decide +kernel
theorem dX3_change_4 : decode cX3_change 4 = .ok (.ifCond .eq 24, 3) := by decide +kernel
theorem dX3_change_7 : decode cX3_change 7 = .ok (.aload_n 0, 1) := by decide +kernel
theorem dX3_change_8 : decode cX3_change 8 = .ok (.getfield 9, 3) := by decide +kernel
theorem dX3_change_11 : decode cX3_change 11 = .ok (.iload_n 1, 1) := by decide +kernel
theorem dX3_change_12 : decode cX3_change 12 = .ok (.iload_n 2, 1) := by decide +kernel
theorem dX3_change_13 : decode cX3_change 13 = .ok (.iastore, 1) := by decide +kernel
theorem dX3_change_14 : decode cX3_change 14 = .ok (.aload_n 0, 1) := by decide +kernel
theorem dX3_change_15 : decode cX3_change 15 = .ok (.dup, 1) := by decide +kernel
theorem dX3_change_16 : decode cX3_change 16 = .ok (.getfield 31, 3) := by decide +kernel
theorem dX3_change_19 : decode cX3_change 19 = .ok (.iconst 1, 1) := by decide +kernel
theorem dX3_change_20 : decode cX3_change 20 = .ok (.iload_n 1, 1) := by decide +kernel
theorem dX3_change_21 : decode cX3_change 21 = .ok (.ishl, 1) := by decide +kernel
theorem dX3_change_22 : decode cX3_change 22 = .ok (.iconst (-1), 1) := by decide +kernel
theorem dX3_change_23 : decode cX3_change 23 = .ok (.ixor, 1) := by decide +kernel
theorem dX3_change_24 : decode cX3_change 24 = .ok (.iand, 1) := by decide +kernel
theorem dX3_change_25 : decode cX3_change 25 = .ok (.putfield 31, 3) := by decide +kernel
theorem dX3_change_28 : decode cX3_change 28 = .ok (.return_, 1) := by decide +kernel
theorem dX3_note_0 : decode cX3_note 0 = .ok (.aload_n 0, 1) := by decide +kernel
theorem dX3_note_1 : decode cX3_note 1 = .ok (.getfield 28, 3) := by decide +kernel
theorem dX3_note_4 : decode cX3_note 4 = .ok (.iload_n 1, 1) := by decide +kernel
theorem dX3_note_5 : decode cX3_note 5 = .ok (.ishr, 1) := by decide +kernel
theorem dX3_note_6 : decode cX3_note 6 = .ok (.iconst 1, 1) := by decide +kernel
theorem dX3_note_7 : decode cX3_note 7 = .ok (.iand, 1) := by decide +kernel
theorem dX3_note_8 : decode cX3_note 8 = .ok (.iconst 1, 1) := by decide +kernel
theorem dX3_note_9 : decode cX3_note 9 = .ok (.if_icmp .eq 12, 3) := by decide +kernel
theorem dX3_note_12 : decode cX3_note 12 = .ok (.aload_n 0, 1) := by decide +kernel
theorem dX3_note_13 : decode cX3_note 13 = .ok (.getfield 21, 3) := by decide +kernel
theorem dX3_note_16 : decode cX3_note 16 = .ok (.bipush 22, 2) := by decide +kernel
theorem dX3_note_18 : decode cX3_note 18 = .ok (.if_icmp .lt 4, 3) := by decide +kernel
theorem dX3_note_21 : decode cX3_note 21 = .ok (.return_, 1) := by decide +kernel
theorem dX3_note_22 : decode cX3_note 22 = .ok (.aload_n 0, 1) := by decide +kernel
theorem dX3_note_23 : decode cX3_note 23 = .ok (.dup, 1) := by decide +kernel
theorem dX3_note_24 : decode cX3_note 24 = .ok (.getfield 28, 3) := by decide +kernel
theorem dX3_note_27 : decode cX3_note 27 = .ok (.iconst 1, 1) := by decide +kernel
theorem dX3_note_28 : decode cX3_note 28 = .ok (.iload_n 1, 1) := by decide +kernel
theorem dX3_note_29 : decode cX3_note 29 = .ok (.ishl, 1) := by decide +kernel
theorem dX3_note_30 : decode cX3_note 30 = .ok (.ior, 1) := by decide +kernel
theorem dX3_note_31 : decode cX3_note 31 = .ok (.putfield 28, 3) := by decide +kernel
theorem dX3_note_34 : decode cX3_note 34 = .ok (.iload_n 3, 1) := by decide +kernel
theorem dX3_note_35 : decode cX3_note 35 = .ok (.istore 4, 2) := by decide +kernel
theorem dX3_note_37 : decode cX3_note 37 = .ok (.iload_n 2, 1) := by decide +kernel
theorem dX3_note_38 : decode cX3_note 38 = .ok (.ifCond .eq 79, 3) := by decide +kernel
theorem dX3_note_41 : decode cX3_note 41 = .ok (.iconst 0, 1) := by decide +kernel
theorem dX3_note_42 : decode cX3_note 42 = .ok (.istore 4, 2) := by decide +kernel
theorem dX3_note_44 : decode cX3_note 44 = .ok (.iload_n 3, 1) := by decide +kernel
theorem dX3_note_45 : decode cX3_note 45 = .ok (.ifCond .lt 72, 3) := by decide +kernel
theorem dX3_note_48 : decode cX3_note 48 = .ok (.iload_n 3, 1) := by decide +kernel
theorem dX3_note_49 : decode cX3_note 49 = .ok (.iconst 5, 1) := by decide +kernel
theorem dX3_note_50 : decode cX3_note 50 = .ok (.if_icmp .ge 67, 3) := by decide +kernel
theorem dX3_note_53 : decode cX3_note 53 = .ok (.aload_n 0, 1) := by decide +kernel
theorem dX3_note_54 : decode cX3_note 54 = .ok (.getfield 15, 3) := by decide +kernel
theorem dX3_note_57 : decode cX3_note 57 = .ok (.iload_n 3, 1) := by decide +kernel
theorem dX3_note_58 : decode cX3_note 58 = .ok (.iaload, 1) := by decide +kernel
theorem dX3_note_59 : decode cX3_note 59 = .ok (.iconst (-1), 1) := by decide +kernel
theorem dX3_note_60 : decode cX3_note 60 = .ok (.if_icmp .ne 17, 3) := by decide +kernel
theorem dX3_note_63 : decode cX3_note 63 = .ok (.bipush 10, 2) := by decide +kernel
theorem dX3_note_65 : decode cX3_note 65 = .ok (.aload_n 0, 1) := by decide +kernel
theorem dX3_note_66 : decode cX3_note 66 = .ok (.getfield 40, 3) := by decide +kernel
theorem dX3_note_69 : decode cX3_note 69 = .ok (.iload_n 3, 1) := by decide +kernel
theorem dX3_note_70 : decode cX3_note 70 = .ok (.invokevirtual 95, 3) := by decide +kernel
theorem dX3_note_73 : decode cX3_note 73 = .ok (.iadd, 1) := by decide +kernel
theorem dX3_note_74 : decode cX3_note 74 = .ok (.goto 11, 3) := by decide +kernel
theorem dX3_note_77 : decode cX3_note 77 = .ok (.iconst 1, 1) := by decide +kernel
theorem dX3_note_78 : decode cX3_note 78 = .ok (.aload_n 0, 1) := by decide +kernel
theorem dX3_note_79 : decode cX3_note 79 = .ok (.getfield 15, 3) := by decide +kernel
theorem dX3_note_82 : decode cX3_note 82 = .ok (.iload_n 3, 1) := by decide +kernel
theorem dX3_note_83 : decode cX3_note 83 = .ok (.iaload, 1) := by decide +kernel
theorem dX3_note_84 : decode cX3_note 84 = .ok (.iadd, 1) := by decide +kernel
theorem dX3_note_85 : decode cX3_note 85 = .ok (.istore 4, 2) := by decide +kernel
theorem dX3_note_87 : decode cX3_note 87 = .ok (.aload_n 0, 1) := by decide +kernel
theorem dX3_note_88 : decode cX3_note 88 = .ok (.getfield 15, 3) := by decide +kernel
theorem dX3_note_91 : decode cX3_note 91 = .ok (.iload_n 3, 1) := by decide +kernel
theorem dX3_note_92 : decode cX3_note 92 = .ok (.iaload, 1) := by decide +kernel
theorem dX3_note_93 : decode cX3_note 93 = .ok (.iconst (-1), 1) := by decide +kernel
theorem dX3_note_94 : decode cX3_note 94 = .ok (.if_icmp .ne 23, 3) := by decide +kernel
theorem dX3_note_97 : decode cX3_note 97 = .ok (.aload_n 0, 1) := by decide +kernel
theorem dX3_note_98 : decode cX3_note 98 = .ok (.getfield 15, 3) := by decide +kernel
theorem dX3_note_101 : decode cX3_note 101 = .ok (.iload_n 3, 1) := by decide +kernel
theorem dX3_note_102 : decode cX3_note 102 = .ok (.aload_n 0, 1) := by decide +kernel
theorem dX3_note_103 : decode cX3_note 103 = .ok (.getfield 25, 3) := by decide +kernel
theorem dX3_note_106 : decode cX3_note 106 = .ok (.iastore, 1) := by decide +kernel
theorem dX3_note_107 : decode cX3_note 107 = .ok (.aload_n 0, 1) := by decide +kernel
theorem dX3_note_108 : decode cX3_note 108 = .ok (.dup, 1) := by decide +kernel
theorem dX3_note_109 : decode cX3_note 109 = .ok (.getfield 25, 3) := by decide +kernel
theorem dX3_note_112 : decode cX3_note 112 = .ok (.iconst 1, 1) := by decide +kernel
theorem dX3_note_113 : decode cX3_note 113 = .ok (.iadd, 1) := by decide +kernel
theorem dX3_note_114 : decode cX3_note 114 = .ok (.putfield 25, 3) := by decide +kernel
theorem dX3_note_117 : decode cX3_note 117 = .ok (.aload_n 0, 1) := by decide +kernel
theorem dX3_note_118 : decode cX3_note 118 = .ok (.getfield 18, 3) := by decide +kernel
theorem dX3_note_121 : decode cX3_note 121 = .ok (.aload_n 0, 1) := by decide +kernel
theorem dX3_note_122 : decode cX3_note 122 = .ok (.getfield 21, 3) := by decide +kernel
theorem dX3_note_125 : decode cX3_note 125 = .ok (.iload 4, 2) := by decide +kernel
theorem dX3_note_127 : decode cX3_note 127 = .ok (.iastore, 1) := by decide +kernel
theorem dX3_note_128 : decode cX3_note 128 = .ok (.aload_n 0, 1) := by decide +kernel
theorem dX3_note_129 : decode cX3_note 129 = .ok (.dup, 1) := by decide +kernel
theorem dX3_note_130 : decode cX3_note 130 = .ok (.getfield 21, 3) := by decide +kernel
theorem dX3_note_133 : decode cX3_note 133 = .ok (.iconst 1, 1) := by decide +kernel
theorem dX3_note_134 : decode cX3_note 134 = .ok (.iadd, 1) := by decide +kernel
theorem dX3_note_135 : decode cX3_note 135 = .ok (.putfield 21, 3) := by decide +kernel
theorem dX3_note_138 : decode cX3_note 138 = .ok (.return_, 1) := by decide +kernel
theorem dX0_init_0 : decode cX0_init 0 = .ok (.aload_n 0, 1) := by decide +kernel
theorem dX0_init_1 : decode cX0_init 1 = .ok (.invokespecial 3, 3) := by decide +kernel
theorem dX0_init_4 : decode cX0_init 4 = .ok (.aload_n 0, 1) := by decide +kernel
theorem dX0_init_5 : decode cX0_init 5 = .ok (.new 9, 3) := by decide +kernel
theorem dX0_init_8 : decode cX0_init 8 = .ok (.dup, 1) := by decide +kernel
theorem dX0_init_9 : decode cX0_init 9 = .ok (.invokespecial 11, 3) := by decide +kernel
theorem dX0_init_12 : decode cX0_init 12 = .ok (.putfield 12, 3) := by decide +kernel
theorem dX0_init_15 : decode cX0_init 15 = .ok (.aload_n 0, 1) := by decide +kernel
theorem dX0_init_16 : decode cX0_init 16 = .ok (.iconst 0, 1) := by decide +kernel
theorem dX0_init_17 : decode cX0_init 17 = .ok (.putfield 18, 3) := by decide +kernel
theorem dX0_init_20 : decode cX0_init 20 = .ok (.aload_n 0, 1) := by decide +kernel
theorem dX0_init_21 : decode cX0_init 21 = .ok (.bipush 16, 2) := by decide +kernel
theorem dX0_init_23 : decode cX0_init 23 = .ok (.newarray .int, 2) := by decide +kernel
theorem dX0_init_25 : decode cX0_init 25 = .ok (.putfield 22, 3) := by decide +kernel
theorem dX0_init_28 : decode cX0_init 28 = .ok (.aload_n 0, 1) := by decide +kernel
theorem dX0_init_29 : decode cX0_init 29 = .ok (.iconst 0, 1) := by decide +kernel
theorem dX0_init_30 : decode cX0_init 30 = .ok (.putfield 26, 3) := by decide +kernel
theorem dX0_init_33 : decode cX0_init 33 = .ok (.aload_n 0, 1) := by decide +kernel
theorem dX0_init_34 : decode cX0_init 34 = .ok (.iconst 0, 1) := by decide +kernel
theorem dX0_init_35 : decode cX0_init 35 = .ok (.putfield 30, 3) := by decide +kernel
theorem dX0_init_38 : decode cX0_init 38 = .ok (.aload_n 0, 1) := by decide +kernel
theorem dX0_init_39 : decode cX0_init 39 = .ok (.aload_n 1, 1) := by decide +kernel
theorem dX0_init_40 : decode cX0_init 40 = .ok (.putfield 33, 3) := by decide +kernel
theorem dX0_init_43 : decode cX0_init 43 = .ok (.aload_n 0, 1) := by decide +kernel
theorem dX0_init_44 : decode cX0_init 44 = .ok (.aload_n 2, 1) := by decide +kernel
theorem dX0_init_45 : decode cX0_init 45 = .ok (.putfield 37, 3) := by decide +kernel
theorem dX0_init_48 : decode cX0_init 48 = .ok (.return_, 1) := by decide +kernel
theorem dX0_forget_0 : decode cX0_forget 0 = .ok (.aload_n 0, 1) := by decide +kernel
theorem dX0_forget_1 : decode cX0_forget 1 = .ok (.iconst 0, 1) := by decide +kernel
theorem dX0_forget_2 : decode cX0_forget 2 = .ok (.putfield 18, 3) := by decide +kernel
theorem dX0_forget_5 : decode cX0_forget 5 = .ok (.return_, 1) := by decide +kernel
theorem dX0_list_0 : decode cX0_list 0 = .ok (.aload_n 0, 1) := by decide +kernel
theorem dX0_list_1 : decode cX0_list 1 = .ok (.getfield 18, 3) := by decide +kernel
theorem dX0_list_4 : decode cX0_list 4 = .ok (.ifCond .ne 83, 3) := by decide +kernel
theorem dX0_list_7 : decode cX0_list 7 = .ok (.aload_n 0, 1) := by decide +kernel
theorem dX0_list_8 : decode cX0_list 8 = .ok (.getfield 12, 3) := by decide +kernel
theorem dX0_list_11 : decode cX0_list 11 = .ok (.invokevirtual 41, 3) := by decide +kernel
theorem dX0_list_14 : decode cX0_list 14 = .ok (.aload_n 0, 1) := by decide +kernel
theorem dX0_list_15 : decode cX0_list 15 = .ok (.getfield 33, 3) := by decide +kernel
theorem dX0_list_18 : decode cX0_list 18 = .ok (.invokevirtual 44, 3) := by decide +kernel
theorem dX0_list_21 : decode cX0_list 21 = .ok (.iconst 1, 1) := by decide +kernel
theorem dX0_list_22 : decode cX0_list 22 = .ok (.istore_n 1, 1) := by decide +kernel
theorem dX0_list_23 : decode cX0_list 23 = .ok (.iconst 0, 1) := by decide +kernel
theorem dX0_list_24 : decode cX0_list 24 = .ok (.istore_n 2, 1) := by decide +kernel
theorem dX0_list_25 : decode cX0_list 25 = .ok (.iload_n 2, 1) := by decide +kernel
theorem dX0_list_26 : decode cX0_list 26 = .ok (.sipush 4000, 3) := by decide +kernel
theorem dX0_list_29 : decode cX0_list 29 = .ok (.if_icmp .gt 49, 3) := by decide +kernel
theorem dX0_list_32 : decode cX0_list 32 = .ok (.iload_n 1, 1) := by decide +kernel
theorem dX0_list_33 : decode cX0_list 33 = .ok (.ifCond .eq 45, 3) := by decide +kernel
theorem dX0_list_36 : decode cX0_list 36 = .ok (.aload_n 0, 1) := by decide +kernel
theorem dX0_list_37 : decode cX0_list 37 = .ok (.getfield 33, 3) := by decide +kernel
theorem dX0_list_40 : decode cX0_list 40 = .ok (.invokevirtual 49, 3) := by decide +kernel
theorem dX0_list_43 : decode cX0_list 43 = .ok (.aload_n 0, 1) := by decide +kernel
theorem dX0_list_44 : decode cX0_list 44 = .ok (.getfield 12, 3) := by decide +kernel
theorem dX0_list_47 : decode cX0_list 47 = .ok (.aload_n 0, 1) := by decide +kernel
theorem dX0_list_48 : decode cX0_list 48 = .ok (.getfield 33, 3) := by decide +kernel
theorem dX0_list_51 : decode cX0_list 51 = .ok (.getfield 52, 3) := by decide +kernel
theorem dX0_list_54 : decode cX0_list 54 = .ok (.aload_n 0, 1) := by decide +kernel
theorem dX0_list_55 : decode cX0_list 55 = .ok (.getfield 33, 3) := by decide +kernel
theorem dX0_list_58 : decode cX0_list 58 = .ok (.getfield 55, 3) := by decide +kernel
theorem dX0_list_61 : decode cX0_list 61 = .ok (.invokevirtual 58, 3) := by decide +kernel
theorem dX0_list_64 : decode cX0_list 64 = .ok (.aload_n 0, 1) := by decide +kernel
theorem dX0_list_65 : decode cX0_list 65 = .ok (.getfield 33, 3) := by decide +kernel
theorem dX0_list_68 : decode cX0_list 68 = .ok (.invokevirtual 62, 3) := by decide +kernel
theorem dX0_list_71 : decode cX0_list 71 = .ok (.istore_n 1, 1) := by decide +kernel
theorem dX0_list_72 : decode cX0_list 72 = .ok (.iinc 2 1, 3) := by decide +kernel
theorem dX0_list_75 : decode cX0_list 75 = .ok (.goto (-50), 3) := by decide +kernel
theorem dX0_list_78 : decode cX0_list 78 = .ok (.aload_n 0, 1) := by decide +kernel
theorem dX0_list_79 : decode cX0_list 79 = .ok (.iconst 1, 1) := by decide +kernel
theorem dX0_list_80 : decode cX0_list 80 = .ok (.putfield 18, 3) := by decide +kernel
theorem dX0_list_83 : decode cX0_list 83 = .ok (.aload_n 0, 1) := by decide +kernel
theorem dX0_list_84 : decode cX0_list 84 = .ok (.invokevirtual 66, 3) := by decide +kernel
theorem dX0_list_87 : decode cX0_list 87 = .ok (.aload_n 0, 1) := by decide +kernel
theorem dX0_list_88 : decode cX0_list 88 = .ok (.getfield 12, 3) := by decide +kernel
theorem dX0_list_91 : decode cX0_list 91 = .ok (.getfield 69, 3) := by decide +kernel
theorem dX0_list_94 : decode cX0_list 94 = .ok (.sipush 4000, 3) := by decide +kernel
theorem dX0_list_97 : decode cX0_list 97 = .ok (.if_icmp .gt 7, 3) := by decide +kernel
theorem dX0_list_100 : decode cX0_list 100 = .ok (.iconst 1, 1) := by decide +kernel
theorem dX0_list_101 : decode cX0_list 101 = .ok (.goto 4, 3) := by decide +kernel
theorem dX0_list_104 : decode cX0_list 104 = .ok (.iconst 0, 1) := by decide +kernel
theorem dX0_list_105 : decode cX0_list 105 = .ok (.ireturn, 1) := by decide +kernel
theorem dX0_keepAll_0 : decode cX0_keepAll 0 = .ok (.aload_n 0, 1) := by decide +kernel
theorem dX0_keepAll_1 : decode cX0_keepAll 1 = .ok (.iconst 0, 1) := by decide +kernel
theorem dX0_keepAll_2 : decode cX0_keepAll 2 = .ok (.putfield 30, 3) := by decide +kernel
theorem dX0_keepAll_5 : decode cX0_keepAll 5 = .ok (.aload_n 0, 1) := by decide +kernel
theorem dX0_keepAll_6 : decode cX0_keepAll 6 = .ok (.iconst 0, 1) := by decide +kernel
theorem dX0_keepAll_7 : decode cX0_keepAll 7 = .ok (.putfield 26, 3) := by decide +kernel
theorem dX0_keepAll_10 : decode cX0_keepAll 10 = .ok (.aload_n 0, 1) := by decide +kernel
theorem dX0_keepAll_11 : decode cX0_keepAll 11 = .ok (.getfield 18, 3) := by decide +kernel
theorem dX0_keepAll_14 : decode cX0_keepAll 14 = .ok (.ifCond .eq 16, 3) := by decide +kernel
theorem dX0_keepAll_17 : decode cX0_keepAll 17 = .ok (.aload_n 0, 1) := by decide +kernel
theorem dX0_keepAll_18 : decode cX0_keepAll 18 = .ok (.getfield 12, 3) := by decide +kernel
theorem dX0_keepAll_21 : decode cX0_keepAll 21 = .ok (.getfield 69, 3) := by decide +kernel
theorem dX0_keepAll_24 : decode cX0_keepAll 24 = .ok (.sipush 4000, 3) := by decide +kernel
theorem dX0_keepAll_27 : decode cX0_keepAll 27 = .ok (.if_icmp .le 4, 3) := by decide +kernel
theorem dX0_keepAll_30 : decode cX0_keepAll 30 = .ok (.return_, 1) := by decide +kernel
theorem dX0_keepAll_31 : decode cX0_keepAll 31 = .ok (.aload_n 0, 1) := by decide +kernel
theorem dX0_keepAll_32 : decode cX0_keepAll 32 = .ok (.getfield 22, 3) := by decide +kernel
theorem dX0_keepAll_35 : decode cX0_keepAll 35 = .ok (.arraylength, 1) := by decide +kernel
theorem dX0_keepAll_36 : decode cX0_keepAll 36 = .ok (.aload_n 0, 1) := by decide +kernel
theorem dX0_keepAll_37 : decode cX0_keepAll 37 = .ok (.getfield 12, 3) := by decide +kernel
theorem dX0_keepAll_40 : decode cX0_keepAll 40 = .ok (.getfield 69, 3) := by decide +kernel
theorem dX0_keepAll_43 : decode cX0_keepAll 43 = .ok (.if_icmp .ge 19, 3) := by decide +kernel
theorem dX0_keepAll_46 : decode cX0_keepAll 46 = .ok (.aload_n 0, 1) := by decide +kernel
theorem dX0_keepAll_47 : decode cX0_keepAll 47 = .ok (.aload_n 0, 1) := by decide +kernel
theorem dX0_keepAll_48 : decode cX0_keepAll 48 = .ok (.getfield 12, 3) := by decide +kernel
theorem dX0_keepAll_51 : decode cX0_keepAll 51 = .ok (.getfield 69, 3) := by decide +kernel
theorem dX0_keepAll_54 : decode cX0_keepAll 54 = .ok (.invokestatic 72, 3) := by decide +kernel
theorem dX0_keepAll_57 : decode cX0_keepAll 57 = .ok (.newarray .int, 2) := by decide +kernel
theorem dX0_keepAll_59 : decode cX0_keepAll 59 = .ok (.putfield 22, 3) := by decide +kernel
theorem dX0_keepAll_62 : decode cX0_keepAll 62 = .ok (.iconst 0, 1) := by decide +kernel
theorem dX0_keepAll_63 : decode cX0_keepAll 63 = .ok (.istore_n 1, 1) := by decide +kernel
theorem dX0_keepAll_64 : decode cX0_keepAll 64 = .ok (.iload_n 1, 1) := by decide +kernel
theorem dX0_keepAll_65 : decode cX0_keepAll 65 = .ok (.aload_n 0, 1) := by decide +kernel
theorem dX0_keepAll_66 : decode cX0_keepAll 66 = .ok (.getfield 12, 3) := by decide +kernel
theorem dX0_keepAll_69 : decode cX0_keepAll 69 = .ok (.getfield 69, 3) := by decide +kernel
theorem dX0_keepAll_72 : decode cX0_keepAll 72 = .ok (.if_icmp .ge 25, 3) := by decide +kernel
theorem dX0_keepAll_75 : decode cX0_keepAll 75 = .ok (.iload_n 1, 1) := by decide +kernel
theorem dX0_keepAll_76 : decode cX0_keepAll 76 = .ok (.aload_n 0, 1) := by decide +kernel
theorem dX0_keepAll_77 : decode cX0_keepAll 77 = .ok (.getfield 22, 3) := by decide +kernel
theorem dX0_keepAll_80 : decode cX0_keepAll 80 = .ok (.arraylength, 1) := by decide +kernel
theorem dX0_keepAll_81 : decode cX0_keepAll 81 = .ok (.if_icmp .ge 16, 3) := by decide +kernel
theorem dX0_keepAll_84 : decode cX0_keepAll 84 = .ok (.aload_n 0, 1) := by decide +kernel
theorem dX0_keepAll_85 : decode cX0_keepAll 85 = .ok (.getfield 22, 3) := by decide +kernel
theorem dX0_keepAll_88 : decode cX0_keepAll 88 = .ok (.iload_n 1, 1) := by decide +kernel
theorem dX0_keepAll_89 : decode cX0_keepAll 89 = .ok (.iload_n 1, 1) := by decide +kernel
theorem dX0_keepAll_90 : decode cX0_keepAll 90 = .ok (.iastore, 1) := by decide +kernel
theorem dX0_keepAll_91 : decode cX0_keepAll 91 = .ok (.iinc 1 1, 3) := by decide +kernel
theorem dX0_keepAll_94 : decode cX0_keepAll 94 = .ok (.goto (-30), 3) := by decide +kernel
theorem dX0_keepAll_97 : decode cX0_keepAll 97 = .ok (.aload_n 0, 1) := by decide +kernel
theorem dX0_keepAll_98 : decode cX0_keepAll 98 = .ok (.aload_n 0, 1) := by decide +kernel
theorem dX0_keepAll_99 : decode cX0_keepAll 99 = .ok (.getfield 12, 3) := by decide +kernel
theorem dX0_keepAll_102 : decode cX0_keepAll 102 = .ok (.getfield 69, 3) := by decide +kernel
theorem dX0_keepAll_105 : decode cX0_keepAll 105 = .ok (.putfield 26, 3) := by decide +kernel
theorem dX0_keepAll_108 : decode cX0_keepAll 108 = .ok (.return_, 1) := by decide +kernel
theorem dX0_sift_0 : decode cX0_sift 0 = .ok (.aload_n 0, 1) := by decide +kernel
theorem dX0_sift_1 : decode cX0_sift 1 = .ok (.invokevirtual 76, 3) := by decide +kernel
theorem dX0_sift_4 : decode cX0_sift 4 = .ok (.ifCond .ne 5, 3) := by decide +kernel
theorem dX0_sift_7 : decode cX0_sift 7 = .ok (.iconst 0, 1) := by decide +kernel
theorem dX0_sift_8 : decode cX0_sift 8 = .ok (.ireturn, 1) := by decide +kernel
theorem dX0_sift_9 : decode cX0_sift 9 = .ok (.aload_n 0, 1) := by decide +kernel
theorem dX0_sift_10 : decode cX0_sift 10 = .ok (.getfield 30, 3) := by decide +kernel
theorem dX0_sift_13 : decode cX0_sift 13 = .ok (.aload_n 0, 1) := by decide +kernel
theorem dX0_sift_14 : decode cX0_sift 14 = .ok (.getfield 37, 3) := by decide +kernel
theorem dX0_sift_17 : decode cX0_sift 17 = .ok (.getfield 79, 3) := by decide +kernel
theorem dX0_sift_20 : decode cX0_sift 20 = .ok (.if_icmp .ge 84, 3) := by decide +kernel
theorem dX0_sift_23 : decode cX0_sift 23 = .ok (.iconst 0, 1) := by decide +kernel
theorem dX0_sift_24 : decode cX0_sift 24 = .ok (.istore_n 1, 1) := by decide +kernel
theorem dX0_sift_25 : decode cX0_sift 25 = .ok (.iconst 0, 1) := by decide +kernel
theorem dX0_sift_26 : decode cX0_sift 26 = .ok (.istore_n 2, 1) := by decide +kernel
theorem dX0_sift_27 : decode cX0_sift 27 = .ok (.iload_n 2, 1) := by decide +kernel
theorem dX0_sift_28 : decode cX0_sift 28 = .ok (.aload_n 0, 1) := by decide +kernel
theorem dX0_sift_29 : decode cX0_sift 29 = .ok (.getfield 26, 3) := by decide +kernel
theorem dX0_sift_32 : decode cX0_sift 32 = .ok (.if_icmp .ge 56, 3) := by decide +kernel
theorem dX0_sift_35 : decode cX0_sift 35 = .ok (.aload_n 0, 1) := by decide +kernel
theorem dX0_sift_36 : decode cX0_sift 36 = .ok (.getfield 22, 3) := by decide +kernel
theorem dX0_sift_39 : decode cX0_sift 39 = .ok (.iload_n 2, 1) := by decide +kernel
theorem dX0_sift_40 : decode cX0_sift 40 = .ok (.iaload, 1) := by decide +kernel
theorem dX0_sift_41 : decode cX0_sift 41 = .ok (.istore_n 3, 1) := by decide +kernel
theorem dX0_sift_42 : decode cX0_sift 42 = .ok (.aload_n 0, 1) := by decide +kernel
theorem dX0_sift_43 : decode cX0_sift 43 = .ok (.getfield 33, 3) := by decide +kernel
theorem dX0_sift_46 : decode cX0_sift 46 = .ok (.aload_n 0, 1) := by decide +kernel
theorem dX0_sift_47 : decode cX0_sift 47 = .ok (.getfield 12, 3) := by decide +kernel
theorem dX0_sift_50 : decode cX0_sift 50 = .ok (.iload_n 3, 1) := by decide +kernel
theorem dX0_sift_51 : decode cX0_sift 51 = .ok (.invokevirtual 82, 3) := by decide +kernel
theorem dX0_sift_54 : decode cX0_sift 54 = .ok (.aload_n 0, 1) := by decide +kernel
theorem dX0_sift_55 : decode cX0_sift 55 = .ok (.getfield 37, 3) := by decide +kernel
theorem dX0_sift_58 : decode cX0_sift 58 = .ok (.aload_n 0, 1) := by decide +kernel
theorem dX0_sift_59 : decode cX0_sift 59 = .ok (.getfield 30, 3) := by decide +kernel
theorem dX0_sift_62 : decode cX0_sift 62 = .ok (.aload_n 0, 1) := by decide +kernel
theorem dX0_sift_63 : decode cX0_sift 63 = .ok (.getfield 33, 3) := by decide +kernel
theorem dX0_sift_66 : decode cX0_sift 66 = .ok (.invokevirtual 86, 3) := by decide +kernel
theorem dX0_sift_69 : decode cX0_sift 69 = .ok (.ifCond .eq 13, 3) := by decide +kernel
theorem dX0_sift_72 : decode cX0_sift 72 = .ok (.aload_n 0, 1) := by decide +kernel
theorem dX0_sift_73 : decode cX0_sift 73 = .ok (.getfield 22, 3) := by decide +kernel
theorem dX0_sift_76 : decode cX0_sift 76 = .ok (.iload_n 1, 1) := by decide +kernel
theorem dX0_sift_77 : decode cX0_sift 77 = .ok (.iload_n 3, 1) := by decide +kernel
theorem dX0_sift_78 : decode cX0_sift 78 = .ok (.iastore, 1) := by decide +kernel
theorem dX0_sift_79 : decode cX0_sift 79 = .ok (.iinc 1 1, 3) := by decide +kernel
theorem dX0_sift_82 : decode cX0_sift 82 = .ok (.iinc 2 1, 3) := by decide +kernel
theorem dX0_sift_85 : decode cX0_sift 85 = .ok (.goto (-58), 3) := by decide +kernel
theorem dX0_sift_88 : decode cX0_sift 88 = .ok (.aload_n 0, 1) := by decide +kernel
theorem dX0_sift_89 : decode cX0_sift 89 = .ok (.iload_n 1, 1) := by decide +kernel
theorem dX0_sift_90 : decode cX0_sift 90 = .ok (.putfield 26, 3) := by decide +kernel
theorem dX0_sift_93 : decode cX0_sift 93 = .ok (.aload_n 0, 1) := by decide +kernel
theorem dX0_sift_94 : decode cX0_sift 94 = .ok (.aload_n 0, 1) := by decide +kernel
theorem dX0_sift_95 : decode cX0_sift 95 = .ok (.getfield 37, 3) := by decide +kernel
theorem dX0_sift_98 : decode cX0_sift 98 = .ok (.getfield 79, 3) := by decide +kernel
theorem dX0_sift_101 : decode cX0_sift 101 = .ok (.putfield 30, 3) := by decide +kernel
theorem dX0_sift_104 : decode cX0_sift 104 = .ok (.iconst 1, 1) := by decide +kernel
theorem dX0_sift_105 : decode cX0_sift 105 = .ok (.ireturn, 1) := by decide +kernel
theorem dX0_isKeptNumber_0 : decode cX0_isKeptNumber 0 = .ok (.iload_n 1, 1) := by decide +kernel
theorem dX0_isKeptNumber_1 : decode cX0_isKeptNumber 1 = .ok (.ifCond .lt 15, 3) := by decide +kernel
theorem dX0_isKeptNumber_4 : decode cX0_isKeptNumber 4 = .ok (.iload_n 1, 1) := by decide +kernel
theorem dX0_isKeptNumber_5 : decode cX0_isKeptNumber 5 = .ok (.aload_n 0, 1) := by decide +kernel
theorem dX0_isKeptNumber_6 : decode cX0_isKeptNumber 6 = .ok (.getfield 26, 3) := by decide +kernel
theorem dX0_isKeptNumber_9 : decode cX0_isKeptNumber 9 = .ok (.if_icmp .ge 7, 3) := by decide +kernel
theorem dX0_isKeptNumber_12 : decode cX0_isKeptNumber 12 = .ok (.iconst 1, 1) := by decide +kernel
theorem dX0_isKeptNumber_13 : decode cX0_isKeptNumber 13 = .ok (.goto 4, 3) := by decide +kernel
theorem dX0_isKeptNumber_16 : decode cX0_isKeptNumber 16 = .ok (.iconst 0, 1) := by decide +kernel
theorem dX0_isKeptNumber_17 : decode cX0_isKeptNumber 17 = .ok (.ireturn, 1) := by decide +kernel
theorem dX0_keptRow_0 : decode cX0_keptRow 0 = .ok (.aload_n 0, 1) := by decide +kernel
theorem dX0_keptRow_1 : decode cX0_keptRow 1 = .ok (.iload_n 1, 1) := by decide +kernel
theorem dX0_keptRow_2 : decode cX0_keptRow 2 = .ok (.invokevirtual 90, 3) := by decide +kernel
theorem dX0_keptRow_5 : decode cX0_keptRow 5 = .ok (.ifCond .eq 12, 3) := by decide +kernel
theorem dX0_keptRow_8 : decode cX0_keptRow 8 = .ok (.aload_n 0, 1) := by decide +kernel
theorem dX0_keptRow_9 : decode cX0_keptRow 9 = .ok (.getfield 22, 3) := by decide +kernel
theorem dX0_keptRow_12 : decode cX0_keptRow 12 = .ok (.iload_n 1, 1) := by decide +kernel
theorem dX0_keptRow_13 : decode cX0_keptRow 13 = .ok (.iaload, 1) := by decide +kernel
theorem dX0_keptRow_14 : decode cX0_keptRow 14 = .ok (.goto 4, 3) := by decide +kernel
theorem dX0_keptRow_17 : decode cX0_keptRow 17 = .ok (.iconst (-1), 1) := by decide +kernel
theorem dX0_keptRow_18 : decode cX0_keptRow 18 = .ok (.ireturn, 1) := by decide +kernel
theorem dX0_loadKept_0 : decode cX0_loadKept 0 = .ok (.aload_n 0, 1) := by decide +kernel
theorem dX0_loadKept_1 : decode cX0_loadKept 1 = .ok (.iload_n 1, 1) := by decide +kernel
theorem dX0_loadKept_2 : decode cX0_loadKept 2 = .ok (.invokevirtual 90, 3) := by decide +kernel
theorem dX0_loadKept_5 : decode cX0_loadKept 5 = .ok (.ifCond .ne 5, 3) := by decide +kernel
theorem dX0_loadKept_8 : decode cX0_loadKept 8 = .ok (.iconst 0, 1) := by decide +kernel
theorem dX0_loadKept_9 : decode cX0_loadKept 9 = .ok (.ireturn, 1) := by decide +kernel
theorem dX0_loadKept_10 : decode cX0_loadKept 10 = .ok (.aload_n 0, 1) := by decide +kernel
theorem dX0_loadKept_11 : decode cX0_loadKept 11 = .ok (.getfield 33, 3) := by decide +kernel
theorem dX0_loadKept_14 : decode cX0_loadKept 14 = .ok (.aload_n 0, 1) := by decide +kernel
theorem dX0_loadKept_15 : decode cX0_loadKept 15 = .ok (.getfield 12, 3) := by decide +kernel
theorem dX0_loadKept_18 : decode cX0_loadKept 18 = .ok (.aload_n 0, 1) := by decide +kernel
theorem dX0_loadKept_19 : decode cX0_loadKept 19 = .ok (.getfield 22, 3) := by decide +kernel
theorem dX0_loadKept_22 : decode cX0_loadKept 22 = .ok (.iload_n 1, 1) := by decide +kernel
theorem dX0_loadKept_23 : decode cX0_loadKept 23 = .ok (.iaload, 1) := by decide +kernel
theorem dX0_loadKept_24 : decode cX0_loadKept 24 = .ok (.invokevirtual 82, 3) := by decide +kernel
theorem dX0_loadKept_27 : decode cX0_loadKept 27 = .ok (.iconst 1, 1) := by decide +kernel
theorem dX0_loadKept_28 : decode cX0_loadKept 28 = .ok (.ireturn, 1) := by decide +kernel
theorem dX0_keptNumber_0 : decode cX0_keptNumber 0 = .ok (.iconst 0, 1) := by decide +kernel
theorem dX0_keptNumber_1 : decode cX0_keptNumber 1 = .ok (.istore_n 2, 1) := by decide +kernel
theorem dX0_keptNumber_2 : decode cX0_keptNumber 2 = .ok (.aload_n 0, 1) := by decide +kernel
theorem dX0_keptNumber_3 : decode cX0_keptNumber 3 = .ok (.getfield 26, 3) := by decide +kernel
theorem dX0_keptNumber_6 : decode cX0_keptNumber 6 = .ok (.iconst 1, 1) := by decide +kernel
theorem dX0_keptNumber_7 : decode cX0_keptNumber 7 = .ok (.isub, 1) := by decide +kernel
theorem dX0_keptNumber_8 : decode cX0_keptNumber 8 = .ok (.istore_n 3, 1) := by decide +kernel
theorem dX0_keptNumber_9 : decode cX0_keptNumber 9 = .ok (.iconst 0, 1) := by decide +kernel
theorem dX0_keptNumber_10 : decode cX0_keptNumber 10 = .ok (.istore 4, 2) := by decide +kernel
theorem dX0_keptNumber_12 : decode cX0_keptNumber 12 = .ok (.iload 4, 2) := by decide +kernel
theorem dX0_keptNumber_14 : decode cX0_keptNumber 14 = .ok (.bipush 32, 2) := by decide +kernel
theorem dX0_keptNumber_16 : decode cX0_keptNumber 16 = .ok (.if_icmp .ge 59, 3) := by decide +kernel
theorem dX0_keptNumber_19 : decode cX0_keptNumber 19 = .ok (.iload_n 2, 1) := by decide +kernel
theorem dX0_keptNumber_20 : decode cX0_keptNumber 20 = .ok (.iload_n 3, 1) := by decide +kernel
theorem dX0_keptNumber_21 : decode cX0_keptNumber 21 = .ok (.if_icmp .gt 54, 3) := by decide +kernel
theorem dX0_keptNumber_24 : decode cX0_keptNumber 24 = .ok (.iload_n 2, 1) := by decide +kernel
theorem dX0_keptNumber_25 : decode cX0_keptNumber 25 = .ok (.iload_n 3, 1) := by decide +kernel
theorem dX0_keptNumber_26 : decode cX0_keptNumber 26 = .ok (.iadd, 1) := by decide +kernel
theorem dX0_keptNumber_27 : decode cX0_keptNumber 27 = .ok (.iconst 2, 1) := by decide +kernel
theorem dX0_keptNumber_28 : decode cX0_keptNumber 28 = .ok (.idiv, 1) := by decide +kernel
theorem dX0_keptNumber_29 : decode cX0_keptNumber 29 = .ok (.istore 5, 2) := by decide +kernel
theorem dX0_keptNumber_31 : decode cX0_keptNumber 31 = .ok (.aload_n 0, 1) := by decide +kernel
theorem dX0_keptNumber_32 : decode cX0_keptNumber 32 = .ok (.getfield 22, 3) := by decide +kernel
theorem dX0_keptNumber_35 : decode cX0_keptNumber 35 = .ok (.iload 5, 2) := by decide +kernel
theorem dX0_keptNumber_37 : decode cX0_keptNumber 37 = .ok (.iaload, 1) := by decide +kernel
theorem dX0_keptNumber_38 : decode cX0_keptNumber 38 = .ok (.iload_n 1, 1) := by decide +kernel
theorem dX0_keptNumber_39 : decode cX0_keptNumber 39 = .ok (.if_icmp .ne 6, 3) := by decide +kernel
theorem dX0_keptNumber_42 : decode cX0_keptNumber 42 = .ok (.iload 5, 2) := by decide +kernel
theorem dX0_keptNumber_44 : decode cX0_keptNumber 44 = .ok (.ireturn, 1) := by decide +kernel
theorem dX0_keptNumber_45 : decode cX0_keptNumber 45 = .ok (.aload_n 0, 1) := by decide +kernel
theorem dX0_keptNumber_46 : decode cX0_keptNumber 46 = .ok (.getfield 22, 3) := by decide +kernel
theorem dX0_keptNumber_49 : decode cX0_keptNumber 49 = .ok (.iload 5, 2) := by decide +kernel
theorem dX0_keptNumber_51 : decode cX0_keptNumber 51 = .ok (.iaload, 1) := by decide +kernel
theorem dX0_keptNumber_52 : decode cX0_keptNumber 52 = .ok (.iload_n 1, 1) := by decide +kernel
theorem dX0_keptNumber_53 : decode cX0_keptNumber 53 = .ok (.if_icmp .ge 11, 3) := by decide +kernel
theorem dX0_keptNumber_56 : decode cX0_keptNumber 56 = .ok (.iload 5, 2) := by decide +kernel
theorem dX0_keptNumber_58 : decode cX0_keptNumber 58 = .ok (.iconst 1, 1) := by decide +kernel
theorem dX0_keptNumber_59 : decode cX0_keptNumber 59 = .ok (.iadd, 1) := by decide +kernel
theorem dX0_keptNumber_60 : decode cX0_keptNumber 60 = .ok (.istore_n 2, 1) := by decide +kernel
theorem dX0_keptNumber_61 : decode cX0_keptNumber 61 = .ok (.goto 8, 3) := by decide +kernel
theorem dX0_keptNumber_64 : decode cX0_keptNumber 64 = .ok (.iload 5, 2) := by decide +kernel
theorem dX0_keptNumber_66 : decode cX0_keptNumber 66 = .ok (.iconst 1, 1) := by decide +kernel
theorem dX0_keptNumber_67 : decode cX0_keptNumber 67 = .ok (.isub, 1) := by decide +kernel
theorem dX0_keptNumber_68 : decode cX0_keptNumber 68 = .ok (.istore_n 3, 1) := by decide +kernel
theorem dX0_keptNumber_69 : decode cX0_keptNumber 69 = .ok (.iinc 4 1, 3) := by decide +kernel
theorem dX0_keptNumber_72 : decode cX0_keptNumber 72 = .ok (.goto (-60), 3) := by decide +kernel
theorem dX0_keptNumber_75 : decode cX0_keptNumber 75 = .ok (.iconst (-1), 1) := by decide +kernel
theorem dX0_keptNumber_76 : decode cX0_keptNumber 76 = .ok (.ireturn, 1) := by decide +kernel
theorem dX1_init_0 : decode cX1_init 0 = .ok (.aload_n 0, 1) := by decide +kernel
theorem dX1_init_1 : decode cX1_init 1 = .ok (.invokespecial 3, 3) := by decide +kernel
theorem dX1_init_4 : decode cX1_init 4 = .ok (.aload_n 0, 1) := by decide +kernel
theorem dX1_init_5 : decode cX1_init 5 = .ok (.new 9, 3) := by decide +kernel
theorem dX1_init_8 : decode cX1_init 8 = .ok (.dup, 1) := by decide +kernel
theorem dX1_init_9 : decode cX1_init 9 = .ok (.invokespecial 11, 3) := by decide +kernel
theorem dX1_init_12 : decode cX1_init 12 = .ok (.putfield 12, 3) := by decide +kernel
theorem dX1_init_15 : decode cX1_init 15 = .ok (.aload_n 0, 1) := by decide +kernel
theorem dX1_init_16 : decode cX1_init 16 = .ok (.bipush 16, 2) := by decide +kernel
theorem dX1_init_18 : decode cX1_init 18 = .ok (.newarray .int, 2) := by decide +kernel
theorem dX1_init_20 : decode cX1_init 20 = .ok (.putfield 18, 3) := by decide +kernel
theorem dX1_init_23 : decode cX1_init 23 = .ok (.aload_n 0, 1) := by decide +kernel
theorem dX1_init_24 : decode cX1_init 24 = .ok (.bipush 16, 2) := by decide +kernel
theorem dX1_init_26 : decode cX1_init 26 = .ok (.newarray .int, 2) := by decide +kernel
theorem dX1_init_28 : decode cX1_init 28 = .ok (.putfield 22, 3) := by decide +kernel
theorem dX1_init_31 : decode cX1_init 31 = .ok (.aload_n 0, 1) := by decide +kernel
theorem dX1_init_32 : decode cX1_init 32 = .ok (.bipush 16, 2) := by decide +kernel
theorem dX1_init_34 : decode cX1_init 34 = .ok (.newarray .int, 2) := by decide +kernel
theorem dX1_init_36 : decode cX1_init 36 = .ok (.putfield 25, 3) := by decide +kernel
theorem dX1_init_39 : decode cX1_init 39 = .ok (.aload_n 0, 1) := by decide +kernel
theorem dX1_init_40 : decode cX1_init 40 = .ok (.bipush 16, 2) := by decide +kernel
theorem dX1_init_42 : decode cX1_init 42 = .ok (.newarray .int, 2) := by decide +kernel
theorem dX1_init_44 : decode cX1_init 44 = .ok (.putfield 28, 3) := by decide +kernel
theorem dX1_init_47 : decode cX1_init 47 = .ok (.aload_n 0, 1) := by decide +kernel
theorem dX1_init_48 : decode cX1_init 48 = .ok (.bipush 16, 2) := by decide +kernel
theorem dX1_init_50 : decode cX1_init 50 = .ok (.newarray .int, 2) := by decide +kernel
theorem dX1_init_52 : decode cX1_init 52 = .ok (.putfield 31, 3) := by decide +kernel
theorem dX1_init_55 : decode cX1_init 55 = .ok (.aload_n 0, 1) := by decide +kernel
theorem dX1_init_56 : decode cX1_init 56 = .ok (.iconst 0, 1) := by decide +kernel
theorem dX1_init_57 : decode cX1_init 57 = .ok (.putfield 34, 3) := by decide +kernel
theorem dX1_init_60 : decode cX1_init 60 = .ok (.aload_n 0, 1) := by decide +kernel
theorem dX1_init_61 : decode cX1_init 61 = .ok (.iconst 0, 1) := by decide +kernel
theorem dX1_init_62 : decode cX1_init 62 = .ok (.putfield 38, 3) := by decide +kernel
theorem dX1_init_65 : decode cX1_init 65 = .ok (.aload_n 0, 1) := by decide +kernel
theorem dX1_init_66 : decode cX1_init 66 = .ok (.aload_n 1, 1) := by decide +kernel
theorem dX1_init_67 : decode cX1_init 67 = .ok (.putfield 42, 3) := by decide +kernel
theorem dX1_init_70 : decode cX1_init 70 = .ok (.aload_n 0, 1) := by decide +kernel
theorem dX1_init_71 : decode cX1_init 71 = .ok (.aload_n 2, 1) := by decide +kernel
theorem dX1_init_72 : decode cX1_init 72 = .ok (.putfield 46, 3) := by decide +kernel
theorem dX1_init_75 : decode cX1_init 75 = .ok (.return_, 1) := by decide +kernel
theorem dX1_forget_0 : decode cX1_forget 0 = .ok (.aload_n 0, 1) := by decide +kernel
theorem dX1_forget_1 : decode cX1_forget 1 = .ok (.iconst 0, 1) := by decide +kernel
theorem dX1_forget_2 : decode cX1_forget 2 = .ok (.putfield 34, 3) := by decide +kernel
theorem dX1_forget_5 : decode cX1_forget 5 = .ok (.return_, 1) := by decide +kernel
theorem dX1_gather_0 : decode cX1_gather 0 = .ok (.aload_n 0, 1) := by decide +kernel
theorem dX1_gather_1 : decode cX1_gather 1 = .ok (.getfield 42, 3) := by decide +kernel
theorem dX1_gather_4 : decode cX1_gather 4 = .ok (.invokevirtual 50, 3) := by decide +kernel
theorem dX1_gather_7 : decode cX1_gather 7 = .ok (.ifCond .ne 5, 3) := by decide +kernel
theorem dX1_gather_10 : decode cX1_gather 10 = .ok (.iconst 0, 1) := by decide +kernel
theorem dX1_gather_11 : decode cX1_gather 11 = .ok (.ireturn, 1) := by decide +kernel
theorem dX1_gather_12 : decode cX1_gather 12 = .ok (.aload_n 0, 1) := by decide +kernel
theorem dX1_gather_13 : decode cX1_gather 13 = .ok (.getfield 34, 3) := by decide +kernel
theorem dX1_gather_16 : decode cX1_gather 16 = .ok (.ifCond .ne 169, 3) := by decide +kernel
theorem dX1_gather_19 : decode cX1_gather 19 = .ok (.aload_n 0, 1) := by decide +kernel
theorem dX1_gather_20 : decode cX1_gather 20 = .ok (.aload_n 0, 1) := by decide +kernel
theorem dX1_gather_21 : decode cX1_gather 21 = .ok (.getfield 42, 3) := by decide +kernel
theorem dX1_gather_24 : decode cX1_gather 24 = .ok (.getfield 56, 3) := by decide +kernel
theorem dX1_gather_27 : decode cX1_gather 27 = .ok (.getfield 59, 3) := by decide +kernel
theorem dX1_gather_30 : decode cX1_gather 30 = .ok (.invokevirtual 60, 3) := by decide +kernel
theorem dX1_gather_33 : decode cX1_gather 33 = .ok (.aload_n 0, 1) := by decide +kernel
theorem dX1_gather_34 : decode cX1_gather 34 = .ok (.getfield 12, 3) := by decide +kernel
theorem dX1_gather_37 : decode cX1_gather 37 = .ok (.invokevirtual 64, 3) := by decide +kernel
theorem dX1_gather_40 : decode cX1_gather 40 = .ok (.iconst 0, 1) := by decide +kernel
theorem dX1_gather_41 : decode cX1_gather 41 = .ok (.istore_n 2, 1) := by decide +kernel
theorem dX1_gather_42 : decode cX1_gather 42 = .ok (.iload_n 2, 1) := by decide +kernel
theorem dX1_gather_43 : decode cX1_gather 43 = .ok (.aload_n 0, 1) := by decide +kernel
theorem dX1_gather_44 : decode cX1_gather 44 = .ok (.getfield 42, 3) := by decide +kernel
theorem dX1_gather_47 : decode cX1_gather 47 = .ok (.getfield 56, 3) := by decide +kernel
theorem dX1_gather_50 : decode cX1_gather 50 = .ok (.getfield 59, 3) := by decide +kernel
theorem dX1_gather_53 : decode cX1_gather 53 = .ok (.if_icmp .ge 119, 3) := by decide +kernel
theorem dX1_gather_56 : decode cX1_gather 56 = .ok (.iload_n 2, 1) := by decide +kernel
theorem dX1_gather_57 : decode cX1_gather 57 = .ok (.aload_n 0, 1) := by decide +kernel
theorem dX1_gather_58 : decode cX1_gather 58 = .ok (.getfield 25, 3) := by decide +kernel
theorem dX1_gather_61 : decode cX1_gather 61 = .ok (.arraylength, 1) := by decide +kernel
theorem dX1_gather_62 : decode cX1_gather 62 = .ok (.if_icmp .ge 110, 3) := by decide +kernel
theorem dX1_gather_65 : decode cX1_gather 65 = .ok (.aload_n 0, 1) := by decide +kernel
theorem dX1_gather_66 : decode cX1_gather 66 = .ok (.getfield 42, 3) := by decide +kernel
theorem dX1_gather_69 : decode cX1_gather 69 = .ok (.getfield 67, 3) := by decide +kernel
theorem dX1_gather_72 : decode cX1_gather 72 = .ok (.aload_n 0, 1) := by decide +kernel
theorem dX1_gather_73 : decode cX1_gather 73 = .ok (.getfield 42, 3) := by decide +kernel
theorem dX1_gather_76 : decode cX1_gather 76 = .ok (.getfield 56, 3) := by decide +kernel
theorem dX1_gather_79 : decode cX1_gather 79 = .ok (.iload_n 2, 1) := by decide +kernel
theorem dX1_gather_80 : decode cX1_gather 80 = .ok (.invokevirtual 71, 3) := by decide +kernel
theorem dX1_gather_83 : decode cX1_gather 83 = .ok (.aload_n 0, 1) := by decide +kernel
theorem dX1_gather_84 : decode cX1_gather 84 = .ok (.getfield 46, 3) := by decide +kernel
theorem dX1_gather_87 : decode cX1_gather 87 = .ok (.aload_n 1, 1) := by decide +kernel
theorem dX1_gather_88 : decode cX1_gather 88 = .ok (.invokevirtual 77, 3) := by decide +kernel
theorem dX1_gather_91 : decode cX1_gather 91 = .ok (.aload_n 0, 1) := by decide +kernel
theorem dX1_gather_92 : decode cX1_gather 92 = .ok (.getfield 12, 3) := by decide +kernel
theorem dX1_gather_95 : decode cX1_gather 95 = .ok (.aload_n 0, 1) := by decide +kernel
theorem dX1_gather_96 : decode cX1_gather 96 = .ok (.getfield 46, 3) := by decide +kernel
theorem dX1_gather_99 : decode cX1_gather 99 = .ok (.getfield 83, 3) := by decide +kernel
theorem dX1_gather_102 : decode cX1_gather 102 = .ok (.aload_n 0, 1) := by decide +kernel
theorem dX1_gather_103 : decode cX1_gather 103 = .ok (.getfield 46, 3) := by decide +kernel
theorem dX1_gather_106 : decode cX1_gather 106 = .ok (.getfield 86, 3) := by decide +kernel
theorem dX1_gather_109 : decode cX1_gather 109 = .ok (.invokevirtual 89, 3) := by decide +kernel
theorem dX1_gather_112 : decode cX1_gather 112 = .ok (.iload_n 2, 1) := by decide +kernel
theorem dX1_gather_113 : decode cX1_gather 113 = .ok (.ifCond .le 38, 3) := by decide +kernel
theorem dX1_gather_116 : decode cX1_gather 116 = .ok (.aload_n 0, 1) := by decide +kernel
theorem dX1_gather_117 : decode cX1_gather 117 = .ok (.getfield 12, 3) := by decide +kernel
theorem dX1_gather_120 : decode cX1_gather 120 = .ok (.aload_n 0, 1) := by decide +kernel
theorem dX1_gather_121 : decode cX1_gather 121 = .ok (.getfield 12, 3) := by decide +kernel
theorem dX1_gather_124 : decode cX1_gather 124 = .ok (.getfield 59, 3) := by decide +kernel
theorem dX1_gather_127 : decode cX1_gather 127 = .ok (.iconst 2, 1) := by decide +kernel
theorem dX1_gather_128 : decode cX1_gather 128 = .ok (.isub, 1) := by decide +kernel
theorem dX1_gather_129 : decode cX1_gather 129 = .ok (.aload_n 0, 1) := by decide +kernel
theorem dX1_gather_130 : decode cX1_gather 130 = .ok (.getfield 12, 3) := by decide +kernel
theorem dX1_gather_133 : decode cX1_gather 133 = .ok (.getfield 59, 3) := by decide +kernel
theorem dX1_gather_136 : decode cX1_gather 136 = .ok (.iconst 1, 1) := by decide +kernel
theorem dX1_gather_137 : decode cX1_gather 137 = .ok (.isub, 1) := by decide +kernel
theorem dX1_gather_138 : decode cX1_gather 138 = .ok (.invokevirtual 93, 3) := by decide +kernel
theorem dX1_gather_141 : decode cX1_gather 141 = .ok (.ifCond .ne 10, 3) := by decide +kernel
theorem dX1_gather_144 : decode cX1_gather 144 = .ok (.aload_n 0, 1) := by decide +kernel
theorem dX1_gather_145 : decode cX1_gather 145 = .ok (.getfield 12, 3) := by decide +kernel
theorem dX1_gather_148 : decode cX1_gather 148 = .ok (.invokevirtual 97, 3) := by decide +kernel
theorem dX1_gather_151 : decode cX1_gather 151 = .ok (.aload_n 0, 1) := by decide +kernel
theorem dX1_gather_152 : decode cX1_gather 152 = .ok (.getfield 25, 3) := by decide +kernel
theorem dX1_gather_155 : decode cX1_gather 155 = .ok (.iload_n 2, 1) := by decide +kernel
theorem dX1_gather_156 : decode cX1_gather 156 = .ok (.aload_n 0, 1) := by decide +kernel
theorem dX1_gather_157 : decode cX1_gather 157 = .ok (.getfield 12, 3) := by decide +kernel
theorem dX1_gather_160 : decode cX1_gather 160 = .ok (.getfield 59, 3) := by decide +kernel
theorem dX1_gather_163 : decode cX1_gather 163 = .ok (.iconst 1, 1) := by decide +kernel
theorem dX1_gather_164 : decode cX1_gather 164 = .ok (.isub, 1) := by decide +kernel
theorem dX1_gather_165 : decode cX1_gather 165 = .ok (.iastore, 1) := by decide +kernel
theorem dX1_gather_166 : decode cX1_gather 166 = .ok (.iinc 2 1, 3) := by decide +kernel
theorem dX1_gather_169 : decode cX1_gather 169 = .ok (.goto (-127), 3) := by decide +kernel
theorem dX1_gather_172 : decode cX1_gather 172 = .ok (.aload_n 0, 1) := by decide +kernel
theorem dX1_gather_173 : decode cX1_gather 173 = .ok (.invokevirtual 100, 3) := by decide +kernel
theorem dX1_gather_176 : decode cX1_gather 176 = .ok (.aload_n 0, 1) := by decide +kernel
theorem dX1_gather_177 : decode cX1_gather 177 = .ok (.invokevirtual 103, 3) := by decide +kernel
theorem dX1_gather_180 : decode cX1_gather 180 = .ok (.aload_n 0, 1) := by decide +kernel
theorem dX1_gather_181 : decode cX1_gather 181 = .ok (.iconst 1, 1) := by decide +kernel
theorem dX1_gather_182 : decode cX1_gather 182 = .ok (.putfield 34, 3) := by decide +kernel
theorem dX1_gather_185 : decode cX1_gather 185 = .ok (.iconst 1, 1) := by decide +kernel
theorem dX1_gather_186 : decode cX1_gather 186 = .ok (.ireturn, 1) := by decide +kernel
theorem dX1_replay_0 : decode cX1_replay 0 = .ok (.iload_n 1, 1) := by decide +kernel
theorem dX1_replay_1 : decode cX1_replay 1 = .ok (.ifCond .lt 11, 3) := by decide +kernel
theorem dX1_replay_4 : decode cX1_replay 4 = .ok (.iload_n 1, 1) := by decide +kernel
theorem dX1_replay_5 : decode cX1_replay 5 = .ok (.aload_n 0, 1) := by decide +kernel
theorem dX1_replay_6 : decode cX1_replay 6 = .ok (.getfield 38, 3) := by decide +kernel
theorem dX1_replay_9 : decode cX1_replay 9 = .ok (.if_icmp .lt 5, 3) := by decide +kernel
theorem dX1_replay_12 : decode cX1_replay 12 = .ok (.iconst 0, 1) := by decide +kernel
theorem dX1_replay_13 : decode cX1_replay 13 = .ok (.ireturn, 1) := by decide +kernel
theorem dX1_replay_14 : decode cX1_replay 14 = .ok (.aload_n 0, 1) := by decide +kernel
theorem dX1_replay_15 : decode cX1_replay 15 = .ok (.getfield 42, 3) := by decide +kernel
theorem dX1_replay_18 : decode cX1_replay 18 = .ok (.getfield 67, 3) := by decide +kernel
theorem dX1_replay_21 : decode cX1_replay 21 = .ok (.aload_n 0, 1) := by decide +kernel
theorem dX1_replay_22 : decode cX1_replay 22 = .ok (.getfield 42, 3) := by decide +kernel
theorem dX1_replay_25 : decode cX1_replay 25 = .ok (.getfield 56, 3) := by decide +kernel
theorem dX1_replay_28 : decode cX1_replay 28 = .ok (.aload_n 0, 1) := by decide +kernel
theorem dX1_replay_29 : decode cX1_replay 29 = .ok (.getfield 31, 3) := by decide +kernel
theorem dX1_replay_32 : decode cX1_replay 32 = .ok (.iload_n 1, 1) := by decide +kernel
theorem dX1_replay_33 : decode cX1_replay 33 = .ok (.iaload, 1) := by decide +kernel
theorem dX1_replay_34 : decode cX1_replay 34 = .ok (.invokevirtual 71, 3) := by decide +kernel
theorem dX1_replay_37 : decode cX1_replay 37 = .ok (.aload_n 0, 1) := by decide +kernel
theorem dX1_replay_38 : decode cX1_replay 38 = .ok (.getfield 46, 3) := by decide +kernel
theorem dX1_replay_41 : decode cX1_replay 41 = .ok (.aload_n 2, 1) := by decide +kernel
theorem dX1_replay_42 : decode cX1_replay 42 = .ok (.invokevirtual 77, 3) := by decide +kernel
theorem dX1_replay_45 : decode cX1_replay 45 = .ok (.iconst 1, 1) := by decide +kernel
theorem dX1_replay_46 : decode cX1_replay 46 = .ok (.ireturn, 1) := by decide +kernel
theorem dX1_partOf_0 : decode cX1_partOf 0 = .ok (.iload_n 1, 1) := by decide +kernel
theorem dX1_partOf_1 : decode cX1_partOf 1 = .ok (.ifCond .lt 12, 3) := by decide +kernel
theorem dX1_partOf_4 : decode cX1_partOf 4 = .ok (.iload_n 1, 1) := by decide +kernel
theorem dX1_partOf_5 : decode cX1_partOf 5 = .ok (.aload_n 0, 1) := by decide +kernel
theorem dX1_partOf_6 : decode cX1_partOf 6 = .ok (.getfield 25, 3) := by decide +kernel
theorem dX1_partOf_9 : decode cX1_partOf 9 = .ok (.arraylength, 1) := by decide +kernel
theorem dX1_partOf_10 : decode cX1_partOf 10 = .ok (.if_icmp .lt 5, 3) := by decide +kernel
theorem dX1_partOf_13 : decode cX1_partOf 13 = .ok (.iconst (-1), 1) := by decide +kernel
theorem dX1_partOf_14 : decode cX1_partOf 14 = .ok (.ireturn, 1) := by decide +kernel
theorem dX1_partOf_15 : decode cX1_partOf 15 = .ok (.aload_n 0, 1) := by decide +kernel
theorem dX1_partOf_16 : decode cX1_partOf 16 = .ok (.getfield 25, 3) := by decide +kernel
theorem dX1_partOf_19 : decode cX1_partOf 19 = .ok (.iload_n 1, 1) := by decide +kernel
theorem dX1_partOf_20 : decode cX1_partOf 20 = .ok (.iaload, 1) := by decide +kernel
theorem dX1_partOf_21 : decode cX1_partOf 21 = .ok (.istore_n 2, 1) := by decide +kernel
theorem dX1_partOf_22 : decode cX1_partOf 22 = .ok (.iload_n 2, 1) := by decide +kernel
theorem dX1_partOf_23 : decode cX1_partOf 23 = .ok (.ifCond .lt 21, 3) := by decide +kernel
theorem dX1_partOf_26 : decode cX1_partOf 26 = .ok (.iload_n 2, 1) := by decide +kernel
theorem dX1_partOf_27 : decode cX1_partOf 27 = .ok (.aload_n 0, 1) := by decide +kernel
theorem dX1_partOf_28 : decode cX1_partOf 28 = .ok (.getfield 28, 3) := by decide +kernel
theorem dX1_partOf_31 : decode cX1_partOf 31 = .ok (.arraylength, 1) := by decide +kernel
theorem dX1_partOf_32 : decode cX1_partOf 32 = .ok (.if_icmp .ge 12, 3) := by decide +kernel
theorem dX1_partOf_35 : decode cX1_partOf 35 = .ok (.aload_n 0, 1) := by decide +kernel
theorem dX1_partOf_36 : decode cX1_partOf 36 = .ok (.getfield 28, 3) := by decide +kernel
theorem dX1_partOf_39 : decode cX1_partOf 39 = .ok (.iload_n 2, 1) := by decide +kernel
theorem dX1_partOf_40 : decode cX1_partOf 40 = .ok (.iaload, 1) := by decide +kernel
theorem dX1_partOf_41 : decode cX1_partOf 41 = .ok (.goto 4, 3) := by decide +kernel
theorem dX1_partOf_44 : decode cX1_partOf 44 = .ok (.iconst (-1), 1) := by decide +kernel
theorem dX1_partOf_45 : decode cX1_partOf 45 = .ok (.ireturn, 1) := by decide +kernel
theorem dX1_sizeOf_0 : decode cX1_sizeOf 0 = .ok (.iconst 0, 1) := by decide +kernel
theorem dX1_sizeOf_1 : decode cX1_sizeOf 1 = .ok (.istore_n 2, 1) := by decide +kernel
theorem dX1_sizeOf_2 : decode cX1_sizeOf 2 = .ok (.iconst 0, 1) := by decide +kernel
theorem dX1_sizeOf_3 : decode cX1_sizeOf 3 = .ok (.istore_n 3, 1) := by decide +kernel
theorem dX1_sizeOf_4 : decode cX1_sizeOf 4 = .ok (.iload_n 3, 1) := by decide +kernel
theorem dX1_sizeOf_5 : decode cX1_sizeOf 5 = .ok (.aload_n 0, 1) := by decide +kernel
theorem dX1_sizeOf_6 : decode cX1_sizeOf 6 = .ok (.getfield 42, 3) := by decide +kernel
theorem dX1_sizeOf_9 : decode cX1_sizeOf 9 = .ok (.getfield 56, 3) := by decide +kernel
theorem dX1_sizeOf_12 : decode cX1_sizeOf 12 = .ok (.getfield 59, 3) := by decide +kernel
theorem dX1_sizeOf_15 : decode cX1_sizeOf 15 = .ok (.if_icmp .ge 21, 3) := by decide +kernel
theorem dX1_sizeOf_18 : decode cX1_sizeOf 18 = .ok (.aload_n 0, 1) := by decide +kernel
theorem dX1_sizeOf_19 : decode cX1_sizeOf 19 = .ok (.iload_n 3, 1) := by decide +kernel
theorem dX1_sizeOf_20 : decode cX1_sizeOf 20 = .ok (.invokevirtual 106, 3) := by decide +kernel
theorem dX1_sizeOf_23 : decode cX1_sizeOf 23 = .ok (.iload_n 1, 1) := by decide +kernel
theorem dX1_sizeOf_24 : decode cX1_sizeOf 24 = .ok (.if_icmp .ne 6, 3) := by decide +kernel
theorem dX1_sizeOf_27 : decode cX1_sizeOf 27 = .ok (.iinc 2 1, 3) := by decide +kernel
theorem dX1_sizeOf_30 : decode cX1_sizeOf 30 = .ok (.iinc 3 1, 3) := by decide +kernel
theorem dX1_sizeOf_33 : decode cX1_sizeOf 33 = .ok (.goto (-29), 3) := by decide +kernel
theorem dX1_sizeOf_36 : decode cX1_sizeOf 36 = .ok (.iload_n 2, 1) := by decide +kernel
theorem dX1_sizeOf_37 : decode cX1_sizeOf 37 = .ok (.ireturn, 1) := by decide +kernel
theorem dX1_keptIn_0 : decode cX1_keptIn 0 = .ok (.iconst 0, 1) := by decide +kernel
theorem dX1_keptIn_1 : decode cX1_keptIn 1 = .ok (.istore_n 2, 1) := by decide +kernel
theorem dX1_keptIn_2 : decode cX1_keptIn 2 = .ok (.iconst 0, 1) := by decide +kernel
theorem dX1_keptIn_3 : decode cX1_keptIn 3 = .ok (.istore_n 3, 1) := by decide +kernel
theorem dX1_keptIn_4 : decode cX1_keptIn 4 = .ok (.iload_n 3, 1) := by decide +kernel
theorem dX1_keptIn_5 : decode cX1_keptIn 5 = .ok (.aload_n 0, 1) := by decide +kernel
theorem dX1_keptIn_6 : decode cX1_keptIn 6 = .ok (.getfield 42, 3) := by decide +kernel
theorem dX1_keptIn_9 : decode cX1_keptIn 9 = .ok (.getfield 110, 3) := by decide +kernel
theorem dX1_keptIn_12 : decode cX1_keptIn 12 = .ok (.if_icmp .ge 28, 3) := by decide +kernel
theorem dX1_keptIn_15 : decode cX1_keptIn 15 = .ok (.aload_n 0, 1) := by decide +kernel
theorem dX1_keptIn_16 : decode cX1_keptIn 16 = .ok (.aload_n 0, 1) := by decide +kernel
theorem dX1_keptIn_17 : decode cX1_keptIn 17 = .ok (.getfield 42, 3) := by decide +kernel
theorem dX1_keptIn_20 : decode cX1_keptIn 20 = .ok (.iload_n 3, 1) := by decide +kernel
theorem dX1_keptIn_21 : decode cX1_keptIn 21 = .ok (.invokevirtual 113, 3) := by decide +kernel
theorem dX1_keptIn_24 : decode cX1_keptIn 24 = .ok (.invokevirtual 106, 3) := by decide +kernel
theorem dX1_keptIn_27 : decode cX1_keptIn 27 = .ok (.iload_n 1, 1) := by decide +kernel
theorem dX1_keptIn_28 : decode cX1_keptIn 28 = .ok (.if_icmp .ne 6, 3) := by decide +kernel
theorem dX1_keptIn_31 : decode cX1_keptIn 31 = .ok (.iinc 2 1, 3) := by decide +kernel
theorem dX1_keptIn_34 : decode cX1_keptIn 34 = .ok (.iinc 3 1, 3) := by decide +kernel
theorem dX1_keptIn_37 : decode cX1_keptIn 37 = .ok (.goto (-33), 3) := by decide +kernel
theorem dX1_keptIn_40 : decode cX1_keptIn 40 = .ok (.iload_n 2, 1) := by decide +kernel
theorem dX1_keptIn_41 : decode cX1_keptIn 41 = .ok (.ireturn, 1) := by decide +kernel
theorem dX1_makeRoom_0 : decode cX1_makeRoom 0 = .ok (.aload_n 0, 1) := by decide +kernel
theorem dX1_makeRoom_1 : decode cX1_makeRoom 1 = .ok (.getfield 18, 3) := by decide +kernel
theorem dX1_makeRoom_4 : decode cX1_makeRoom 4 = .ok (.arraylength, 1) := by decide +kernel
theorem dX1_makeRoom_5 : decode cX1_makeRoom 5 = .ok (.iload_n 1, 1) := by decide +kernel
theorem dX1_makeRoom_6 : decode cX1_makeRoom 6 = .ok (.if_icmp .ge 43, 3) := by decide +kernel
theorem dX1_makeRoom_9 : decode cX1_makeRoom 9 = .ok (.iload_n 1, 1) := by decide +kernel
theorem dX1_makeRoom_10 : decode cX1_makeRoom 10 = .ok (.invokestatic 116, 3) := by decide +kernel
theorem dX1_makeRoom_13 : decode cX1_makeRoom 13 = .ok (.istore_n 2, 1) := by decide +kernel
theorem dX1_makeRoom_14 : decode cX1_makeRoom 14 = .ok (.aload_n 0, 1) := by decide +kernel
theorem dX1_makeRoom_15 : decode cX1_makeRoom 15 = .ok (.iload_n 2, 1) := by decide +kernel
theorem dX1_makeRoom_16 : decode cX1_makeRoom 16 = .ok (.newarray .int, 2) := by decide +kernel
theorem dX1_makeRoom_18 : decode cX1_makeRoom 18 = .ok (.putfield 18, 3) := by decide +kernel
theorem dX1_makeRoom_21 : decode cX1_makeRoom 21 = .ok (.aload_n 0, 1) := by decide +kernel
theorem dX1_makeRoom_22 : decode cX1_makeRoom 22 = .ok (.iload_n 2, 1) := by decide +kernel
theorem dX1_makeRoom_23 : decode cX1_makeRoom 23 = .ok (.newarray .int, 2) := by decide +kernel
theorem dX1_makeRoom_25 : decode cX1_makeRoom 25 = .ok (.putfield 22, 3) := by decide +kernel
theorem dX1_makeRoom_28 : decode cX1_makeRoom 28 = .ok (.aload_n 0, 1) := by decide +kernel
theorem dX1_makeRoom_29 : decode cX1_makeRoom 29 = .ok (.iload_n 2, 1) := by decide +kernel
theorem dX1_makeRoom_30 : decode cX1_makeRoom 30 = .ok (.newarray .int, 2) := by decide +kernel
theorem dX1_makeRoom_32 : decode cX1_makeRoom 32 = .ok (.putfield 25, 3) := by decide +kernel
theorem dX1_makeRoom_35 : decode cX1_makeRoom 35 = .ok (.aload_n 0, 1) := by decide +kernel
theorem dX1_makeRoom_36 : decode cX1_makeRoom 36 = .ok (.iload_n 2, 1) := by decide +kernel
theorem dX1_makeRoom_37 : decode cX1_makeRoom 37 = .ok (.newarray .int, 2) := by decide +kernel
theorem dX1_makeRoom_39 : decode cX1_makeRoom 39 = .ok (.putfield 28, 3) := by decide +kernel
theorem dX1_makeRoom_42 : decode cX1_makeRoom 42 = .ok (.aload_n 0, 1) := by decide +kernel
theorem dX1_makeRoom_43 : decode cX1_makeRoom 43 = .ok (.iload_n 2, 1) := by decide +kernel
theorem dX1_makeRoom_44 : decode cX1_makeRoom 44 = .ok (.newarray .int, 2) := by decide +kernel
theorem dX1_makeRoom_46 : decode cX1_makeRoom 46 = .ok (.putfield 31, 3) := by decide +kernel
theorem dX1_makeRoom_49 : decode cX1_makeRoom 49 = .ok (.return_, 1) := by decide +kernel
theorem dX1_sort_0 : decode cX1_sort 0 = .ok (.aload_n 0, 1) := by decide +kernel
theorem dX1_sort_1 : decode cX1_sort 1 = .ok (.getfield 12, 3) := by decide +kernel
theorem dX1_sort_4 : decode cX1_sort 4 = .ok (.getfield 59, 3) := by decide +kernel
theorem dX1_sort_7 : decode cX1_sort 7 = .ok (.aload_n 0, 1) := by decide +kernel
theorem dX1_sort_8 : decode cX1_sort 8 = .ok (.getfield 18, 3) := by decide +kernel
theorem dX1_sort_11 : decode cX1_sort 11 = .ok (.arraylength, 1) := by decide +kernel
theorem dX1_sort_12 : decode cX1_sort 12 = .ok (.invokestatic 119, 3) := by decide +kernel
theorem dX1_sort_15 : decode cX1_sort 15 = .ok (.istore_n 1, 1) := by decide +kernel
theorem dX1_sort_16 : decode cX1_sort 16 = .ok (.iconst 0, 1) := by decide +kernel
theorem dX1_sort_17 : decode cX1_sort 17 = .ok (.istore_n 2, 1) := by decide +kernel
theorem dX1_sort_18 : decode cX1_sort 18 = .ok (.iload_n 2, 1) := by decide +kernel
theorem dX1_sort_19 : decode cX1_sort 19 = .ok (.iload_n 1, 1) := by decide +kernel
theorem dX1_sort_20 : decode cX1_sort 20 = .ok (.if_icmp .ge 16, 3) := by decide +kernel
theorem dX1_sort_23 : decode cX1_sort 23 = .ok (.aload_n 0, 1) := by decide +kernel
theorem dX1_sort_24 : decode cX1_sort 24 = .ok (.getfield 18, 3) := by decide +kernel
theorem dX1_sort_27 : decode cX1_sort 27 = .ok (.iload_n 2, 1) := by decide +kernel
theorem dX1_sort_28 : decode cX1_sort 28 = .ok (.iload_n 2, 1) := by decide +kernel
theorem dX1_sort_29 : decode cX1_sort 29 = .ok (.iastore, 1) := by decide +kernel
theorem dX1_sort_30 : decode cX1_sort 30 = .ok (.iinc 2 1, 3) := by decide +kernel
theorem dX1_sort_33 : decode cX1_sort 33 = .ok (.goto (-15), 3) := by decide +kernel
theorem dX1_sort_36 : decode cX1_sort 36 = .ok (.iconst 1, 1) := by decide +kernel
theorem dX1_sort_37 : decode cX1_sort 37 = .ok (.istore_n 2, 1) := by decide +kernel
theorem dX1_sort_38 : decode cX1_sort 38 = .ok (.iload_n 2, 1) := by decide +kernel
theorem dX1_sort_39 : decode cX1_sort 39 = .ok (.iload_n 1, 1) := by decide +kernel
theorem dX1_sort_40 : decode cX1_sort 40 = .ok (.if_icmp .ge 65, 3) := by decide +kernel
theorem dX1_sort_43 : decode cX1_sort 43 = .ok (.iconst 0, 1) := by decide +kernel
theorem dX1_sort_44 : decode cX1_sort 44 = .ok (.istore_n 3, 1) := by decide +kernel
theorem dX1_sort_45 : decode cX1_sort 45 = .ok (.iload_n 3, 1) := by decide +kernel
theorem dX1_sort_46 : decode cX1_sort 46 = .ok (.iload_n 1, 1) := by decide +kernel
theorem dX1_sort_47 : decode cX1_sort 47 = .ok (.if_icmp .ge 33, 3) := by decide +kernel
theorem dX1_sort_50 : decode cX1_sort 50 = .ok (.aload_n 0, 1) := by decide +kernel
theorem dX1_sort_51 : decode cX1_sort 51 = .ok (.iload_n 3, 1) := by decide +kernel
theorem dX1_sort_52 : decode cX1_sort 52 = .ok (.iload_n 3, 1) := by decide +kernel
theorem dX1_sort_53 : decode cX1_sort 53 = .ok (.iload_n 2, 1) := by decide +kernel
theorem dX1_sort_54 : decode cX1_sort 54 = .ok (.iadd, 1) := by decide +kernel
theorem dX1_sort_55 : decode cX1_sort 55 = .ok (.iload_n 1, 1) := by decide +kernel
theorem dX1_sort_56 : decode cX1_sort 56 = .ok (.invokestatic 119, 3) := by decide +kernel
theorem dX1_sort_59 : decode cX1_sort 59 = .ok (.iload_n 3, 1) := by decide +kernel
theorem dX1_sort_60 : decode cX1_sort 60 = .ok (.iconst 2, 1) := by decide +kernel
theorem dX1_sort_61 : decode cX1_sort 61 = .ok (.iload_n 2, 1) := by decide +kernel
theorem dX1_sort_62 : decode cX1_sort 62 = .ok (.imul, 1) := by decide +kernel
theorem dX1_sort_63 : decode cX1_sort 63 = .ok (.iadd, 1) := by decide +kernel
theorem dX1_sort_64 : decode cX1_sort 64 = .ok (.iload_n 1, 1) := by decide +kernel
theorem dX1_sort_65 : decode cX1_sort 65 = .ok (.invokestatic 119, 3) := by decide +kernel
theorem dX1_sort_68 : decode cX1_sort 68 = .ok (.invokevirtual 124, 3) := by decide +kernel
theorem dX1_sort_71 : decode cX1_sort 71 = .ok (.iload_n 3, 1) := by decide +kernel
theorem dX1_sort_72 : decode cX1_sort 72 = .ok (.iconst 2, 1) := by decide +kernel
theorem dX1_sort_73 : decode cX1_sort 73 = .ok (.iload_n 2, 1) := by decide +kernel
theorem dX1_sort_74 : decode cX1_sort 74 = .ok (.imul, 1) := by decide +kernel
theorem dX1_sort_75 : decode cX1_sort 75 = .ok (.iadd, 1) := by decide +kernel
theorem dX1_sort_76 : decode cX1_sort 76 = .ok (.istore_n 3, 1) := by decide +kernel
theorem dX1_sort_77 : decode cX1_sort 77 = .ok (.goto (-32), 3) := by decide +kernel
theorem dX1_sort_80 : decode cX1_sort 80 = .ok (.aload_n 0, 1) := by decide +kernel
theorem dX1_sort_81 : decode cX1_sort 81 = .ok (.getfield 22, 3) := by decide +kernel
theorem dX1_sort_84 : decode cX1_sort 84 = .ok (.astore_n 3, 1) := by decide +kernel
theorem dX1_sort_85 : decode cX1_sort 85 = .ok (.aload_n 0, 1) := by decide +kernel
theorem dX1_sort_86 : decode cX1_sort 86 = .ok (.aload_n 0, 1) := by decide +kernel
theorem dX1_sort_87 : decode cX1_sort 87 = .ok (.getfield 18, 3) := by decide +kernel
theorem dX1_sort_90 : decode cX1_sort 90 = .ok (.putfield 22, 3) := by decide +kernel
theorem dX1_sort_93 : decode cX1_sort 93 = .ok (.aload_n 0, 1) := by decide +kernel
theorem dX1_sort_94 : decode cX1_sort 94 = .ok (.aload_n 3, 1) := by decide +kernel
theorem dX1_sort_95 : decode cX1_sort 95 = .ok (.putfield 18, 3) := by decide +kernel
theorem dX1_sort_98 : decode cX1_sort 98 = .ok (.iload_n 2, 1) := by decide +kernel
theorem dX1_sort_99 : decode cX1_sort 99 = .ok (.iconst 2, 1) := by decide +kernel
theorem dX1_sort_100 : decode cX1_sort 100 = .ok (.imul, 1) := by decide +kernel
theorem dX1_sort_101 : decode cX1_sort 101 = .ok (.istore_n 2, 1) := by decide +kernel
theorem dX1_sort_102 : decode cX1_sort 102 = .ok (.goto (-64), 3) := by decide +kernel
theorem dX1_sort_105 : decode cX1_sort 105 = .ok (.return_, 1) := by decide +kernel
theorem dX1_merge_0 : decode cX1_merge 0 = .ok (.iload_n 1, 1) := by decide +kernel
theorem dX1_merge_1 : decode cX1_merge 1 = .ok (.istore 4, 2) := by decide +kernel
theorem dX1_merge_3 : decode cX1_merge 3 = .ok (.iload_n 2, 1) := by decide +kernel
theorem dX1_merge_4 : decode cX1_merge 4 = .ok (.istore 5, 2) := by decide +kernel
theorem dX1_merge_6 : decode cX1_merge 6 = .ok (.iload_n 1, 1) := by decide +kernel
theorem dX1_merge_7 : decode cX1_merge 7 = .ok (.istore 6, 2) := by decide +kernel
theorem dX1_merge_9 : decode cX1_merge 9 = .ok (.iload 6, 2) := by decide +kernel
theorem dX1_merge_11 : decode cX1_merge 11 = .ok (.iload_n 3, 1) := by decide +kernel
theorem dX1_merge_12 : decode cX1_merge 12 = .ok (.if_icmp .ge 104, 3) := by decide +kernel
theorem dX1_merge_15 : decode cX1_merge 15 = .ok (.iload 6, 2) := by decide +kernel
theorem dX1_merge_17 : decode cX1_merge 17 = .ok (.aload_n 0, 1) := by decide +kernel
theorem dX1_merge_18 : decode cX1_merge 18 = .ok (.getfield 22, 3) := by decide +kernel
theorem dX1_merge_21 : decode cX1_merge 21 = .ok (.arraylength, 1) := by decide +kernel
theorem dX1_merge_22 : decode cX1_merge 22 = .ok (.if_icmp .ge 94, 3) := by decide +kernel
theorem dX1_merge_25 : decode cX1_merge 25 = .ok (.iload 4, 2) := by decide +kernel
theorem dX1_merge_27 : decode cX1_merge 27 = .ok (.iload_n 2, 1) := by decide +kernel
theorem dX1_merge_28 : decode cX1_merge 28 = .ok (.if_icmp .ge 33, 3) := by decide +kernel
theorem dX1_merge_31 : decode cX1_merge 31 = .ok (.iload 5, 2) := by decide +kernel
theorem dX1_merge_33 : decode cX1_merge 33 = .ok (.iload_n 3, 1) := by decide +kernel
theorem dX1_merge_34 : decode cX1_merge 34 = .ok (.if_icmp .ge 31, 3) := by decide +kernel
theorem dX1_merge_37 : decode cX1_merge 37 = .ok (.aload_n 0, 1) := by decide +kernel
theorem dX1_merge_38 : decode cX1_merge 38 = .ok (.getfield 12, 3) := by decide +kernel
theorem dX1_merge_41 : decode cX1_merge 41 = .ok (.aload_n 0, 1) := by decide +kernel
theorem dX1_merge_42 : decode cX1_merge 42 = .ok (.getfield 18, 3) := by decide +kernel
theorem dX1_merge_45 : decode cX1_merge 45 = .ok (.iload 5, 2) := by decide +kernel
theorem dX1_merge_47 : decode cX1_merge 47 = .ok (.iaload, 1) := by decide +kernel
theorem dX1_merge_48 : decode cX1_merge 48 = .ok (.aload_n 0, 1) := by decide +kernel
theorem dX1_merge_49 : decode cX1_merge 49 = .ok (.getfield 18, 3) := by decide +kernel
theorem dX1_merge_52 : decode cX1_merge 52 = .ok (.iload 4, 2) := by decide +kernel
theorem dX1_merge_54 : decode cX1_merge 54 = .ok (.iaload, 1) := by decide +kernel
theorem dX1_merge_55 : decode cX1_merge 55 = .ok (.invokevirtual 93, 3) := by decide +kernel
theorem dX1_merge_58 : decode cX1_merge 58 = .ok (.ifCond .ge 7, 3) := by decide +kernel
theorem dX1_merge_61 : decode cX1_merge 61 = .ok (.iconst 1, 1) := by decide +kernel
theorem dX1_merge_62 : decode cX1_merge 62 = .ok (.goto 4, 3) := by decide +kernel
theorem dX1_merge_65 : decode cX1_merge 65 = .ok (.iconst 0, 1) := by decide +kernel
theorem dX1_merge_66 : decode cX1_merge 66 = .ok (.istore 7, 2) := by decide +kernel
theorem dX1_merge_68 : decode cX1_merge 68 = .ok (.iload 7, 2) := by decide +kernel
theorem dX1_merge_70 : decode cX1_merge 70 = .ok (.ifCond .eq 23, 3) := by decide +kernel
theorem dX1_merge_73 : decode cX1_merge 73 = .ok (.aload_n 0, 1) := by decide +kernel
theorem dX1_merge_74 : decode cX1_merge 74 = .ok (.getfield 22, 3) := by decide +kernel
theorem dX1_merge_77 : decode cX1_merge 77 = .ok (.iload 6, 2) := by decide +kernel
theorem dX1_merge_79 : decode cX1_merge 79 = .ok (.aload_n 0, 1) := by decide +kernel
theorem dX1_merge_80 : decode cX1_merge 80 = .ok (.getfield 18, 3) := by decide +kernel
theorem dX1_merge_83 : decode cX1_merge 83 = .ok (.iload 5, 2) := by decide +kernel
theorem dX1_merge_85 : decode cX1_merge 85 = .ok (.iaload, 1) := by decide +kernel
theorem dX1_merge_86 : decode cX1_merge 86 = .ok (.iastore, 1) := by decide +kernel
theorem dX1_merge_87 : decode cX1_merge 87 = .ok (.iinc 5 1, 3) := by decide +kernel
theorem dX1_merge_90 : decode cX1_merge 90 = .ok (.goto 20, 3) := by decide +kernel
theorem dX1_merge_93 : decode cX1_merge 93 = .ok (.aload_n 0, 1) := by decide +kernel
theorem dX1_merge_94 : decode cX1_merge 94 = .ok (.getfield 22, 3) := by decide +kernel
theorem dX1_merge_97 : decode cX1_merge 97 = .ok (.iload 6, 2) := by decide +kernel
theorem dX1_merge_99 : decode cX1_merge 99 = .ok (.aload_n 0, 1) := by decide +kernel
theorem dX1_merge_100 : decode cX1_merge 100 = .ok (.getfield 18, 3) := by decide +kernel
theorem dX1_merge_103 : decode cX1_merge 103 = .ok (.iload 4, 2) := by decide +kernel
theorem dX1_merge_105 : decode cX1_merge 105 = .ok (.iaload, 1) := by decide +kernel
theorem dX1_merge_106 : decode cX1_merge 106 = .ok (.iastore, 1) := by decide +kernel
theorem dX1_merge_107 : decode cX1_merge 107 = .ok (.iinc 4 1, 3) := by decide +kernel
theorem dX1_merge_110 : decode cX1_merge 110 = .ok (.iinc 6 1, 3) := by decide +kernel
theorem dX1_merge_113 : decode cX1_merge 113 = .ok (.goto (-104), 3) := by decide +kernel
theorem dX1_merge_116 : decode cX1_merge 116 = .ok (.return_, 1) := by decide +kernel
theorem dX1_nameParts_0 : decode cX1_nameParts 0 = .ok (.aload_n 0, 1) := by decide +kernel
theorem dX1_nameParts_1 : decode cX1_nameParts 1 = .ok (.iconst 0, 1) := by decide +kernel
theorem dX1_nameParts_2 : decode cX1_nameParts 2 = .ok (.putfield 38, 3) := by decide +kernel
theorem dX1_nameParts_5 : decode cX1_nameParts 5 = .ok (.iconst 0, 1) := by decide +kernel
theorem dX1_nameParts_6 : decode cX1_nameParts 6 = .ok (.istore_n 1, 1) := by decide +kernel
theorem dX1_nameParts_7 : decode cX1_nameParts 7 = .ok (.iload_n 1, 1) := by decide +kernel
theorem dX1_nameParts_8 : decode cX1_nameParts 8 = .ok (.aload_n 0, 1) := by decide +kernel
theorem dX1_nameParts_9 : decode cX1_nameParts 9 = .ok (.getfield 12, 3) := by decide +kernel
theorem dX1_nameParts_12 : decode cX1_nameParts 12 = .ok (.getfield 59, 3) := by decide +kernel
theorem dX1_nameParts_15 : decode cX1_nameParts 15 = .ok (.if_icmp .ge 83, 3) := by decide +kernel
theorem dX1_nameParts_18 : decode cX1_nameParts 18 = .ok (.iload_n 1, 1) := by decide +kernel
theorem dX1_nameParts_19 : decode cX1_nameParts 19 = .ok (.aload_n 0, 1) := by decide +kernel
theorem dX1_nameParts_20 : decode cX1_nameParts 20 = .ok (.getfield 18, 3) := by decide +kernel
theorem dX1_nameParts_23 : decode cX1_nameParts 23 = .ok (.arraylength, 1) := by decide +kernel
theorem dX1_nameParts_24 : decode cX1_nameParts 24 = .ok (.if_icmp .ge 74, 3) := by decide +kernel
theorem dX1_nameParts_27 : decode cX1_nameParts 27 = .ok (.aload_n 0, 1) := by decide +kernel
theorem dX1_nameParts_28 : decode cX1_nameParts 28 = .ok (.getfield 18, 3) := by decide +kernel
theorem dX1_nameParts_31 : decode cX1_nameParts 31 = .ok (.iload_n 1, 1) := by decide +kernel
theorem dX1_nameParts_32 : decode cX1_nameParts 32 = .ok (.iaload, 1) := by decide +kernel
theorem dX1_nameParts_33 : decode cX1_nameParts 33 = .ok (.istore_n 2, 1) := by decide +kernel
theorem dX1_nameParts_34 : decode cX1_nameParts 34 = .ok (.iload_n 1, 1) := by decide +kernel
theorem dX1_nameParts_35 : decode cX1_nameParts 35 = .ok (.ifCond .eq 22, 3) := by decide +kernel
theorem dX1_nameParts_38 : decode cX1_nameParts 38 = .ok (.aload_n 0, 1) := by decide +kernel
theorem dX1_nameParts_39 : decode cX1_nameParts 39 = .ok (.getfield 12, 3) := by decide +kernel
theorem dX1_nameParts_42 : decode cX1_nameParts 42 = .ok (.aload_n 0, 1) := by decide +kernel
theorem dX1_nameParts_43 : decode cX1_nameParts 43 = .ok (.getfield 18, 3) := by decide +kernel
theorem dX1_nameParts_46 : decode cX1_nameParts 46 = .ok (.iload_n 1, 1) := by decide +kernel
theorem dX1_nameParts_47 : decode cX1_nameParts 47 = .ok (.iconst 1, 1) := by decide +kernel
theorem dX1_nameParts_48 : decode cX1_nameParts 48 = .ok (.isub, 1) := by decide +kernel
theorem dX1_nameParts_49 : decode cX1_nameParts 49 = .ok (.iaload, 1) := by decide +kernel
theorem dX1_nameParts_50 : decode cX1_nameParts 50 = .ok (.iload_n 2, 1) := by decide +kernel
theorem dX1_nameParts_51 : decode cX1_nameParts 51 = .ok (.invokevirtual 93, 3) := by decide +kernel
theorem dX1_nameParts_54 : decode cX1_nameParts 54 = .ok (.ifCond .eq 13, 3) := by decide +kernel
theorem dX1_nameParts_57 : decode cX1_nameParts 57 = .ok (.aload_n 0, 1) := by decide +kernel
theorem dX1_nameParts_58 : decode cX1_nameParts 58 = .ok (.dup, 1) := by decide +kernel
theorem dX1_nameParts_59 : decode cX1_nameParts 59 = .ok (.getfield 38, 3) := by decide +kernel
theorem dX1_nameParts_62 : decode cX1_nameParts 62 = .ok (.iconst 1, 1) := by decide +kernel
theorem dX1_nameParts_63 : decode cX1_nameParts 63 = .ok (.iadd, 1) := by decide +kernel
theorem dX1_nameParts_64 : decode cX1_nameParts 64 = .ok (.putfield 38, 3) := by decide +kernel
theorem dX1_nameParts_67 : decode cX1_nameParts 67 = .ok (.iload_n 2, 1) := by decide +kernel
theorem dX1_nameParts_68 : decode cX1_nameParts 68 = .ok (.ifCond .lt 24, 3) := by decide +kernel
theorem dX1_nameParts_71 : decode cX1_nameParts 71 = .ok (.iload_n 2, 1) := by decide +kernel
theorem dX1_nameParts_72 : decode cX1_nameParts 72 = .ok (.aload_n 0, 1) := by decide +kernel
theorem dX1_nameParts_73 : decode cX1_nameParts 73 = .ok (.getfield 28, 3) := by decide +kernel
theorem dX1_nameParts_76 : decode cX1_nameParts 76 = .ok (.arraylength, 1) := by decide +kernel
theorem dX1_nameParts_77 : decode cX1_nameParts 77 = .ok (.if_icmp .ge 15, 3) := by decide +kernel
theorem dX1_nameParts_80 : decode cX1_nameParts 80 = .ok (.aload_n 0, 1) := by decide +kernel
theorem dX1_nameParts_81 : decode cX1_nameParts 81 = .ok (.getfield 28, 3) := by decide +kernel
theorem dX1_nameParts_84 : decode cX1_nameParts 84 = .ok (.iload_n 2, 1) := by decide +kernel
theorem dX1_nameParts_85 : decode cX1_nameParts 85 = .ok (.aload_n 0, 1) := by decide +kernel
theorem dX1_nameParts_86 : decode cX1_nameParts 86 = .ok (.getfield 38, 3) := by decide +kernel
theorem dX1_nameParts_89 : decode cX1_nameParts 89 = .ok (.iconst 1, 1) := by decide +kernel
theorem dX1_nameParts_90 : decode cX1_nameParts 90 = .ok (.isub, 1) := by decide +kernel
theorem dX1_nameParts_91 : decode cX1_nameParts 91 = .ok (.iastore, 1) := by decide +kernel
theorem dX1_nameParts_92 : decode cX1_nameParts 92 = .ok (.iinc 1 1, 3) := by decide +kernel
theorem dX1_nameParts_95 : decode cX1_nameParts 95 = .ok (.goto (-88), 3) := by decide +kernel
theorem dX1_nameParts_98 : decode cX1_nameParts 98 = .ok (.aload_n 0, 1) := by decide +kernel
theorem dX1_nameParts_99 : decode cX1_nameParts 99 = .ok (.getfield 42, 3) := by decide +kernel
theorem dX1_nameParts_102 : decode cX1_nameParts 102 = .ok (.getfield 56, 3) := by decide +kernel
theorem dX1_nameParts_105 : decode cX1_nameParts 105 = .ok (.getfield 59, 3) := by decide +kernel
theorem dX1_nameParts_108 : decode cX1_nameParts 108 = .ok (.iconst 1, 1) := by decide +kernel
theorem dX1_nameParts_109 : decode cX1_nameParts 109 = .ok (.isub, 1) := by decide +kernel
theorem dX1_nameParts_110 : decode cX1_nameParts 110 = .ok (.istore_n 1, 1) := by decide +kernel
theorem dX1_nameParts_111 : decode cX1_nameParts 111 = .ok (.iload_n 1, 1) := by decide +kernel
theorem dX1_nameParts_112 : decode cX1_nameParts 112 = .ok (.ifCond .lt 35, 3) := by decide +kernel
theorem dX1_nameParts_115 : decode cX1_nameParts 115 = .ok (.aload_n 0, 1) := by decide +kernel
theorem dX1_nameParts_116 : decode cX1_nameParts 116 = .ok (.iload_n 1, 1) := by decide +kernel
theorem dX1_nameParts_117 : decode cX1_nameParts 117 = .ok (.invokevirtual 106, 3) := by decide +kernel
theorem dX1_nameParts_120 : decode cX1_nameParts 120 = .ok (.istore_n 2, 1) := by decide +kernel
theorem dX1_nameParts_121 : decode cX1_nameParts 121 = .ok (.iload_n 2, 1) := by decide +kernel
theorem dX1_nameParts_122 : decode cX1_nameParts 122 = .ok (.ifCond .lt 19, 3) := by decide +kernel
theorem dX1_nameParts_125 : decode cX1_nameParts 125 = .ok (.iload_n 2, 1) := by decide +kernel
theorem dX1_nameParts_126 : decode cX1_nameParts 126 = .ok (.aload_n 0, 1) := by decide +kernel
theorem dX1_nameParts_127 : decode cX1_nameParts 127 = .ok (.getfield 31, 3) := by decide +kernel
theorem dX1_nameParts_130 : decode cX1_nameParts 130 = .ok (.arraylength, 1) := by decide +kernel
theorem dX1_nameParts_131 : decode cX1_nameParts 131 = .ok (.if_icmp .ge 10, 3) := by decide +kernel
theorem dX1_nameParts_134 : decode cX1_nameParts 134 = .ok (.aload_n 0, 1) := by decide +kernel
theorem dX1_nameParts_135 : decode cX1_nameParts 135 = .ok (.getfield 31, 3) := by decide +kernel
theorem dX1_nameParts_138 : decode cX1_nameParts 138 = .ok (.iload_n 2, 1) := by decide +kernel
theorem dX1_nameParts_139 : decode cX1_nameParts 139 = .ok (.iload_n 1, 1) := by decide +kernel
theorem dX1_nameParts_140 : decode cX1_nameParts 140 = .ok (.iastore, 1) := by decide +kernel
theorem dX1_nameParts_141 : decode cX1_nameParts 141 = .ok (.iinc 1 (-1), 3) := by decide +kernel
theorem dX1_nameParts_144 : decode cX1_nameParts 144 = .ok (.goto (-33), 3) := by decide +kernel
theorem dX1_nameParts_147 : decode cX1_nameParts 147 = .ok (.return_, 1) := by decide +kernel
theorem dX10_init_0 : decode cX10_init 0 = .ok (.aload_n 0, 1) := by decide +kernel
theorem dX10_init_1 : decode cX10_init 1 = .ok (.invokespecial 3, 3) := by decide +kernel
theorem dX10_init_4 : decode cX10_init 4 = .ok (.aload_n 0, 1) := by decide +kernel
theorem dX10_init_5 : decode cX10_init 5 = .ok (.new 9, 3) := by decide +kernel
theorem dX10_init_8 : decode cX10_init 8 = .ok (.dup, 1) := by decide +kernel
theorem dX10_init_9 : decode cX10_init 9 = .ok (.invokespecial 11, 3) := by decide +kernel
theorem dX10_init_12 : decode cX10_init 12 = .ok (.putfield 12, 3) := by decide +kernel
theorem dX10_init_15 : decode cX10_init 15 = .ok (.aload_n 0, 1) := by decide +kernel
theorem dX10_init_16 : decode cX10_init 16 = .ok (.new 16, 3) := by decide +kernel
theorem dX10_init_19 : decode cX10_init 19 = .ok (.dup, 1) := by decide +kernel
theorem dX10_init_20 : decode cX10_init 20 = .ok (.invokespecial 18, 3) := by decide +kernel
theorem dX10_init_23 : decode cX10_init 23 = .ok (.putfield 19, 3) := by decide +kernel
theorem dX10_init_26 : decode cX10_init 26 = .ok (.aload_n 0, 1) := by decide +kernel
theorem dX10_init_27 : decode cX10_init 27 = .ok (.new 23, 3) := by decide +kernel
theorem dX10_init_30 : decode cX10_init 30 = .ok (.dup, 1) := by decide +kernel
theorem dX10_init_31 : decode cX10_init 31 = .ok (.invokespecial 25, 3) := by decide +kernel
end
section
theorem dX10_init_34 : decode cX10_init 34 = .ok (.putfield 26, 3) := by decide +kernel
theorem dX10_init_37 : decode cX10_init 37 = .ok (.aload_n 0, 1) := by decide +kernel
theorem dX10_init_38 : decode cX10_init 38 = .ok (.new 30, 3) := by decide +kernel
theorem dX10_init_41 : decode cX10_init 41 = .ok (.dup, 1) := by decide +kernel
theorem dX10_init_42 : decode cX10_init 42 = .ok (.aload_n 0, 1) := by decide +kernel
theorem dX10_init_43 : decode cX10_init 43 = .ok (.getfield 12, 3) := by decide +kernel
theorem dX10_init_46 : decode cX10_init 46 = .ok (.invokespecial 32, 3) := by decide +kernel
theorem dX10_init_49 : decode cX10_init 49 = .ok (.putfield 35, 3) := by decide +kernel
theorem dX10_init_52 : decode cX10_init 52 = .ok (.aload_n 0, 1) := by decide +kernel
theorem dX10_init_53 : decode cX10_init 53 = .ok (.new 39, 3) := by decide +kernel
theorem dX10_init_56 : decode cX10_init 56 = .ok (.dup, 1) := by decide +kernel
theorem dX10_init_57 : decode cX10_init 57 = .ok (.aload_n 0, 1) := by decide +kernel
theorem dX10_init_58 : decode cX10_init 58 = .ok (.getfield 35, 3) := by decide +kernel
theorem dX10_init_61 : decode cX10_init 61 = .ok (.aload_n 0, 1) := by decide +kernel
theorem dX10_init_62 : decode cX10_init 62 = .ok (.getfield 19, 3) := by decide +kernel
theorem dX10_init_65 : decode cX10_init 65 = .ok (.invokespecial 41, 3) := by decide +kernel
theorem dX10_init_68 : decode cX10_init 68 = .ok (.putfield 44, 3) := by decide +kernel
theorem dX10_init_71 : decode cX10_init 71 = .ok (.aload_n 0, 1) := by decide +kernel
theorem dX10_init_72 : decode cX10_init 72 = .ok (.new 48, 3) := by decide +kernel
theorem dX10_init_75 : decode cX10_init 75 = .ok (.dup, 1) := by decide +kernel
theorem dX10_init_76 : decode cX10_init 76 = .ok (.aload_n 0, 1) := by decide +kernel
theorem dX10_init_77 : decode cX10_init 77 = .ok (.getfield 35, 3) := by decide +kernel
theorem dX10_init_80 : decode cX10_init 80 = .ok (.invokespecial 50, 3) := by decide +kernel
theorem dX10_init_83 : decode cX10_init 83 = .ok (.putfield 53, 3) := by decide +kernel
theorem dX10_init_86 : decode cX10_init 86 = .ok (.aload_n 0, 1) := by decide +kernel
theorem dX10_init_87 : decode cX10_init 87 = .ok (.new 57, 3) := by decide +kernel
theorem dX10_init_90 : decode cX10_init 90 = .ok (.dup, 1) := by decide +kernel
theorem dX10_init_91 : decode cX10_init 91 = .ok (.aload_n 0, 1) := by decide +kernel
theorem dX10_init_92 : decode cX10_init 92 = .ok (.getfield 44, 3) := by decide +kernel
theorem dX10_init_95 : decode cX10_init 95 = .ok (.aload_n 0, 1) := by decide +kernel
theorem dX10_init_96 : decode cX10_init 96 = .ok (.getfield 53, 3) := by decide +kernel
theorem dX10_init_99 : decode cX10_init 99 = .ok (.invokespecial 59, 3) := by decide +kernel
theorem dX10_init_102 : decode cX10_init 102 = .ok (.putfield 62, 3) := by decide +kernel
theorem dX10_init_105 : decode cX10_init 105 = .ok (.aload_n 0, 1) := by decide +kernel
theorem dX10_init_106 : decode cX10_init 106 = .ok (.bipush 40, 2) := by decide +kernel
theorem dX10_init_108 : decode cX10_init 108 = .ok (.newarray .int, 2) := by decide +kernel
theorem dX10_init_110 : decode cX10_init 110 = .ok (.putfield 66, 3) := by decide +kernel
theorem dX10_init_113 : decode cX10_init 113 = .ok (.aload_n 0, 1) := by decide +kernel
theorem dX10_init_114 : decode cX10_init 114 = .ok (.iconst 0, 1) := by decide +kernel
theorem dX10_init_115 : decode cX10_init 115 = .ok (.putfield 70, 3) := by decide +kernel
theorem dX10_init_118 : decode cX10_init 118 = .ok (.return_, 1) := by decide +kernel
theorem dX10_kind_0 : decode cX10_kind 0 = .ok (.iload_n 1, 1) := by decide +kernel
theorem dX10_kind_1 : decode cX10_kind 1 = .ok (.iconst (-1), 1) := by decide +kernel
theorem dX10_kind_2 : decode cX10_kind 2 = .ok (.if_icmp .eq 17, 3) := by decide +kernel
theorem dX10_kind_5 : decode cX10_kind 5 = .ok (.aload_n 0, 1) := by decide +kernel
theorem dX10_kind_6 : decode cX10_kind 6 = .ok (.getfield 12, 3) := by decide +kernel
theorem dX10_kind_9 : decode cX10_kind 9 = .ok (.iload_n 1, 1) := by decide +kernel
theorem dX10_kind_10 : decode cX10_kind 10 = .ok (.invokevirtual 74, 3) := by decide +kernel
theorem dX10_kind_13 : decode cX10_kind 13 = .ok (.ifCond .ne 6, 3) := by decide +kernel
theorem dX10_kind_16 : decode cX10_kind 16 = .ok (.bipush (-101), 2) := by decide +kernel
theorem dX10_kind_18 : decode cX10_kind 18 = .ok (.ireturn, 1) := by decide +kernel
theorem dX10_kind_19 : decode cX10_kind 19 = .ok (.aload_n 0, 1) := by decide +kernel
theorem dX10_kind_20 : decode cX10_kind 20 = .ok (.invokevirtual 78, 3) := by decide +kernel
theorem dX10_kind_23 : decode cX10_kind 23 = .ok (.aload_n 0, 1) := by decide +kernel
theorem dX10_kind_24 : decode cX10_kind 24 = .ok (.getfield 12, 3) := by decide +kernel
theorem dX10_kind_27 : decode cX10_kind 27 = .ok (.iload_n 1, 1) := by decide +kernel
theorem dX10_kind_28 : decode cX10_kind 28 = .ok (.invokevirtual 81, 3) := by decide +kernel
theorem dX10_kind_31 : decode cX10_kind 31 = .ok (.ireturn, 1) := by decide +kernel
theorem dX10_field_0 : decode cX10_field 0 = .ok (.aload_n 0, 1) := by decide +kernel
theorem dX10_field_1 : decode cX10_field 1 = .ok (.getfield 12, 3) := by decide +kernel
theorem dX10_field_4 : decode cX10_field 4 = .ok (.iload_n 1, 1) := by decide +kernel
theorem dX10_field_5 : decode cX10_field 5 = .ok (.invokevirtual 74, 3) := by decide +kernel
theorem dX10_field_8 : decode cX10_field 8 = .ok (.ifCond .eq 18, 3) := by decide +kernel
theorem dX10_field_11 : decode cX10_field 11 = .ok (.iload_n 2, 1) := by decide +kernel
theorem dX10_field_12 : decode cX10_field 12 = .ok (.ifCond .ne 17, 3) := by decide +kernel
theorem dX10_field_15 : decode cX10_field 15 = .ok (.aload_n 0, 1) := by decide +kernel
theorem dX10_field_16 : decode cX10_field 16 = .ok (.getfield 12, 3) := by decide +kernel
theorem dX10_field_19 : decode cX10_field 19 = .ok (.iload_n 3, 1) := by decide +kernel
theorem dX10_field_20 : decode cX10_field 20 = .ok (.invokevirtual 74, 3) := by decide +kernel
theorem dX10_field_23 : decode cX10_field 23 = .ok (.ifCond .ne 6, 3) := by decide +kernel
theorem dX10_field_26 : decode cX10_field 26 = .ok (.bipush (-101), 2) := by decide +kernel
theorem dX10_field_28 : decode cX10_field 28 = .ok (.ireturn, 1) := by decide +kernel
theorem dX10_field_29 : decode cX10_field 29 = .ok (.iload_n 2, 1) := by decide +kernel
theorem dX10_field_30 : decode cX10_field 30 = .ok (.ifCond .eq 21, 3) := by decide +kernel
theorem dX10_field_33 : decode cX10_field 33 = .ok (.iload_n 2, 1) := by decide +kernel
theorem dX10_field_34 : decode cX10_field 34 = .ok (.iconst 1, 1) := by decide +kernel
theorem dX10_field_35 : decode cX10_field 35 = .ok (.if_icmp .ne 13, 3) := by decide +kernel
theorem dX10_field_38 : decode cX10_field 38 = .ok (.iload_n 3, 1) := by decide +kernel
theorem dX10_field_39 : decode cX10_field 39 = .ok (.iconst 1, 1) := by decide +kernel
theorem dX10_field_40 : decode cX10_field 40 = .ok (.if_icmp .lt 8, 3) := by decide +kernel
theorem dX10_field_43 : decode cX10_field 43 = .ok (.iload_n 3, 1) := by decide +kernel
theorem dX10_field_44 : decode cX10_field 44 = .ok (.iconst 3, 1) := by decide +kernel
theorem dX10_field_45 : decode cX10_field 45 = .ok (.if_icmp .le 6, 3) := by decide +kernel
theorem dX10_field_48 : decode cX10_field 48 = .ok (.bipush (-102), 2) := by decide +kernel
theorem dX10_field_50 : decode cX10_field 50 = .ok (.ireturn, 1) := by decide +kernel
theorem dX10_field_51 : decode cX10_field 51 = .ok (.aload_n 0, 1) := by decide +kernel
theorem dX10_field_52 : decode cX10_field 52 = .ok (.getfield 12, 3) := by decide +kernel
theorem dX10_field_55 : decode cX10_field 55 = .ok (.iload_n 1, 1) := by decide +kernel
theorem dX10_field_56 : decode cX10_field 56 = .ok (.invokevirtual 85, 3) := by decide +kernel
theorem dX10_field_59 : decode cX10_field 59 = .ok (.ifCond .eq 6, 3) := by decide +kernel
theorem dX10_field_62 : decode cX10_field 62 = .ok (.bipush (-103), 2) := by decide +kernel
theorem dX10_field_64 : decode cX10_field 64 = .ok (.ireturn, 1) := by decide +kernel
theorem dX10_field_65 : decode cX10_field 65 = .ok (.aload_n 0, 1) := by decide +kernel
theorem dX10_field_66 : decode cX10_field 66 = .ok (.invokevirtual 78, 3) := by decide +kernel
theorem dX10_field_69 : decode cX10_field 69 = .ok (.aload_n 0, 1) := by decide +kernel
theorem dX10_field_70 : decode cX10_field 70 = .ok (.getfield 12, 3) := by decide +kernel
theorem dX10_field_73 : decode cX10_field 73 = .ok (.iload_n 1, 1) := by decide +kernel
theorem dX10_field_74 : decode cX10_field 74 = .ok (.iload_n 2, 1) := by decide +kernel
theorem dX10_field_75 : decode cX10_field 75 = .ok (.iload_n 3, 1) := by decide +kernel
theorem dX10_field_76 : decode cX10_field 76 = .ok (.invokevirtual 88, 3) := by decide +kernel
theorem dX10_field_79 : decode cX10_field 79 = .ok (.ireturn, 1) := by decide +kernel
theorem dX10_input_0 : decode cX10_input 0 = .ok (.aload_n 0, 1) := by decide +kernel
theorem dX10_input_1 : decode cX10_input 1 = .ok (.getfield 12, 3) := by decide +kernel
theorem dX10_input_4 : decode cX10_input 4 = .ok (.iload_n 1, 1) := by decide +kernel
theorem dX10_input_5 : decode cX10_input 5 = .ok (.invokevirtual 74, 3) := by decide +kernel
theorem dX10_input_8 : decode cX10_input 8 = .ok (.ifCond .ne 6, 3) := by decide +kernel
theorem dX10_input_11 : decode cX10_input 11 = .ok (.bipush (-101), 2) := by decide +kernel
theorem dX10_input_13 : decode cX10_input 13 = .ok (.ireturn, 1) := by decide +kernel
theorem dX10_input_14 : decode cX10_input 14 = .ok (.aload_n 0, 1) := by decide +kernel
theorem dX10_input_15 : decode cX10_input 15 = .ok (.invokevirtual 78, 3) := by decide +kernel
theorem dX10_input_18 : decode cX10_input 18 = .ok (.aload_n 0, 1) := by decide +kernel
theorem dX10_input_19 : decode cX10_input 19 = .ok (.getfield 12, 3) := by decide +kernel
theorem dX10_input_22 : decode cX10_input 22 = .ok (.iload_n 1, 1) := by decide +kernel
theorem dX10_input_23 : decode cX10_input 23 = .ok (.invokevirtual 92, 3) := by decide +kernel
theorem dX10_input_26 : decode cX10_input 26 = .ok (.ireturn, 1) := by decide +kernel
theorem dX10_bound_0 : decode cX10_bound 0 = .ok (.iload_n 1, 1) := by decide +kernel
theorem dX10_bound_1 : decode cX10_bound 1 = .ok (.iconst 1, 1) := by decide +kernel
theorem dX10_bound_2 : decode cX10_bound 2 = .ok (.if_icmp .lt 8, 3) := by decide +kernel
theorem dX10_bound_5 : decode cX10_bound 5 = .ok (.iload_n 1, 1) := by decide +kernel
theorem dX10_bound_6 : decode cX10_bound 6 = .ok (.iconst 5, 1) := by decide +kernel
theorem dX10_bound_7 : decode cX10_bound 7 = .ok (.if_icmp .le 6, 3) := by decide +kernel
theorem dX10_bound_10 : decode cX10_bound 10 = .ok (.bipush (-102), 2) := by decide +kernel
theorem dX10_bound_12 : decode cX10_bound 12 = .ok (.ireturn, 1) := by decide +kernel
theorem dX10_bound_13 : decode cX10_bound 13 = .ok (.aload_n 0, 1) := by decide +kernel
theorem dX10_bound_14 : decode cX10_bound 14 = .ok (.getfield 12, 3) := by decide +kernel
theorem dX10_bound_17 : decode cX10_bound 17 = .ok (.getfield 95, 3) := by decide +kernel
theorem dX10_bound_20 : decode cX10_bound 20 = .ok (.istore_n 2, 1) := by decide +kernel
theorem dX10_bound_21 : decode cX10_bound 21 = .ok (.iload_n 1, 1) := by decide +kernel
theorem dX10_bound_22 : decode cX10_bound 22 = .ok (.iload_n 2, 1) := by decide +kernel
theorem dX10_bound_23 : decode cX10_bound 23 = .ok (.if_icmp .eq 15, 3) := by decide +kernel
theorem dX10_bound_26 : decode cX10_bound 26 = .ok (.aload_n 0, 1) := by decide +kernel
theorem dX10_bound_27 : decode cX10_bound 27 = .ok (.invokevirtual 78, 3) := by decide +kernel
theorem dX10_bound_30 : decode cX10_bound 30 = .ok (.aload_n 0, 1) := by decide +kernel
theorem dX10_bound_31 : decode cX10_bound 31 = .ok (.getfield 12, 3) := by decide +kernel
theorem dX10_bound_34 : decode cX10_bound 34 = .ok (.iload_n 1, 1) := by decide +kernel
theorem dX10_bound_35 : decode cX10_bound 35 = .ok (.putfield 95, 3) := by decide +kernel
theorem dX10_bound_38 : decode cX10_bound 38 = .ok (.iload_n 2, 1) := by decide +kernel
theorem dX10_bound_39 : decode cX10_bound 39 = .ok (.ireturn, 1) := by decide +kernel
theorem dX10_rule_0 : decode cX10_rule 0 = .ok (.iload_n 1, 1) := by decide +kernel
theorem dX10_rule_1 : decode cX10_rule 1 = .ok (.bipush 6, 2) := by decide +kernel
theorem dX10_rule_3 : decode cX10_rule 3 = .ok (.if_icmp .eq 33, 3) := by decide +kernel
theorem dX10_rule_6 : decode cX10_rule 6 = .ok (.aload_n 0, 1) := by decide +kernel
theorem dX10_rule_7 : decode cX10_rule 7 = .ok (.iload_n 1, 1) := by decide +kernel
theorem dX10_rule_8 : decode cX10_rule 8 = .ok (.iload_n 2, 1) := by decide +kernel
theorem dX10_rule_9 : decode cX10_rule 9 = .ok (.iload_n 3, 1) := by decide +kernel
theorem dX10_rule_10 : decode cX10_rule 10 = .ok (.iload 4, 2) := by decide +kernel
theorem dX10_rule_12 : decode cX10_rule 12 = .ok (.invokevirtual 98, 3) := by decide +kernel
theorem dX10_rule_15 : decode cX10_rule 15 = .ok (.ifCond .ne 6, 3) := by decide +kernel
theorem dX10_rule_18 : decode cX10_rule 18 = .ok (.bipush (-101), 2) := by decide +kernel
theorem dX10_rule_20 : decode cX10_rule 20 = .ok (.ireturn, 1) := by decide +kernel
theorem dX10_rule_21 : decode cX10_rule 21 = .ok (.aload_n 0, 1) := by decide +kernel
theorem dX10_rule_22 : decode cX10_rule 22 = .ok (.iload_n 1, 1) := by decide +kernel
theorem dX10_rule_23 : decode cX10_rule 23 = .ok (.iload_n 2, 1) := by decide +kernel
theorem dX10_rule_24 : decode cX10_rule 24 = .ok (.iload_n 3, 1) := by decide +kernel
theorem dX10_rule_25 : decode cX10_rule 25 = .ok (.iload 4, 2) := by decide +kernel
theorem dX10_rule_27 : decode cX10_rule 27 = .ok (.invokevirtual 102, 3) := by decide +kernel
theorem dX10_rule_30 : decode cX10_rule 30 = .ok (.ifCond .ne 6, 3) := by decide +kernel
theorem dX10_rule_33 : decode cX10_rule 33 = .ok (.bipush (-102), 2) := by decide +kernel
theorem dX10_rule_35 : decode cX10_rule 35 = .ok (.ireturn, 1) := by decide +kernel
theorem dX10_rule_36 : decode cX10_rule 36 = .ok (.aload_n 0, 1) := by decide +kernel
theorem dX10_rule_37 : decode cX10_rule 37 = .ok (.getfield 19, 3) := by decide +kernel
theorem dX10_rule_40 : decode cX10_rule 40 = .ok (.new 105, 3) := by decide +kernel
theorem dX10_rule_43 : decode cX10_rule 43 = .ok (.dup, 1) := by decide +kernel
theorem dX10_rule_44 : decode cX10_rule 44 = .ok (.iload_n 1, 1) := by decide +kernel
theorem dX10_rule_45 : decode cX10_rule 45 = .ok (.iload_n 2, 1) := by decide +kernel
theorem dX10_rule_46 : decode cX10_rule 46 = .ok (.iload_n 3, 1) := by decide +kernel
theorem dX10_rule_47 : decode cX10_rule 47 = .ok (.iload 4, 2) := by decide +kernel
theorem dX10_rule_49 : decode cX10_rule 49 = .ok (.invokespecial 107, 3) := by decide +kernel
theorem dX10_rule_52 : decode cX10_rule 52 = .ok (.invokevirtual 110, 3) := by decide +kernel
theorem dX10_rule_55 : decode cX10_rule 55 = .ok (.ireturn, 1) := by decide +kernel
theorem dX10_clear_0 : decode cX10_clear 0 = .ok (.aload_n 0, 1) := by decide +kernel
theorem dX10_clear_1 : decode cX10_clear 1 = .ok (.getfield 44, 3) := by decide +kernel
theorem dX10_clear_4 : decode cX10_clear 4 = .ok (.invokevirtual 114, 3) := by decide +kernel
theorem dX10_clear_7 : decode cX10_clear 7 = .ok (.aload_n 0, 1) := by decide +kernel
theorem dX10_clear_8 : decode cX10_clear 8 = .ok (.getfield 19, 3) := by decide +kernel
theorem dX10_clear_11 : decode cX10_clear 11 = .ok (.invokevirtual 117, 3) := by decide +kernel
theorem dX10_clear_14 : decode cX10_clear 14 = .ok (.ireturn, 1) := by decide +kernel
theorem dX10_about_0 : decode cX10_about 0 = .ok (.iload_n 1, 1) := by decide +kernel
theorem dX10_about_1 : decode cX10_about 1 = .ok (.tableswitch 84 0 5 #[39, 47, 55, 63, 71, 79], 39) := by decide +kernel
theorem dX10_about_40 : decode cX10_about 40 = .ok (.aload_n 0, 1) := by decide +kernel
theorem dX10_about_41 : decode cX10_about 41 = .ok (.getfield 12, 3) := by decide +kernel
theorem dX10_about_44 : decode cX10_about 44 = .ok (.getfield 121, 3) := by decide +kernel
theorem dX10_about_47 : decode cX10_about 47 = .ok (.ireturn, 1) := by decide +kernel
theorem dX10_about_48 : decode cX10_about 48 = .ok (.aload_n 0, 1) := by decide +kernel
theorem dX10_about_49 : decode cX10_about 49 = .ok (.getfield 12, 3) := by decide +kernel
theorem dX10_about_52 : decode cX10_about 52 = .ok (.getfield 124, 3) := by decide +kernel
theorem dX10_about_55 : decode cX10_about 55 = .ok (.ireturn, 1) := by decide +kernel
theorem dX10_about_56 : decode cX10_about 56 = .ok (.aload_n 0, 1) := by decide +kernel
theorem dX10_about_57 : decode cX10_about 57 = .ok (.getfield 12, 3) := by decide +kernel
theorem dX10_about_60 : decode cX10_about 60 = .ok (.getfield 95, 3) := by decide +kernel
theorem dX10_about_63 : decode cX10_about 63 = .ok (.ireturn, 1) := by decide +kernel
theorem dX10_about_64 : decode cX10_about 64 = .ok (.aload_n 0, 1) := by decide +kernel
theorem dX10_about_65 : decode cX10_about 65 = .ok (.getfield 19, 3) := by decide +kernel
theorem dX10_about_68 : decode cX10_about 68 = .ok (.getfield 127, 3) := by decide +kernel
theorem dX10_about_71 : decode cX10_about 71 = .ok (.ireturn, 1) := by decide +kernel
theorem dX10_about_72 : decode cX10_about 72 = .ok (.aload_n 0, 1) := by decide +kernel
theorem dX10_about_73 : decode cX10_about 73 = .ok (.getfield 26, 3) := by decide +kernel
theorem dX10_about_76 : decode cX10_about 76 = .ok (.getfield 130, 3) := by decide +kernel
theorem dX10_about_79 : decode cX10_about 79 = .ok (.ireturn, 1) := by decide +kernel
theorem dX10_about_80 : decode cX10_about 80 = .ok (.aload_n 0, 1) := by decide +kernel
theorem dX10_about_81 : decode cX10_about 81 = .ok (.getfield 70, 3) := by decide +kernel
theorem dX10_about_84 : decode cX10_about 84 = .ok (.ireturn, 1) := by decide +kernel
theorem dX10_about_85 : decode cX10_about 85 = .ok (.iload_n 1, 1) := by decide +kernel
theorem dX10_about_86 : decode cX10_about 86 = .ok (.bipush 10, 2) := by decide +kernel
theorem dX10_about_88 : decode cX10_about 88 = .ok (.if_icmp .lt 17, 3) := by decide +kernel
theorem dX10_about_91 : decode cX10_about 91 = .ok (.aload_n 0, 1) := by decide +kernel
theorem dX10_about_92 : decode cX10_about 92 = .ok (.getfield 12, 3) := by decide +kernel
theorem dX10_about_95 : decode cX10_about 95 = .ok (.iload_n 1, 1) := by decide +kernel
theorem dX10_about_96 : decode cX10_about 96 = .ok (.bipush 10, 2) := by decide +kernel
theorem dX10_about_98 : decode cX10_about 98 = .ok (.isub, 1) := by decide +kernel
theorem dX10_about_99 : decode cX10_about 99 = .ok (.invokevirtual 74, 3) := by decide +kernel
theorem dX10_about_102 : decode cX10_about 102 = .ok (.ifCond .ne 6, 3) := by decide +kernel
theorem dX10_about_105 : decode cX10_about 105 = .ok (.bipush (-102), 2) := by decide +kernel
theorem dX10_about_107 : decode cX10_about 107 = .ok (.ireturn, 1) := by decide +kernel
theorem dX10_about_108 : decode cX10_about 108 = .ok (.aload_n 0, 1) := by decide +kernel
theorem dX10_about_109 : decode cX10_about 109 = .ok (.getfield 12, 3) := by decide +kernel
theorem dX10_about_112 : decode cX10_about 112 = .ok (.iload_n 1, 1) := by decide +kernel
theorem dX10_about_113 : decode cX10_about 113 = .ok (.bipush 10, 2) := by decide +kernel
theorem dX10_about_115 : decode cX10_about 115 = .ok (.isub, 1) := by decide +kernel
theorem dX10_about_116 : decode cX10_about 116 = .ok (.invokevirtual 131, 3) := by decide +kernel
theorem dX10_about_119 : decode cX10_about 119 = .ok (.ireturn, 1) := by decide +kernel
theorem dX10_many_0 : decode cX10_many 0 = .ok (.aload_n 0, 1) := by decide +kernel
theorem dX10_many_1 : decode cX10_many 1 = .ok (.getfield 44, 3) := by decide +kernel
theorem dX10_many_4 : decode cX10_many 4 = .ok (.invokevirtual 134, 3) := by decide +kernel
theorem dX10_many_7 : decode cX10_many 7 = .ok (.ifCond .eq 16, 3) := by decide +kernel
theorem dX10_many_10 : decode cX10_many 10 = .ok (.aload_n 0, 1) := by decide +kernel
theorem dX10_many_11 : decode cX10_many 11 = .ok (.getfield 44, 3) := by decide +kernel
theorem dX10_many_14 : decode cX10_many 14 = .ok (.getfield 138, 3) := by decide +kernel
theorem dX10_many_17 : decode cX10_many 17 = .ok (.getfield 142, 3) := by decide +kernel
theorem dX10_many_20 : decode cX10_many 20 = .ok (.goto 5, 3) := by decide +kernel
theorem dX10_many_23 : decode cX10_many 23 = .ok (.bipush (-104), 2) := by decide +kernel
theorem dX10_many_25 : decode cX10_many 25 = .ok (.ireturn, 1) := by decide +kernel
theorem dX10_kept_0 : decode cX10_kept 0 = .ok (.aload_n 0, 1) := by decide +kernel
theorem dX10_kept_1 : decode cX10_kept 1 = .ok (.getfield 44, 3) := by decide +kernel
theorem dX10_kept_4 : decode cX10_kept 4 = .ok (.invokevirtual 145, 3) := by decide +kernel
theorem dX10_kept_7 : decode cX10_kept 7 = .ok (.ifCond .eq 13, 3) := by decide +kernel
theorem dX10_kept_10 : decode cX10_kept 10 = .ok (.aload_n 0, 1) := by decide +kernel
theorem dX10_kept_11 : decode cX10_kept 11 = .ok (.getfield 44, 3) := by decide +kernel
theorem dX10_kept_14 : decode cX10_kept 14 = .ok (.getfield 148, 3) := by decide +kernel
theorem dX10_kept_17 : decode cX10_kept 17 = .ok (.goto 5, 3) := by decide +kernel
theorem dX10_kept_20 : decode cX10_kept 20 = .ok (.bipush (-104), 2) := by decide +kernel
theorem dX10_kept_22 : decode cX10_kept 22 = .ok (.ireturn, 1) := by decide +kernel
theorem dX10_choice_0 : decode cX10_choice 0 = .ok (.aload_n 0, 1) := by decide +kernel
theorem dX10_choice_1 : decode cX10_choice 1 = .ok (.getfield 44, 3) := by decide +kernel
theorem dX10_choice_4 : decode cX10_choice 4 = .ok (.invokevirtual 145, 3) := by decide +kernel
theorem dX10_choice_7 : decode cX10_choice 7 = .ok (.ifCond .ne 6, 3) := by decide +kernel
theorem dX10_choice_10 : decode cX10_choice 10 = .ok (.bipush (-104), 2) := by decide +kernel
theorem dX10_choice_12 : decode cX10_choice 12 = .ok (.ireturn, 1) := by decide +kernel
theorem dX10_choice_13 : decode cX10_choice 13 = .ok (.aload_n 0, 1) := by decide +kernel
theorem dX10_choice_14 : decode cX10_choice 14 = .ok (.getfield 44, 3) := by decide +kernel
theorem dX10_choice_17 : decode cX10_choice 17 = .ok (.iload_n 1, 1) := by decide +kernel
theorem dX10_choice_18 : decode cX10_choice 18 = .ok (.invokevirtual 151, 3) := by decide +kernel
theorem dX10_choice_21 : decode cX10_choice 21 = .ok (.ifCond .eq 7, 3) := by decide +kernel
theorem dX10_choice_24 : decode cX10_choice 24 = .ok (.iload_n 2, 1) := by decide +kernel
theorem dX10_choice_25 : decode cX10_choice 25 = .ok (.ifCond .ge 6, 3) := by decide +kernel
theorem dX10_choice_28 : decode cX10_choice 28 = .ok (.bipush (-101), 2) := by decide +kernel
theorem dX10_choice_30 : decode cX10_choice 30 = .ok (.ireturn, 1) := by decide +kernel
theorem dX10_choice_31 : decode cX10_choice 31 = .ok (.aload_n 0, 1) := by decide +kernel
theorem dX10_choice_32 : decode cX10_choice 32 = .ok (.getfield 35, 3) := by decide +kernel
theorem dX10_choice_35 : decode cX10_choice 35 = .ok (.iload_n 2, 1) := by decide +kernel
theorem dX10_choice_36 : decode cX10_choice 36 = .ok (.invokevirtual 154, 3) := by decide +kernel
theorem dX10_choice_39 : decode cX10_choice 39 = .ok (.ireturn, 1) := by decide +kernel
theorem dX10_object_0 : decode cX10_object 0 = .ok (.aload_n 0, 1) := by decide +kernel
theorem dX10_object_1 : decode cX10_object 1 = .ok (.getfield 44, 3) := by decide +kernel
theorem dX10_object_4 : decode cX10_object 4 = .ok (.invokevirtual 145, 3) := by decide +kernel
theorem dX10_object_7 : decode cX10_object 7 = .ok (.ifCond .ne 6, 3) := by decide +kernel
theorem dX10_object_10 : decode cX10_object 10 = .ok (.bipush (-104), 2) := by decide +kernel
theorem dX10_object_12 : decode cX10_object 12 = .ok (.ireturn, 1) := by decide +kernel
theorem dX10_object_13 : decode cX10_object 13 = .ok (.aload_n 0, 1) := by decide +kernel
theorem dX10_object_14 : decode cX10_object 14 = .ok (.getfield 44, 3) := by decide +kernel
theorem dX10_object_17 : decode cX10_object 17 = .ok (.iload_n 1, 1) := by decide +kernel
theorem dX10_object_18 : decode cX10_object 18 = .ok (.invokevirtual 151, 3) := by decide +kernel
theorem dX10_object_21 : decode cX10_object 21 = .ok (.ifCond .eq 14, 3) := by decide +kernel
theorem dX10_object_24 : decode cX10_object 24 = .ok (.aload_n 0, 1) := by decide +kernel
theorem dX10_object_25 : decode cX10_object 25 = .ok (.getfield 35, 3) := by decide +kernel
theorem dX10_object_28 : decode cX10_object 28 = .ok (.iload_n 2, 1) := by decide +kernel
theorem dX10_object_29 : decode cX10_object 29 = .ok (.invokevirtual 157, 3) := by decide +kernel
theorem dX10_object_32 : decode cX10_object 32 = .ok (.ifCond .ne 6, 3) := by decide +kernel
theorem dX10_object_35 : decode cX10_object 35 = .ok (.bipush (-101), 2) := by decide +kernel
theorem dX10_object_37 : decode cX10_object 37 = .ok (.ireturn, 1) := by decide +kernel
theorem dX10_object_38 : decode cX10_object 38 = .ok (.iload_n 3, 1) := by decide +kernel
theorem dX10_object_39 : decode cX10_object 39 = .ok (.ifCond .ne 12, 3) := by decide +kernel
theorem dX10_object_42 : decode cX10_object 42 = .ok (.aload_n 0, 1) := by decide +kernel
theorem dX10_object_43 : decode cX10_object 43 = .ok (.getfield 35, 3) := by decide +kernel
theorem dX10_object_46 : decode cX10_object 46 = .ok (.iload_n 2, 1) := by decide +kernel
theorem dX10_object_47 : decode cX10_object 47 = .ok (.invokevirtual 160, 3) := by decide +kernel
theorem dX10_object_50 : decode cX10_object 50 = .ok (.ireturn, 1) := by decide +kernel
theorem dX10_object_51 : decode cX10_object 51 = .ok (.iload_n 3, 1) := by decide +kernel
theorem dX10_object_52 : decode cX10_object 52 = .ok (.iconst 1, 1) := by decide +kernel
theorem dX10_object_53 : decode cX10_object 53 = .ok (.if_icmp .lt 22, 3) := by decide +kernel
theorem dX10_object_56 : decode cX10_object 56 = .ok (.iload_n 3, 1) := by decide +kernel
theorem dX10_object_57 : decode cX10_object 57 = .ok (.aload_n 0, 1) := by decide +kernel
theorem dX10_object_58 : decode cX10_object 58 = .ok (.getfield 12, 3) := by decide +kernel
theorem dX10_object_61 : decode cX10_object 61 = .ok (.aload_n 0, 1) := by decide +kernel
theorem dX10_object_62 : decode cX10_object 62 = .ok (.getfield 35, 3) := by decide +kernel
theorem dX10_object_65 : decode cX10_object 65 = .ok (.iload_n 2, 1) := by decide +kernel
theorem dX10_object_66 : decode cX10_object 66 = .ok (.invokevirtual 160, 3) := by decide +kernel
theorem dX10_object_69 : decode cX10_object 69 = .ok (.invokevirtual 131, 3) := by decide +kernel
theorem dX10_object_72 : decode cX10_object 72 = .ok (.if_icmp .le 6, 3) := by decide +kernel
theorem dX10_object_75 : decode cX10_object 75 = .ok (.bipush (-102), 2) := by decide +kernel
theorem dX10_object_77 : decode cX10_object 77 = .ok (.ireturn, 1) := by decide +kernel
theorem dX10_object_78 : decode cX10_object 78 = .ok (.aload_n 0, 1) := by decide +kernel
theorem dX10_object_79 : decode cX10_object 79 = .ok (.getfield 35, 3) := by decide +kernel
theorem dX10_object_82 : decode cX10_object 82 = .ok (.iload_n 2, 1) := by decide +kernel
theorem dX10_object_83 : decode cX10_object 83 = .ok (.iload_n 3, 1) := by decide +kernel
theorem dX10_object_84 : decode cX10_object 84 = .ok (.iconst 1, 1) := by decide +kernel
theorem dX10_object_85 : decode cX10_object 85 = .ok (.isub, 1) := by decide +kernel
theorem dX10_object_86 : decode cX10_object 86 = .ok (.invokevirtual 163, 3) := by decide +kernel
theorem dX10_object_89 : decode cX10_object 89 = .ok (.ireturn, 1) := by decide +kernel
theorem dX10_put_0 : decode cX10_put 0 = .ok (.aload_n 0, 1) := by decide +kernel
theorem dX10_put_1 : decode cX10_put 1 = .ok (.getfield 70, 3) := by decide +kernel
theorem dX10_put_4 : decode cX10_put 4 = .ok (.bipush 40, 2) := by decide +kernel
theorem dX10_put_6 : decode cX10_put 6 = .ok (.if_icmp .lt 6, 3) := by decide +kernel
theorem dX10_put_9 : decode cX10_put 9 = .ok (.bipush (-104), 2) := by decide +kernel
theorem dX10_put_11 : decode cX10_put 11 = .ok (.ireturn, 1) := by decide +kernel
theorem dX10_put_12 : decode cX10_put 12 = .ok (.aload_n 0, 1) := by decide +kernel
theorem dX10_put_13 : decode cX10_put 13 = .ok (.getfield 66, 3) := by decide +kernel
theorem dX10_put_16 : decode cX10_put 16 = .ok (.aload_n 0, 1) := by decide +kernel
theorem dX10_put_17 : decode cX10_put 17 = .ok (.getfield 70, 3) := by decide +kernel
theorem dX10_put_20 : decode cX10_put 20 = .ok (.iload_n 1, 1) := by decide +kernel
theorem dX10_put_21 : decode cX10_put 21 = .ok (.iastore, 1) := by decide +kernel
theorem dX10_put_22 : decode cX10_put 22 = .ok (.aload_n 0, 1) := by decide +kernel
theorem dX10_put_23 : decode cX10_put 23 = .ok (.dup, 1) := by decide +kernel
theorem dX10_put_24 : decode cX10_put 24 = .ok (.getfield 70, 3) := by decide +kernel
theorem dX10_put_27 : decode cX10_put 27 = .ok (.iconst 1, 1) := by decide +kernel
theorem dX10_put_28 : decode cX10_put 28 = .ok (.iadd, 1) := by decide +kernel
theorem dX10_put_29 : decode cX10_put 29 = .ok (.putfield 70, 3) := by decide +kernel
theorem dX10_put_32 : decode cX10_put 32 = .ok (.aload_n 0, 1) := by decide +kernel
theorem dX10_put_33 : decode cX10_put 33 = .ok (.getfield 70, 3) := by decide +kernel
theorem dX10_put_36 : decode cX10_put 36 = .ok (.ireturn, 1) := by decide +kernel
theorem dX10_empty_0 : decode cX10_empty 0 = .ok (.aload_n 0, 1) := by decide +kernel
theorem dX10_empty_1 : decode cX10_empty 1 = .ok (.getfield 70, 3) := by decide +kernel
theorem dX10_empty_4 : decode cX10_empty 4 = .ok (.istore_n 1, 1) := by decide +kernel
theorem dX10_empty_5 : decode cX10_empty 5 = .ok (.aload_n 0, 1) := by decide +kernel
theorem dX10_empty_6 : decode cX10_empty 6 = .ok (.iconst 0, 1) := by decide +kernel
theorem dX10_empty_7 : decode cX10_empty 7 = .ok (.putfield 70, 3) := by decide +kernel
theorem dX10_empty_10 : decode cX10_empty 10 = .ok (.iload_n 1, 1) := by decide +kernel
theorem dX10_empty_11 : decode cX10_empty 11 = .ok (.ireturn, 1) := by decide +kernel
theorem dX10_rank_0 : decode cX10_rank 0 = .ok (.aload_n 0, 1) := by decide +kernel
theorem dX10_rank_1 : decode cX10_rank 1 = .ok (.getfield 44, 3) := by decide +kernel
theorem dX10_rank_4 : decode cX10_rank 4 = .ok (.invokevirtual 145, 3) := by decide +kernel
theorem dX10_rank_7 : decode cX10_rank 7 = .ok (.ifCond .ne 6, 3) := by decide +kernel
theorem dX10_rank_10 : decode cX10_rank 10 = .ok (.bipush (-104), 2) := by decide +kernel
theorem dX10_rank_12 : decode cX10_rank 12 = .ok (.ireturn, 1) := by decide +kernel
theorem dX10_rank_13 : decode cX10_rank 13 = .ok (.aload_n 0, 1) := by decide +kernel
theorem dX10_rank_14 : decode cX10_rank 14 = .ok (.getfield 35, 3) := by decide +kernel
theorem dX10_rank_17 : decode cX10_rank 17 = .ok (.aload_n 0, 1) := by decide +kernel
theorem dX10_rank_18 : decode cX10_rank 18 = .ok (.getfield 66, 3) := by decide +kernel
theorem dX10_rank_21 : decode cX10_rank 21 = .ok (.aload_n 0, 1) := by decide +kernel
theorem dX10_rank_22 : decode cX10_rank 22 = .ok (.getfield 70, 3) := by decide +kernel
theorem dX10_rank_25 : decode cX10_rank 25 = .ok (.invokevirtual 167, 3) := by decide +kernel
theorem dX10_rank_28 : decode cX10_rank 28 = .ok (.istore_n 1, 1) := by decide +kernel
theorem dX10_rank_29 : decode cX10_rank 29 = .ok (.iload_n 1, 1) := by decide +kernel
theorem dX10_rank_30 : decode cX10_rank 30 = .ok (.iconst (-1), 1) := by decide +kernel
theorem dX10_rank_31 : decode cX10_rank 31 = .ok (.if_icmp .eq 8, 3) := by decide +kernel
theorem dX10_rank_34 : decode cX10_rank 34 = .ok (.bipush (-10), 2) := by decide +kernel
theorem dX10_rank_36 : decode cX10_rank 36 = .ok (.iload_n 1, 1) := by decide +kernel
theorem dX10_rank_37 : decode cX10_rank 37 = .ok (.isub, 1) := by decide +kernel
theorem dX10_rank_38 : decode cX10_rank 38 = .ok (.ireturn, 1) := by decide +kernel
theorem dX10_rank_39 : decode cX10_rank 39 = .ok (.aload_n 0, 1) := by decide +kernel
theorem dX10_rank_40 : decode cX10_rank 40 = .ok (.getfield 44, 3) := by decide +kernel
theorem dX10_rank_43 : decode cX10_rank 43 = .ok (.aload_n 0, 1) := by decide +kernel
theorem dX10_rank_44 : decode cX10_rank 44 = .ok (.getfield 44, 3) := by decide +kernel
theorem dX10_rank_47 : decode cX10_rank 47 = .ok (.getfield 138, 3) := by decide +kernel
theorem dX10_rank_50 : decode cX10_rank 50 = .ok (.aload_n 0, 1) := by decide +kernel
theorem dX10_rank_51 : decode cX10_rank 51 = .ok (.getfield 66, 3) := by decide +kernel
theorem dX10_rank_54 : decode cX10_rank 54 = .ok (.aload_n 0, 1) := by decide +kernel
theorem dX10_rank_55 : decode cX10_rank 55 = .ok (.getfield 70, 3) := by decide +kernel
theorem dX10_rank_58 : decode cX10_rank 58 = .ok (.invokevirtual 171, 3) := by decide +kernel
theorem dX10_rank_61 : decode cX10_rank 61 = .ok (.invokevirtual 174, 3) := by decide +kernel
theorem dX10_rank_64 : decode cX10_rank 64 = .ok (.ireturn, 1) := by decide +kernel
theorem dX10_step_0 : decode cX10_step 0 = .ok (.iload_n 1, 1) := by decide +kernel
theorem dX10_step_1 : decode cX10_step 1 = .ok (.ifCond .lt 24, 3) := by decide +kernel
theorem dX10_step_4 : decode cX10_step 4 = .ok (.iload_n 1, 1) := by decide +kernel
theorem dX10_step_5 : decode cX10_step 5 = .ok (.iconst 2, 1) := by decide +kernel
theorem dX10_step_6 : decode cX10_step 6 = .ok (.if_icmp .gt 19, 3) := by decide +kernel
theorem dX10_step_9 : decode cX10_step 9 = .ok (.iload_n 2, 1) := by decide +kernel
theorem dX10_step_10 : decode cX10_step 10 = .ok (.invokestatic 177, 3) := by decide +kernel
theorem dX10_step_13 : decode cX10_step 13 = .ok (.ifCond .eq 12, 3) := by decide +kernel
theorem dX10_step_16 : decode cX10_step 16 = .ok (.iload_n 3, 1) := by decide +kernel
theorem dX10_step_17 : decode cX10_step 17 = .ok (.ifCond .lt 8, 3) := by decide +kernel
theorem dX10_step_20 : decode cX10_step 20 = .ok (.iload_n 3, 1) := by decide +kernel
theorem dX10_step_21 : decode cX10_step 21 = .ok (.iconst 4, 1) := by decide +kernel
theorem dX10_step_22 : decode cX10_step 22 = .ok (.if_icmp .lt 6, 3) := by decide +kernel
theorem dX10_step_25 : decode cX10_step 25 = .ok (.bipush (-102), 2) := by decide +kernel
theorem dX10_step_27 : decode cX10_step 27 = .ok (.ireturn, 1) := by decide +kernel
theorem dX10_step_28 : decode cX10_step 28 = .ok (.iload_n 1, 1) := by decide +kernel
theorem dX10_step_29 : decode cX10_step 29 = .ok (.iconst 2, 1) := by decide +kernel
theorem dX10_step_30 : decode cX10_step 30 = .ok (.if_icmp .eq 17, 3) := by decide +kernel
theorem dX10_step_33 : decode cX10_step 33 = .ok (.iload 4, 2) := by decide +kernel
theorem dX10_step_35 : decode cX10_step 35 = .ok (.ifCond .lt 9, 3) := by decide +kernel
theorem dX10_step_38 : decode cX10_step 38 = .ok (.iload 4, 2) := by decide +kernel
theorem dX10_step_40 : decode cX10_step 40 = .ok (.iconst 3, 1) := by decide +kernel
theorem dX10_step_41 : decode cX10_step 41 = .ok (.if_icmp .le 6, 3) := by decide +kernel
theorem dX10_step_44 : decode cX10_step 44 = .ok (.bipush (-102), 2) := by decide +kernel
theorem dX10_step_46 : decode cX10_step 46 = .ok (.ireturn, 1) := by decide +kernel
theorem dX10_step_47 : decode cX10_step 47 = .ok (.iload_n 1, 1) := by decide +kernel
theorem dX10_step_48 : decode cX10_step 48 = .ok (.ifCond .eq 18, 3) := by decide +kernel
theorem dX10_step_51 : decode cX10_step 51 = .ok (.iload 5, 2) := by decide +kernel
theorem dX10_step_53 : decode cX10_step 53 = .ok (.ifCond .lt 10, 3) := by decide +kernel
theorem dX10_step_56 : decode cX10_step 56 = .ok (.iload 5, 2) := by decide +kernel
theorem dX10_step_58 : decode cX10_step 58 = .ok (.bipush 16, 2) := by decide +kernel
theorem dX10_step_60 : decode cX10_step 60 = .ok (.if_icmp .le 6, 3) := by decide +kernel
theorem dX10_step_63 : decode cX10_step 63 = .ok (.bipush (-102), 2) := by decide +kernel
theorem dX10_step_65 : decode cX10_step 65 = .ok (.ireturn, 1) := by decide +kernel
theorem dX10_step_66 : decode cX10_step 66 = .ok (.aload_n 0, 1) := by decide +kernel
theorem dX10_step_67 : decode cX10_step 67 = .ok (.getfield 62, 3) := by decide +kernel
theorem dX10_step_70 : decode cX10_step 70 = .ok (.invokevirtual 180, 3) := by decide +kernel
theorem dX10_step_73 : decode cX10_step 73 = .ok (.aload_n 0, 1) := by decide +kernel
theorem dX10_step_74 : decode cX10_step 74 = .ok (.getfield 26, 3) := by decide +kernel
theorem dX10_step_77 : decode cX10_step 77 = .ok (.new 183, 3) := by decide +kernel
theorem dX10_step_80 : decode cX10_step 80 = .ok (.dup, 1) := by decide +kernel
theorem dX10_step_81 : decode cX10_step 81 = .ok (.iload_n 1, 1) := by decide +kernel
theorem dX10_step_82 : decode cX10_step 82 = .ok (.iload_n 2, 1) := by decide +kernel
theorem dX10_step_83 : decode cX10_step 83 = .ok (.iload_n 3, 1) := by decide +kernel
theorem dX10_step_84 : decode cX10_step 84 = .ok (.iload 4, 2) := by decide +kernel
theorem dX10_step_86 : decode cX10_step 86 = .ok (.iload 5, 2) := by decide +kernel
theorem dX10_step_88 : decode cX10_step 88 = .ok (.invokespecial 185, 3) := by decide +kernel
theorem dX10_step_91 : decode cX10_step 91 = .ok (.invokevirtual 188, 3) := by decide +kernel
theorem dX10_step_94 : decode cX10_step 94 = .ok (.ireturn, 1) := by decide +kernel
theorem dX10_erase_0 : decode cX10_erase 0 = .ok (.aload_n 0, 1) := by decide +kernel
theorem dX10_erase_1 : decode cX10_erase 1 = .ok (.getfield 62, 3) := by decide +kernel
theorem dX10_erase_4 : decode cX10_erase 4 = .ok (.invokevirtual 180, 3) := by decide +kernel
theorem dX10_erase_7 : decode cX10_erase 7 = .ok (.aload_n 0, 1) := by decide +kernel
theorem dX10_erase_8 : decode cX10_erase 8 = .ok (.getfield 26, 3) := by decide +kernel
theorem dX10_erase_11 : decode cX10_erase 11 = .ok (.invokevirtual 191, 3) := by decide +kernel
theorem dX10_erase_14 : decode cX10_erase 14 = .ok (.ireturn, 1) := by decide +kernel
theorem dX10_ends_0 : decode cX10_ends 0 = .ok (.aload_n 0, 1) := by decide +kernel
theorem dX10_ends_1 : decode cX10_ends 1 = .ok (.getfield 62, 3) := by decide +kernel
theorem dX10_ends_4 : decode cX10_ends 4 = .ok (.aload_n 0, 1) := by decide +kernel
theorem dX10_ends_5 : decode cX10_ends 5 = .ok (.getfield 26, 3) := by decide +kernel
theorem dX10_ends_8 : decode cX10_ends 8 = .ok (.invokevirtual 192, 3) := by decide +kernel
theorem dX10_ends_11 : decode cX10_ends 11 = .ok (.ifCond .eq 13, 3) := by decide +kernel
theorem dX10_ends_14 : decode cX10_ends 14 = .ok (.aload_n 0, 1) := by decide +kernel
theorem dX10_ends_15 : decode cX10_ends 15 = .ok (.getfield 62, 3) := by decide +kernel
theorem dX10_ends_18 : decode cX10_ends 18 = .ok (.getfield 196, 3) := by decide +kernel
theorem dX10_ends_21 : decode cX10_ends 21 = .ok (.goto 5, 3) := by decide +kernel
theorem dX10_ends_24 : decode cX10_ends 24 = .ok (.bipush (-104), 2) := by decide +kernel
theorem dX10_ends_26 : decode cX10_ends 26 = .ok (.ireturn, 1) := by decide +kernel
theorem dX10_end_0 : decode cX10_end 0 = .ok (.aload_n 0, 1) := by decide +kernel
theorem dX10_end_1 : decode cX10_end 1 = .ok (.getfield 62, 3) := by decide +kernel
theorem dX10_end_4 : decode cX10_end 4 = .ok (.aload_n 0, 1) := by decide +kernel
theorem dX10_end_5 : decode cX10_end 5 = .ok (.getfield 26, 3) := by decide +kernel
theorem dX10_end_8 : decode cX10_end 8 = .ok (.invokevirtual 192, 3) := by decide +kernel
theorem dX10_end_11 : decode cX10_end 11 = .ok (.ifCond .ne 6, 3) := by decide +kernel
theorem dX10_end_14 : decode cX10_end 14 = .ok (.bipush (-104), 2) := by decide +kernel
theorem dX10_end_16 : decode cX10_end 16 = .ok (.ireturn, 1) := by decide +kernel
theorem dX10_end_17 : decode cX10_end 17 = .ok (.aload_n 0, 1) := by decide +kernel
theorem dX10_end_18 : decode cX10_end 18 = .ok (.getfield 62, 3) := by decide +kernel
theorem dX10_end_21 : decode cX10_end 21 = .ok (.iload_n 1, 1) := by decide +kernel
theorem dX10_end_22 : decode cX10_end 22 = .ok (.aload_n 0, 1) := by decide +kernel
theorem dX10_end_23 : decode cX10_end 23 = .ok (.getfield 26, 3) := by decide +kernel
theorem dX10_end_26 : decode cX10_end 26 = .ok (.invokevirtual 197, 3) := by decide +kernel
theorem dX10_end_29 : decode cX10_end 29 = .ok (.ifCond .ne 6, 3) := by decide +kernel
theorem dX10_end_32 : decode cX10_end 32 = .ok (.bipush (-101), 2) := by decide +kernel
theorem dX10_end_34 : decode cX10_end 34 = .ok (.ireturn, 1) := by decide +kernel
theorem dX10_end_35 : decode cX10_end 35 = .ok (.iload_n 2, 1) := by decide +kernel
theorem dX10_end_36 : decode cX10_end 36 = .ok (.tableswitch 93 0 4 #[36, 44, 52, 61, 85], 36) := by decide +kernel
theorem dX10_end_72 : decode cX10_end 72 = .ok (.aload_n 0, 1) := by decide +kernel
theorem dX10_end_73 : decode cX10_end 73 = .ok (.getfield 53, 3) := by decide +kernel
theorem dX10_end_76 : decode cX10_end 76 = .ok (.getfield 201, 3) := by decide +kernel
theorem dX10_end_79 : decode cX10_end 79 = .ok (.ireturn, 1) := by decide +kernel
theorem dX10_end_80 : decode cX10_end 80 = .ok (.aload_n 0, 1) := by decide +kernel
theorem dX10_end_81 : decode cX10_end 81 = .ok (.getfield 53, 3) := by decide +kernel
theorem dX10_end_84 : decode cX10_end 84 = .ok (.getfield 204, 3) := by decide +kernel
theorem dX10_end_87 : decode cX10_end 87 = .ok (.ireturn, 1) := by decide +kernel
theorem dX10_end_88 : decode cX10_end 88 = .ok (.aload_n 0, 1) := by decide +kernel
theorem dX10_end_89 : decode cX10_end 89 = .ok (.getfield 62, 3) := by decide +kernel
theorem dX10_end_92 : decode cX10_end 92 = .ok (.iload_n 1, 1) := by decide +kernel
theorem dX10_end_93 : decode cX10_end 93 = .ok (.invokevirtual 207, 3) := by decide +kernel
theorem dX10_end_96 : decode cX10_end 96 = .ok (.ireturn, 1) := by decide +kernel
theorem dX10_end_97 : decode cX10_end 97 = .ok (.aload_n 0, 1) := by decide +kernel
theorem dX10_end_98 : decode cX10_end 98 = .ok (.getfield 44, 3) := by decide +kernel
theorem dX10_end_101 : decode cX10_end 101 = .ok (.invokevirtual 145, 3) := by decide +kernel
theorem dX10_end_104 : decode cX10_end 104 = .ok (.ifCond .eq 14, 3) := by decide +kernel
theorem dX10_end_107 : decode cX10_end 107 = .ok (.aload_n 0, 1) := by decide +kernel
theorem dX10_end_108 : decode cX10_end 108 = .ok (.getfield 62, 3) := by decide +kernel
theorem dX10_end_111 : decode cX10_end 111 = .ok (.iload_n 1, 1) := by decide +kernel
theorem dX10_end_112 : decode cX10_end 112 = .ok (.invokevirtual 210, 3) := by decide +kernel
theorem dX10_end_115 : decode cX10_end 115 = .ok (.goto 5, 3) := by decide +kernel
theorem dX10_end_118 : decode cX10_end 118 = .ok (.bipush (-104), 2) := by decide +kernel
theorem dX10_end_120 : decode cX10_end 120 = .ok (.ireturn, 1) := by decide +kernel
theorem dX10_end_121 : decode cX10_end 121 = .ok (.aload_n 0, 1) := by decide +kernel
theorem dX10_end_122 : decode cX10_end 122 = .ok (.getfield 53, 3) := by decide +kernel
theorem dX10_end_125 : decode cX10_end 125 = .ok (.getfield 213, 3) := by decide +kernel
theorem dX10_end_128 : decode cX10_end 128 = .ok (.ireturn, 1) := by decide +kernel
theorem dX10_end_129 : decode cX10_end 129 = .ok (.bipush (-102), 2) := by decide +kernel
theorem dX10_end_131 : decode cX10_end 131 = .ok (.ireturn, 1) := by decide +kernel
theorem dX10_look_0 : decode cX10_look 0 = .ok (.aload_n 0, 1) := by decide +kernel
theorem dX10_look_1 : decode cX10_look 1 = .ok (.getfield 62, 3) := by decide +kernel
theorem dX10_look_4 : decode cX10_look 4 = .ok (.aload_n 0, 1) := by decide +kernel
theorem dX10_look_5 : decode cX10_look 5 = .ok (.getfield 26, 3) := by decide +kernel
theorem dX10_look_8 : decode cX10_look 8 = .ok (.invokevirtual 192, 3) := by decide +kernel
theorem dX10_look_11 : decode cX10_look 11 = .ok (.ifCond .ne 6, 3) := by decide +kernel
theorem dX10_look_14 : decode cX10_look 14 = .ok (.bipush (-104), 2) := by decide +kernel
theorem dX10_look_16 : decode cX10_look 16 = .ok (.ireturn, 1) := by decide +kernel
theorem dX10_look_17 : decode cX10_look 17 = .ok (.aload_n 0, 1) := by decide +kernel
theorem dX10_look_18 : decode cX10_look 18 = .ok (.getfield 62, 3) := by decide +kernel
theorem dX10_look_21 : decode cX10_look 21 = .ok (.iload_n 1, 1) := by decide +kernel
theorem dX10_look_22 : decode cX10_look 22 = .ok (.aload_n 0, 1) := by decide +kernel
theorem dX10_look_23 : decode cX10_look 23 = .ok (.getfield 26, 3) := by decide +kernel
theorem dX10_look_26 : decode cX10_look 26 = .ok (.invokevirtual 197, 3) := by decide +kernel
theorem dX10_look_29 : decode cX10_look 29 = .ok (.ifCond .eq 7, 3) := by decide +kernel
theorem dX10_look_32 : decode cX10_look 32 = .ok (.iload_n 2, 1) := by decide +kernel
theorem dX10_look_33 : decode cX10_look 33 = .ok (.ifCond .ge 6, 3) := by decide +kernel
theorem dX10_look_36 : decode cX10_look 36 = .ok (.bipush (-101), 2) := by decide +kernel
theorem dX10_look_38 : decode cX10_look 38 = .ok (.ireturn, 1) := by decide +kernel
theorem dX10_look_39 : decode cX10_look 39 = .ok (.aload_n 0, 1) := by decide +kernel
theorem dX10_look_40 : decode cX10_look 40 = .ok (.getfield 53, 3) := by decide +kernel
theorem dX10_look_43 : decode cX10_look 43 = .ok (.iload_n 2, 1) := by decide +kernel
theorem dX10_look_44 : decode cX10_look 44 = .ok (.invokevirtual 216, 3) := by decide +kernel
theorem dX10_look_47 : decode cX10_look 47 = .ok (.ireturn, 1) := by decide +kernel
theorem dX10_endOf_0 : decode cX10_endOf 0 = .ok (.aload_n 0, 1) := by decide +kernel
theorem dX10_endOf_1 : decode cX10_endOf 1 = .ok (.getfield 44, 3) := by decide +kernel
theorem dX10_endOf_4 : decode cX10_endOf 4 = .ok (.invokevirtual 145, 3) := by decide +kernel
theorem dX10_endOf_7 : decode cX10_endOf 7 = .ok (.ifCond .eq 17, 3) := by decide +kernel
theorem dX10_endOf_10 : decode cX10_endOf 10 = .ok (.aload_n 0, 1) := by decide +kernel
theorem dX10_endOf_11 : decode cX10_endOf 11 = .ok (.getfield 62, 3) := by decide +kernel
theorem dX10_endOf_14 : decode cX10_endOf 14 = .ok (.aload_n 0, 1) := by decide +kernel
theorem dX10_endOf_15 : decode cX10_endOf 15 = .ok (.getfield 26, 3) := by decide +kernel
theorem dX10_endOf_18 : decode cX10_endOf 18 = .ok (.invokevirtual 192, 3) := by decide +kernel
theorem dX10_endOf_21 : decode cX10_endOf 21 = .ok (.ifCond .ne 6, 3) := by decide +kernel
theorem dX10_endOf_24 : decode cX10_endOf 24 = .ok (.bipush (-104), 2) := by decide +kernel
theorem dX10_endOf_26 : decode cX10_endOf 26 = .ok (.ireturn, 1) := by decide +kernel
theorem dX10_endOf_27 : decode cX10_endOf 27 = .ok (.aload_n 0, 1) := by decide +kernel
theorem dX10_endOf_28 : decode cX10_endOf 28 = .ok (.getfield 44, 3) := by decide +kernel
theorem dX10_endOf_31 : decode cX10_endOf 31 = .ok (.iload_n 1, 1) := by decide +kernel
theorem dX10_endOf_32 : decode cX10_endOf 32 = .ok (.invokevirtual 219, 3) := by decide +kernel
theorem dX10_endOf_35 : decode cX10_endOf 35 = .ok (.ifCond .ne 6, 3) := by decide +kernel
theorem dX10_endOf_38 : decode cX10_endOf 38 = .ok (.bipush (-101), 2) := by decide +kernel
theorem dX10_endOf_40 : decode cX10_endOf 40 = .ok (.ireturn, 1) := by decide +kernel
theorem dX10_endOf_41 : decode cX10_endOf 41 = .ok (.aload_n 0, 1) := by decide +kernel
theorem dX10_endOf_42 : decode cX10_endOf 42 = .ok (.getfield 62, 3) := by decide +kernel
theorem dX10_endOf_45 : decode cX10_endOf 45 = .ok (.aload_n 0, 1) := by decide +kernel
theorem dX10_endOf_46 : decode cX10_endOf 46 = .ok (.getfield 44, 3) := by decide +kernel
theorem dX10_endOf_49 : decode cX10_endOf 49 = .ok (.iload_n 1, 1) := by decide +kernel
theorem dX10_endOf_50 : decode cX10_endOf 50 = .ok (.invokevirtual 222, 3) := by decide +kernel
theorem dX10_endOf_53 : decode cX10_endOf 53 = .ok (.invokevirtual 225, 3) := by decide +kernel
theorem dX10_endOf_56 : decode cX10_endOf 56 = .ok (.ireturn, 1) := by decide +kernel
theorem dX10_forgetRows_0 : decode cX10_forgetRows 0 = .ok (.aload_n 0, 1) := by decide +kernel
theorem dX10_forgetRows_1 : decode cX10_forgetRows 1 = .ok (.getfield 44, 3) := by decide +kernel
theorem dX10_forgetRows_4 : decode cX10_forgetRows 4 = .ok (.invokevirtual 228, 3) := by decide +kernel
theorem dX10_forgetRows_7 : decode cX10_forgetRows 7 = .ok (.aload_n 0, 1) := by decide +kernel
theorem dX10_forgetRows_8 : decode cX10_forgetRows 8 = .ok (.getfield 62, 3) := by decide +kernel
theorem dX10_forgetRows_11 : decode cX10_forgetRows 11 = .ok (.invokevirtual 180, 3) := by decide +kernel
theorem dX10_forgetRows_14 : decode cX10_forgetRows 14 = .ok (.return_, 1) := by decide +kernel
theorem dX10_namesKnown_0 : decode cX10_namesKnown 0 = .ok (.aload_n 0, 1) := by decide +kernel
theorem dX10_namesKnown_1 : decode cX10_namesKnown 1 = .ok (.getfield 12, 3) := by decide +kernel
theorem dX10_namesKnown_4 : decode cX10_namesKnown 4 = .ok (.iload_n 2, 1) := by decide +kernel
theorem dX10_namesKnown_5 : decode cX10_namesKnown 5 = .ok (.iload_n 3, 1) := by decide +kernel
theorem dX10_namesKnown_6 : decode cX10_namesKnown 6 = .ok (.invokevirtual 229, 3) := by decide +kernel
theorem dX10_namesKnown_9 : decode cX10_namesKnown 9 = .ok (.ifCond .ne 5, 3) := by decide +kernel
theorem dX10_namesKnown_12 : decode cX10_namesKnown 12 = .ok (.iconst 0, 1) := by decide +kernel
theorem dX10_namesKnown_13 : decode cX10_namesKnown 13 = .ok (.ireturn, 1) := by decide +kernel
theorem dX10_namesKnown_14 : decode cX10_namesKnown 14 = .ok (.iload_n 1, 1) := by decide +kernel
theorem dX10_namesKnown_15 : decode cX10_namesKnown 15 = .ok (.ifCond .eq 19, 3) := by decide +kernel
theorem dX10_namesKnown_18 : decode cX10_namesKnown 18 = .ok (.iload 4, 2) := by decide +kernel
theorem dX10_namesKnown_20 : decode cX10_namesKnown 20 = .ok (.iconst (-1), 1) := by decide +kernel
theorem dX10_namesKnown_21 : decode cX10_namesKnown 21 = .ok (.if_icmp .ne 17, 3) := by decide +kernel
theorem dX10_namesKnown_24 : decode cX10_namesKnown 24 = .ok (.iload_n 1, 1) := by decide +kernel
theorem dX10_namesKnown_25 : decode cX10_namesKnown 25 = .ok (.iconst 1, 1) := by decide +kernel
theorem dX10_namesKnown_26 : decode cX10_namesKnown 26 = .ok (.if_icmp .eq 8, 3) := by decide +kernel
theorem dX10_namesKnown_29 : decode cX10_namesKnown 29 = .ok (.iload_n 1, 1) := by decide +kernel
theorem dX10_namesKnown_30 : decode cX10_namesKnown 30 = .ok (.iconst 2, 1) := by decide +kernel
theorem dX10_namesKnown_31 : decode cX10_namesKnown 31 = .ok (.if_icmp .ne 7, 3) := by decide +kernel
theorem dX10_namesKnown_34 : decode cX10_namesKnown 34 = .ok (.iconst 1, 1) := by decide +kernel
theorem dX10_namesKnown_35 : decode cX10_namesKnown 35 = .ok (.goto 4, 3) := by decide +kernel
theorem dX10_namesKnown_38 : decode cX10_namesKnown 38 = .ok (.iconst 0, 1) := by decide +kernel
theorem dX10_namesKnown_39 : decode cX10_namesKnown 39 = .ok (.istore 5, 2) := by decide +kernel
theorem dX10_namesKnown_41 : decode cX10_namesKnown 41 = .ok (.iload 5, 2) := by decide +kernel
theorem dX10_namesKnown_43 : decode cX10_namesKnown 43 = .ok (.ifCond .ne 16, 3) := by decide +kernel
theorem dX10_namesKnown_46 : decode cX10_namesKnown 46 = .ok (.aload_n 0, 1) := by decide +kernel
theorem dX10_namesKnown_47 : decode cX10_namesKnown 47 = .ok (.getfield 12, 3) := by decide +kernel
theorem dX10_namesKnown_50 : decode cX10_namesKnown 50 = .ok (.iload_n 2, 1) := by decide +kernel
theorem dX10_namesKnown_51 : decode cX10_namesKnown 51 = .ok (.iload 4, 2) := by decide +kernel
theorem dX10_namesKnown_53 : decode cX10_namesKnown 53 = .ok (.invokevirtual 229, 3) := by decide +kernel
theorem dX10_namesKnown_56 : decode cX10_namesKnown 56 = .ok (.ifCond .eq 7, 3) := by decide +kernel
theorem dX10_namesKnown_59 : decode cX10_namesKnown 59 = .ok (.iconst 1, 1) := by decide +kernel
theorem dX10_namesKnown_60 : decode cX10_namesKnown 60 = .ok (.goto 4, 3) := by decide +kernel
theorem dX10_namesKnown_63 : decode cX10_namesKnown 63 = .ok (.iconst 0, 1) := by decide +kernel
theorem dX10_namesKnown_64 : decode cX10_namesKnown 64 = .ok (.ireturn, 1) := by decide +kernel
theorem dX10_sortsFit_0 : decode cX10_sortsFit 0 = .ok (.aload_n 0, 1) := by decide +kernel
theorem dX10_sortsFit_1 : decode cX10_sortsFit 1 = .ok (.getfield 12, 3) := by decide +kernel
theorem dX10_sortsFit_4 : decode cX10_sortsFit 4 = .ok (.iload_n 2, 1) := by decide +kernel
theorem dX10_sortsFit_5 : decode cX10_sortsFit 5 = .ok (.iload_n 3, 1) := by decide +kernel
theorem dX10_sortsFit_6 : decode cX10_sortsFit 6 = .ok (.invokevirtual 233, 3) := by decide +kernel
theorem dX10_sortsFit_9 : decode cX10_sortsFit 9 = .ok (.ifCond .ne 5, 3) := by decide +kernel
theorem dX10_sortsFit_12 : decode cX10_sortsFit 12 = .ok (.iconst 0, 1) := by decide +kernel
theorem dX10_sortsFit_13 : decode cX10_sortsFit 13 = .ok (.ireturn, 1) := by decide +kernel
theorem dX10_sortsFit_14 : decode cX10_sortsFit 14 = .ok (.iload_n 1, 1) := by decide +kernel
theorem dX10_sortsFit_15 : decode cX10_sortsFit 15 = .ok (.tableswitch 86 0 5 #[37, 39, 39, 64, 75, 75], 37) := by decide +kernel
theorem dX10_sortsFit_52 : decode cX10_sortsFit 52 = .ok (.iconst 1, 1) := by decide +kernel
theorem dX10_sortsFit_53 : decode cX10_sortsFit 53 = .ok (.ireturn, 1) := by decide +kernel
theorem dX10_sortsFit_54 : decode cX10_sortsFit 54 = .ok (.iload 4, 2) := by decide +kernel
theorem dX10_sortsFit_56 : decode cX10_sortsFit 56 = .ok (.iconst (-1), 1) := by decide +kernel
theorem dX10_sortsFit_57 : decode cX10_sortsFit 57 = .ok (.if_icmp .eq 16, 3) := by decide +kernel
theorem dX10_sortsFit_60 : decode cX10_sortsFit 60 = .ok (.aload_n 0, 1) := by decide +kernel
theorem dX10_sortsFit_61 : decode cX10_sortsFit 61 = .ok (.getfield 12, 3) := by decide +kernel
theorem dX10_sortsFit_64 : decode cX10_sortsFit 64 = .ok (.iload_n 2, 1) := by decide +kernel
theorem dX10_sortsFit_65 : decode cX10_sortsFit 65 = .ok (.iload 4, 2) := by decide +kernel
theorem dX10_sortsFit_67 : decode cX10_sortsFit 67 = .ok (.invokevirtual 233, 3) := by decide +kernel
theorem dX10_sortsFit_70 : decode cX10_sortsFit 70 = .ok (.ifCond .eq 7, 3) := by decide +kernel
theorem dX10_sortsFit_73 : decode cX10_sortsFit 73 = .ok (.iconst 1, 1) := by decide +kernel
theorem dX10_sortsFit_74 : decode cX10_sortsFit 74 = .ok (.goto 4, 3) := by decide +kernel
theorem dX10_sortsFit_77 : decode cX10_sortsFit 77 = .ok (.iconst 0, 1) := by decide +kernel
theorem dX10_sortsFit_78 : decode cX10_sortsFit 78 = .ok (.ireturn, 1) := by decide +kernel
theorem dX10_sortsFit_79 : decode cX10_sortsFit 79 = .ok (.aload_n 0, 1) := by decide +kernel
theorem dX10_sortsFit_80 : decode cX10_sortsFit 80 = .ok (.getfield 12, 3) := by decide +kernel
theorem dX10_sortsFit_83 : decode cX10_sortsFit 83 = .ok (.iload_n 2, 1) := by decide +kernel
theorem dX10_sortsFit_84 : decode cX10_sortsFit 84 = .ok (.iload 4, 2) := by decide +kernel
theorem dX10_sortsFit_86 : decode cX10_sortsFit 86 = .ok (.invokevirtual 233, 3) := by decide +kernel
theorem dX10_sortsFit_89 : decode cX10_sortsFit 89 = .ok (.ireturn, 1) := by decide +kernel
theorem dX10_sortsFit_90 : decode cX10_sortsFit 90 = .ok (.aload_n 0, 1) := by decide +kernel
theorem dX10_sortsFit_91 : decode cX10_sortsFit 91 = .ok (.getfield 12, 3) := by decide +kernel
theorem dX10_sortsFit_94 : decode cX10_sortsFit 94 = .ok (.iload_n 2, 1) := by decide +kernel
theorem dX10_sortsFit_95 : decode cX10_sortsFit 95 = .ok (.iload 4, 2) := by decide +kernel
theorem dX10_sortsFit_97 : decode cX10_sortsFit 97 = .ok (.invokevirtual 236, 3) := by decide +kernel
theorem dX10_sortsFit_100 : decode cX10_sortsFit 100 = .ok (.ireturn, 1) := by decide +kernel
theorem dX10_sortsFit_101 : decode cX10_sortsFit 101 = .ok (.iconst 0, 1) := by decide +kernel
theorem dX10_sortsFit_102 : decode cX10_sortsFit 102 = .ok (.ireturn, 1) := by decide +kernel
theorem dX10_isVariable_0 : decode cX10_isVariable 0 = .ok (.iload_n 0, 1) := by decide +kernel
theorem dX10_isVariable_1 : decode cX10_isVariable 1 = .ok (.ifCond .lt 12, 3) := by decide +kernel
theorem dX10_isVariable_4 : decode cX10_isVariable 4 = .ok (.iload_n 0, 1) := by decide +kernel
theorem dX10_isVariable_5 : decode cX10_isVariable 5 = .ok (.iconst 4, 1) := by decide +kernel
theorem dX10_isVariable_6 : decode cX10_isVariable 6 = .ok (.if_icmp .ge 7, 3) := by decide +kernel
theorem dX10_isVariable_9 : decode cX10_isVariable 9 = .ok (.iconst 1, 1) := by decide +kernel
theorem dX10_isVariable_10 : decode cX10_isVariable 10 = .ok (.goto 4, 3) := by decide +kernel
theorem dX10_isVariable_13 : decode cX10_isVariable 13 = .ok (.iconst 0, 1) := by decide +kernel
theorem dX10_isVariable_14 : decode cX10_isVariable 14 = .ok (.ireturn, 1) := by decide +kernel
theorem dX10_sizeFor_0 : decode cX10_sizeFor 0 = .ok (.bipush 16, 2) := by decide +kernel
theorem dX10_sizeFor_2 : decode cX10_sizeFor 2 = .ok (.istore_n 1, 1) := by decide +kernel
theorem dX10_sizeFor_3 : decode cX10_sizeFor 3 = .ok (.iconst 0, 1) := by decide +kernel
theorem dX10_sizeFor_4 : decode cX10_sizeFor 4 = .ok (.istore_n 2, 1) := by decide +kernel
theorem dX10_sizeFor_5 : decode cX10_sizeFor 5 = .ok (.iload_n 2, 1) := by decide +kernel
theorem dX10_sizeFor_6 : decode cX10_sizeFor 6 = .ok (.bipush 20, 2) := by decide +kernel
theorem dX10_sizeFor_8 : decode cX10_sizeFor 8 = .ok (.if_icmp .ge 18, 3) := by decide +kernel
theorem dX10_sizeFor_11 : decode cX10_sizeFor 11 = .ok (.iload_n 1, 1) := by decide +kernel
theorem dX10_sizeFor_12 : decode cX10_sizeFor 12 = .ok (.iload_n 0, 1) := by decide +kernel
theorem dX10_sizeFor_13 : decode cX10_sizeFor 13 = .ok (.if_icmp .ge 13, 3) := by decide +kernel
theorem dX10_sizeFor_16 : decode cX10_sizeFor 16 = .ok (.iload_n 1, 1) := by decide +kernel
theorem dX10_sizeFor_17 : decode cX10_sizeFor 17 = .ok (.iconst 2, 1) := by decide +kernel
theorem dX10_sizeFor_18 : decode cX10_sizeFor 18 = .ok (.imul, 1) := by decide +kernel
theorem dX10_sizeFor_19 : decode cX10_sizeFor 19 = .ok (.istore_n 1, 1) := by decide +kernel
theorem dX10_sizeFor_20 : decode cX10_sizeFor 20 = .ok (.iinc 2 1, 3) := by decide +kernel
theorem dX10_sizeFor_23 : decode cX10_sizeFor 23 = .ok (.goto (-18), 3) := by decide +kernel
theorem dX10_sizeFor_26 : decode cX10_sizeFor 26 = .ok (.iload_n 1, 1) := by decide +kernel
theorem dX10_sizeFor_27 : decode cX10_sizeFor 27 = .ok (.ireturn, 1) := by decide +kernel
theorem dJ13_compare_74951_0 : decode cJ13_compare_74951 0 = .ok (.lload_n 0, 1) := by decide +kernel
theorem dJ13_compare_74951_1 : decode cJ13_compare_74951 1 = .ok (.lload_n 2, 1) := by decide +kernel
theorem dJ13_compare_74951_2 : decode cJ13_compare_74951 2 = .ok (.lcmp, 1) := by decide +kernel
theorem dJ13_compare_74951_3 : decode cJ13_compare_74951 3 = .ok (.ifCond .ge 7, 3) := by decide +kernel
theorem dJ13_compare_74951_6 : decode cJ13_compare_74951 6 = .ok (.iconst (-1), 1) := by decide +kernel
theorem dJ13_compare_74951_7 : decode cJ13_compare_74951 7 = .ok (.goto 14, 3) := by decide +kernel
theorem dJ13_compare_74951_10 : decode cJ13_compare_74951 10 = .ok (.lload_n 0, 1) := by decide +kernel
theorem dJ13_compare_74951_11 : decode cJ13_compare_74951 11 = .ok (.lload_n 2, 1) := by decide +kernel
theorem dJ13_compare_74951_12 : decode cJ13_compare_74951 12 = .ok (.lcmp, 1) := by decide +kernel
theorem dJ13_compare_74951_13 : decode cJ13_compare_74951 13 = .ok (.ifCond .ne 7, 3) := by decide +kernel
theorem dJ13_compare_74951_16 : decode cJ13_compare_74951 16 = .ok (.iconst 0, 1) := by decide +kernel
theorem dJ13_compare_74951_17 : decode cJ13_compare_74951 17 = .ok (.goto 4, 3) := by decide +kernel
theorem dJ13_compare_74951_20 : decode cJ13_compare_74951 20 = .ok (.iconst 1, 1) := by decide +kernel
theorem dJ13_compare_74951_21 : decode cJ13_compare_74951 21 = .ok (.ireturn, 1) := by decide +kernel
theorem dJ9_max_7cf53_0 : decode cJ9_max_7cf53 0 = .ok (.iload_n 0, 1) := by decide +kernel
theorem dJ9_max_7cf53_1 : decode cJ9_max_7cf53 1 = .ok (.iload_n 1, 1) := by decide +kernel
theorem dJ9_max_7cf53_2 : decode cJ9_max_7cf53 2 = .ok (.if_icmp .lt 7, 3) := by decide +kernel
theorem dJ9_max_7cf53_5 : decode cJ9_max_7cf53 5 = .ok (.iload_n 0, 1) := by decide +kernel
theorem dJ9_max_7cf53_6 : decode cJ9_max_7cf53 6 = .ok (.goto 4, 3) := by decide +kernel
theorem dJ9_max_7cf53_9 : decode cJ9_max_7cf53 9 = .ok (.iload_n 1, 1) := by decide +kernel
theorem dJ9_max_7cf53_10 : decode cJ9_max_7cf53 10 = .ok (.ireturn, 1) := by decide +kernel
theorem dJ9_min_7cf53_0 : decode cJ9_min_7cf53 0 = .ok (.iload_n 0, 1) := by decide +kernel
theorem dJ9_min_7cf53_1 : decode cJ9_min_7cf53 1 = .ok (.iload_n 1, 1) := by decide +kernel
theorem dJ9_min_7cf53_2 : decode cJ9_min_7cf53 2 = .ok (.if_icmp .gt 7, 3) := by decide +kernel
theorem dJ9_min_7cf53_5 : decode cJ9_min_7cf53 5 = .ok (.iload_n 0, 1) := by decide +kernel
theorem dJ9_min_7cf53_6 : decode cJ9_min_7cf53 6 = .ok (.goto 4, 3) := by decide +kernel
theorem dJ9_min_7cf53_9 : decode cJ9_min_7cf53 9 = .ok (.iload_n 1, 1) := by decide +kernel
theorem dJ9_min_7cf53_10 : decode cJ9_min_7cf53 10 = .ok (.ireturn, 1) := by decide +kernel
theorem dJ7_fill_53178_0 : decode cJ7_fill_53178 0 = .ok (.iconst 0, 1) := by decide +kernel
theorem dJ7_fill_53178_1 : decode cJ7_fill_53178 1 = .ok (.istore_n 2, 1) := by decide +kernel
theorem dJ7_fill_53178_2 : decode cJ7_fill_53178 2 = .ok (.aload_n 0, 1) := by decide +kernel
theorem dJ7_fill_53178_3 : decode cJ7_fill_53178 3 = .ok (.arraylength, 1) := by decide +kernel
theorem dJ7_fill_53178_4 : decode cJ7_fill_53178 4 = .ok (.istore_n 3, 1) := by decide +kernel
theorem dJ7_fill_53178_5 : decode cJ7_fill_53178 5 = .ok (.iload_n 2, 1) := by decide +kernel
theorem dJ7_fill_53178_6 : decode cJ7_fill_53178 6 = .ok (.iload_n 3, 1) := by decide +kernel
theorem dJ7_fill_53178_7 : decode cJ7_fill_53178 7 = .ok (.if_icmp .ge 13, 3) := by decide +kernel
theorem dJ7_fill_53178_10 : decode cJ7_fill_53178 10 = .ok (.aload_n 0, 1) := by decide +kernel
theorem dJ7_fill_53178_11 : decode cJ7_fill_53178 11 = .ok (.iload_n 2, 1) := by decide +kernel
theorem dJ7_fill_53178_12 : decode cJ7_fill_53178 12 = .ok (.iload_n 1, 1) := by decide +kernel
theorem dJ7_fill_53178_13 : decode cJ7_fill_53178 13 = .ok (.iastore, 1) := by decide +kernel
theorem dJ7_fill_53178_14 : decode cJ7_fill_53178 14 = .ok (.iinc 2 1, 3) := by decide +kernel
theorem dJ7_fill_53178_17 : decode cJ7_fill_53178 17 = .ok (.goto (-12), 3) := by decide +kernel
theorem dJ7_fill_53178_20 : decode cJ7_fill_53178 20 = .ok (.return_, 1) := by decide +kernel
theorem dJ7_copyOf_c38d5_0 : decode cJ7_copyOf_c38d5 0 = .ok (.iload_n 1, 1) := by decide +kernel
theorem dJ7_copyOf_c38d5_1 : decode cJ7_copyOf_c38d5 1 = .ok (.aload_n 0, 1) := by decide +kernel
theorem dJ7_copyOf_c38d5_2 : decode cJ7_copyOf_c38d5 2 = .ok (.arraylength, 1) := by decide +kernel
theorem dJ7_copyOf_c38d5_3 : decode cJ7_copyOf_c38d5 3 = .ok (.if_icmp .ne 11, 3) := by decide +kernel
theorem dJ7_copyOf_c38d5_6 : decode cJ7_copyOf_c38d5 6 = .ok (.aload_n 0, 1) := by decide +kernel
theorem dJ7_copyOf_c38d5_7 : decode cJ7_copyOf_c38d5 7 = .ok (.invokevirtual 319, 3) := by decide +kernel
theorem dJ7_copyOf_c38d5_10 : decode cJ7_copyOf_c38d5 10 = .ok (.checkcast 320, 3) := by decide +kernel
theorem dJ7_copyOf_c38d5_13 : decode cJ7_copyOf_c38d5 13 = .ok (.areturn, 1) := by decide +kernel
theorem dJ7_copyOf_c38d5_14 : decode cJ7_copyOf_c38d5 14 = .ok (.iload_n 1, 1) := by decide +kernel
theorem dJ7_copyOf_c38d5_15 : decode cJ7_copyOf_c38d5 15 = .ok (.newarray .long, 2) := by decide +kernel
theorem dJ7_copyOf_c38d5_17 : decode cJ7_copyOf_c38d5 17 = .ok (.astore_n 2, 1) := by decide +kernel
theorem dJ7_copyOf_c38d5_18 : decode cJ7_copyOf_c38d5 18 = .ok (.aload_n 0, 1) := by decide +kernel
theorem dJ7_copyOf_c38d5_19 : decode cJ7_copyOf_c38d5 19 = .ok (.iconst 0, 1) := by decide +kernel
theorem dJ7_copyOf_c38d5_20 : decode cJ7_copyOf_c38d5 20 = .ok (.aload_n 2, 1) := by decide +kernel
theorem dJ7_copyOf_c38d5_21 : decode cJ7_copyOf_c38d5 21 = .ok (.iconst 0, 1) := by decide +kernel
theorem dJ7_copyOf_c38d5_22 : decode cJ7_copyOf_c38d5 22 = .ok (.aload_n 0, 1) := by decide +kernel
theorem dJ7_copyOf_c38d5_23 : decode cJ7_copyOf_c38d5 23 = .ok (.arraylength, 1) := by decide +kernel
theorem dJ7_copyOf_c38d5_24 : decode cJ7_copyOf_c38d5 24 = .ok (.iload_n 1, 1) := by decide +kernel
theorem dJ7_copyOf_c38d5_25 : decode cJ7_copyOf_c38d5 25 = .ok (.invokestatic 304, 3) := by decide +kernel
theorem dJ7_copyOf_c38d5_28 : decode cJ7_copyOf_c38d5 28 = .ok (.invokestatic 150, 3) := by decide +kernel
theorem dJ7_copyOf_c38d5_31 : decode cJ7_copyOf_c38d5 31 = .ok (.aload_n 2, 1) := by decide +kernel
theorem dJ7_copyOf_c38d5_32 : decode cJ7_copyOf_c38d5 32 = .ok (.areturn, 1) := by decide +kernel
end
section
theorem dL_law_0 : decode cL_law 0 = .ok (.new 7, 3) := by decide +kernel
theorem dL_law_3 : decode cL_law 3 = .ok (.dup, 1) := by decide +kernel
theorem dL_law_4 : decode cL_law 4 = .ok (.invokespecial 9, 3) := by decide +kernel
theorem dL_law_7 : decode cL_law 7 = .ok (.astore_n 1, 1) := by decide +kernel
theorem dL_law_8 : decode cL_law 8 = .ok (.new 10, 3) := by decide +kernel
theorem dL_law_11 : decode cL_law 11 = .ok (.dup, 1) := by decide +kernel
theorem dL_law_12 : decode cL_law 12 = .ok (.invokespecial 12, 3) := by decide +kernel
theorem dL_law_15 : decode cL_law 15 = .ok (.astore_n 2, 1) := by decide +kernel
theorem dL_law_16 : decode cL_law 16 = .ok (.iconst 0, 1) := by decide +kernel
theorem dL_law_17 : decode cL_law 17 = .ok (.istore_n 3, 1) := by decide +kernel
theorem dL_law_18 : decode cL_law 18 = .ok (.iload_n 3, 1) := by decide +kernel
theorem dL_law_19 : decode cL_law 19 = .ok (.aload_n 0, 1) := by decide +kernel
theorem dL_law_20 : decode cL_law 20 = .ok (.arraylength, 1) := by decide +kernel
theorem dL_law_21 : decode cL_law 21 = .ok (.bipush 6, 2) := by decide +kernel
theorem dL_law_23 : decode cL_law 23 = .ok (.isub, 1) := by decide +kernel
theorem dL_law_24 : decode cL_law 24 = .ok (.if_icmp .gt 640, 3) := by decide +kernel
theorem dL_law_27 : decode cL_law 27 = .ok (.aload_n 0, 1) := by decide +kernel
theorem dL_law_28 : decode cL_law 28 = .ok (.iload_n 3, 1) := by decide +kernel
theorem dL_law_29 : decode cL_law 29 = .ok (.iaload, 1) := by decide +kernel
theorem dL_law_30 : decode cL_law 30 = .ok (.bipush 31, 2) := by decide +kernel
theorem dL_law_32 : decode cL_law 32 = .ok (.iand, 1) := by decide +kernel
theorem dL_law_33 : decode cL_law 33 = .ok (.tableswitch 625 0 19 #[95, 118, 161, 184, 207, 260, 273, 296, 309, 322, 355, 398, 421, 434, 447, 510, 523, 536, 569, 602], 95) := by decide +kernel
theorem dL_law_128 : decode cL_law 128 = .ok (.aload_n 1, 1) := by decide +kernel
theorem dL_law_129 : decode cL_law 129 = .ok (.aload_n 0, 1) := by decide +kernel
theorem dL_law_130 : decode cL_law 130 = .ok (.iload_n 3, 1) := by decide +kernel
theorem dL_law_131 : decode cL_law 131 = .ok (.iconst 1, 1) := by decide +kernel
theorem dL_law_132 : decode cL_law 132 = .ok (.iadd, 1) := by decide +kernel
theorem dL_law_133 : decode cL_law 133 = .ok (.iaload, 1) := by decide +kernel
theorem dL_law_134 : decode cL_law 134 = .ok (.invokevirtual 13, 3) := by decide +kernel
theorem dL_law_137 : decode cL_law 137 = .ok (.aload_n 2, 1) := by decide +kernel
theorem dL_law_138 : decode cL_law 138 = .ok (.aload_n 0, 1) := by decide +kernel
theorem dL_law_139 : decode cL_law 139 = .ok (.iload_n 3, 1) := by decide +kernel
theorem dL_law_140 : decode cL_law 140 = .ok (.iconst 1, 1) := by decide +kernel
theorem dL_law_141 : decode cL_law 141 = .ok (.iadd, 1) := by decide +kernel
theorem dL_law_142 : decode cL_law 142 = .ok (.iaload, 1) := by decide +kernel
theorem dL_law_143 : decode cL_law 143 = .ok (.invokevirtual 17, 3) := by decide +kernel
theorem dL_law_146 : decode cL_law 146 = .ok (.if_icmp .eq 512, 3) := by decide +kernel
theorem dL_law_149 : decode cL_law 149 = .ok (.iconst 0, 1) := by decide +kernel
theorem dL_law_150 : decode cL_law 150 = .ok (.ireturn, 1) := by decide +kernel
theorem dL_law_151 : decode cL_law 151 = .ok (.aload_n 1, 1) := by decide +kernel
theorem dL_law_152 : decode cL_law 152 = .ok (.aload_n 0, 1) := by decide +kernel
theorem dL_law_153 : decode cL_law 153 = .ok (.iload_n 3, 1) := by decide +kernel
theorem dL_law_154 : decode cL_law 154 = .ok (.iconst 1, 1) := by decide +kernel
theorem dL_law_155 : decode cL_law 155 = .ok (.iadd, 1) := by decide +kernel
theorem dL_law_156 : decode cL_law 156 = .ok (.iaload, 1) := by decide +kernel
theorem dL_law_157 : decode cL_law 157 = .ok (.aload_n 0, 1) := by decide +kernel
theorem dL_law_158 : decode cL_law 158 = .ok (.iload_n 3, 1) := by decide +kernel
theorem dL_law_159 : decode cL_law 159 = .ok (.iconst 2, 1) := by decide +kernel
theorem dL_law_160 : decode cL_law 160 = .ok (.iadd, 1) := by decide +kernel
theorem dL_law_161 : decode cL_law 161 = .ok (.iaload, 1) := by decide +kernel
theorem dL_law_162 : decode cL_law 162 = .ok (.aload_n 0, 1) := by decide +kernel
theorem dL_law_163 : decode cL_law 163 = .ok (.iload_n 3, 1) := by decide +kernel
theorem dL_law_164 : decode cL_law 164 = .ok (.iconst 3, 1) := by decide +kernel
theorem dL_law_165 : decode cL_law 165 = .ok (.iadd, 1) := by decide +kernel
theorem dL_law_166 : decode cL_law 166 = .ok (.iaload, 1) := by decide +kernel
theorem dL_law_167 : decode cL_law 167 = .ok (.invokevirtual 18, 3) := by decide +kernel
theorem dL_law_170 : decode cL_law 170 = .ok (.aload_n 2, 1) := by decide +kernel
theorem dL_law_171 : decode cL_law 171 = .ok (.aload_n 0, 1) := by decide +kernel
theorem dL_law_172 : decode cL_law 172 = .ok (.iload_n 3, 1) := by decide +kernel
theorem dL_law_173 : decode cL_law 173 = .ok (.iconst 1, 1) := by decide +kernel
theorem dL_law_174 : decode cL_law 174 = .ok (.iadd, 1) := by decide +kernel
theorem dL_law_175 : decode cL_law 175 = .ok (.iaload, 1) := by decide +kernel
theorem dL_law_176 : decode cL_law 176 = .ok (.aload_n 0, 1) := by decide +kernel
theorem dL_law_177 : decode cL_law 177 = .ok (.iload_n 3, 1) := by decide +kernel
theorem dL_law_178 : decode cL_law 178 = .ok (.iconst 2, 1) := by decide +kernel
theorem dL_law_179 : decode cL_law 179 = .ok (.iadd, 1) := by decide +kernel
theorem dL_law_180 : decode cL_law 180 = .ok (.iaload, 1) := by decide +kernel
theorem dL_law_181 : decode cL_law 181 = .ok (.aload_n 0, 1) := by decide +kernel
theorem dL_law_182 : decode cL_law 182 = .ok (.iload_n 3, 1) := by decide +kernel
theorem dL_law_183 : decode cL_law 183 = .ok (.iconst 3, 1) := by decide +kernel
theorem dL_law_184 : decode cL_law 184 = .ok (.iadd, 1) := by decide +kernel
theorem dL_law_185 : decode cL_law 185 = .ok (.iaload, 1) := by decide +kernel
theorem dL_law_186 : decode cL_law 186 = .ok (.invokevirtual 22, 3) := by decide +kernel
theorem dL_law_189 : decode cL_law 189 = .ok (.if_icmp .eq 469, 3) := by decide +kernel
theorem dL_law_192 : decode cL_law 192 = .ok (.iconst 0, 1) := by decide +kernel
theorem dL_law_193 : decode cL_law 193 = .ok (.ireturn, 1) := by decide +kernel
theorem dL_law_194 : decode cL_law 194 = .ok (.aload_n 1, 1) := by decide +kernel
theorem dL_law_195 : decode cL_law 195 = .ok (.aload_n 0, 1) := by decide +kernel
theorem dL_law_196 : decode cL_law 196 = .ok (.iload_n 3, 1) := by decide +kernel
theorem dL_law_197 : decode cL_law 197 = .ok (.iconst 1, 1) := by decide +kernel
theorem dL_law_198 : decode cL_law 198 = .ok (.iadd, 1) := by decide +kernel
theorem dL_law_199 : decode cL_law 199 = .ok (.iaload, 1) := by decide +kernel
theorem dL_law_200 : decode cL_law 200 = .ok (.invokevirtual 23, 3) := by decide +kernel
theorem dL_law_203 : decode cL_law 203 = .ok (.aload_n 2, 1) := by decide +kernel
theorem dL_law_204 : decode cL_law 204 = .ok (.aload_n 0, 1) := by decide +kernel
theorem dL_law_205 : decode cL_law 205 = .ok (.iload_n 3, 1) := by decide +kernel
theorem dL_law_206 : decode cL_law 206 = .ok (.iconst 1, 1) := by decide +kernel
theorem dL_law_207 : decode cL_law 207 = .ok (.iadd, 1) := by decide +kernel
theorem dL_law_208 : decode cL_law 208 = .ok (.iaload, 1) := by decide +kernel
theorem dL_law_209 : decode cL_law 209 = .ok (.invokevirtual 26, 3) := by decide +kernel
theorem dL_law_212 : decode cL_law 212 = .ok (.if_icmp .eq 446, 3) := by decide +kernel
theorem dL_law_215 : decode cL_law 215 = .ok (.iconst 0, 1) := by decide +kernel
theorem dL_law_216 : decode cL_law 216 = .ok (.ireturn, 1) := by decide +kernel
theorem dL_law_217 : decode cL_law 217 = .ok (.aload_n 1, 1) := by decide +kernel
theorem dL_law_218 : decode cL_law 218 = .ok (.aload_n 0, 1) := by decide +kernel
theorem dL_law_219 : decode cL_law 219 = .ok (.iload_n 3, 1) := by decide +kernel
theorem dL_law_220 : decode cL_law 220 = .ok (.iconst 1, 1) := by decide +kernel
theorem dL_law_221 : decode cL_law 221 = .ok (.iadd, 1) := by decide +kernel
theorem dL_law_222 : decode cL_law 222 = .ok (.iaload, 1) := by decide +kernel
theorem dL_law_223 : decode cL_law 223 = .ok (.invokevirtual 27, 3) := by decide +kernel
theorem dL_law_226 : decode cL_law 226 = .ok (.aload_n 2, 1) := by decide +kernel
theorem dL_law_227 : decode cL_law 227 = .ok (.aload_n 0, 1) := by decide +kernel
theorem dL_law_228 : decode cL_law 228 = .ok (.iload_n 3, 1) := by decide +kernel
theorem dL_law_229 : decode cL_law 229 = .ok (.iconst 1, 1) := by decide +kernel
theorem dL_law_230 : decode cL_law 230 = .ok (.iadd, 1) := by decide +kernel
theorem dL_law_231 : decode cL_law 231 = .ok (.iaload, 1) := by decide +kernel
theorem dL_law_232 : decode cL_law 232 = .ok (.invokevirtual 30, 3) := by decide +kernel
theorem dL_law_235 : decode cL_law 235 = .ok (.if_icmp .eq 423, 3) := by decide +kernel
theorem dL_law_238 : decode cL_law 238 = .ok (.iconst 0, 1) := by decide +kernel
theorem dL_law_239 : decode cL_law 239 = .ok (.ireturn, 1) := by decide +kernel
theorem dL_law_240 : decode cL_law 240 = .ok (.aload_n 1, 1) := by decide +kernel
theorem dL_law_241 : decode cL_law 241 = .ok (.aload_n 0, 1) := by decide +kernel
theorem dL_law_242 : decode cL_law 242 = .ok (.iload_n 3, 1) := by decide +kernel
theorem dL_law_243 : decode cL_law 243 = .ok (.iconst 1, 1) := by decide +kernel
theorem dL_law_244 : decode cL_law 244 = .ok (.iadd, 1) := by decide +kernel
theorem dL_law_245 : decode cL_law 245 = .ok (.iaload, 1) := by decide +kernel
theorem dL_law_246 : decode cL_law 246 = .ok (.aload_n 0, 1) := by decide +kernel
theorem dL_law_247 : decode cL_law 247 = .ok (.iload_n 3, 1) := by decide +kernel
theorem dL_law_248 : decode cL_law 248 = .ok (.iconst 2, 1) := by decide +kernel
theorem dL_law_249 : decode cL_law 249 = .ok (.iadd, 1) := by decide +kernel
theorem dL_law_250 : decode cL_law 250 = .ok (.iaload, 1) := by decide +kernel
theorem dL_law_251 : decode cL_law 251 = .ok (.aload_n 0, 1) := by decide +kernel
theorem dL_law_252 : decode cL_law 252 = .ok (.iload_n 3, 1) := by decide +kernel
theorem dL_law_253 : decode cL_law 253 = .ok (.iconst 3, 1) := by decide +kernel
theorem dL_law_254 : decode cL_law 254 = .ok (.iadd, 1) := by decide +kernel
theorem dL_law_255 : decode cL_law 255 = .ok (.iaload, 1) := by decide +kernel
theorem dL_law_256 : decode cL_law 256 = .ok (.aload_n 0, 1) := by decide +kernel
theorem dL_law_257 : decode cL_law 257 = .ok (.iload_n 3, 1) := by decide +kernel
theorem dL_law_258 : decode cL_law 258 = .ok (.iconst 4, 1) := by decide +kernel
theorem dL_law_259 : decode cL_law 259 = .ok (.iadd, 1) := by decide +kernel
theorem dL_law_260 : decode cL_law 260 = .ok (.iaload, 1) := by decide +kernel
theorem dL_law_261 : decode cL_law 261 = .ok (.invokevirtual 31, 3) := by decide +kernel
theorem dL_law_264 : decode cL_law 264 = .ok (.aload_n 2, 1) := by decide +kernel
theorem dL_law_265 : decode cL_law 265 = .ok (.aload_n 0, 1) := by decide +kernel
theorem dL_law_266 : decode cL_law 266 = .ok (.iload_n 3, 1) := by decide +kernel
theorem dL_law_267 : decode cL_law 267 = .ok (.iconst 1, 1) := by decide +kernel
theorem dL_law_268 : decode cL_law 268 = .ok (.iadd, 1) := by decide +kernel
theorem dL_law_269 : decode cL_law 269 = .ok (.iaload, 1) := by decide +kernel
theorem dL_law_270 : decode cL_law 270 = .ok (.aload_n 0, 1) := by decide +kernel
theorem dL_law_271 : decode cL_law 271 = .ok (.iload_n 3, 1) := by decide +kernel
theorem dL_law_272 : decode cL_law 272 = .ok (.iconst 2, 1) := by decide +kernel
theorem dL_law_273 : decode cL_law 273 = .ok (.iadd, 1) := by decide +kernel
theorem dL_law_274 : decode cL_law 274 = .ok (.iaload, 1) := by decide +kernel
theorem dL_law_275 : decode cL_law 275 = .ok (.aload_n 0, 1) := by decide +kernel
theorem dL_law_276 : decode cL_law 276 = .ok (.iload_n 3, 1) := by decide +kernel
theorem dL_law_277 : decode cL_law 277 = .ok (.iconst 3, 1) := by decide +kernel
theorem dL_law_278 : decode cL_law 278 = .ok (.iadd, 1) := by decide +kernel
theorem dL_law_279 : decode cL_law 279 = .ok (.iaload, 1) := by decide +kernel
theorem dL_law_280 : decode cL_law 280 = .ok (.aload_n 0, 1) := by decide +kernel
theorem dL_law_281 : decode cL_law 281 = .ok (.iload_n 3, 1) := by decide +kernel
theorem dL_law_282 : decode cL_law 282 = .ok (.iconst 4, 1) := by decide +kernel
theorem dL_law_283 : decode cL_law 283 = .ok (.iadd, 1) := by decide +kernel
theorem dL_law_284 : decode cL_law 284 = .ok (.iaload, 1) := by decide +kernel
theorem dL_law_285 : decode cL_law 285 = .ok (.invokevirtual 35, 3) := by decide +kernel
theorem dL_law_288 : decode cL_law 288 = .ok (.if_icmp .eq 370, 3) := by decide +kernel
theorem dL_law_291 : decode cL_law 291 = .ok (.iconst 0, 1) := by decide +kernel
theorem dL_law_292 : decode cL_law 292 = .ok (.ireturn, 1) := by decide +kernel
theorem dL_law_293 : decode cL_law 293 = .ok (.aload_n 1, 1) := by decide +kernel
theorem dL_law_294 : decode cL_law 294 = .ok (.invokevirtual 36, 3) := by decide +kernel
theorem dL_law_297 : decode cL_law 297 = .ok (.aload_n 2, 1) := by decide +kernel
theorem dL_law_298 : decode cL_law 298 = .ok (.invokevirtual 40, 3) := by decide +kernel
theorem dL_law_301 : decode cL_law 301 = .ok (.if_icmp .eq 357, 3) := by decide +kernel
theorem dL_law_304 : decode cL_law 304 = .ok (.iconst 0, 1) := by decide +kernel
theorem dL_law_305 : decode cL_law 305 = .ok (.ireturn, 1) := by decide +kernel
theorem dL_law_306 : decode cL_law 306 = .ok (.aload_n 1, 1) := by decide +kernel
theorem dL_law_307 : decode cL_law 307 = .ok (.aload_n 0, 1) := by decide +kernel
theorem dL_law_308 : decode cL_law 308 = .ok (.iload_n 3, 1) := by decide +kernel
theorem dL_law_309 : decode cL_law 309 = .ok (.iconst 1, 1) := by decide +kernel
theorem dL_law_310 : decode cL_law 310 = .ok (.iadd, 1) := by decide +kernel
theorem dL_law_311 : decode cL_law 311 = .ok (.iaload, 1) := by decide +kernel
theorem dL_law_312 : decode cL_law 312 = .ok (.invokevirtual 41, 3) := by decide +kernel
theorem dL_law_315 : decode cL_law 315 = .ok (.aload_n 2, 1) := by decide +kernel
theorem dL_law_316 : decode cL_law 316 = .ok (.aload_n 0, 1) := by decide +kernel
theorem dL_law_317 : decode cL_law 317 = .ok (.iload_n 3, 1) := by decide +kernel
theorem dL_law_318 : decode cL_law 318 = .ok (.iconst 1, 1) := by decide +kernel
theorem dL_law_319 : decode cL_law 319 = .ok (.iadd, 1) := by decide +kernel
theorem dL_law_320 : decode cL_law 320 = .ok (.iaload, 1) := by decide +kernel
theorem dL_law_321 : decode cL_law 321 = .ok (.invokevirtual 44, 3) := by decide +kernel
theorem dL_law_324 : decode cL_law 324 = .ok (.if_icmp .eq 334, 3) := by decide +kernel
theorem dL_law_327 : decode cL_law 327 = .ok (.iconst 0, 1) := by decide +kernel
theorem dL_law_328 : decode cL_law 328 = .ok (.ireturn, 1) := by decide +kernel
theorem dL_law_329 : decode cL_law 329 = .ok (.aload_n 1, 1) := by decide +kernel
theorem dL_law_330 : decode cL_law 330 = .ok (.invokevirtual 45, 3) := by decide +kernel
theorem dL_law_333 : decode cL_law 333 = .ok (.aload_n 2, 1) := by decide +kernel
theorem dL_law_334 : decode cL_law 334 = .ok (.invokevirtual 48, 3) := by decide +kernel
theorem dL_law_337 : decode cL_law 337 = .ok (.if_icmp .eq 321, 3) := by decide +kernel
theorem dL_law_340 : decode cL_law 340 = .ok (.iconst 0, 1) := by decide +kernel
theorem dL_law_341 : decode cL_law 341 = .ok (.ireturn, 1) := by decide +kernel
theorem dL_law_342 : decode cL_law 342 = .ok (.aload_n 1, 1) := by decide +kernel
theorem dL_law_343 : decode cL_law 343 = .ok (.invokevirtual 49, 3) := by decide +kernel
theorem dL_law_346 : decode cL_law 346 = .ok (.aload_n 2, 1) := by decide +kernel
theorem dL_law_347 : decode cL_law 347 = .ok (.invokevirtual 52, 3) := by decide +kernel
theorem dL_law_350 : decode cL_law 350 = .ok (.if_icmp .eq 308, 3) := by decide +kernel
theorem dL_law_353 : decode cL_law 353 = .ok (.iconst 0, 1) := by decide +kernel
theorem dL_law_354 : decode cL_law 354 = .ok (.ireturn, 1) := by decide +kernel
theorem dL_law_355 : decode cL_law 355 = .ok (.aload_n 1, 1) := by decide +kernel
theorem dL_law_356 : decode cL_law 356 = .ok (.aload_n 0, 1) := by decide +kernel
theorem dL_law_357 : decode cL_law 357 = .ok (.iload_n 3, 1) := by decide +kernel
theorem dL_law_358 : decode cL_law 358 = .ok (.iconst 1, 1) := by decide +kernel
theorem dL_law_359 : decode cL_law 359 = .ok (.iadd, 1) := by decide +kernel
theorem dL_law_360 : decode cL_law 360 = .ok (.iaload, 1) := by decide +kernel
theorem dL_law_361 : decode cL_law 361 = .ok (.aload_n 0, 1) := by decide +kernel
theorem dL_law_362 : decode cL_law 362 = .ok (.iload_n 3, 1) := by decide +kernel
theorem dL_law_363 : decode cL_law 363 = .ok (.iconst 2, 1) := by decide +kernel
theorem dL_law_364 : decode cL_law 364 = .ok (.iadd, 1) := by decide +kernel
theorem dL_law_365 : decode cL_law 365 = .ok (.iaload, 1) := by decide +kernel
theorem dL_law_366 : decode cL_law 366 = .ok (.invokevirtual 53, 3) := by decide +kernel
theorem dL_law_369 : decode cL_law 369 = .ok (.aload_n 2, 1) := by decide +kernel
theorem dL_law_370 : decode cL_law 370 = .ok (.aload_n 0, 1) := by decide +kernel
theorem dL_law_371 : decode cL_law 371 = .ok (.iload_n 3, 1) := by decide +kernel
theorem dL_law_372 : decode cL_law 372 = .ok (.iconst 1, 1) := by decide +kernel
theorem dL_law_373 : decode cL_law 373 = .ok (.iadd, 1) := by decide +kernel
theorem dL_law_374 : decode cL_law 374 = .ok (.iaload, 1) := by decide +kernel
theorem dL_law_375 : decode cL_law 375 = .ok (.aload_n 0, 1) := by decide +kernel
theorem dL_law_376 : decode cL_law 376 = .ok (.iload_n 3, 1) := by decide +kernel
theorem dL_law_377 : decode cL_law 377 = .ok (.iconst 2, 1) := by decide +kernel
theorem dL_law_378 : decode cL_law 378 = .ok (.iadd, 1) := by decide +kernel
theorem dL_law_379 : decode cL_law 379 = .ok (.iaload, 1) := by decide +kernel
theorem dL_law_380 : decode cL_law 380 = .ok (.invokevirtual 57, 3) := by decide +kernel
theorem dL_law_383 : decode cL_law 383 = .ok (.if_icmp .eq 275, 3) := by decide +kernel
theorem dL_law_386 : decode cL_law 386 = .ok (.iconst 0, 1) := by decide +kernel
theorem dL_law_387 : decode cL_law 387 = .ok (.ireturn, 1) := by decide +kernel
theorem dL_law_388 : decode cL_law 388 = .ok (.aload_n 1, 1) := by decide +kernel
theorem dL_law_389 : decode cL_law 389 = .ok (.aload_n 0, 1) := by decide +kernel
theorem dL_law_390 : decode cL_law 390 = .ok (.iload_n 3, 1) := by decide +kernel
theorem dL_law_391 : decode cL_law 391 = .ok (.iconst 1, 1) := by decide +kernel
theorem dL_law_392 : decode cL_law 392 = .ok (.iadd, 1) := by decide +kernel
theorem dL_law_393 : decode cL_law 393 = .ok (.iaload, 1) := by decide +kernel
theorem dL_law_394 : decode cL_law 394 = .ok (.aload_n 0, 1) := by decide +kernel
theorem dL_law_395 : decode cL_law 395 = .ok (.iload_n 3, 1) := by decide +kernel
theorem dL_law_396 : decode cL_law 396 = .ok (.iconst 2, 1) := by decide +kernel
theorem dL_law_397 : decode cL_law 397 = .ok (.iadd, 1) := by decide +kernel
theorem dL_law_398 : decode cL_law 398 = .ok (.iaload, 1) := by decide +kernel
theorem dL_law_399 : decode cL_law 399 = .ok (.aload_n 0, 1) := by decide +kernel
theorem dL_law_400 : decode cL_law 400 = .ok (.iload_n 3, 1) := by decide +kernel
theorem dL_law_401 : decode cL_law 401 = .ok (.iconst 3, 1) := by decide +kernel
theorem dL_law_402 : decode cL_law 402 = .ok (.iadd, 1) := by decide +kernel
theorem dL_law_403 : decode cL_law 403 = .ok (.iaload, 1) := by decide +kernel
theorem dL_law_404 : decode cL_law 404 = .ok (.invokevirtual 58, 3) := by decide +kernel
theorem dL_law_407 : decode cL_law 407 = .ok (.aload_n 2, 1) := by decide +kernel
theorem dL_law_408 : decode cL_law 408 = .ok (.aload_n 0, 1) := by decide +kernel
theorem dL_law_409 : decode cL_law 409 = .ok (.iload_n 3, 1) := by decide +kernel
theorem dL_law_410 : decode cL_law 410 = .ok (.iconst 1, 1) := by decide +kernel
theorem dL_law_411 : decode cL_law 411 = .ok (.iadd, 1) := by decide +kernel
theorem dL_law_412 : decode cL_law 412 = .ok (.iaload, 1) := by decide +kernel
theorem dL_law_413 : decode cL_law 413 = .ok (.aload_n 0, 1) := by decide +kernel
theorem dL_law_414 : decode cL_law 414 = .ok (.iload_n 3, 1) := by decide +kernel
theorem dL_law_415 : decode cL_law 415 = .ok (.iconst 2, 1) := by decide +kernel
theorem dL_law_416 : decode cL_law 416 = .ok (.iadd, 1) := by decide +kernel
theorem dL_law_417 : decode cL_law 417 = .ok (.iaload, 1) := by decide +kernel
theorem dL_law_418 : decode cL_law 418 = .ok (.aload_n 0, 1) := by decide +kernel
theorem dL_law_419 : decode cL_law 419 = .ok (.iload_n 3, 1) := by decide +kernel
theorem dL_law_420 : decode cL_law 420 = .ok (.iconst 3, 1) := by decide +kernel
theorem dL_law_421 : decode cL_law 421 = .ok (.iadd, 1) := by decide +kernel
theorem dL_law_422 : decode cL_law 422 = .ok (.iaload, 1) := by decide +kernel
theorem dL_law_423 : decode cL_law 423 = .ok (.invokevirtual 61, 3) := by decide +kernel
theorem dL_law_426 : decode cL_law 426 = .ok (.if_icmp .eq 232, 3) := by decide +kernel
theorem dL_law_429 : decode cL_law 429 = .ok (.iconst 0, 1) := by decide +kernel
theorem dL_law_430 : decode cL_law 430 = .ok (.ireturn, 1) := by decide +kernel
theorem dL_law_431 : decode cL_law 431 = .ok (.aload_n 1, 1) := by decide +kernel
theorem dL_law_432 : decode cL_law 432 = .ok (.aload_n 0, 1) := by decide +kernel
theorem dL_law_433 : decode cL_law 433 = .ok (.iload_n 3, 1) := by decide +kernel
theorem dL_law_434 : decode cL_law 434 = .ok (.iconst 1, 1) := by decide +kernel
theorem dL_law_435 : decode cL_law 435 = .ok (.iadd, 1) := by decide +kernel
theorem dL_law_436 : decode cL_law 436 = .ok (.iaload, 1) := by decide +kernel
theorem dL_law_437 : decode cL_law 437 = .ok (.invokevirtual 62, 3) := by decide +kernel
theorem dL_law_440 : decode cL_law 440 = .ok (.aload_n 2, 1) := by decide +kernel
theorem dL_law_441 : decode cL_law 441 = .ok (.aload_n 0, 1) := by decide +kernel
theorem dL_law_442 : decode cL_law 442 = .ok (.iload_n 3, 1) := by decide +kernel
theorem dL_law_443 : decode cL_law 443 = .ok (.iconst 1, 1) := by decide +kernel
theorem dL_law_444 : decode cL_law 444 = .ok (.iadd, 1) := by decide +kernel
theorem dL_law_445 : decode cL_law 445 = .ok (.iaload, 1) := by decide +kernel
theorem dL_law_446 : decode cL_law 446 = .ok (.invokevirtual 65, 3) := by decide +kernel
theorem dL_law_449 : decode cL_law 449 = .ok (.if_icmp .eq 209, 3) := by decide +kernel
theorem dL_law_452 : decode cL_law 452 = .ok (.iconst 0, 1) := by decide +kernel
theorem dL_law_453 : decode cL_law 453 = .ok (.ireturn, 1) := by decide +kernel
theorem dL_law_454 : decode cL_law 454 = .ok (.aload_n 1, 1) := by decide +kernel
theorem dL_law_455 : decode cL_law 455 = .ok (.invokevirtual 66, 3) := by decide +kernel
theorem dL_law_458 : decode cL_law 458 = .ok (.aload_n 2, 1) := by decide +kernel
theorem dL_law_459 : decode cL_law 459 = .ok (.invokevirtual 69, 3) := by decide +kernel
theorem dL_law_462 : decode cL_law 462 = .ok (.if_icmp .eq 196, 3) := by decide +kernel
theorem dL_law_465 : decode cL_law 465 = .ok (.iconst 0, 1) := by decide +kernel
theorem dL_law_466 : decode cL_law 466 = .ok (.ireturn, 1) := by decide +kernel
theorem dL_law_467 : decode cL_law 467 = .ok (.aload_n 1, 1) := by decide +kernel
theorem dL_law_468 : decode cL_law 468 = .ok (.invokevirtual 70, 3) := by decide +kernel
theorem dL_law_471 : decode cL_law 471 = .ok (.aload_n 2, 1) := by decide +kernel
theorem dL_law_472 : decode cL_law 472 = .ok (.invokevirtual 73, 3) := by decide +kernel
theorem dL_law_475 : decode cL_law 475 = .ok (.if_icmp .eq 183, 3) := by decide +kernel
theorem dL_law_478 : decode cL_law 478 = .ok (.iconst 0, 1) := by decide +kernel
theorem dL_law_479 : decode cL_law 479 = .ok (.ireturn, 1) := by decide +kernel
theorem dL_law_480 : decode cL_law 480 = .ok (.aload_n 1, 1) := by decide +kernel
theorem dL_law_481 : decode cL_law 481 = .ok (.aload_n 0, 1) := by decide +kernel
theorem dL_law_482 : decode cL_law 482 = .ok (.iload_n 3, 1) := by decide +kernel
theorem dL_law_483 : decode cL_law 483 = .ok (.iconst 1, 1) := by decide +kernel
theorem dL_law_484 : decode cL_law 484 = .ok (.iadd, 1) := by decide +kernel
theorem dL_law_485 : decode cL_law 485 = .ok (.iaload, 1) := by decide +kernel
theorem dL_law_486 : decode cL_law 486 = .ok (.aload_n 0, 1) := by decide +kernel
theorem dL_law_487 : decode cL_law 487 = .ok (.iload_n 3, 1) := by decide +kernel
theorem dL_law_488 : decode cL_law 488 = .ok (.iconst 2, 1) := by decide +kernel
theorem dL_law_489 : decode cL_law 489 = .ok (.iadd, 1) := by decide +kernel
theorem dL_law_490 : decode cL_law 490 = .ok (.iaload, 1) := by decide +kernel
theorem dL_law_491 : decode cL_law 491 = .ok (.aload_n 0, 1) := by decide +kernel
theorem dL_law_492 : decode cL_law 492 = .ok (.iload_n 3, 1) := by decide +kernel
theorem dL_law_493 : decode cL_law 493 = .ok (.iconst 3, 1) := by decide +kernel
theorem dL_law_494 : decode cL_law 494 = .ok (.iadd, 1) := by decide +kernel
theorem dL_law_495 : decode cL_law 495 = .ok (.iaload, 1) := by decide +kernel
theorem dL_law_496 : decode cL_law 496 = .ok (.aload_n 0, 1) := by decide +kernel
theorem dL_law_497 : decode cL_law 497 = .ok (.iload_n 3, 1) := by decide +kernel
theorem dL_law_498 : decode cL_law 498 = .ok (.iconst 4, 1) := by decide +kernel
theorem dL_law_499 : decode cL_law 499 = .ok (.iadd, 1) := by decide +kernel
theorem dL_law_500 : decode cL_law 500 = .ok (.iaload, 1) := by decide +kernel
theorem dL_law_501 : decode cL_law 501 = .ok (.aload_n 0, 1) := by decide +kernel
theorem dL_law_502 : decode cL_law 502 = .ok (.iload_n 3, 1) := by decide +kernel
theorem dL_law_503 : decode cL_law 503 = .ok (.iconst 5, 1) := by decide +kernel
theorem dL_law_504 : decode cL_law 504 = .ok (.iadd, 1) := by decide +kernel
theorem dL_law_505 : decode cL_law 505 = .ok (.iaload, 1) := by decide +kernel
theorem dL_law_506 : decode cL_law 506 = .ok (.invokevirtual 74, 3) := by decide +kernel
theorem dL_law_509 : decode cL_law 509 = .ok (.aload_n 2, 1) := by decide +kernel
theorem dL_law_510 : decode cL_law 510 = .ok (.aload_n 0, 1) := by decide +kernel
theorem dL_law_511 : decode cL_law 511 = .ok (.iload_n 3, 1) := by decide +kernel
theorem dL_law_512 : decode cL_law 512 = .ok (.iconst 1, 1) := by decide +kernel
theorem dL_law_513 : decode cL_law 513 = .ok (.iadd, 1) := by decide +kernel
theorem dL_law_514 : decode cL_law 514 = .ok (.iaload, 1) := by decide +kernel
theorem dL_law_515 : decode cL_law 515 = .ok (.aload_n 0, 1) := by decide +kernel
theorem dL_law_516 : decode cL_law 516 = .ok (.iload_n 3, 1) := by decide +kernel
theorem dL_law_517 : decode cL_law 517 = .ok (.iconst 2, 1) := by decide +kernel
theorem dL_law_518 : decode cL_law 518 = .ok (.iadd, 1) := by decide +kernel
theorem dL_law_519 : decode cL_law 519 = .ok (.iaload, 1) := by decide +kernel
theorem dL_law_520 : decode cL_law 520 = .ok (.aload_n 0, 1) := by decide +kernel
theorem dL_law_521 : decode cL_law 521 = .ok (.iload_n 3, 1) := by decide +kernel
theorem dL_law_522 : decode cL_law 522 = .ok (.iconst 3, 1) := by decide +kernel
theorem dL_law_523 : decode cL_law 523 = .ok (.iadd, 1) := by decide +kernel
theorem dL_law_524 : decode cL_law 524 = .ok (.iaload, 1) := by decide +kernel
theorem dL_law_525 : decode cL_law 525 = .ok (.aload_n 0, 1) := by decide +kernel
theorem dL_law_526 : decode cL_law 526 = .ok (.iload_n 3, 1) := by decide +kernel
theorem dL_law_527 : decode cL_law 527 = .ok (.iconst 4, 1) := by decide +kernel
theorem dL_law_528 : decode cL_law 528 = .ok (.iadd, 1) := by decide +kernel
theorem dL_law_529 : decode cL_law 529 = .ok (.iaload, 1) := by decide +kernel
theorem dL_law_530 : decode cL_law 530 = .ok (.aload_n 0, 1) := by decide +kernel
theorem dL_law_531 : decode cL_law 531 = .ok (.iload_n 3, 1) := by decide +kernel
theorem dL_law_532 : decode cL_law 532 = .ok (.iconst 5, 1) := by decide +kernel
theorem dL_law_533 : decode cL_law 533 = .ok (.iadd, 1) := by decide +kernel
theorem dL_law_534 : decode cL_law 534 = .ok (.iaload, 1) := by decide +kernel
theorem dL_law_535 : decode cL_law 535 = .ok (.invokevirtual 78, 3) := by decide +kernel
theorem dL_law_538 : decode cL_law 538 = .ok (.if_icmp .eq 120, 3) := by decide +kernel
theorem dL_law_541 : decode cL_law 541 = .ok (.iconst 0, 1) := by decide +kernel
theorem dL_law_542 : decode cL_law 542 = .ok (.ireturn, 1) := by decide +kernel
theorem dL_law_543 : decode cL_law 543 = .ok (.aload_n 1, 1) := by decide +kernel
theorem dL_law_544 : decode cL_law 544 = .ok (.invokevirtual 79, 3) := by decide +kernel
theorem dL_law_547 : decode cL_law 547 = .ok (.aload_n 2, 1) := by decide +kernel
theorem dL_law_548 : decode cL_law 548 = .ok (.invokevirtual 82, 3) := by decide +kernel
theorem dL_law_551 : decode cL_law 551 = .ok (.if_icmp .eq 107, 3) := by decide +kernel
theorem dL_law_554 : decode cL_law 554 = .ok (.iconst 0, 1) := by decide +kernel
theorem dL_law_555 : decode cL_law 555 = .ok (.ireturn, 1) := by decide +kernel
theorem dL_law_556 : decode cL_law 556 = .ok (.aload_n 1, 1) := by decide +kernel
theorem dL_law_557 : decode cL_law 557 = .ok (.invokevirtual 83, 3) := by decide +kernel
theorem dL_law_560 : decode cL_law 560 = .ok (.aload_n 2, 1) := by decide +kernel
theorem dL_law_561 : decode cL_law 561 = .ok (.invokevirtual 86, 3) := by decide +kernel
theorem dL_law_564 : decode cL_law 564 = .ok (.if_icmp .eq 94, 3) := by decide +kernel
theorem dL_law_567 : decode cL_law 567 = .ok (.iconst 0, 1) := by decide +kernel
theorem dL_law_568 : decode cL_law 568 = .ok (.ireturn, 1) := by decide +kernel
theorem dL_law_569 : decode cL_law 569 = .ok (.aload_n 1, 1) := by decide +kernel
theorem dL_law_570 : decode cL_law 570 = .ok (.aload_n 0, 1) := by decide +kernel
theorem dL_law_571 : decode cL_law 571 = .ok (.iload_n 3, 1) := by decide +kernel
theorem dL_law_572 : decode cL_law 572 = .ok (.iconst 1, 1) := by decide +kernel
theorem dL_law_573 : decode cL_law 573 = .ok (.iadd, 1) := by decide +kernel
theorem dL_law_574 : decode cL_law 574 = .ok (.iaload, 1) := by decide +kernel
theorem dL_law_575 : decode cL_law 575 = .ok (.aload_n 0, 1) := by decide +kernel
theorem dL_law_576 : decode cL_law 576 = .ok (.iload_n 3, 1) := by decide +kernel
theorem dL_law_577 : decode cL_law 577 = .ok (.iconst 2, 1) := by decide +kernel
theorem dL_law_578 : decode cL_law 578 = .ok (.iadd, 1) := by decide +kernel
theorem dL_law_579 : decode cL_law 579 = .ok (.iaload, 1) := by decide +kernel
theorem dL_law_580 : decode cL_law 580 = .ok (.invokevirtual 87, 3) := by decide +kernel
theorem dL_law_583 : decode cL_law 583 = .ok (.aload_n 2, 1) := by decide +kernel
theorem dL_law_584 : decode cL_law 584 = .ok (.aload_n 0, 1) := by decide +kernel
theorem dL_law_585 : decode cL_law 585 = .ok (.iload_n 3, 1) := by decide +kernel
theorem dL_law_586 : decode cL_law 586 = .ok (.iconst 1, 1) := by decide +kernel
theorem dL_law_587 : decode cL_law 587 = .ok (.iadd, 1) := by decide +kernel
theorem dL_law_588 : decode cL_law 588 = .ok (.iaload, 1) := by decide +kernel
theorem dL_law_589 : decode cL_law 589 = .ok (.aload_n 0, 1) := by decide +kernel
theorem dL_law_590 : decode cL_law 590 = .ok (.iload_n 3, 1) := by decide +kernel
theorem dL_law_591 : decode cL_law 591 = .ok (.iconst 2, 1) := by decide +kernel
theorem dL_law_592 : decode cL_law 592 = .ok (.iadd, 1) := by decide +kernel
theorem dL_law_593 : decode cL_law 593 = .ok (.iaload, 1) := by decide +kernel
theorem dL_law_594 : decode cL_law 594 = .ok (.invokevirtual 90, 3) := by decide +kernel
theorem dL_law_597 : decode cL_law 597 = .ok (.if_icmp .eq 61, 3) := by decide +kernel
theorem dL_law_600 : decode cL_law 600 = .ok (.iconst 0, 1) := by decide +kernel
theorem dL_law_601 : decode cL_law 601 = .ok (.ireturn, 1) := by decide +kernel
theorem dL_law_602 : decode cL_law 602 = .ok (.aload_n 1, 1) := by decide +kernel
theorem dL_law_603 : decode cL_law 603 = .ok (.aload_n 0, 1) := by decide +kernel
theorem dL_law_604 : decode cL_law 604 = .ok (.iload_n 3, 1) := by decide +kernel
theorem dL_law_605 : decode cL_law 605 = .ok (.iconst 1, 1) := by decide +kernel
theorem dL_law_606 : decode cL_law 606 = .ok (.iadd, 1) := by decide +kernel
theorem dL_law_607 : decode cL_law 607 = .ok (.iaload, 1) := by decide +kernel
theorem dL_law_608 : decode cL_law 608 = .ok (.aload_n 0, 1) := by decide +kernel
theorem dL_law_609 : decode cL_law 609 = .ok (.iload_n 3, 1) := by decide +kernel
theorem dL_law_610 : decode cL_law 610 = .ok (.iconst 2, 1) := by decide +kernel
theorem dL_law_611 : decode cL_law 611 = .ok (.iadd, 1) := by decide +kernel
theorem dL_law_612 : decode cL_law 612 = .ok (.iaload, 1) := by decide +kernel
theorem dL_law_613 : decode cL_law 613 = .ok (.invokevirtual 91, 3) := by decide +kernel
theorem dL_law_616 : decode cL_law 616 = .ok (.aload_n 2, 1) := by decide +kernel
theorem dL_law_617 : decode cL_law 617 = .ok (.aload_n 0, 1) := by decide +kernel
theorem dL_law_618 : decode cL_law 618 = .ok (.iload_n 3, 1) := by decide +kernel
theorem dL_law_619 : decode cL_law 619 = .ok (.iconst 1, 1) := by decide +kernel
theorem dL_law_620 : decode cL_law 620 = .ok (.iadd, 1) := by decide +kernel
theorem dL_law_621 : decode cL_law 621 = .ok (.iaload, 1) := by decide +kernel
theorem dL_law_622 : decode cL_law 622 = .ok (.aload_n 0, 1) := by decide +kernel
theorem dL_law_623 : decode cL_law 623 = .ok (.iload_n 3, 1) := by decide +kernel
theorem dL_law_624 : decode cL_law 624 = .ok (.iconst 2, 1) := by decide +kernel
theorem dL_law_625 : decode cL_law 625 = .ok (.iadd, 1) := by decide +kernel
theorem dL_law_626 : decode cL_law 626 = .ok (.iaload, 1) := by decide +kernel
theorem dL_law_627 : decode cL_law 627 = .ok (.invokevirtual 94, 3) := by decide +kernel
theorem dL_law_630 : decode cL_law 630 = .ok (.if_icmp .eq 28, 3) := by decide +kernel
theorem dL_law_633 : decode cL_law 633 = .ok (.iconst 0, 1) := by decide +kernel
theorem dL_law_634 : decode cL_law 634 = .ok (.ireturn, 1) := by decide +kernel
theorem dL_law_635 : decode cL_law 635 = .ok (.aload_n 1, 1) := by decide +kernel
theorem dL_law_636 : decode cL_law 636 = .ok (.aload_n 0, 1) := by decide +kernel
theorem dL_law_637 : decode cL_law 637 = .ok (.iload_n 3, 1) := by decide +kernel
theorem dL_law_638 : decode cL_law 638 = .ok (.iconst 1, 1) := by decide +kernel
theorem dL_law_639 : decode cL_law 639 = .ok (.iadd, 1) := by decide +kernel
theorem dL_law_640 : decode cL_law 640 = .ok (.iaload, 1) := by decide +kernel
theorem dL_law_641 : decode cL_law 641 = .ok (.invokevirtual 95, 3) := by decide +kernel
theorem dL_law_644 : decode cL_law 644 = .ok (.aload_n 2, 1) := by decide +kernel
theorem dL_law_645 : decode cL_law 645 = .ok (.aload_n 0, 1) := by decide +kernel
theorem dL_law_646 : decode cL_law 646 = .ok (.iload_n 3, 1) := by decide +kernel
theorem dL_law_647 : decode cL_law 647 = .ok (.iconst 1, 1) := by decide +kernel
theorem dL_law_648 : decode cL_law 648 = .ok (.iadd, 1) := by decide +kernel
theorem dL_law_649 : decode cL_law 649 = .ok (.iaload, 1) := by decide +kernel
theorem dL_law_650 : decode cL_law 650 = .ok (.invokevirtual 98, 3) := by decide +kernel
theorem dL_law_653 : decode cL_law 653 = .ok (.if_icmp .eq 5, 3) := by decide +kernel
theorem dL_law_656 : decode cL_law 656 = .ok (.iconst 0, 1) := by decide +kernel
theorem dL_law_657 : decode cL_law 657 = .ok (.ireturn, 1) := by decide +kernel
theorem dL_law_658 : decode cL_law 658 = .ok (.iinc 3 6, 3) := by decide +kernel
theorem dL_law_661 : decode cL_law 661 = .ok (.goto (-643), 3) := by decide +kernel
theorem dL_law_664 : decode cL_law 664 = .ok (.iconst 1, 1) := by decide +kernel
theorem dL_law_665 : decode cL_law 665 = .ok (.ireturn, 1) := by decide +kernel
end
section
/-! ===== worlds by names: a cell's references are names; 'ad' says at which address a name stands ===== -/
abbrev rr_H : Type := List (Option va_E)
def a_v (ad : Nat → Nat) : Value → Value
  | .ref n => .ref (ad n)
  | v => v
def a_a (ad : Nat → Nat) (x : vp_A) : vp_A := (x.1, match x.2 with
  | .inr (.inr (.inr (.inr f))) => .inr (.inr (.inr (.inr (fun j => (f j).map ad))))
  | y => y)
def a_c (cy : Nat → ClassId) (ad : Nat → Nat) : va_E → va_E
  | .inl x => .inl (cy x.1, a_a ad x.2)
  | .inr o => .inr (o.1, o.2.map (a_v ad))
def a_w (cy : Nat → ClassId) (ad : Nat → Nat) : Nat → rr_H → va_W
  | _, [] => []
  | i, none :: t => a_w cy ad (i + 1) t
  | i, some c :: t => (ad i, a_c cy ad c) :: a_w cy ad (i + 1) t
def a_k : rr_H → Nat → Nat
  | [], _ => 0
  | _ :: _, 0 => 0
  | none :: t, n + 1 => a_k t n
  | some _ :: t, n + 1 => a_k t n + 1
theorem a_v_cat (ad : Nat → Nat) (v : Value) : (a_v ad v).category = v.category := by cases v <;> rfl
theorem a_w_at (cy : Nat → ClassId) (ad : Nat → Nat) : ∀ (h : rr_H) (i n : Nat) (c : va_E), h[n]? = some (some c) → (a_w cy ad i h)[a_k h n]? = some (ad (i + n), a_c cy ad c) := by
  intro h
  induction h with
  | nil => intro i n c hc; simp at hc
  | cons x t ih =>
    intro i n c hc
    cases n with
    | zero =>
      cases x with
      | none => simp at hc
      | some d => simp at hc; subst hc; rfl
    | succ n =>
      have h1 := ih (i + 1) n c (by simpa using hc)
      rw [show i + (n + 1) = i + 1 + n by omega]
      cases x with
      | none => exact h1
      | some d => show ((_ : Nat × va_E) :: a_w cy ad (i + 1) t)[a_k t n + 1]? = _; rw [List.getElem?_cons_succ]; exact h1
theorem a_w_set (cy : Nat → ClassId) (ad : Nat → Nat) (c' : va_E) : ∀ (h : rr_H) (i n : Nat) (c : va_E), h[n]? = some (some c) → (a_w cy ad i h).set (a_k h n) (ad (i + n), a_c cy ad c') = a_w cy ad i (h.set n (some c')) := by
  intro h
  induction h with
  | nil => intro i n c hc; simp at hc
  | cons x t ih =>
    intro i n c hc
    cases n with
    | zero =>
      cases x with
      | none => simp at hc
      | some d => rfl
    | succ n =>
      have h1 := ih (i + 1) n c (by simpa using hc)
      rw [show i + (n + 1) = i + 1 + n by omega]
      cases x with
      | none => exact h1
      | some d =>
        show ((ad i, a_c cy ad d) :: a_w cy ad (i + 1) t).set (a_k t n + 1) _ = (ad i, a_c cy ad d) :: a_w cy ad (i + 1) (t.set n (some c'))
        rw [List.set_cons_succ, h1]
theorem a_w_of (cy : Nat → ClassId) (ad : Nat → Nat) : ∀ (h : rr_H) (i k : Nat) (q : Nat × va_E), (a_w cy ad i h)[k]? = some q → ∃ n c, h[n]? = some (some c) ∧ q = (ad (i + n), a_c cy ad c) ∧ a_k h n = k := by
  intro h
  induction h with
  | nil => intro i k q hq; simp [a_w] at hq
  | cons x t ih =>
    intro i k q hq
    cases x with
    | none =>
      obtain ⟨n, c, h1, h2, h3⟩ := ih (i + 1) k q hq
      exact ⟨n + 1, c, by simpa using h1, by rw [h2, show i + 1 + n = i + (n + 1) by omega], h3⟩
    | some d =>
      cases k with
      | zero =>
        have e : (ad i, a_c cy ad d) = q := by simpa [a_w] using hq
        exact ⟨0, d, rfl, e.symm, rfl⟩
      | succ k =>
        have hq' : (a_w cy ad (i + 1) t)[k]? = some q := by simpa [a_w] using hq
        obtain ⟨n, c, h1, h2, h3⟩ := ih (i + 1) k q hq'
        refine ⟨n + 1, c, by simpa using h1, by rw [h2, show i + 1 + n = i + (n + 1) by omega], ?_⟩
        show a_k t n + 1 = k + 1
        rw [h3]
theorem a_k_inj : ∀ (h : rr_H) (n n' : Nat) (c c' : va_E), h[n]? = some (some c) → h[n']? = some (some c') → a_k h n = a_k h n' → n = n' := by
  intro h
  induction h with
  | nil => intro n n' c c' hc; simp at hc
  | cons x t ih =>
    intro n n' c c' hc hc' e
    cases n with
    | zero =>
      cases n' with
      | zero => rfl
      | succ n' =>
        cases x with
        | none => simp at hc
        | some d => exact absurd e (by show ¬ 0 = a_k t n' + 1; omega)
    | succ n =>
      cases n' with
      | zero =>
        cases x with
        | none => simp at hc'
        | some d => exact absurd e (by show ¬ a_k t n + 1 = 0; omega)
      | succ n' =>
        have h1 : a_k t n = a_k t n' := by
          cases x with
          | none => exact e
          | some d => exact Nat.succ.inj e
        rw [ih n n' c c' (by simpa using hc) (by simpa using hc') h1]
theorem a_P_iff {D : va_G} {cl : List vw_C} {cy : Nat → ClassId} {ad : Nat → Nat} {h : rr_H} {H : Heap} : va_P D cl (a_w cy ad 0 h) H ↔ ∀ n c, h[n]? = some (some c) → va_at D cl (ad n, a_c cy ad c) H := by
  constructor
  · intro hP n c hc
    have := hP _ _ (a_w_at cy ad h 0 n c hc)
    rwa [Nat.zero_add] at this
  · intro hq k q hk
    obtain ⟨n, c, h1, h2, -⟩ := a_w_of cy ad h 0 k q hk
    rw [h2, Nat.zero_add]
    exact hq n c h1
theorem a_D_iff {A : Nat → Prop} {cy : Nat → ClassId} {ad : Nat → Nat} {h : rr_H} : va_D A (a_w cy ad 0 h) ↔ (∀ n n' c c', h[n]? = some (some c) → h[n']? = some (some c') → ad n = ad n' → n = n') ∧ ∀ n c, h[n]? = some (some c) → A (ad n) := by
  constructor
  · intro hD
    refine ⟨fun n n' c c' hc hc' e => ?_, fun n c hc => ?_⟩
    · have h1 := a_w_at cy ad h 0 n c hc
      have h2 := a_w_at cy ad h 0 n' c' hc'
      exact a_k_inj h n n' c c' hc hc' (hD.1 _ _ _ _ h1 h2 (by simpa using e))
    · have := hD.2 _ _ (a_w_at cy ad h 0 n c hc)
      simpa using this
  · intro ⟨h1, h2⟩
    refine ⟨fun i j p q hp hq e => ?_, fun k q hk => ?_⟩
    · obtain ⟨n, c, g1, g2, g3⟩ := a_w_of cy ad h 0 i p hp
      obtain ⟨n', c', f1, f2, f3⟩ := a_w_of cy ad h 0 j q hq
      subst g2; subst f2
      have := h1 n n' c c' g1 f1 (by simpa using e)
      subst this
      rw [← g3, ← f3]
    · obtain ⟨n, c, g1, g2, g3⟩ := a_w_of cy ad h 0 k q hk
      subst g2
      simpa using h2 n c g1
/-! ===== what a walk stands on ===== -/
abbrev rr_G : Type := (Nat → ClassId) × (Nat → Nat → Nat) × (Nat → ClassId)
abbrev rr_M : Type := MethodName × ByteArray × Nat × Option FieldType
def rr_ws : List Cond := lw_tbl.filter goodWord
def rr_isN : Cond → Bool
  | .fieldLinkNest .. => true
  | .methodLinkNest .. => true
  | .arrayOver (.object _) => true
  | _ => false
def rr_ns : List Cond := lw_tbl.filter rr_isN
def rr_tys (cy : Nat → ClassId) : List (ClassId × FieldType) := [(cy 0, .int), (cy 1, .long), (cy 2, .byte), (cy 3, .boolean), (cy 4, .object "LazyHeaps$Rule"), (cy 5, .object "LazyHeaps$Step")]
def rr_D (G : rr_G) : va_G := (G.1, G.2.1)
def rr_K (G : rr_G) (U : State) : Prop := va_K (rr_D G) vwCl (rr_tys G.2.2) U ∧ ∀ w ∈ rr_ns, va_Nw w U
theorem rr_K.moved {G : rr_G} {s U : State} (hW : s.WarmedH U.vm) (h : rr_K G s) : rr_K G U := by
  refine ⟨va_K.moved hW.alike h.1, fun w hw => ?_⟩
  have hk := (List.mem_filter.mp hw).2
  have hz := h.2 w hw
  match w, hk, hz with
  | .fieldLinkNest .., _, z => exact va_Nw.warmF hW z
  | .methodLinkNest .., _, z => exact va_Nw.warmM hW z
  | .arrayOver (.object C), _, z => exact va_AO.moved hW.alike z
def rr_C (G : rr_G) (mt : rr_M) (p : Program) (s : State) (m : MethodId) (args : Array Value) (meth : Method) (c : Code) : Prop :=
  p.tables.exec = Jvm.exec ∧ c.code = mt.2.1 ∧ c.maxLocals = mt.2.2.1 ∧ s.vm.findClass mt.1.cls = some m.cls ∧ (∀ w ∈ rr_ws, w.before args s = true) ∧ meth.sig.returnType = mt.2.2.2 ∧ meth.locks = false ∧ meth.name = mt.1.name ∧ rr_K G s
def rr_S (G : rr_G) (fx : Nat → Bool) (ad0 ad : Nat → Nat) (A : Nat → Prop) (s : State) (H : Heap) (locs : List Loc) (h : rr_H) : Prop :=
  va_P (rr_D G) vwCl (a_w G.2.2 ad 0 h) H ∧ va_D A (a_w G.2.2 ad 0 h) ∧ va_S A s.heap H locs ∧ (∀ q, s.heap.size ≤ q → A q) ∧ ∀ n, fx n = true → ad n = ad0 n
def rr_L (ad : Nat → Nat) (lv : List (Nat × Value)) : List (Nat × Value) := lv.map (fun q => (q.1, a_v ad q.2))
def rr_Q {σ : Type} (G : rr_G) (fx : Nat → Bool) (rv : σ → Option Value) (w : σ → rr_H) (q : σ) (ad0 : Nat → Nat) (A : Nat → Prop) : Array Value → State → Outcome → State → Prop := fun _ st oc t =>
  (∃ ad : Nat → Nat, (∀ n, fx n = true → ad n = ad0 n) ∧ oc = .returned ((rv q).map (a_v ad)) ∧ va_P (rr_D G) vwCl (a_w G.2.2 ad 0 (w q)) t.heap ∧ va_K (rr_D G) vwCl (rr_tys G.2.2) t ∧ va_D A (a_w G.2.2 ad 0 (w q))) ∧ va_F A st t
/-- the machine at pc, with these locals and operands, over the world h, comes to the end that o tells (if it tells one) -/
def RR {σ : Type} (l : Launch) (G : rr_G) (mt : rr_M) (rm : Room) (fx : Nat → Bool) (rv : σ → Option Value) (w : σ → rr_H) (mc ms pc : Nat) (lv : List (Nat × Value)) (st : List Value) (h : rr_H) (o : Option σ) : Prop :=
  ∀ q, o = some q → ∀ (p : Program) (e : Env) (s : State) (m : MethodId) (args : Array Value) (below : List Frame) (meth : Method) (c : Code) (ad0 ad : Nat → Nat) (A : Nat → Prop) (H : Heap) (locs : List Loc) (cells slots : Nat) (ls : Array Slot),
    rr_C G mt p s m args meth c → rr_S G fx ad0 ad A s H locs h → lv_has ls mt.2.2.1 (rr_L ad lv) → cells + mc ≤ rm.cells → slots + ms ≤ rm.slots →
    W p l e rm s m args below meth c H locs cells slots (MQ below (rr_Q G fx rv w q ad0 A) args s rm.cells rm.slots A) (F0 m pc ls (st.map (a_v ad)))
/-- a method, called with av over the world h, comes to the end that o tells -/
def TT {σ : Type} (l : Launch) (G : rr_G) (mt : rr_M) (d lo : Nat) (fx : Nat → Bool) (rv : σ → Option Value) (w : σ → rr_H) (mc ms : Nat) (av : List Value) (h : rr_H) (o : Option σ) : Prop :=
  ∀ q, o = some q → ∀ (ad : Nat → Nat) (sz : Nat), Met l mt.1 (.code mt.1 mt.2.1 mt.2.2.1 mt.2.2.2 :: rr_ws) { frames := d, cells := mc, slots := ms, locals := lo } (va_Pc (av.map (a_v ad)) (fun U => U.heap.size = sz ∧ va_P (rr_D G) vwCl (a_w G.2.2 ad 0 h) U.heap ∧ rr_K G U ∧ va_D (fun _ => True) (a_w G.2.2 ad 0 h))) (rr_Q G fx rv w q ad (va_A (a_w G.2.2 ad 0 h) sz)) mc ms (va_A (a_w G.2.2 ad 0 h) sz)
theorem rr_args (ad : Nat → Nat) : ∀ (av : List Value) (i : Nat), lv_args i (av.map (a_v ad)) = rr_L ad (lv_args i av) := by
  intro av
  induction av with
  | nil => intro i; rfl
  | cons v t ih =>
    intro i
    simp only [List.map_cons, lv_args, a_v_cat, ih]
    first | rfl | (split <;> rfl) | simp [rr_L]
theorem rr_sl (ad : Nat → Nat) : ∀ av : List Value, (lg_sl (av.map (a_v ad))).length = (lg_sl av).length := by
  intro av
  induction av with
  | nil => rfl
  | cons v t ih =>
    simp only [lg_sl, List.map_cons, List.flatMap_cons, List.length_append, a_v_cat] at ih ⊢
    rw [ih]
    split <;> rfl
theorem TT.of {σ : Type} {l : Launch} {G : rr_G} {mt : rr_M} {d lo : Nat} {fx : Nat → Bool} {rv : σ → Option Value} {w : σ → rr_H} {mc ms : Nat} {av : List Value} {h : rr_H} {o : Option σ} (hpl : plainName mt.1.cls = true) (hlen : (lg_sl av).length ≤ mt.2.2.1)
    (k : RR l G mt { frames := d, cells := mc, slots := ms, locals := lo } fx rv w mc ms 0 (lv_args 0 av) [] h o) : TT l G mt d lo fx rv w mc ms av h o := by
  intro q ho ad sz
  refine Met.ofW (cc := mt.2.1) (maxL := mt.2.2.1) (ret := mt.2.2.2) hpl rfl ?_
  intro p e s m args below meth c s₁ B hml hv
  obtain ⟨rfl, hsz, hP, hK, hD⟩ := hv
  subst hsz
  have hts := atoms_spec (ws := .code mt.1 mt.2.1 mt.2.2.1 mt.2.2.2 :: rr_ws) B.pre
  have hl := lv_entry (av.map (a_v ad)) (n := mt.2.2.1) (by rw [rr_sl]; exact hlen)
  rw [rr_args] at hl
  rw [lg_entry_eq]
  exact k q ho p e s m _ below meth c ad ad _ s.heap [] 0 0 _ ⟨B.exec, B.bytes, hml, findClass_of_methodNamed B.named, fun x hx => hts x (List.mem_cons_of_mem _ hx), B.returns, B.notSynchronized, (name_of_methodNamed B.named B.method).1, hK⟩ ⟨hP, hD.self, va_S.rf, fun q h => Or.inr h, fun _ _ => rfl⟩ hl (by simp) (by simp)
end
section
/-! ===== rows: an instruction each ===== -/
section RROWS
variable {σ : Type} {l : Launch} {G : rr_G} {mt : rr_M} {rm : Room} {fx : Nat → Bool} {rv : σ → Option Value} {w : σ → rr_H} {mc ms pc : Nat} {lv : List (Nat × Value)} {st : List Value} {h : rr_H} {o : Option σ}
theorem RR.lift {pc' : Nat} {st' : List Value} (k : RR l G mt rm fx rv w mc ms pc' lv st' h o) (g : ∀ (p : Program) (e : Env) (s : State) (m : MethodId) (args : Array Value) (below : List Frame) (meth : Method) (c : Code) (H : Heap) (locs : List Loc) (cells slots : Nat) (Q : State → Prop) (ad : Nat → Nat) (ls : Array Slot), rr_C G mt p s m args meth c → lv_has ls mt.2.2.1 (rr_L ad lv) → W p l e rm s m args below meth c H locs cells slots Q (F0 m pc' ls (st'.map (a_v ad))) → W p l e rm s m args below meth c H locs cells slots Q (F0 m pc ls (st.map (a_v ad)))) : RR l G mt rm fx rv w mc ms pc lv st h o :=
  fun q ho p e s m args below meth c ad0 ad A H locs cells slots ls C S L hc hs => g p e s m args below meth c H locs cells slots _ ad ls C L (k q ho p e s m args below meth c ad0 ad A H locs cells slots ls C S L hc hs)
theorem RR.liftL {pc' : Nat} {lv' : List (Nat × Value)} {st' : List Value} (k : RR l G mt rm fx rv w mc ms pc' lv' st' h o) (g : ∀ (p : Program) (e : Env) (s : State) (m : MethodId) (args : Array Value) (below : List Frame) (meth : Method) (c : Code) (H : Heap) (locs : List Loc) (cells slots : Nat) (Q : State → Prop) (ad : Nat → Nat) (ls : Array Slot), rr_C G mt p s m args meth c → lv_has ls mt.2.2.1 (rr_L ad lv) → (∀ ls' : Array Slot, lv_has ls' mt.2.2.1 (rr_L ad lv') → W p l e rm s m args below meth c H locs cells slots Q (F0 m pc' ls' (st'.map (a_v ad)))) → W p l e rm s m args below meth c H locs cells slots Q (F0 m pc ls (st.map (a_v ad)))) : RR l G mt rm fx rv w mc ms pc lv st h o :=
  fun q ho p e s m args below meth c ad0 ad A H locs cells slots ls C S L hc hs => g p e s m args below meth c H locs cells slots _ ad ls C L (fun ls' L' => k q ho p e s m args below meth c ad0 ad A H locs cells slots ls' C S L' hc hs)
theorem rr_la {ad : Nat → Nat} {ls : Array Slot} {nL i : Nat} {v : Value} (L : lv_has ls nL (rr_L ad lv)) (k : Nat) (hk : lv[k]? = some (i, v)) : ls[i]? = some (.val (a_v ad v)) :=
  lv_at L k (by rw [rr_L, List.getElem?_map, hk]; rfl)
theorem rr_Lf1 (ad : Nat → Nat) (i : Nat) (v : Value) : (i, a_v ad v) :: (rr_L ad lv).filter (fun q => !(q.1 == i) && !(q.1 + 1 == i && q.2.category == 2)) = rr_L ad ((i, v) :: lv.filter (fun q => !(q.1 == i) && !(q.1 + 1 == i && q.2.category == 2))) := by
  simp only [rr_L, List.map_cons, List.filter_map, Function.comp_def, a_v_cat]
theorem rr_Lf2 (ad : Nat → Nat) (i : Nat) (v : Value) : (i, a_v ad v) :: (rr_L ad lv).filter (fun q => !(q.1 == i) && (!(q.1 == i + 1) && !(q.1 + 1 == i && q.2.category == 2))) = rr_L ad ((i, v) :: lv.filter (fun q => !(q.1 == i) && (!(q.1 == i + 1) && !(q.1 + 1 == i && q.2.category == 2)))) := by
  simp only [rr_L, List.map_cons, List.filter_map, Function.comp_def, a_v_cat]
/-- fewer locals, in another order -/
theorem rr_sub (ks : List Nat) {lv' : List (Nat × Value)} (hl : lv_pick lv ks = lv') (k : RR l G mt rm fx rv w mc ms pc lv' st h o) : RR l G mt rm fx rv w mc ms pc lv st h o :=
  k.liftL (fun p e s m args below meth c H locs cells slots Q ad ls C L K => K ls (lv_sub L ks (by rw [← hl, rr_L, rr_L, lv_pick, lv_pick, List.map_filterMap]; congr 1; funext i; rw [List.getElem?_map])))
theorem rr_iconst {n : Int} {v : Int32} (hd : decode mt.2.1 pc = .ok (.iconst n, 1)) (hv : Int32.ofInt n = v) (k : RR l G mt rm fx rv w mc ms (pc + 1) lv (.int v :: st) h o) : RR l G mt rm fx rv w mc ms (pc) lv st h o :=
  k.lift (fun p e s m args below meth c H locs cells slots Q ad ls C L K => lv_iconst C.1 C.2.1 hd hv K)
theorem rr_bipush {n : Int} {v : Int32} (hd : decode mt.2.1 pc = .ok (.bipush n, 2)) (hv : (Int8.ofInt n).toInt32 = v) (k : RR l G mt rm fx rv w mc ms (pc + 2) lv (.int v :: st) h o) : RR l G mt rm fx rv w mc ms (pc) lv st h o :=
  k.lift (fun p e s m args below meth c H locs cells slots Q ad ls C L K => lv_bipush C.1 C.2.1 hd hv K)
theorem rr_sipush {n : Int} {v : Int32} (hd : decode mt.2.1 pc = .ok (.sipush n, 3)) (hv : (Int16.ofInt n).toInt32 = v) (k : RR l G mt rm fx rv w mc ms (pc + 3) lv (.int v :: st) h o) : RR l G mt rm fx rv w mc ms (pc) lv st h o :=
  k.lift (fun p e s m args below meth c H locs cells slots Q ad ls C L K => lv_sipush C.1 C.2.1 hd hv K)
theorem rr_lconst {n : Fin 2} {v : Int64} (hd : decode mt.2.1 pc = .ok (.lconst n, 1)) (hv : Int64.ofNat (n : Nat) = v) (k : RR l G mt rm fx rv w mc ms (pc + 1) lv (.long v :: st) h o) : RR l G mt rm fx rv w mc ms (pc) lv st h o :=
  k.lift (fun p e s m args below meth c H locs cells slots Q ad ls C L K => lv_lconst C.1 C.2.1 hd hv K)
theorem rr_iload_n {j : Fin 4} {i : Nat} {x : Int32} (hd : decode mt.2.1 pc = .ok (.iload_n j, 1)) (hi : (j : Nat) = i) (kk : Nat) (hk : lv[kk]? = some (i, .int x)) (k : RR l G mt rm fx rv w mc ms (pc + 1) lv (.int x :: st) h o) : RR l G mt rm fx rv w mc ms (pc) lv st h o :=
  k.lift (fun p e s m args below meth c H locs cells slots Q ad ls C L K => lv_iload_n C.1 C.2.1 hd hi (rr_la L kk hk) K)
theorem rr_iload {i : Nat} {x : Int32} (hd : decode mt.2.1 pc = .ok (.iload i, 2)) (kk : Nat) (hk : lv[kk]? = some (i, .int x)) (k : RR l G mt rm fx rv w mc ms (pc + 2) lv (.int x :: st) h o) : RR l G mt rm fx rv w mc ms (pc) lv st h o :=
  k.lift (fun p e s m args below meth c H locs cells slots Q ad ls C L K => lv_iload C.1 C.2.1 hd (rr_la L kk hk) K)
theorem rr_lload_n {j : Fin 4} {i : Nat} {x : Int64} (hd : decode mt.2.1 pc = .ok (.lload_n j, 1)) (hi : (j : Nat) = i) (kk : Nat) (hk : lv[kk]? = some (i, .long x)) (k : RR l G mt rm fx rv w mc ms (pc + 1) lv (.long x :: st) h o) : RR l G mt rm fx rv w mc ms (pc) lv st h o :=
  k.lift (fun p e s m args below meth c H locs cells slots Q ad ls C L K => lv_lload_n C.1 C.2.1 hd hi (rr_la L kk hk) K)
theorem rr_lload {i : Nat} {x : Int64} (hd : decode mt.2.1 pc = .ok (.lload i, 2)) (kk : Nat) (hk : lv[kk]? = some (i, .long x)) (k : RR l G mt rm fx rv w mc ms (pc + 2) lv (.long x :: st) h o) : RR l G mt rm fx rv w mc ms (pc) lv st h o :=
  k.lift (fun p e s m args below meth c H locs cells slots Q ad ls C L K => lv_lload C.1 C.2.1 hd (rr_la L kk hk) K)
theorem rr_aload_n {j : Fin 4} {i : Nat} {x : Nat} (hd : decode mt.2.1 pc = .ok (.aload_n j, 1)) (hi : (j : Nat) = i) (kk : Nat) (hk : lv[kk]? = some (i, .ref x)) (k : RR l G mt rm fx rv w mc ms (pc + 1) lv (.ref x :: st) h o) : RR l G mt rm fx rv w mc ms (pc) lv st h o :=
  k.lift (fun p e s m args below meth c H locs cells slots Q ad ls C L K => lv_aload_n C.1 C.2.1 hd hi (rr_la L kk hk) K)
theorem rr_aload {i : Nat} {x : Nat} (hd : decode mt.2.1 pc = .ok (.aload i, 2)) (kk : Nat) (hk : lv[kk]? = some (i, .ref x)) (k : RR l G mt rm fx rv w mc ms (pc + 2) lv (.ref x :: st) h o) : RR l G mt rm fx rv w mc ms (pc) lv st h o :=
  k.lift (fun p e s m args below meth c H locs cells slots Q ad ls C L K => lv_aload C.1 C.2.1 hd (rr_la L kk hk) K)
theorem rr_aload_nN {j : Fin 4} {i : Nat} (hd : decode mt.2.1 pc = .ok (.aload_n j, 1)) (hi : (j : Nat) = i) (kk : Nat) (hk : lv[kk]? = some (i, .null)) (k : RR l G mt rm fx rv w mc ms (pc + 1) lv (.null :: st) h o) : RR l G mt rm fx rv w mc ms (pc) lv st h o :=
  k.lift (fun p e s m args below meth c H locs cells slots Q ad ls C L K => lv_aload_nN C.1 C.2.1 hd hi (rr_la L kk hk) K)
theorem rr_aloadN {i : Nat} (hd : decode mt.2.1 pc = .ok (.aload i, 2)) (kk : Nat) (hk : lv[kk]? = some (i, .null)) (k : RR l G mt rm fx rv w mc ms (pc + 2) lv (.null :: st) h o) : RR l G mt rm fx rv w mc ms (pc) lv st h o :=
  k.lift (fun p e s m args below meth c H locs cells slots Q ad ls C L K => lv_aloadN C.1 C.2.1 hd (rr_la L kk hk) K)
theorem rr_iadd {x y : Int32} (hd : decode mt.2.1 pc = .ok (.iadd, 1))  (k : RR l G mt rm fx rv w mc ms (pc + 1) lv (.int (x + y) :: st) h o) : RR l G mt rm fx rv w mc ms (pc) lv (.int y :: .int x :: st) h o :=
  k.lift (fun p e s m args below meth c H locs cells slots Q ad ls C L K => lv_iadd C.1 C.2.1 hd K)
theorem rr_isub {x y : Int32} (hd : decode mt.2.1 pc = .ok (.isub, 1))  (k : RR l G mt rm fx rv w mc ms (pc + 1) lv (.int (x - y) :: st) h o) : RR l G mt rm fx rv w mc ms (pc) lv (.int y :: .int x :: st) h o :=
  k.lift (fun p e s m args below meth c H locs cells slots Q ad ls C L K => lv_isub C.1 C.2.1 hd K)
theorem rr_imul {x y : Int32} (hd : decode mt.2.1 pc = .ok (.imul, 1))  (k : RR l G mt rm fx rv w mc ms (pc + 1) lv (.int (x * y) :: st) h o) : RR l G mt rm fx rv w mc ms (pc) lv (.int y :: .int x :: st) h o :=
  k.lift (fun p e s m args below meth c H locs cells slots Q ad ls C L K => lv_imul C.1 C.2.1 hd K)
theorem rr_iand {x y : Int32} (hd : decode mt.2.1 pc = .ok (.iand, 1))  (k : RR l G mt rm fx rv w mc ms (pc + 1) lv (.int (x &&& y) :: st) h o) : RR l G mt rm fx rv w mc ms (pc) lv (.int y :: .int x :: st) h o :=
  k.lift (fun p e s m args below meth c H locs cells slots Q ad ls C L K => lv_iand C.1 C.2.1 hd K)
theorem rr_ior {x y : Int32} (hd : decode mt.2.1 pc = .ok (.ior, 1))  (k : RR l G mt rm fx rv w mc ms (pc + 1) lv (.int (x ||| y) :: st) h o) : RR l G mt rm fx rv w mc ms (pc) lv (.int y :: .int x :: st) h o :=
  k.lift (fun p e s m args below meth c H locs cells slots Q ad ls C L K => lv_ior C.1 C.2.1 hd K)
theorem rr_ixor {x y : Int32} (hd : decode mt.2.1 pc = .ok (.ixor, 1))  (k : RR l G mt rm fx rv w mc ms (pc + 1) lv (.int (x ^^^ y) :: st) h o) : RR l G mt rm fx rv w mc ms (pc) lv (.int y :: .int x :: st) h o :=
  k.lift (fun p e s m args below meth c H locs cells slots Q ad ls C L K => lv_ixor C.1 C.2.1 hd K)
theorem rr_ishl {x y : Int32} (hd : decode mt.2.1 pc = .ok (.ishl, 1))  (k : RR l G mt rm fx rv w mc ms (pc + 1) lv (.int (x <<< (y &&& 31)) :: st) h o) : RR l G mt rm fx rv w mc ms (pc) lv (.int y :: .int x :: st) h o :=
  k.lift (fun p e s m args below meth c H locs cells slots Q ad ls C L K => lv_ishl C.1 C.2.1 hd K)
theorem rr_ishr {x y : Int32} (hd : decode mt.2.1 pc = .ok (.ishr, 1))  (k : RR l G mt rm fx rv w mc ms (pc + 1) lv (.int (x >>> (y &&& 31)) :: st) h o) : RR l G mt rm fx rv w mc ms (pc) lv (.int y :: .int x :: st) h o :=
  k.lift (fun p e s m args below meth c H locs cells slots Q ad ls C L K => lv_ishr C.1 C.2.1 hd K)
theorem rr_idiv {x y : Int32} (hd : decode mt.2.1 pc = .ok (.idiv, 1)) (hne : ¬ y = 0) (k : RR l G mt rm fx rv w mc ms (pc + 1) lv (.int (x / y) :: st) h o) : RR l G mt rm fx rv w mc ms (pc) lv (.int y :: .int x :: st) h o :=
  k.lift (fun p e s m args below meth c H locs cells slots Q ad ls C L K => lv_idiv C.1 C.2.1 hd hne K)
theorem rr_irem {x y : Int32} (hd : decode mt.2.1 pc = .ok (.irem, 1)) (hne : ¬ y = 0) (k : RR l G mt rm fx rv w mc ms (pc + 1) lv (.int (x - x / y * y) :: st) h o) : RR l G mt rm fx rv w mc ms (pc) lv (.int y :: .int x :: st) h o :=
  k.lift (fun p e s m args below meth c H locs cells slots Q ad ls C L K => lv_irem C.1 C.2.1 hd hne K)
theorem rr_i2l {x : Int32} (hd : decode mt.2.1 pc = .ok (.i2l, 1))  (k : RR l G mt rm fx rv w mc ms (pc + 1) lv (.long x.toInt64 :: st) h o) : RR l G mt rm fx rv w mc ms (pc) lv (.int x :: st) h o :=
  k.lift (fun p e s m args below meth c H locs cells slots Q ad ls C L K => lv_i2l C.1 C.2.1 hd rfl K)
theorem rr_l2i {x : Int64} (hd : decode mt.2.1 pc = .ok (.l2i, 1))  (k : RR l G mt rm fx rv w mc ms (pc + 1) lv (.int x.toInt32 :: st) h o) : RR l G mt rm fx rv w mc ms (pc) lv (.long x :: st) h o :=
  k.lift (fun p e s m args below meth c H locs cells slots Q ad ls C L K => lv_l2i C.1 C.2.1 hd rfl K)
theorem rr_i2b {x : Int32} (hd : decode mt.2.1 pc = .ok (.i2b, 1))  (k : RR l G mt rm fx rv w mc ms (pc + 1) lv (.int x.toInt8.toInt32 :: st) h o) : RR l G mt rm fx rv w mc ms (pc) lv (.int x :: st) h o :=
  k.lift (fun p e s m args below meth c H locs cells slots Q ad ls C L K => lv_i2b C.1 C.2.1 hd rfl K)
theorem rr_lshl {x : Int64} {y : Int32} (hd : decode mt.2.1 pc = .ok (.lshl, 1))  (k : RR l G mt rm fx rv w mc ms (pc + 1) lv (.long (x <<< (y.toInt64 &&& 63)) :: st) h o) : RR l G mt rm fx rv w mc ms (pc) lv (.int y :: .long x :: st) h o :=
  k.lift (fun p e s m args below meth c H locs cells slots Q ad ls C L K => lv_lshl C.1 C.2.1 hd rfl K)
theorem rr_lshr {x : Int64} {y : Int32} (hd : decode mt.2.1 pc = .ok (.lshr, 1))  (k : RR l G mt rm fx rv w mc ms (pc + 1) lv (.long (x >>> (y.toInt64 &&& 63)) :: st) h o) : RR l G mt rm fx rv w mc ms (pc) lv (.int y :: .long x :: st) h o :=
  k.lift (fun p e s m args below meth c H locs cells slots Q ad ls C L K => lv_lshr C.1 C.2.1 hd rfl K)
theorem rr_lor {x y : Int64} (hd : decode mt.2.1 pc = .ok (.lor, 1))  (k : RR l G mt rm fx rv w mc ms (pc + 1) lv (.long (x ||| y) :: st) h o) : RR l G mt rm fx rv w mc ms (pc) lv (.long y :: .long x :: st) h o :=
  k.lift (fun p e s m args below meth c H locs cells slots Q ad ls C L K => lv_lor C.1 C.2.1 hd K)
theorem rr_lcmp {x y : Int64} (hd : decode mt.2.1 pc = .ok (.lcmp, 1))  (k : RR l G mt rm fx rv w mc ms (pc + 1) lv (.int (lg_cmp x y) :: st) h o) : RR l G mt rm fx rv w mc ms (pc) lv (.long y :: .long x :: st) h o :=
  k.lift (fun p e s m args below meth c H locs cells slots Q ad ls C L K => W.lcmp C.1 C.2.1 hd K)
theorem rr_dup {v : Value} (hd : decode mt.2.1 pc = .ok (.dup, 1)) (hc : v.category = 1) (k : RR l G mt rm fx rv w mc ms (pc + 1) lv (v :: v :: st) h o) : RR l G mt rm fx rv w mc ms (pc) lv (v :: st) h o :=
  k.lift (fun p e s m args below meth c H locs cells slots Q ad ls C L K => lv_dup C.1 C.2.1 hd (by rw [a_v_cat]; exact hc) K)
theorem rr_dup2 {v u : Value} (hd : decode mt.2.1 pc = .ok (.dup2, 1)) (hc : v.category = 1) (hu : u.category = 1) (k : RR l G mt rm fx rv w mc ms (pc + 1) lv (v :: u :: v :: u :: st) h o) : RR l G mt rm fx rv w mc ms (pc) lv (v :: u :: st) h o :=
  k.lift (fun p e s m args below meth c H locs cells slots Q ad ls C L K => lv_dup2_11 C.1 C.2.1 hd (by rw [a_v_cat]; exact hc) (by rw [a_v_cat]; exact hu) K)
theorem rr_goto {off : Int} {tgt : Nat} (hd : decode mt.2.1 pc = .ok (.goto off, 3)) (ht : (pc : Int) + off = (tgt : Int)) (k : RR l G mt rm fx rv w mc ms (tgt) lv st h o) : RR l G mt rm fx rv w mc ms (pc) lv st h o :=
  k.lift (fun p e s m args below meth c H locs cells slots Q ad ls C L K => lv_goto C.1 C.2.1 hd ht K)
theorem rr_ldc {idx : Nat} {v : Int32} (hd : decode mt.2.1 pc = .ok (.ldc idx, 2)) (hw : Cond.constant mt.1.cls idx v ∈ rr_ws) (k : RR l G mt rm fx rv w mc ms (pc + 2) lv (.int v :: st) h o) : RR l G mt rm fx rv w mc ms (pc) lv st h o :=
  k.lift (fun p e s m args below meth c H locs cells slots Q ad ls C L K => lv_ldc C.1 C.2.1 C.2.2.2.1 (C.2.2.2.2.1 _ hw) hd K)
theorem rr_null  (hd : decode mt.2.1 pc = .ok (.aconst_null, 1))  (k : RR l G mt rm fx rv w mc ms (pc + 1) lv (.null :: st) h o) : RR l G mt rm fx rv w mc ms (pc) lv st h o :=
  k.lift (fun p e s m args below meth c H locs cells slots Q ad ls C L K => lv_null C.1 C.2.1 hd K)
theorem rr_ifnull {off : Int} {x : Nat} (hd : decode mt.2.1 pc = .ok (.ifnull off, 3))  (k : RR l G mt rm fx rv w mc ms (pc + 3) lv st h o) : RR l G mt rm fx rv w mc ms (pc) lv (.ref x :: st) h o :=
  k.lift (fun p e s m args below meth c H locs cells slots Q ad ls C L K => lv_ifnull C.1 C.2.1 hd K)
theorem rr_ifnonnull {off : Int} {x tgt : Nat} (hd : decode mt.2.1 pc = .ok (.ifnonnull off, 3)) (ht : (pc : Int) + off = (tgt : Int)) (k : RR l G mt rm fx rv w mc ms (tgt) lv st h o) : RR l G mt rm fx rv w mc ms (pc) lv (.ref x :: st) h o :=
  k.lift (fun p e s m args below meth c H locs cells slots Q ad ls C L K => lv_ifnonnull C.1 C.2.1 hd ht K)
theorem rr_ifnullN {off : Int} {tgt : Nat} (hd : decode mt.2.1 pc = .ok (.ifnull off, 3)) (ht : (pc : Int) + off = (tgt : Int)) (k : RR l G mt rm fx rv w mc ms (tgt) lv st h o) : RR l G mt rm fx rv w mc ms (pc) lv (.null :: st) h o :=
  k.lift (fun p e s m args below meth c H locs cells slots Q ad ls C L K => lv_ifnullN C.1 C.2.1 hd ht K)
theorem rr_ifnonnullN {off : Int} (hd : decode mt.2.1 pc = .ok (.ifnonnull off, 3))  (k : RR l G mt rm fx rv w mc ms (pc + 3) lv st h o) : RR l G mt rm fx rv w mc ms (pc) lv (.null :: st) h o :=
  k.lift (fun p e s m args below meth c H locs cells slots Q ad ls C L K => lv_ifnonnullN C.1 C.2.1 hd K)
theorem rr_tableOut {dflt lo hi : Int} {offs : Array Int} {len : Nat} {x : Int32} {tgt : Nat} (hd : decode mt.2.1 pc = .ok (.tableswitch dflt lo hi offs, len)) (hx : x.toInt < lo ∨ hi < x.toInt) (ht : (pc : Int) + dflt = (tgt : Int)) (k : RR l G mt rm fx rv w mc ms (tgt) lv st h o) : RR l G mt rm fx rv w mc ms (pc) lv (.int x :: st) h o :=
  k.lift (fun p e s m args below meth c H locs cells slots Q ad ls C L K => lv_tableOut C.1 C.2.1 hd hx ht K)
theorem rr_tableIn {dflt lo hi : Int} {offs : Array Int} {len : Nat} {x : Int32} {off : Int} {tgt : Nat} (hd : decode mt.2.1 pc = .ok (.tableswitch dflt lo hi offs, len)) (h1 : ¬ x.toInt < lo) (h2 : ¬ hi < x.toInt) (ho : offs[(x.toInt - lo).toNat]? = some off) (ht : (pc : Int) + off = (tgt : Int)) (k : RR l G mt rm fx rv w mc ms (tgt) lv st h o) : RR l G mt rm fx rv w mc ms (pc) lv (.int x :: st) h o :=
  k.lift (fun p e s m args below meth c H locs cells slots Q ad ls C L K => lv_tableIn C.1 C.2.1 hd h1 h2 ho ht K)
theorem rr_lookup {dflt : Int} {ps : Array (Int × Int)} {len : Nat} {x : Int32} {off : Int} {tgt : Nat} (hd : decode mt.2.1 pc = .ok (.lookupswitch dflt ps, len)) (hp : (ps.toList.zip (ps.toList.drop 1)).all (fun (a, next) => a.1 < next.1) = true) (ho : Op.lookupswitch.offset ps.toList dflt x.toInt = off) (ht : (pc : Int) + off = (tgt : Int)) (k : RR l G mt rm fx rv w mc ms (tgt) lv st h o) : RR l G mt rm fx rv w mc ms (pc) lv (.int x :: st) h o :=
  k.lift (fun p e s m args below meth c H locs cells slots Q ad ls C L K => lv_lookup C.1 C.2.1 hd hp ho ht K)
theorem rr_istore_n {j : Fin 4} {i : Nat} {x : Int32} {lv' : List (Nat × Value)} (hd : decode mt.2.1 pc = .ok (.istore_n j, 1)) (hi : (j : Nat) = i) (hn : i < mt.2.2.1) (hl : (i, .int x) :: lv.filter (fun q => !(q.1 == i) && !(q.1 + 1 == i && q.2.category == 2)) = lv') (k : RR l G mt rm fx rv w mc ms (pc + 1) lv' st h o) : RR l G mt rm fx rv w mc ms (pc) lv (.int x :: st) h o :=
  k.liftL (fun p e s m args below meth c H locs cells slots Q ad ls C L K => lv_istore_n C.1 C.2.1 hd hi L hn (by rw [← hl]; exact rr_Lf1 ad i (.int x)) K)
theorem rr_istore {i : Nat} {x : Int32} {lv' : List (Nat × Value)} (hd : decode mt.2.1 pc = .ok (.istore i, 2))  (hn : i < mt.2.2.1) (hl : (i, .int x) :: lv.filter (fun q => !(q.1 == i) && !(q.1 + 1 == i && q.2.category == 2)) = lv') (k : RR l G mt rm fx rv w mc ms (pc + 2) lv' st h o) : RR l G mt rm fx rv w mc ms (pc) lv (.int x :: st) h o :=
  k.liftL (fun p e s m args below meth c H locs cells slots Q ad ls C L K => lv_istore C.1 C.2.1 hd  L hn (by rw [← hl]; exact rr_Lf1 ad i (.int x)) K)
theorem rr_lstore_n {j : Fin 4} {i : Nat} {x : Int64} {lv' : List (Nat × Value)} (hd : decode mt.2.1 pc = .ok (.lstore_n j, 1)) (hi : (j : Nat) = i) (hn : i + 1 < mt.2.2.1) (hl : (i, .long x) :: lv.filter (fun q => !(q.1 == i) && (!(q.1 == i + 1) && !(q.1 + 1 == i && q.2.category == 2))) = lv') (k : RR l G mt rm fx rv w mc ms (pc + 1) lv' st h o) : RR l G mt rm fx rv w mc ms (pc) lv (.long x :: st) h o :=
  k.liftL (fun p e s m args below meth c H locs cells slots Q ad ls C L K => lv_lstore_n C.1 C.2.1 hd hi L hn (by rw [← hl]; exact rr_Lf2 ad i (.long x)) K)
theorem rr_lstore {i : Nat} {x : Int64} {lv' : List (Nat × Value)} (hd : decode mt.2.1 pc = .ok (.lstore i, 2))  (hn : i + 1 < mt.2.2.1) (hl : (i, .long x) :: lv.filter (fun q => !(q.1 == i) && (!(q.1 == i + 1) && !(q.1 + 1 == i && q.2.category == 2))) = lv') (k : RR l G mt rm fx rv w mc ms (pc + 2) lv' st h o) : RR l G mt rm fx rv w mc ms (pc) lv (.long x :: st) h o :=
  k.liftL (fun p e s m args below meth c H locs cells slots Q ad ls C L K => lv_lstore C.1 C.2.1 hd  L hn (by rw [← hl]; exact rr_Lf2 ad i (.long x)) K)
theorem rr_astore_n {j : Fin 4} {i : Nat} {x : Nat} {lv' : List (Nat × Value)} (hd : decode mt.2.1 pc = .ok (.astore_n j, 1)) (hi : (j : Nat) = i) (hn : i < mt.2.2.1) (hl : (i, .ref x) :: lv.filter (fun q => !(q.1 == i) && !(q.1 + 1 == i && q.2.category == 2)) = lv') (k : RR l G mt rm fx rv w mc ms (pc + 1) lv' st h o) : RR l G mt rm fx rv w mc ms (pc) lv (.ref x :: st) h o :=
  k.liftL (fun p e s m args below meth c H locs cells slots Q ad ls C L K => lv_astore_n C.1 C.2.1 hd hi L hn (by rw [← hl]; exact rr_Lf1 ad i (.ref x)) K)
theorem rr_astore {i : Nat} {x : Nat} {lv' : List (Nat × Value)} (hd : decode mt.2.1 pc = .ok (.astore i, 2))  (hn : i < mt.2.2.1) (hl : (i, .ref x) :: lv.filter (fun q => !(q.1 == i) && !(q.1 + 1 == i && q.2.category == 2)) = lv') (k : RR l G mt rm fx rv w mc ms (pc + 2) lv' st h o) : RR l G mt rm fx rv w mc ms (pc) lv (.ref x :: st) h o :=
  k.liftL (fun p e s m args below meth c H locs cells slots Q ad ls C L K => lv_astore C.1 C.2.1 hd  L hn (by rw [← hl]; exact rr_Lf1 ad i (.ref x)) K)
theorem rr_astore_nN {j : Fin 4} {i : Nat} {lv' : List (Nat × Value)} (hd : decode mt.2.1 pc = .ok (.astore_n j, 1)) (hi : (j : Nat) = i) (hn : i < mt.2.2.1) (hl : (i, .null) :: lv.filter (fun q => !(q.1 == i) && !(q.1 + 1 == i && q.2.category == 2)) = lv') (k : RR l G mt rm fx rv w mc ms (pc + 1) lv' st h o) : RR l G mt rm fx rv w mc ms (pc) lv (.null :: st) h o :=
  k.liftL (fun p e s m args below meth c H locs cells slots Q ad ls C L K => lv_astore_nN C.1 C.2.1 hd hi L hn (by rw [← hl]; exact rr_Lf1 ad i (.null)) K)
theorem rr_astoreN {i : Nat} {lv' : List (Nat × Value)} (hd : decode mt.2.1 pc = .ok (.astore i, 2))  (hn : i < mt.2.2.1) (hl : (i, .null) :: lv.filter (fun q => !(q.1 == i) && !(q.1 + 1 == i && q.2.category == 2)) = lv') (k : RR l G mt rm fx rv w mc ms (pc + 2) lv' st h o) : RR l G mt rm fx rv w mc ms (pc) lv (.null :: st) h o :=
  k.liftL (fun p e s m args below meth c H locs cells slots Q ad ls C L K => lv_astoreN C.1 C.2.1 hd  L hn (by rw [← hl]; exact rr_Lf1 ad i (.null)) K)
theorem rr_iinc {i : Nat} {n : Int} {x : Int32} {lv' : List (Nat × Value)} (hd : decode mt.2.1 pc = .ok (.iinc i n, 3)) (kk : Nat) (hk : lv[kk]? = some (i, .int x)) (hn : i < mt.2.2.1) (hl : (i, .int (x + Int32.ofInt n)) :: lv.filter (fun q => !(q.1 == i) && !(q.1 + 1 == i && q.2.category == 2)) = lv') (k : RR l G mt rm fx rv w mc ms (pc + 3) lv' st h o) : RR l G mt rm fx rv w mc ms pc lv st h o :=
  k.liftL (fun p e s m args below meth c H locs cells slots Q ad ls C L K => lv_iinc C.1 C.2.1 hd L (k := kk) (by rw [rr_L, List.getElem?_map, hk]; rfl) rfl hn (by rw [← hl]; exact rr_Lf1 ad i (.int (x + Int32.ofInt n))) K)
theorem rr_if_eq {x : Int32} {a b : Option σ} {off : Int} {tgt : Nat} (hd : decode mt.2.1 pc = .ok (.ifCond .eq off, 3)) (ht : (pc : Int) + off = (tgt : Int)) (kt : x = 0 → RR l G mt rm fx rv w mc ms (tgt) lv st h a) (kf : ¬ x = 0 → RR l G mt rm fx rv w mc ms (pc + 3) lv st h b) : RR l G mt rm fx rv w mc ms (pc) lv (.int x :: st) h (if x = 0 then a else b) :=
  fun q ho p e s m args below meth c ad0 ad A H locs cells slots ls C S L hc hs => lv_if_eq C.1 C.2.1 hd ht (fun c' => kt c' q (by rw [if_pos c'] at ho; exact ho) p e s m args below meth c ad0 ad A H locs cells slots ls C S L hc hs) (fun c' => kf c' q (by rw [if_neg c'] at ho; exact ho) p e s m args below meth c ad0 ad A H locs cells slots ls C S L hc hs)
theorem rr_if_ne {x : Int32} {a b : Option σ} {off : Int} {tgt : Nat} (hd : decode mt.2.1 pc = .ok (.ifCond .ne off, 3)) (ht : (pc : Int) + off = (tgt : Int)) (kt : ¬ x = 0 → RR l G mt rm fx rv w mc ms (tgt) lv st h b) (kf : x = 0 → RR l G mt rm fx rv w mc ms (pc + 3) lv st h a) : RR l G mt rm fx rv w mc ms (pc) lv (.int x :: st) h (if x = 0 then a else b) :=
  fun q ho p e s m args below meth c ad0 ad A H locs cells slots ls C S L hc hs => lv_if_ne C.1 C.2.1 hd ht (fun c' => kt c' q (by rw [if_neg c'] at ho; exact ho) p e s m args below meth c ad0 ad A H locs cells slots ls C S L hc hs) (fun c' => kf c' q (by rw [if_pos c'] at ho; exact ho) p e s m args below meth c ad0 ad A H locs cells slots ls C S L hc hs)
theorem rr_if_lt {x : Int32} {a b : Option σ} {off : Int} {tgt : Nat} (hd : decode mt.2.1 pc = .ok (.ifCond .lt off, 3)) (ht : (pc : Int) + off = (tgt : Int)) (kt : x < 0 → RR l G mt rm fx rv w mc ms (tgt) lv st h a) (kf : ¬ x < 0 → RR l G mt rm fx rv w mc ms (pc + 3) lv st h b) : RR l G mt rm fx rv w mc ms (pc) lv (.int x :: st) h (if x < 0 then a else b) :=
  fun q ho p e s m args below meth c ad0 ad A H locs cells slots ls C S L hc hs => lv_if_lt C.1 C.2.1 hd ht (fun c' => kt c' q (by rw [if_pos c'] at ho; exact ho) p e s m args below meth c ad0 ad A H locs cells slots ls C S L hc hs) (fun c' => kf c' q (by rw [if_neg c'] at ho; exact ho) p e s m args below meth c ad0 ad A H locs cells slots ls C S L hc hs)
theorem rr_if_ge {x : Int32} {a b : Option σ} {off : Int} {tgt : Nat} (hd : decode mt.2.1 pc = .ok (.ifCond .ge off, 3)) (ht : (pc : Int) + off = (tgt : Int)) (kt : 0 ≤ x → RR l G mt rm fx rv w mc ms (tgt) lv st h a) (kf : ¬ 0 ≤ x → RR l G mt rm fx rv w mc ms (pc + 3) lv st h b) : RR l G mt rm fx rv w mc ms (pc) lv (.int x :: st) h (if 0 ≤ x then a else b) :=
  fun q ho p e s m args below meth c ad0 ad A H locs cells slots ls C S L hc hs => lv_if_ge C.1 C.2.1 hd ht (fun c' => kt c' q (by rw [if_pos c'] at ho; exact ho) p e s m args below meth c ad0 ad A H locs cells slots ls C S L hc hs) (fun c' => kf c' q (by rw [if_neg c'] at ho; exact ho) p e s m args below meth c ad0 ad A H locs cells slots ls C S L hc hs)
theorem rr_if_gt {x : Int32} {a b : Option σ} {off : Int} {tgt : Nat} (hd : decode mt.2.1 pc = .ok (.ifCond .gt off, 3)) (ht : (pc : Int) + off = (tgt : Int)) (kt : 0 < x → RR l G mt rm fx rv w mc ms (tgt) lv st h a) (kf : ¬ 0 < x → RR l G mt rm fx rv w mc ms (pc + 3) lv st h b) : RR l G mt rm fx rv w mc ms (pc) lv (.int x :: st) h (if 0 < x then a else b) :=
  fun q ho p e s m args below meth c ad0 ad A H locs cells slots ls C S L hc hs => lv_if_gt C.1 C.2.1 hd ht (fun c' => kt c' q (by rw [if_pos c'] at ho; exact ho) p e s m args below meth c ad0 ad A H locs cells slots ls C S L hc hs) (fun c' => kf c' q (by rw [if_neg c'] at ho; exact ho) p e s m args below meth c ad0 ad A H locs cells slots ls C S L hc hs)
theorem rr_if_le {x : Int32} {a b : Option σ} {off : Int} {tgt : Nat} (hd : decode mt.2.1 pc = .ok (.ifCond .le off, 3)) (ht : (pc : Int) + off = (tgt : Int)) (kt : x ≤ 0 → RR l G mt rm fx rv w mc ms (tgt) lv st h a) (kf : ¬ x ≤ 0 → RR l G mt rm fx rv w mc ms (pc + 3) lv st h b) : RR l G mt rm fx rv w mc ms (pc) lv (.int x :: st) h (if x ≤ 0 then a else b) :=
  fun q ho p e s m args below meth c ad0 ad A H locs cells slots ls C S L hc hs => lv_if_le C.1 C.2.1 hd ht (fun c' => kt c' q (by rw [if_pos c'] at ho; exact ho) p e s m args below meth c ad0 ad A H locs cells slots ls C S L hc hs) (fun c' => kf c' q (by rw [if_neg c'] at ho; exact ho) p e s m args below meth c ad0 ad A H locs cells slots ls C S L hc hs)
theorem rr_icmp_eq {x y : Int32} {a b : Option σ} {off : Int} {tgt : Nat} (hd : decode mt.2.1 pc = .ok (.if_icmp .eq off, 3)) (ht : (pc : Int) + off = (tgt : Int)) (kt : x = y → RR l G mt rm fx rv w mc ms (tgt) lv st h a) (kf : ¬ x = y → RR l G mt rm fx rv w mc ms (pc + 3) lv st h b) : RR l G mt rm fx rv w mc ms (pc) lv (.int y :: .int x :: st) h (if x = y then a else b) :=
  fun q ho p e s m args below meth c ad0 ad A H locs cells slots ls C S L hc hs => lv_icmp_eq C.1 C.2.1 hd ht (fun c' => kt c' q (by rw [if_pos c'] at ho; exact ho) p e s m args below meth c ad0 ad A H locs cells slots ls C S L hc hs) (fun c' => kf c' q (by rw [if_neg c'] at ho; exact ho) p e s m args below meth c ad0 ad A H locs cells slots ls C S L hc hs)
theorem rr_icmp_ne {x y : Int32} {a b : Option σ} {off : Int} {tgt : Nat} (hd : decode mt.2.1 pc = .ok (.if_icmp .ne off, 3)) (ht : (pc : Int) + off = (tgt : Int)) (kt : ¬ x = y → RR l G mt rm fx rv w mc ms (tgt) lv st h b) (kf : x = y → RR l G mt rm fx rv w mc ms (pc + 3) lv st h a) : RR l G mt rm fx rv w mc ms (pc) lv (.int y :: .int x :: st) h (if x = y then a else b) :=
  fun q ho p e s m args below meth c ad0 ad A H locs cells slots ls C S L hc hs => lv_icmp_ne C.1 C.2.1 hd ht (fun c' => kt c' q (by rw [if_neg c'] at ho; exact ho) p e s m args below meth c ad0 ad A H locs cells slots ls C S L hc hs) (fun c' => kf c' q (by rw [if_pos c'] at ho; exact ho) p e s m args below meth c ad0 ad A H locs cells slots ls C S L hc hs)
theorem rr_icmp_lt {x y : Int32} {a b : Option σ} {off : Int} {tgt : Nat} (hd : decode mt.2.1 pc = .ok (.if_icmp .lt off, 3)) (ht : (pc : Int) + off = (tgt : Int)) (kt : x < y → RR l G mt rm fx rv w mc ms (tgt) lv st h a) (kf : ¬ x < y → RR l G mt rm fx rv w mc ms (pc + 3) lv st h b) : RR l G mt rm fx rv w mc ms (pc) lv (.int y :: .int x :: st) h (if x < y then a else b) :=
  fun q ho p e s m args below meth c ad0 ad A H locs cells slots ls C S L hc hs => lv_icmp_lt C.1 C.2.1 hd ht (fun c' => kt c' q (by rw [if_pos c'] at ho; exact ho) p e s m args below meth c ad0 ad A H locs cells slots ls C S L hc hs) (fun c' => kf c' q (by rw [if_neg c'] at ho; exact ho) p e s m args below meth c ad0 ad A H locs cells slots ls C S L hc hs)
theorem rr_icmp_ge {x y : Int32} {a b : Option σ} {off : Int} {tgt : Nat} (hd : decode mt.2.1 pc = .ok (.if_icmp .ge off, 3)) (ht : (pc : Int) + off = (tgt : Int)) (kt : y ≤ x → RR l G mt rm fx rv w mc ms (tgt) lv st h a) (kf : ¬ y ≤ x → RR l G mt rm fx rv w mc ms (pc + 3) lv st h b) : RR l G mt rm fx rv w mc ms (pc) lv (.int y :: .int x :: st) h (if y ≤ x then a else b) :=
  fun q ho p e s m args below meth c ad0 ad A H locs cells slots ls C S L hc hs => lv_icmp_ge C.1 C.2.1 hd ht (fun c' => kt c' q (by rw [if_pos c'] at ho; exact ho) p e s m args below meth c ad0 ad A H locs cells slots ls C S L hc hs) (fun c' => kf c' q (by rw [if_neg c'] at ho; exact ho) p e s m args below meth c ad0 ad A H locs cells slots ls C S L hc hs)
theorem rr_icmp_gt {x y : Int32} {a b : Option σ} {off : Int} {tgt : Nat} (hd : decode mt.2.1 pc = .ok (.if_icmp .gt off, 3)) (ht : (pc : Int) + off = (tgt : Int)) (kt : y < x → RR l G mt rm fx rv w mc ms (tgt) lv st h a) (kf : ¬ y < x → RR l G mt rm fx rv w mc ms (pc + 3) lv st h b) : RR l G mt rm fx rv w mc ms (pc) lv (.int y :: .int x :: st) h (if y < x then a else b) :=
  fun q ho p e s m args below meth c ad0 ad A H locs cells slots ls C S L hc hs => lv_icmp_gt C.1 C.2.1 hd ht (fun c' => kt c' q (by rw [if_pos c'] at ho; exact ho) p e s m args below meth c ad0 ad A H locs cells slots ls C S L hc hs) (fun c' => kf c' q (by rw [if_neg c'] at ho; exact ho) p e s m args below meth c ad0 ad A H locs cells slots ls C S L hc hs)
theorem rr_icmp_le {x y : Int32} {a b : Option σ} {off : Int} {tgt : Nat} (hd : decode mt.2.1 pc = .ok (.if_icmp .le off, 3)) (ht : (pc : Int) + off = (tgt : Int)) (kt : x ≤ y → RR l G mt rm fx rv w mc ms (tgt) lv st h a) (kf : ¬ x ≤ y → RR l G mt rm fx rv w mc ms (pc + 3) lv st h b) : RR l G mt rm fx rv w mc ms (pc) lv (.int y :: .int x :: st) h (if x ≤ y then a else b) :=
  fun q ho p e s m args below meth c ad0 ad A H locs cells slots ls C S L hc hs => lv_icmp_le C.1 C.2.1 hd ht (fun c' => kt c' q (by rw [if_pos c'] at ho; exact ho) p e s m args below meth c ad0 ad A H locs cells slots ls C S L hc hs) (fun c' => kf c' q (by rw [if_neg c'] at ho; exact ho) p e s m args below meth c ad0 ad A H locs cells slots ls C S L hc hs)
/-- o is a choice: either way -/
theorem rr_ite {c : Prop} [Decidable c] {a b : Option σ} (kt : c → RR l G mt rm fx rv w mc ms pc lv st h a) (kf : ¬ c → RR l G mt rm fx rv w mc ms pc lv st h b) : RR l G mt rm fx rv w mc ms pc lv st h (if c then a else b) := by
  by_cases hc : c
  · rw [if_pos hc]; exact kt hc
  · rw [if_neg hc]; exact kf hc
/-- o is guarded -/
theorem rr_if {c : Prop} [Decidable c] {a : Option σ} (kt : c → RR l G mt rm fx rv w mc ms pc lv st h a) : RR l G mt rm fx rv w mc ms pc lv st h (if c then a else none) := rr_ite kt (fun _ q hq => by cases hq)
theorem rr_none : RR l G mt rm fx rv w mc ms pc lv st h none := fun q hq => by cases hq
theorem rr_eq {o' : Option σ} (e : o = o') (k : RR l G mt rm fx rv w mc ms pc lv st h o') : RR l G mt rm fx rv w mc ms pc lv st h o := e ▸ k
theorem rr_heap {h' : rr_H} (e : h = h') (k : RR l G mt rm fx rv w mc ms pc lv st h' o) : RR l G mt rm fx rv w mc ms pc lv st h o := e ▸ k
/-- less room is wanted -/
theorem rr_less {mc' ms' : Nat} (h1 : mc' ≤ mc) (h2 : ms' ≤ ms) (k : RR l G mt rm fx rv w mc' ms' pc lv st h o) : RR l G mt rm fx rv w mc ms pc lv st h o :=
  fun q ho p e s m args below meth c ad0 ad A H locs cells slots ls C S L hc hs => k q ho p e s m args below meth c ad0 ad A H locs cells slots ls C S L (by omega) (by omega)
/-! the ends -/
theorem rr_ret {S : σ} {v : Option Value} (hv : rv S = v) (hw : w S = h) (g : ∀ (p : Program) (e : Env) (s : State) (m : MethodId) (args : Array Value) (below : List Frame) (meth : Method) (c : Code) (H : Heap) (locs : List Loc) (ad : Nat → Nat) (ls : Array Slot) (Qc : Array Value → State → Outcome → State → Prop) (free : Addr → Prop), rr_C G mt p s m args meth c → (∀ t : State, t.heap = H → s.WarmedH t.vm → Qc args s (.returned (v.map (a_v ad))) t) → (∀ q ∈ locs, free q.base) → W p l e rm s m args below meth c H locs rm.cells rm.slots (MQ below Qc args s rm.cells rm.slots free) (F0 m pc ls (st.map (a_v ad)))) : RR l G mt rm fx rv w mc ms pc lv st h (some S) := by
  intro q ho p e s m args below meth c ad0 ad A H locs cells slots ls C X L hc hs
  cases ho
  subst hw
  subst hv
  refine W.widen (k := rm.cells) (n := rm.slots) (by omega) (by omega) ?_
  obtain ⟨hP, hD, hS, hA, hf⟩ := X
  exact g p e s m args below meth c H locs ad ls _ _ C (fun t ht hW => ⟨⟨ad, hf, rfl, by rw [ht]; exact hP, va_K.moved hW.alike C.2.2.2.2.2.2.2.2.1, hD⟩, hS.F ht⟩) hS.2.2
theorem rr_iret {S : σ} {v : Int32} (hd : decode mt.2.1 pc = .ok (.ireturn, 1)) (hr : mt.2.2.2 = some .int) (hv : rv S = some (.int v)) (hw : w S = h) : RR l G mt rm fx rv w mc ms pc lv [.int v] h (some S) :=
  rr_ret hv hw (fun p e s m args below meth c H locs ad ls Qc free C hq hf => W.iret C.1 C.2.1 (C.2.2.2.2.2.1.trans hr) hq hf hd C.2.2.2.2.2.2.1)
theorem rr_zret {S : σ} {v : Int32} (hd : decode mt.2.1 pc = .ok (.ireturn, 1)) (hr : mt.2.2.2 = some .boolean) (hn : v &&& 1 = v) (hv : rv S = some (.int v)) (hw : w S = h) : RR l G mt rm fx rv w mc ms pc lv [.int v] h (some S) :=
  rr_ret hv hw (fun p e s m args below meth c H locs ad ls Qc free C hq hf => W.zret C.1 C.2.1 (C.2.2.2.2.2.1.trans hr) (by show Value.int (v &&& 1) = .int v; rw [hn]) hq hf hd C.2.2.2.2.2.2.1)
theorem rr_lret {S : σ} {v : Int64} (hd : decode mt.2.1 pc = .ok (.lreturn, 1)) (hr : mt.2.2.2 = some .long) (hv : rv S = some (.long v)) (hw : w S = h) : RR l G mt rm fx rv w mc ms pc lv [.long v] h (some S) :=
  rr_ret hv hw (fun p e s m args below meth c H locs ad ls Qc free C hq hf => W.lret C.1 C.2.1 (C.2.2.2.2.2.1.trans hr) hq hf hd C.2.2.2.2.2.2.1)
theorem rr_vret {S : σ} (hd : decode mt.2.1 pc = .ok (.return_, 1)) (hr : mt.2.2.2 = none) (hv : rv S = none) (hw : w S = h) : RR l G mt rm fx rv w mc ms pc lv [] h (some S) :=
  rr_ret hv hw (fun p e s m args below meth c H locs ad ls Qc free C hq hf => W.vret C.1 C.2.1 (C.2.2.2.2.2.1.trans hr) hq hf hd C.2.2.2.2.2.2.1)
theorem rr_aret {S : σ} {v : Value} {rt : FieldType} (hd : decode mt.2.1 pc = .ok (.areturn, 1)) (hr : mt.2.2.2 = some rt) (hrt : (∃ n, rt = .object n) ∨ ∃ t, rt = .array t) (hvv : v = .null ∨ ∃ a, v = .ref a) (hv : rv S = some v) (hw : w S = h) : RR l G mt rm fx rv w mc ms pc lv [v] h (some S) :=
  rr_ret hv hw (fun p e s m args below meth c H locs ad ls Qc free C hq hf => W.aret (v := a_v ad v) C.1 C.2.1 (C.2.2.2.2.2.1.trans hr) hrt (hvv.elim (fun e => Or.inl (by rw [e]; rfl)) (fun ⟨a, e⟩ => Or.inr ⟨ad a, by rw [e]; rfl⟩)) hq hf hd C.2.2.2.2.2.2.1)
end RROWS
end
section
/-! ===== rows that read and write the world ===== -/
section RHEAP
variable {σ : Type} {l : Launch} {G : rr_G} {mt : rr_M} {rm : Room} {fx : Nat → Bool} {rv : σ → Option Value} {w : σ → rr_H} {mc ms pc : Nat} {lv : List (Nat × Value)} {st : List Value} {h : rr_H} {o : Option σ}
theorem rr_at0 {cy : Nat → ClassId} {ad : Nat → Nat} {n : Nat} {c : va_E} (hc : h[n]? = some (some c)) : (a_w cy ad 0 h)[a_k h n]? = some (ad n, a_c cy ad c) := by
  have := a_w_at cy ad h 0 n c hc
  rwa [Nat.zero_add] at this
theorem rr_set0 {cy : Nat → ClassId} {ad : Nat → Nat} {n : Nat} {c : va_E} (c' : va_E) (hc : h[n]? = some (some c)) : (a_w cy ad 0 h).set (a_k h n) (ad n, a_c cy ad c') = a_w cy ad 0 (h.set n (some c')) := by
  have := a_w_set cy ad c' h 0 n c hc
  rwa [Nat.zero_add] at this
/-- what a field's row wants of the tables: the class's own link, or a nest mate's -/
def rr_lk (own : String) (idx : Nat) (C : String) (T : u_T) (k : Nat) : Prop := Cond.fieldLink own idx C (T k).2.1 (T k).2.2.1 ∈ rr_ws ∨ ∃ host, Cond.fieldLinkNest own idx C (T k).2.1 (T k).2.2.1 host ∈ rr_ns
/-- what the tables say of class ci -/
def rr_cl (ci : Nat) (C : String) (T : u_T) (N : Nat) (ty : Nat → FieldType) : Prop := vwCl[ci]? = some (C, T, N) ∧ (∀ w ∈ u_ws C T N, w ∈ rr_ws) ∧ (∀ k, k < N → parseFieldDescriptor (T k).2.2.1 = some (ty k)) ∧ (∀ a, a < N → ∀ b, b < N → a ≠ b → (T a).2.1 ≠ (T b).2.1) ∧ ∀ k, k < N → (T k).1 = C
theorem rr_get {ci N idx n k : Nat} {C : String} {T : u_T} {ty : Nat → FieldType} {fs : List Value} {v : Value} (hc : rr_cl ci C T N ty) (hlk : rr_lk mt.1.cls idx C T k) (hk : k < N) (hn : h[n]? = some (some (.inr (ci, fs)))) (hv : fs[k]? = some v) (hd : decode mt.2.1 pc = .ok (.getfield idx, 3)) (kk : RR l G mt rm fx rv w mc ms (pc + 3) lv (v :: st) h o) : RR l G mt rm fx rv w mc ms pc lv (.ref n :: st) h o := by
  intro q ho p e s m args below meth c ad0 ad A H locs cells slots ls C X L hcc hs
  have K := kk q ho p e s m args below meth c ad0 ad A H locs cells slots ls C X L hcc hs
  obtain ⟨hP, hD, hS, hA, hf⟩ := X
  obtain ⟨hx, hb, hml, hown, hts, hr, hlo, hnm, hK⟩ := C
  obtain ⟨c1, c2, c3, c4, c5⟩ := hc
  have hv' : (fs.map (a_v ad))[k]? = some (a_v ad v) := by rw [List.getElem?_map, hv]; rfl
  rcases hlk with hl | ⟨host, hl⟩
  · exact va_get (D := rr_D G) (ci := ci) hx hb hts c2 hown hK.1 hP _ (rr_at0 hn) c1 k hk (hts _ hl) (fun x hx => by rw [c5 k hk] at hx; exact hx) hv' hd K
  · exact va_getN (D := rr_D G) (ci := ci) hx hb hts c2 hown hK.1 hP _ (rr_at0 hn) c1 k hk (va_Nw.use rfl (hK.2 _ hl)) (fun x hx => by rw [c5 k hk] at hx; exact hx) hv' hd K
theorem rr_nar (ad : Nat → Nat) {ty : FieldType} {v : Value} (h : narrow ty v = v) : narrow ty (a_v ad v) = a_v ad v := by
  cases v <;> first | exact h | (cases ty <;> rfl)
theorem rr_fits (ad : Nat → Nat) {ty : FieldType} {v : Value} (h : fits ty v = true) : fits ty (a_v ad v) = true := by
  cases v <;> first | exact h | (cases ty <;> first | exact h | rfl)
theorem rr_put {ci N idx n k : Nat} {C : String} {T : u_T} {ty : Nat → FieldType} {fs : List Value} {v : Value} (hc : rr_cl ci C T N ty) (hlk : rr_lk mt.1.cls idx C T k) (hk : k < N) (hn : h[n]? = some (some (.inr (ci, fs)))) (hfin : (T k).2.2.2 = false) (hnr : narrow (ty k) v = v) (hft : fits (ty k) v = true) (hlen : k < fs.length) (hd : decode mt.2.1 pc = .ok (.putfield idx, 3)) {h' : rr_H} (hh : h.set n (some (.inr (ci, fs.set k v))) = h') (kk : RR l G mt rm fx rv w mc ms (pc + 3) lv st h' o) : RR l G mt rm fx rv w mc ms pc lv (v :: .ref n :: st) h o := by
  intro q ho p e s m args below meth c ad0 ad A H locs cells slots ls C X L hcc hs
  obtain ⟨hP, hD, hS, hA, hf⟩ := X
  have hC := C
  obtain ⟨hx, hb, hml, hown, hts, hr, hlo, hnm, hK⟩ := C
  obtain ⟨c1, c2, c3, c4, c5⟩ := hc
  have e1 : (a_w G.2.2 ad 0 h).set (a_k h n) (ad n, .inr (ci, (fs.map (a_v ad)).set k (a_v ad v))) = a_w G.2.2 ad 0 h' := by
    rw [← hh, ← rr_set0 (.inr (ci, fs.set k v)) hn]
    simp only [a_c, List.map_set]
  have fin : ∀ (H1 : Heap) (locs1 : List Loc), va_P (rr_D G) vwCl ((a_w G.2.2 ad 0 h).set (a_k h n) (ad n, .inr (ci, (fs.map (a_v ad)).set k (a_v ad v)))) H1 → va_D A ((a_w G.2.2 ad 0 h).set (a_k h n) (ad n, .inr (ci, (fs.map (a_v ad)).set k (a_v ad v)))) → va_S A s.heap H1 locs1 → W p l e rm s m args below meth c H1 locs1 cells slots (MQ below (rr_Q G fx rv w q ad0 A) args s rm.cells rm.slots A) (F0 m (pc + 3) ls (st.map (a_v ad))) := by
    intro H1 locs1 hP1 hD1 hS1
    rw [e1] at hP1 hD1
    exact kk q ho p e s m args below meth c ad0 ad A H1 locs1 cells slots ls hC ⟨hP1, hD1, hS1, hA, hf⟩ L hcc hs
  rcases hlk with hl | ⟨host, hl⟩
  · exact va_put (D := rr_D G) (ci := ci) (ty := ty k) hx hb hts c2 ty c3 c4 hown hK.1 hP hD hS _ (rr_at0 hn) c1 k hk (hts _ hl) (fun x hx => by rw [c5 k hk] at hx; exact hx) hfin (c3 k hk) (rr_nar ad hnr) (rr_fits ad hft) (by rw [List.length_map]; exact hlen) hd fin
  · exact va_putN (D := rr_D G) (ci := ci) (ty := ty k) hx hb hts c2 ty c3 c4 hown hK.1 hP hD hS _ (rr_at0 hn) c1 k hk (va_Nw.use rfl (hK.2 _ hl)) (fun x hx => by rw [c5 k hk] at hx; exact hx) hfin (c3 k hk) (rr_nar ad hnr) (rr_fits ad hft) (by rw [List.length_map]; exact hlen) hd fin
/-- a final field, in the constructor of its class -/
theorem rr_putF {ci N idx n k : Nat} {C : String} {T : u_T} {ty : Nat → FieldType} {fs : List Value} {v : Value} (hc : rr_cl ci C T N ty) (hlk : Cond.fieldLink mt.1.cls idx C (T k).2.1 (T k).2.2.1 ∈ rr_ws) (hk : k < N) (hn : h[n]? = some (some (.inr (ci, fs)))) (hfin : (T k).2.2.2 = true) (hin : mt.1.name = "<init>") (hdc : C = mt.1.cls) (hnr : narrow (ty k) v = v) (hft : fits (ty k) v = true) (hlen : k < fs.length) (hd : decode mt.2.1 pc = .ok (.putfield idx, 3)) {h' : rr_H} (hh : h.set n (some (.inr (ci, fs.set k v))) = h') (kk : RR l G mt rm fx rv w mc ms (pc + 3) lv st h' o) : RR l G mt rm fx rv w mc ms pc lv (v :: .ref n :: st) h o := by
  intro q ho p e s m args below meth c ad0 ad A H locs cells slots ls C X L hcc hs
  obtain ⟨hP, hD, hS, hA, hf⟩ := X
  have hC := C
  obtain ⟨hx, hb, hml, hown, hts, hr, hlo, hnm, hK⟩ := C
  obtain ⟨c1, c2, c3, c4, c5⟩ := hc
  have e1 : (a_w G.2.2 ad 0 h).set (a_k h n) (ad n, .inr (ci, (fs.map (a_v ad)).set k (a_v ad v))) = a_w G.2.2 ad 0 h' := by
    rw [← hh, ← rr_set0 (.inr (ci, fs.set k v)) hn]
    simp only [a_c, List.map_set]
  refine va_putF (D := rr_D G) (ci := ci) (ty := ty k) hx hb hts c2 ty c3 c4 hown hK.1 hP hD hS _ (rr_at0 hn) c1 k hk (hts _ hlk) (fun x hx => by rw [c5 k hk] at hx; exact hx) hfin (hnm.trans hin) ((c5 k hk).trans hdc) (c3 k hk) (rr_nar ad hnr) (rr_fits ad hft) (by rw [List.length_map]; exact hlen) hd (fun H1 locs1 hP1 hD1 hS1 => ?_)
  rw [e1] at hP1 hD1
  exact kk q ho p e s m args below meth c ad0 ad A H1 locs1 cells slots ls hC ⟨hP1, hD1, hS1, hA, hf⟩ L hcc hs
/-! arrays: t is the array's sort, as in rr_tys -/
theorem rr_iald {n len : Nat} {f : Nat → Int32} {i : Int32} (hn : h[n]? = some (some (.inl (0, len, .inl f)))) (hin : vp_in i len) (hd : decode mt.2.1 pc = .ok (.iaload, 1)) (kk : RR l G mt rm fx rv w mc ms (pc + 1) lv (.int (f i.toNatClampNeg) :: st) h o) : RR l G mt rm fx rv w mc ms pc lv (.int i :: .ref n :: st) h o := by
  intro q ho p e s m args below meth c ad0 ad A H locs cells slots ls C X L hcc hs
  have K := kk q ho p e s m args below meth c ad0 ad A H locs cells slots ls C X L hcc hs
  exact va_iald C.1 C.2.1 C.2.2.2.2.2.2.2.2.1 X.1 _ 0 (rr_at0 hn) rfl hin hd K
theorem rr_lald {n len : Nat} {f : Nat → Int64} {i : Int32} (hn : h[n]? = some (some (.inl (1, len, .inr (.inl f))))) (hin : vp_in i len) (hd : decode mt.2.1 pc = .ok (.laload, 1)) (kk : RR l G mt rm fx rv w mc ms (pc + 1) lv (.long (f i.toNatClampNeg) :: st) h o) : RR l G mt rm fx rv w mc ms pc lv (.int i :: .ref n :: st) h o := by
  intro q ho p e s m args below meth c ad0 ad A H locs cells slots ls C X L hcc hs
  have K := kk q ho p e s m args below meth c ad0 ad A H locs cells slots ls C X L hcc hs
  exact va_lald C.1 C.2.1 C.2.2.2.2.2.2.2.2.1 X.1 _ 1 (rr_at0 hn) rfl hin hd K
theorem rr_bald {n len : Nat} {f : Nat → Int32} {i : Int32} (hn : h[n]? = some (some (.inl (2, len, .inl f)))) (hin : vp_in i len) (hd : decode mt.2.1 pc = .ok (.baload, 1)) (kk : RR l G mt rm fx rv w mc ms (pc + 1) lv (.int (f i.toNatClampNeg) :: st) h o) : RR l G mt rm fx rv w mc ms pc lv (.int i :: .ref n :: st) h o := by
  intro q ho p e s m args below meth c ad0 ad A H locs cells slots ls C X L hcc hs
  have K := kk q ho p e s m args below meth c ad0 ad A H locs cells slots ls C X L hcc hs
  exact va_bald C.1 C.2.1 C.2.2.2.2.2.2.2.2.1 X.1 _ 2 (rr_at0 hn) rfl hin hd K
theorem rr_zald {n len : Nat} {f : Nat → Int32} {i : Int32} (hn : h[n]? = some (some (.inl (3, len, .inl f)))) (hin : vp_in i len) (hd : decode mt.2.1 pc = .ok (.baload, 1)) (kk : RR l G mt rm fx rv w mc ms (pc + 1) lv (.int (f i.toNatClampNeg) :: st) h o) : RR l G mt rm fx rv w mc ms pc lv (.int i :: .ref n :: st) h o := by
  intro q ho p e s m args below meth c ad0 ad A H locs cells slots ls C X L hcc hs
  have K := kk q ho p e s m args below meth c ad0 ad A H locs cells slots ls C X L hcc hs
  exact va_zald C.1 C.2.1 C.2.2.2.2.2.2.2.2.1 X.1 _ 3 (rr_at0 hn) rfl hin hd K
theorem rr_aald {n len t : Nat} {f : Nat → Option Nat} {i : Int32} (ht : t = 4 ∨ t = 5) {x : Nat} (hn : h[n]? = some (some (.inl (t, len, .inr (.inr (.inr (.inr f))))))) (hin : vp_in i len) (hx : f i.toNatClampNeg = some x) (hd : decode mt.2.1 pc = .ok (.aaload, 1)) (kk : RR l G mt rm fx rv w mc ms (pc + 1) lv (.ref x :: st) h o) : RR l G mt rm fx rv w mc ms pc lv (.int i :: .ref n :: st) h o := by
  intro q ho p e s m args below meth c ad0 ad A H locs cells slots ls C X L hcc hs
  have K := kk q ho p e s m args below meth c ad0 ad A H locs cells slots ls C X L hcc hs
  rcases ht with rfl | rfl
  · refine va_aldq C.1 C.2.1 C.2.2.2.2.2.2.2.2.1 X.1 _ 4 (rr_at0 hn) rfl hin hd ?_
    rw [hx]; exact K
  · refine va_aldq C.1 C.2.1 C.2.2.2.2.2.2.2.2.1 X.1 _ 5 (rr_at0 hn) rfl hin hd ?_
    rw [hx]; exact K
theorem rr_aaldN {n len t : Nat} {f : Nat → Option Nat} {i : Int32} (ht : t = 4 ∨ t = 5) (hn : h[n]? = some (some (.inl (t, len, .inr (.inr (.inr (.inr f))))))) (hin : vp_in i len) (hx : f i.toNatClampNeg = none) (hd : decode mt.2.1 pc = .ok (.aaload, 1)) (kk : RR l G mt rm fx rv w mc ms (pc + 1) lv (.null :: st) h o) : RR l G mt rm fx rv w mc ms pc lv (.int i :: .ref n :: st) h o := by
  intro q ho p e s m args below meth c ad0 ad A H locs cells slots ls C X L hcc hs
  have K := kk q ho p e s m args below meth c ad0 ad A H locs cells slots ls C X L hcc hs
  rcases ht with rfl | rfl
  · refine va_aldq C.1 C.2.1 C.2.2.2.2.2.2.2.2.1 X.1 _ 4 (rr_at0 hn) rfl hin hd ?_
    rw [hx]; exact K
  · refine va_aldq C.1 C.2.1 C.2.2.2.2.2.2.2.2.1 X.1 _ 5 (rr_at0 hn) rfl hin hd ?_
    rw [hx]; exact K
theorem rr_alen {n t len : Nat} {x : (Nat → Int32) ⊕ (Nat → Int64) ⊕ (Nat → UInt32) ⊕ (Nat → UInt64) ⊕ (Nat → Option Nat)} (ht : t < 6) (hn : h[n]? = some (some (.inl (t, len, x)))) (hd : decode mt.2.1 pc = .ok (.arraylength, 1)) (kk : RR l G mt rm fx rv w mc ms (pc + 1) lv (.int (nI len) :: st) h o) : RR l G mt rm fx rv w mc ms pc lv (.ref n :: st) h o := by
  intro q ho p e s m args below meth c ad0 ad A H locs cells slots ls C X L hcc hs
  have K := kk q ho p e s m args below meth c ad0 ad A H locs cells slots ls C X L hcc hs
  have ht' : ∃ ty, (rr_tys G.2.2)[t]? = some (G.2.2 t, ty) := by
    rcases (show t = 0 ∨ t = 1 ∨ t = 2 ∨ t = 3 ∨ t = 4 ∨ t = 5 by omega) with rfl | rfl | rfl | rfl | rfl | rfl <;> exact ⟨_, rfl⟩
  obtain ⟨ty, ht'⟩ := ht'
  exact va_alen C.1 C.2.1 C.2.2.2.2.2.2.2.2.1 X.1 _ t (rr_at0 hn) ht' rfl hd K
theorem rr_iast {n len : Nat} {f : Nat → Int32} {i x : Int32} (hn : h[n]? = some (some (.inl (0, len, .inl f)))) (hin : vp_in i len) (hd : decode mt.2.1 pc = .ok (.iastore, 1)) {h' : rr_H} (hh : h.set n (some (.inl (0, len, .inl (upd f i.toNatClampNeg x)))) = h') (kk : RR l G mt rm fx rv w mc ms (pc + 1) lv st h' o) : RR l G mt rm fx rv w mc ms pc lv (.int x :: .int i :: .ref n :: st) h o := by
  intro q ho p e s m args below meth c ad0 ad A H locs cells slots ls C X L hcc hs
  obtain ⟨hP, hD, hS, hA, hf⟩ := X
  refine va_iast C.1 C.2.1 C.2.2.2.2.2.2.2.2.1 hP hD hS _ 0 (rr_at0 hn) rfl hin hd (fun H1 locs1 hP1 hD1 hS1 => ?_)
  have e1 : (a_w G.2.2 ad 0 h).set (a_k h n) (ad n, .inl (G.2.2 0, len, .inl (upd f i.toNatClampNeg x))) = a_w G.2.2 ad 0 h' := by rw [← hh]; exact rr_set0 (.inl (0, len, .inl (upd f i.toNatClampNeg x))) hn
  exact kk q ho p e s m args below meth c ad0 ad A H1 locs1 cells slots ls C ⟨e1 ▸ hP1, e1 ▸ hD1, hS1, hA, hf⟩ L hcc hs
theorem rr_bast {n len : Nat} {f : Nat → Int32} {i x : Int32} (hn : h[n]? = some (some (.inl (2, len, .inl f)))) (hin : vp_in i len) (hd : decode mt.2.1 pc = .ok (.bastore, 1)) {h' : rr_H} (hh : h.set n (some (.inl (2, len, .inl (upd f i.toNatClampNeg (vp_nar .byte x))))) = h') (kk : RR l G mt rm fx rv w mc ms (pc + 1) lv st h' o) : RR l G mt rm fx rv w mc ms pc lv (.int x :: .int i :: .ref n :: st) h o := by
  intro q ho p e s m args below meth c ad0 ad A H locs cells slots ls C X L hcc hs
  obtain ⟨hP, hD, hS, hA, hf⟩ := X
  refine va_bast C.1 C.2.1 C.2.2.2.2.2.2.2.2.1 hP hD hS _ 2 (rr_at0 hn) rfl hin hd (fun H1 locs1 hP1 hD1 hS1 => ?_)
  have e1 : (a_w G.2.2 ad 0 h).set (a_k h n) (ad n, .inl (G.2.2 2, len, .inl (upd f i.toNatClampNeg (vp_nar .byte x)))) = a_w G.2.2 ad 0 h' := by rw [← hh]; exact rr_set0 (.inl (2, len, .inl (upd f i.toNatClampNeg (vp_nar .byte x)))) hn
  exact kk q ho p e s m args below meth c ad0 ad A H1 locs1 cells slots ls C ⟨e1 ▸ hP1, e1 ▸ hD1, hS1, hA, hf⟩ L hcc hs
theorem rr_zast {n len : Nat} {f : Nat → Int32} {i x : Int32} (hn : h[n]? = some (some (.inl (3, len, .inl f)))) (hin : vp_in i len) (hd : decode mt.2.1 pc = .ok (.bastore, 1)) {h' : rr_H} (hh : h.set n (some (.inl (3, len, .inl (upd f i.toNatClampNeg (vp_nar .boolean x))))) = h') (kk : RR l G mt rm fx rv w mc ms (pc + 1) lv st h' o) : RR l G mt rm fx rv w mc ms pc lv (.int x :: .int i :: .ref n :: st) h o := by
  intro q ho p e s m args below meth c ad0 ad A H locs cells slots ls C X L hcc hs
  obtain ⟨hP, hD, hS, hA, hf⟩ := X
  refine va_zast C.1 C.2.1 C.2.2.2.2.2.2.2.2.1 hP hD hS _ 3 (rr_at0 hn) rfl hin hd (fun H1 locs1 hP1 hD1 hS1 => ?_)
  have e1 : (a_w G.2.2 ad 0 h).set (a_k h n) (ad n, .inl (G.2.2 3, len, .inl (upd f i.toNatClampNeg (vp_nar .boolean x)))) = a_w G.2.2 ad 0 h' := by rw [← hh]; exact rr_set0 (.inl (3, len, .inl (upd f i.toNatClampNeg (vp_nar .boolean x)))) hn
  exact kk q ho p e s m args below meth c ad0 ad A H1 locs1 cells slots ls C ⟨e1 ▸ hP1, e1 ▸ hD1, hS1, hA, hf⟩ L hcc hs
theorem rr_last {n len : Nat} {f : Nat → Int64} {i : Int32} {x : Int64} (hn : h[n]? = some (some (.inl (1, len, .inr (.inl f))))) (hin : vp_in i len) (hd : decode mt.2.1 pc = .ok (.lastore, 1)) {h' : rr_H} (hh : h.set n (some (.inl (1, len, .inr (.inl (vp_updL f i.toNatClampNeg x))))) = h') (kk : RR l G mt rm fx rv w mc ms (pc + 1) lv st h' o) : RR l G mt rm fx rv w mc ms pc lv (.long x :: .int i :: .ref n :: st) h o := by
  intro q ho p e s m args below meth c ad0 ad A H locs cells slots ls C X L hcc hs
  obtain ⟨hP, hD, hS, hA, hf⟩ := X
  refine va_last C.1 C.2.1 C.2.2.2.2.2.2.2.2.1 hP hD hS _ 1 (rr_at0 hn) rfl hin hd (fun H1 locs1 hP1 hD1 hS1 => ?_)
  have e1 : (a_w G.2.2 ad 0 h).set (a_k h n) (ad n, .inl (G.2.2 1, len, .inr (.inl (vp_updL f i.toNatClampNeg x)))) = a_w G.2.2 ad 0 h' := by rw [← hh]; exact rr_set0 (.inl (1, len, .inr (.inl (vp_updL f i.toNatClampNeg x)))) hn
  exact kk q ho p e s m args below meth c ad0 ad A H1 locs1 cells slots ls C ⟨e1 ▸ hP1, e1 ▸ hD1, hS1, hA, hf⟩ L hcc hs
end RHEAP
end
section
/-! ===== another view of the same cells; new cells; calls ===== -/
def rr_in (k : Nat) : va_E → Prop
  | .inl x => match x.2.2 with
    | .inr (.inr (.inr (.inr f))) => ∃ j, f j = some k
    | _ => False
  | .inr o => Value.ref k ∈ o.2
theorem a_v_congr {ad ad' : Nat → Nat} {v : Value} (h : ∀ k, v = .ref k → ad k = ad' k) : a_v ad v = a_v ad' v := by
  cases v <;> first | rfl | exact congrArg Value.ref (h _ rfl)
theorem a_c_congr {cy : Nat → ClassId} {ad ad' : Nat → Nat} {c : va_E} (h : ∀ k, rr_in k c → ad k = ad' k) : a_c cy ad c = a_c cy ad' c := by
  rcases c with ⟨t, n, f | f | f | f | f⟩ | ⟨ci, fs⟩
  · rfl
  · rfl
  · rfl
  · rfl
  · show (Sum.inl (cy t, n, .inr (.inr (.inr (.inr (fun j => (f j).map ad))))) : va_E) = .inl (cy t, n, .inr (.inr (.inr (.inr (fun j => (f j).map ad')))))
    have e : (fun j => (f j).map ad) = (fun j => (f j).map ad') := by
      funext j
      cases hj : f j with
      | none => rfl
      | some k => exact congrArg some (h k ⟨j, hj⟩)
    rw [e]
  · show (Sum.inr (ci, fs.map (a_v ad)) : va_E) = .inr (ci, fs.map (a_v ad'))
    congr 2
    exact List.map_congr_left (fun v hv => a_v_congr (fun k e => h k (by rw [e] at hv; exact hv)))
def rr_pf (π : Nat → Nat) : Value → Bool
  | .ref k => π k == k
  | _ => true
def rr_fx (fx : Nat → Bool) : Value → Bool
  | .ref k => fx k
  | _ => true
section RCALL
variable {σ : Type} {l : Launch} {G : rr_G} {mt : rr_M} {rm : Room} {fx : Nat → Bool} {rv : σ → Option Value} {w : σ → rr_H} {mc ms pc : Nat} {lv : List (Nat × Value)} {st : List Value} {h : rr_H} {o : Option σ}
theorem rr_L_congr {ad ad' : Nat → Nat} (hl : ∀ q ∈ lv, a_v ad q.2 = a_v ad' q.2) : rr_L ad lv = rr_L ad' lv := List.map_congr_left (fun q hq => by rw [hl q hq])
/-- another view: name n of h' is name π n of h -/
theorem rr_view {h' : rr_H} (π : Nat → Nat) (hcell : ∀ n c', h'[n]? = some (some c') → ∃ c, h[π n]? = some (some c) ∧ ∀ (cy : Nat → ClassId) (ad : Nat → Nat), a_c cy (fun k => ad (π k)) c' = a_c cy ad c) (hinj : ∀ n n' c c', h'[n]? = some (some c) → h'[n']? = some (some c') → π n = π n' → n = n') (hfx : ∀ n, fx n = true → π n = n) (hlv : lv.all (fun q => rr_pf π q.2) = true) (hst : st.all (rr_pf π) = true) (k : RR l G mt rm fx rv w mc ms pc lv st h' o) : RR l G mt rm fx rv w mc ms pc lv st h o := by
  intro q ho p e s m args below meth c ad0 ad A H locs cells slots ls C X L hcc hs
  obtain ⟨hP, hD, hS, hA, hf⟩ := X
  have pv : ∀ v : Value, rr_pf π v = true → a_v (fun k => ad (π k)) v = a_v ad v := by
    intro v hv
    refine a_v_congr (fun k e => ?_)
    subst e
    exact congrArg ad (by simpa [rr_pf] using hv)
  have e1 : rr_L (fun k => ad (π k)) lv = rr_L ad lv := rr_L_congr (fun q hq => pv _ (List.all_eq_true.mp hlv q hq))
  have e2 : st.map (a_v (fun k => ad (π k))) = st.map (a_v ad) := List.map_congr_left (fun v hv => pv v (List.all_eq_true.mp hst v hv))
  rw [a_P_iff] at hP
  rw [a_D_iff] at hD
  have K := k q ho p e s m args below meth c ad0 (fun k => ad (π k)) A H locs cells slots ls C ⟨?_, ?_, hS, hA, fun n hn => by show ad (π n) = ad0 n; rw [hfx n hn]; exact hf n hn⟩ (by rw [e1]; exact L) hcc hs
  · rw [e2] at K; exact K
  · rw [a_P_iff]
    intro n c' hc'
    obtain ⟨c0, h1, h2⟩ := hcell n c' hc'
    rw [h2]
    exact hP _ _ h1
  · rw [a_D_iff]
    refine ⟨fun n n' c c' hc hc' ee => ?_, fun n c hc => ?_⟩
    · obtain ⟨c0, h1, -⟩ := hcell n c hc
      obtain ⟨c1, h2, -⟩ := hcell n' c' hc'
      exact hinj n n' c c' hc hc' (hD.1 _ _ _ _ h1 h2 ee)
    · obtain ⟨c0, h1, -⟩ := hcell n c hc
      exact hD.2 _ _ h1
/-- a new cell comes under a name that nothing refers to -/
theorem rr_grown {ad : Nat → Nat} {cy : Nat → ClassId} {A : Nat → Prop} {n qa : Nat} {cn : va_E} {H1 : Heap} (hn : h[n]? = some none) (hno : ∀ (n' : Nat) (c' : va_E), h[n']? = some (some c') → ¬ rr_in n c') (hcn : ∀ ad : Nat → Nat, a_c cy ad cn = a_c cy (fun k => k) cn)
    (hP1 : va_P (rr_D G) vwCl (a_w cy ad 0 h ++ [(qa, a_c cy (fun k => k) cn)]) H1) (hD1 : va_D A (a_w cy ad 0 h ++ [(qa, a_c cy (fun k => k) cn)])) : va_P (rr_D G) vwCl (a_w cy (va_up ad n qa) 0 (h.set n (some cn))) H1 ∧ va_D A (a_w cy (va_up ad n qa) 0 (h.set n (some cn))) := by
  have hlt : n < h.length := (List.getElem?_eq_some_iff.mp hn).1
  have old : ∀ n' c', n' ≠ n → (h.set n (some cn))[n']? = some (some c') → h[n']? = some (some c') := fun n' c' hne hc => by rwa [List.getElem?_set_ne (fun q => hne q.symm)] at hc
  have new : ∀ c', (h.set n (some cn))[n]? = some (some c') → c' = cn := fun c' hc => by
    rw [List.getElem?_set_self hlt] at hc
    exact (Option.some.inj (Option.some.inj hc)).symm
  have at1 : ∀ n' c', h[n']? = some (some c') → (a_w cy ad 0 h ++ [(qa, a_c cy (fun k => k) cn)])[a_k h n']? = some (ad n', a_c cy ad c') := fun n' c' hc => by
    have h1 := rr_at0 (cy := cy) (ad := ad) hc
    rw [List.getElem?_append_left (List.getElem?_eq_some_iff.mp h1).1]
    exact h1
  have atq : (a_w cy ad 0 h ++ [(qa, a_c cy (fun k => k) cn)])[(a_w cy ad 0 h).length]? = some (qa, a_c cy (fun k => k) cn) := by simp
  have ne1 : ∀ n' c', h[n']? = some (some c') → ad n' ≠ qa := fun n' c' hc ee => by
    have h1 := hD1.1 _ _ _ _ (at1 n' c' hc) atq ee
    have h2 := (List.getElem?_eq_some_iff.mp (rr_at0 (cy := cy) (ad := ad) hc)).1
    omega
  have hnn : ∀ n' c', h[n']? = some (some c') → n' ≠ n := fun n' c' hc ee => by
    subst ee
    rw [hn] at hc
    cases hc
  constructor
  · rw [a_P_iff]
    intro n' c' hc
    by_cases hne : n' = n
    · subst hne
      have := new c' hc
      subst this
      rw [va_up_self, hcn]
      exact hP1 _ _ atq
    · have hc0 := old n' c' hne hc
      rw [va_up_ne _ _ hne, a_c_congr (ad := va_up ad n qa) (ad' := ad) (fun k hk => va_up_ne ad qa (fun e => hno n' c' hc0 (by rw [e] at hk; exact hk)))]
      exact hP1 _ _ (at1 n' c' hc0)
  · rw [a_D_iff]
    refine ⟨fun n1 n2 c1 c2 h1 h2 ee => ?_, fun n1 c1 h1 => ?_⟩
    · by_cases e1 : n1 = n
      · by_cases e2 : n2 = n
        · rw [e1, e2]
        · subst e1
          rw [va_up_self, va_up_ne _ _ e2] at ee
          exact absurd ee.symm (ne1 n2 c2 (old n2 c2 e2 h2))
      · by_cases e2 : n2 = n
        · subst e2
          rw [va_up_self, va_up_ne _ _ e1] at ee
          exact absurd ee (ne1 n1 c1 (old n1 c1 e1 h1))
        · rw [va_up_ne _ _ e1, va_up_ne _ _ e2] at ee
          have g1 := old n1 c1 e1 h1
          have g2 := old n2 c2 e2 h2
          exact a_k_inj h n1 n2 c1 c2 g1 g2 (hD1.1 _ _ _ _ (at1 n1 c1 g1) (at1 n2 c2 g2) ee)
    · by_cases e1 : n1 = n
      · subst e1
        rw [va_up_self]
        exact hD1.2 _ _ atq
      · rw [va_up_ne _ _ e1]
        exact hD1.2 _ _ (at1 n1 c1 (old n1 c1 e1 h1))
theorem rr_up_L {ad : Nat → Nat} {n qa : Nat} (hl : ∀ q ∈ lv, q.2 ≠ .ref n) : rr_L (va_up ad n qa) lv = rr_L ad lv :=
  rr_L_congr (fun q hq => a_v_congr (fun k e => va_up_ne _ _ (fun z => hl q hq (by rw [e, z]))))
theorem rr_up_st {ad : Nat → Nat} {n qa : Nat} (hl : ∀ v ∈ st, v ≠ .ref n) : st.map (a_v (va_up ad n qa)) = st.map (a_v ad) :=
  List.map_congr_left (fun v hv => a_v_congr (fun k e => va_up_ne _ _ (fun z => hl v hv (by rw [e, z]))))
theorem rr_new {ci N idx mc1 ms1 : Nat} (n : Nat) {C : String} {T : u_T} {ty : Nat → FieldType} {fs : List Value} (hc : rr_cl ci C T N ty) (hcl : Cond.classLink mt.1.cls idx C ∈ rr_ws) (hin : Cond.instantiable C N ∈ rr_ws) (hini : Cond.initialized C ∈ rr_ws) (hfs : ∀ j, j < N → defaultValue (ty j) = vp_V fs j) (hfr : ∀ k, Value.ref k ∉ fs) (hn : h[n]? = some none) (hno : ∀ (n' : Nat) (c' : va_E), h[n']? = some (some c') → ¬ rr_in n c') (hfx : fx n = false) (hlv : ∀ q ∈ lv, q.2 ≠ .ref n) (hst : ∀ v ∈ st, v ≠ .ref n) (hmc : mc1 + 1 = mc) (hms : ms1 + N = ms) (hd : decode mt.2.1 pc = .ok (.new idx, 3)) {h' : rr_H} (hh : h.set n (some (.inr (ci, fs))) = h') (kk : RR l G mt rm fx rv w mc1 ms1 (pc + 3) lv (.ref n :: st) h' o) : RR l G mt rm fx rv w mc ms pc lv st h o := by
  intro q ho p e s m args below meth c ad0 ad A H locs cells slots ls C X L hcc hs
  obtain ⟨hP, hD, hS, hA, hf⟩ := X
  have hC := C
  obtain ⟨hx, hb, hml, hown, hts, hr, hlo, hnm, hK⟩ := C
  obtain ⟨c1, c2, c3, c4, c5⟩ := hc
  refine va_new (D := rr_D G) (ci := ci) (fs := fs) hx hb hts c2 ty c3 hown (hts _ hcl) (hts _ hin) (hts _ hini) hK.1 hP hD hS hA c1 hfs (by omega) (by omega) hd (fun qa H1 hP1 hD1 hS1 => ?_)
  have hfm : ∀ ad : Nat → Nat, fs.map (a_v ad) = fs := fun ad => by
    conv => rhs; rw [← List.map_id fs]
    refine List.map_congr_left (fun v hv => ?_)
    cases v <;> first | rfl | exact absurd hv (hfr _)
  have hcn : ∀ ad : Nat → Nat, a_c G.2.2 ad (.inr (ci, fs)) = .inr (ci, fs) := fun ad => by show (Sum.inr (ci, fs.map (a_v ad)) : va_E) = _; rw [hfm]
  obtain ⟨g1, g2⟩ := rr_grown (G := G) (cn := .inr (ci, fs)) hn hno (fun ad => by rw [hcn, hcn]) (by rw [hcn]; exact hP1) (by rw [hcn]; exact hD1)
  rw [hh] at g1 g2
  have K := kk q ho p e s m args below meth c ad0 (va_up ad n qa) A H1 locs (cells + 1) (slots + N) ls hC ⟨g1, g2, hS1, hA, fun k hk => by rw [va_up_ne _ _ (fun z => by rw [z, hfx] at hk; cases hk)]; exact hf k hk⟩ (by rw [rr_up_L hlv]; exact L) (by omega) (by omega)
  rw [List.map_cons, rr_up_st hst] at K
  show W p l e rm s m args below meth c H1 locs (cells + 1) (slots + N) _ (F0 m (pc + 3) ls (Value.ref qa :: st.map (a_v ad)))
  have e9 : a_v (va_up ad n qa) (.ref n) = .ref qa := congrArg Value.ref (va_up_self ad n qa)
  rw [e9] at K
  exact K
theorem rr_newa {atype : ArrayType} {ty : FieldType} {t mc1 ms1 N' : Nat} {len : Int32} {x : (Nat → Int32) ⊕ (Nat → Int64) ⊕ (Nat → UInt32) ⊕ (Nat → UInt64) ⊕ (Nat → Option Nat)} (n : Nat) (hty : newarray.typeOf atype = ty) (hprim : refKind ty = false) (htt : ∀ cy : Nat → ClassId, (rr_tys cy)[t]? = some (cy t, ty)) (hx : ∀ cA : ClassId, vp_cell cA (N', x) = arrV cA N' (fun _ => defaultValue ty)) (hxr : ∀ ad : Nat → Nat, a_a ad (N', x) = (N', x)) (harr : Cond.arrayClass ty ∈ rr_ws) (hl0 : ¬ len < 0) (hN : len.toNatClampNeg = N') (hby : N' * componentBytes ty ≤ 536870912) (hn : h[n]? = some none) (hno : ∀ (n' : Nat) (c' : va_E), h[n']? = some (some c') → ¬ rr_in n c') (hfx : fx n = false) (hlv : ∀ q ∈ lv, q.2 ≠ .ref n) (hst : ∀ v ∈ st, v ≠ .ref n) (hmc : mc1 + 1 = mc) (hms : ms1 + N' = ms) (hd : decode mt.2.1 pc = .ok (.newarray atype, 2)) {h' : rr_H} (hh : h.set n (some (.inl (t, N', x))) = h') (kk : RR l G mt rm fx rv w mc1 ms1 (pc + 2) lv (.ref n :: st) h' o) : RR l G mt rm fx rv w mc ms pc lv (.int len :: st) h o := by
  intro q ho p e s m args below meth c ad0 ad A H locs cells slots ls C X L hcc hs
  obtain ⟨hP, hD, hS, hA, hf⟩ := X
  have hC := C
  obtain ⟨hx0, hb, hml, hown, hts, hr, hlo, hnm, hK⟩ := C
  refine va_newa (D := rr_D G) (a0 := (N', x)) hx0 hb (by rw [hty]; exact hts _ harr) hty hK.1 hP hD hS hA hx hl0 hN hby (by omega) (by omega) hd (fun qa cA H1 hK1 hP1 hD1 hS1 => ?_)
  have hcA : cA = G.2.2 t := by
    have r1 := (hK1.2 (rr_tys G.2.2).length (cA, ty) (by simp)).2
    have r2 := (hK.1.2 t _ (htt G.2.2)).2
    cases ty <;> first | (simp [refKind] at hprim; done) | exact Option.some.inj (r1.symm.trans r2)
  subst hcA
  have hcn : ∀ ad : Nat → Nat, a_c G.2.2 ad (.inl (t, N', x)) = .inl (G.2.2 t, N', x) := fun ad => by show (Sum.inl (G.2.2 t, a_a ad (N', x)) : va_E) = _; rw [hxr]
  obtain ⟨g1, g2⟩ := rr_grown (G := G) (cn := .inl (t, N', x)) hn hno (fun ad => by rw [hcn, hcn]) (by rw [hcn]; exact hP1) (by rw [hcn]; exact hD1)
  rw [hh] at g1 g2
  have K := kk q ho p e s m args below meth c ad0 (va_up ad n qa) A H1 locs (cells + 1) (slots + N') ls hC ⟨g1, g2, hS1, hA, fun k hk => by rw [va_up_ne _ _ (fun z => by rw [z, hfx] at hk; cases hk)]; exact hf k hk⟩ (by rw [rr_up_L hlv]; exact L) (by omega) (by omega)
  rw [List.map_cons, rr_up_st hst] at K
  show W p l e rm s m args below meth c H1 locs (cells + 1) (slots + N') _ (F0 m (pc + 2) ls (Value.ref qa :: st.map (a_v ad)))
  have e9 : a_v (va_up ad n qa) (.ref n) = .ref qa := congrArg Value.ref (va_up_self ad n qa)
  rw [e9] at K
  exact K
end RCALL
end
section
/-! ===== calls ===== -/
section RRUN
variable {p : Program} {l : Launch} {e : Env} {R : Room} {s : State} {m : MethodId} {args : Array Value} {below : List Frame} {meth : Method} {c : Code} {H : Heap} {locs : List Loc} {cells slots : Nat} {Q : State → Prop}
variable {pc : Nat} {ls : Array Slot} {rest st0 : List Value} {a : Array Value} {A0 A1 : Nat → Prop} {H0 : Heap} {mc ms : Nat} {free : Addr → Prop}
theorem rr_run {σ : Type} {G : rr_G} {fx : Nat → Bool} {rv : σ → Option Value} {w : σ → rr_H} {q : σ} {ad0 : Nat → Nat} (hr : va_Run p l e R s m args below meth c H locs cells slots mc ms (F0 m pc ls st0) rest (rr_Q G fx rv w q ad0 A1 a) free) (hS : va_S A0 H0 H locs) (hA : ∀ q, q < H.size → A1 q → A0 q) (hf : ∀ q, free q → A0 q)
    (kk : ∀ (ad : Nat → Nat) (H1 : Heap) (locs1 : List Loc), (∀ n, fx n = true → ad n = ad0 n) → va_P (rr_D G) vwCl (a_w G.2.2 ad 0 (w q)) H1 → va_D A1 (a_w G.2.2 ad 0 (w q)) → va_S A0 H0 H1 locs1 → W p l e R s m args below meth c H1 locs1 (cells + mc) (slots + ms) Q (F0 m (pc + 3) ls (((rv q).map (a_v ad)).toList ++ rest))) : W p l e R s m args below meth c H locs cells slots Q (F0 m pc ls st0) := by
  intro T hT X
  obtain ⟨v, st₀, t, T', L, h0, X', hL, e1, e2, ⟨⟨ad, hfx, hv, hP, hK, hD⟩, hz, hk⟩, st⟩ := hr T hT X
  cases hv
  rw [h0] at hz hk
  obtain ⟨t2, a1, b1⟩ := kk ad T'.heap (locs ++ L) hfx (by rw [e1]; exact hP) hD
    ⟨Nat.le_trans hS.1 (by rw [e1]; exact hz), fun q h1 h2 => by rw [e1, hk q (Nat.lt_of_lt_of_le h1 hS.1) (fun z => h2 (hA q (Nat.lt_of_lt_of_le h1 hS.1) z))]; exact hS.2.1 q h1 h2, fun q hq => by
      rcases List.mem_append.mp hq with h | h
      · exact hS.2.2 q h
      · exact hf _ (hL q h)⟩ T' rfl X'
  exact ⟨t2, st t2 a1, b1⟩
end RRUN
theorem rr_good {x : Cond} (h : x ∈ rr_ws) : x ∈ rr_ws ∧ ((x.onTables && x.keeps) = true ∨ ∃ ty, x = .arrayClass ty) := ⟨h, good_of_word (List.mem_filter.mp h).2⟩
/-- what every call wants of the tables -/
def rr_cb (mt' : rr_M) (n : Nat) : Prop := Cond.initialized mt'.1.cls ∈ rr_ws ∧ Cond.code mt'.1 mt'.2.1 mt'.2.2.1 mt'.2.2.2 ∈ rr_ws ∧ (mt'.1.cls ≠ "java/lang/invoke/MethodHandle" ∧ mt'.1.cls ≠ "java/lang/invoke/VarHandle" ∧ (parseMethodDescriptor mt'.1.desc).map (fun d => d.parameters.length) = some n)
/-- the link: the class's own, or a nest mate's -/
def rr_ml (own : String) (idx : Nat) (y : MethodName) : Prop := Cond.methodLink own idx y ∈ rr_ws ∨ ∃ host, Cond.methodLinkNest own idx y host ∈ rr_ns
theorem rr_goodAll (mt' : rr_M) (h : Cond.code mt'.1 mt'.2.1 mt'.2.2.1 mt'.2.2.2 ∈ rr_ws) : GoodIn rr_ws (.code mt'.1 mt'.2.1 mt'.2.2.1 mt'.2.2.2 :: rr_ws) := fun x hx => (List.mem_cons.mp hx).elim (fun e => by rw [e]; exact rr_good h) rr_good
section RCALL2
variable {σ σ' : Type} {l : Launch} {G : rr_G} {mt mt' : rr_M} {rm : Room} {fx fx' : Nat → Bool} {rv : σ → Option Value} {rv' : σ' → Option Value} {w : σ → rr_H} {w' : σ' → rr_H} {mc ms mc' ms' mc1 ms1 d' lo' n idx pc : Nat} {lv : List (Nat × Value)} {st As rest : List Value} {h : rr_H} {o' : Option σ'} {k : σ' → Option σ}
/-- behind a call: the world is the callee's end, the locals and operands are fixed names or numbers -/
theorem rr_back {q : σ} {q' : σ'} {p : Program} {e : Env} {s : State} {m : MethodId} {args a : Array Value} {below : List Frame} {meth : Method} {c : Code} {ad0 ad : Nat → Nat} {A : Nat → Prop} {H : Heap} {locs : List Loc} {cells slots : Nat} {ls : Array Slot} {st0 : List Value}
    (hr : va_Run p l e rm s m args below meth c H locs cells slots mc' ms' (F0 m pc ls st0) (rest.map (a_v ad)) (rr_Q G fx' rv' w' q' ad (va_A (a_w G.2.2 ad 0 h) H.size) a) (va_A (a_w G.2.2 ad 0 h) H.size))
    (C : rr_C G mt p s m args meth c) (X : rr_S G fx ad0 ad A s H locs h) (L : lv_has ls mt.2.2.1 (rr_L ad lv)) (hcc : cells + mc ≤ rm.cells) (hs : slots + ms ≤ rm.slots) (hfx : ∀ n, fx n = true → fx' n = true) (hlv : lv.all (fun q => rr_fx fx' q.2) = true) (hrs : rest.all (rr_fx fx') = true) (hmc : mc1 + mc' = mc) (hms : ms1 + ms' = ms) (hq : k q' = some q)
    (kk : RR l G mt rm fx rv w mc1 ms1 (pc + 3) lv ((rv' q').toList ++ rest) (w' q') (k q')) : W p l e rm s m args below meth c H locs cells slots (MQ below (rr_Q G fx rv w q ad0 A) args s rm.cells rm.slots A) (F0 m pc ls st0) := by
  obtain ⟨hP, hD, hS, hA, hf⟩ := X
  have hF : ∀ q, va_A (a_w G.2.2 ad 0 h) H.size q → A q := fun q hq => hq.elim (fun ⟨i, x, hx⟩ => hD.2 i _ hx) (fun z => hA q (Nat.le_trans hS.1 z))
  refine rr_run hr hS (fun q _ h => hF q h) hF (fun ad1 H1 locs1 hfx1 hP1 hD1 hS1 => ?_)
  have pv : ∀ v : Value, rr_fx fx' v = true → a_v ad1 v = a_v ad v := fun v hv => a_v_congr (fun k e => by subst e; exact hfx1 k hv)
  have e1 : rr_L ad1 lv = rr_L ad lv := rr_L_congr (fun q hq => pv _ (List.all_eq_true.mp hlv q hq))
  have e2 : rest.map (a_v ad1) = rest.map (a_v ad) := List.map_congr_left (fun v hv => pv v (List.all_eq_true.mp hrs v hv))
  have K := kk q hq p e s m args below meth c ad0 ad1 A H1 locs1 (cells + mc') (slots + ms') ls C ⟨hP1, hD1.weaken (fun _ q _ z => hF q.1 z), hS1, hA, fun n hn => (hfx1 n (hfx n hn)).trans (hf n hn)⟩ (by rw [e1]; exact L) (by omega) (by omega)
  rw [List.map_append, e2] at K
  have e3 : ((rv' q').toList).map (a_v ad1) = ((rv' q').map (a_v ad1)).toList := by cases rv' q' <;> rfl
  rw [e3] at K
  exact K
/-- the callee's start, from the caller's world -/
theorem rr_pre {ad : Nat → Nat} {H : Heap} {s : State} {A : Nat → Prop} {av : List Value} (hP : va_P (rr_D G) vwCl (a_w G.2.2 ad 0 h) H) (hD : va_D A (a_w G.2.2 ad 0 h)) (hK : rr_K G s) : PreS s H (va_Pc (av.map (a_v ad)) (fun U => U.heap.size = H.size ∧ va_P (rr_D G) vwCl (a_w G.2.2 ad 0 h) U.heap ∧ rr_K G U ∧ va_D (fun _ => True) (a_w G.2.2 ad 0 h))) (av.map (a_v ad)) :=
  ⟨fun a U g mk z => by obtain ⟨z0, z1, zP, zK, zD⟩ := z; exact ⟨z0, z1, zP, rr_K.moved (s := U) (U := U.calling g mk a) (State.WarmedH.refl U) zK, zD⟩, fun U hU hW => ⟨rfl, by rw [hU], by rw [hU]; exact hP, rr_K.moved hW hK, hD.weaken (fun _ _ _ _ => trivial)⟩⟩
theorem rr_callV {b ci N : Nat} {T : u_T} {fs : List Value} (ht : TT l G mt' d' lo' fx' rv' w' mc' ms' (.ref b :: As) h o') (hb : rr_cb mt' n) (hl : rr_ml mt.1.cls idx mt'.1) (hi : Cond.instanceMethod mt'.1 ∈ rr_ws) (hse : Cond.selects mt'.1.cls mt'.1 mt'.1 ∈ rr_ws) (hc : vwCl[ci]? = some (mt'.1.cls, T, N)) (hobj : h[b]? = some (some (.inr (ci, fs)))) (hn : As.length = n) (hrm : d' + 1 ≤ rm.frames ∧ 8 + (mt'.2.2.1 + 11) + lo' ≤ rm.locals) (hfx : ∀ n, fx n = true → fx' n = true) (hlv : lv.all (fun q => rr_fx fx' q.2) = true) (hrs : rest.all (rr_fx fx') = true) (hcat : (rest.map fun v => v.category).sum ≤ 8) (hmc : mc1 + mc' = mc) (hms : ms1 + ms' = ms) (hst : st = As.reverse ++ .ref b :: rest) (hd : decode mt.2.1 pc = .ok (.invokevirtual idx, 3))
    (kk : ∀ q', o' = some q' → RR l G mt rm fx rv w mc1 ms1 (pc + 3) lv ((rv' q').toList ++ rest) (w' q') (k q')) : RR l G mt rm fx rv w mc ms pc lv st h (o'.bind k) := by
  intro q ho p e s m args below meth c ad0 ad A H locs cells slots ls C X L hcc hs
  cases hq : o' with
  | none => rw [hq] at ho; cases ho
  | some q' =>
    rw [hq] at ho
    have X0 := X
    obtain ⟨hP, hD, hS, hA, hf⟩ := X
    have C0 := C
    obtain ⟨hx, hbb, hml, hown, hts, hr, hlo, hnm, hK⟩ := C
    obtain ⟨b1, b2, b3⟩ := hb
    have hM := ht q' hq ad H.size
    have hcat' : ((rest.map (a_v ad)).map fun v => v.category).sum ≤ 8 := by rw [List.map_map]; simpa [Function.comp_def, a_v_cat] using hcat
    have hst' : st.map (a_v ad) = (As.map (a_v ad)).reverse ++ .ref (ad b) :: rest.map (a_v ad) := by rw [hst, List.map_append, List.map_reverse]; rfl
    have hpre := rr_pre (av := .ref b :: As) hP hD hK
    have hrecv := va_recv hK.1 hP hc (rr_at0 hobj)
    rcases hl with hl | ⟨host, hl⟩
    · refine rr_back (va_runV (C := mt'.1.cls) (As := As.map (a_v ad)) (rest := rest.map (a_v ad)) ⟨hx, hbb, hml, hown, hts⟩ hM (cwV n hts ?_ rfl rfl rfl ⟨rfl, b3⟩ hrm) ⟨hpre.1, hrecv, hpre.2⟩ rfl (by rw [List.length_map]; exact hn) L.1 hst' (lv_room hcat') hd ⟨by omega, by omega⟩) C0 X0 L hcc hs hfx hlv hrs hmc hms ho (kk q' hq)
      intro x hx
      rcases List.mem_append.mp (show x ∈ [_, _, _, _] ++ _ from hx) with hx | hx
      · simp only [List.mem_cons, List.not_mem_nil, or_false] at hx
        rcases hx with rfl | rfl | rfl | rfl
        · exact rr_good hl
        · exact rr_good hi
        · exact rr_good hse
        · exact rr_good b1
      · exact rr_goodAll mt' b2 x hx
    · exact rr_back (va_runVN (C := mt'.1.cls) (As := As.map (a_v ad)) (rest := rest.map (a_v ad)) ⟨hx, hbb, hml, hown, hts⟩ hM ⟨va_cnB n hts (rr_goodAll mt' b2) rfl rfl rfl (hK.2 _ hl) (hts _ b1) b3 hrm, hts _ hi, hts _ hse⟩ ⟨hpre.1, hrecv, hpre.2⟩ rfl (by rw [List.length_map]; exact hn) L.1 hst' (lv_room hcat') hd ⟨by omega, by omega⟩) C0 X0 L hcc hs hfx hlv hrs hmc hms ho (kk q' hq)
theorem rr_callI {b : Nat} (ht : TT l G mt' d' lo' fx' rv' w' mc' ms' (.ref b :: As) h o') (hb : rr_cb mt' n) (hl : rr_ml mt.1.cls idx mt'.1) (hi : Cond.instanceMethod mt'.1 ∈ rr_ws) (hy : mt'.1.name = "<init>") (hret : mt'.2.2.2 = none) (hn : As.length = n) (hrm : d' + 1 ≤ rm.frames ∧ 8 + (mt'.2.2.1 + 11) + lo' ≤ rm.locals) (hfx : ∀ n, fx n = true → fx' n = true) (hlv : lv.all (fun q => rr_fx fx' q.2) = true) (hrs : rest.all (rr_fx fx') = true) (hcat : (rest.map fun v => v.category).sum ≤ 8) (hmc : mc1 + mc' = mc) (hms : ms1 + ms' = ms) (hst : st = As.reverse ++ .ref b :: rest) (hd : decode mt.2.1 pc = .ok (.invokespecial idx, 3))
    (kk : ∀ q', o' = some q' → RR l G mt rm fx rv w mc1 ms1 (pc + 3) lv ((rv' q').toList ++ rest) (w' q') (k q')) : RR l G mt rm fx rv w mc ms pc lv st h (o'.bind k) := by
  intro q ho p e s m args below meth c ad0 ad A H locs cells slots ls C X L hcc hs
  cases hq : o' with
  | none => rw [hq] at ho; cases ho
  | some q' =>
    rw [hq] at ho
    have X0 := X
    obtain ⟨hP, hD, hS, hA, hf⟩ := X
    have C0 := C
    obtain ⟨hx, hbb, hml, hown, hts, hr, hlo, hnm, hK⟩ := C
    obtain ⟨b1, b2, b3⟩ := hb
    obtain ⟨y', cc', nL', ret'⟩ := mt'
    have hret : ret' = none := hret
    subst hret
    have hM := ht q' hq ad H.size
    have hcat' : ((rest.map (a_v ad)).map fun v => v.category).sum ≤ 8 := by rw [List.map_map]; simpa [Function.comp_def, a_v_cat] using hcat
    have hst' : st.map (a_v ad) = (As.map (a_v ad)).reverse ++ .ref (ad b) :: rest.map (a_v ad) := by rw [hst, List.map_append, List.map_reverse]; rfl
    have hpre := rr_pre (av := .ref b :: As) hP hD hK
    rcases hl with hl | ⟨host, hl⟩
    · exact rr_back (va_runI (As := As.map (a_v ad)) (rest := rest.map (a_v ad)) ⟨hx, hbb, hml, hown, hts⟩ hM (cwI n hts (rr_goodAll (y', cc', nL', none) b2) rfl rfl rfl (hts _ b1) (hts _ hl) (hts _ hi) hy b3 hrm) hpre rfl (by rw [List.length_map]; exact hn) L.1 hst' (lv_room hcat') hd ⟨by omega, by omega⟩) C0 X0 L hcc hs hfx hlv hrs hmc hms ho (kk q' hq)
    · exact rr_back (va_runIN (As := As.map (a_v ad)) (rest := rest.map (a_v ad)) ⟨hx, hbb, hml, hown, hts⟩ hM ⟨va_cnB n hts (rr_goodAll (y', cc', nL', none) b2) rfl rfl rfl (hK.2 _ hl) (hts _ b1) b3 hrm, hy, hts _ hi⟩ hpre rfl (by rw [List.length_map]; exact hn) L.1 hst' (lv_room hcat') hd ⟨by omega, by omega⟩) C0 X0 L hcc hs hfx hlv hrs hmc hms ho (kk q' hq)
theorem rr_callS (ht : TT l G mt' d' lo' fx' rv' w' mc' ms' As h o') (hb : rr_cb mt' n) (hl : rr_ml mt.1.cls idx mt'.1) (hi : Cond.static mt'.1 ∈ rr_ws) (hn : As.length = n) (hrm : d' + 1 ≤ rm.frames ∧ 8 + (mt'.2.2.1 + 11) + lo' ≤ rm.locals) (hfx : ∀ n, fx n = true → fx' n = true) (hlv : lv.all (fun q => rr_fx fx' q.2) = true) (hrs : rest.all (rr_fx fx') = true) (hcat : (rest.map fun v => v.category).sum ≤ 8) (hmc : mc1 + mc' = mc) (hms : ms1 + ms' = ms) (hst : st = As.reverse ++ rest) (hd : decode mt.2.1 pc = .ok (.invokestatic idx, 3))
    (kk : ∀ q', o' = some q' → RR l G mt rm fx rv w mc1 ms1 (pc + 3) lv ((rv' q').toList ++ rest) (w' q') (k q')) : RR l G mt rm fx rv w mc ms pc lv st h (o'.bind k) := by
  intro q ho p e s m args below meth c ad0 ad A H locs cells slots ls C X L hcc hs
  cases hq : o' with
  | none => rw [hq] at ho; cases ho
  | some q' =>
    rw [hq] at ho
    have X0 := X
    obtain ⟨hP, hD, hS, hA, hf⟩ := X
    have C0 := C
    obtain ⟨hx, hbb, hml, hown, hts, hr, hlo, hnm, hK⟩ := C
    obtain ⟨b1, b2, b3⟩ := hb
    have hM := ht q' hq ad H.size
    have hcat' : ((rest.map (a_v ad)).map fun v => v.category).sum ≤ 8 := by rw [List.map_map]; simpa [Function.comp_def, a_v_cat] using hcat
    have hst' : st.map (a_v ad) = (As.map (a_v ad)).reverse ++ rest.map (a_v ad) := by rw [hst, List.map_append, List.map_reverse]
    have hpre := rr_pre (av := As) hP hD hK
    rcases hl with hl | ⟨host, hl⟩
    · exact rr_back (va_runS (As := As.map (a_v ad)) (rest := rest.map (a_v ad)) ⟨hx, hbb, hml, hown, hts⟩ hM ⟨callB_of n hts (rr_goodAll mt' b2) rfl rfl rfl (hts _ b1) (hts _ hl) b3 hrm, hts _ hi⟩ hpre rfl (by rw [List.length_map]; exact hn) L.1 hst' (lv_room hcat') hd ⟨by omega, by omega⟩) C0 X0 L hcc hs hfx hlv hrs hmc hms ho (kk q' hq)
    · exact rr_back (va_runSN (As := As.map (a_v ad)) (rest := rest.map (a_v ad)) ⟨hx, hbb, hml, hown, hts⟩ hM ⟨va_cnB n hts (rr_goodAll mt' b2) rfl rfl rfl (hK.2 _ hl) (hts _ b1) b3 hrm, hts _ hi, trivial⟩ hpre rfl (by rw [List.length_map]; exact hn) L.1 hst' (lv_room hcat') hd ⟨by omega, by omega⟩) C0 X0 L hcc hs hfx hlv hrs hmc hms ho (kk q' hq)
end RCALL2
end
section
/-! ===== the words of a told end: named values, join points, loops ===== -/
abbrev rr_T : Type := (Nat → Int32) × (Nat → Nat → Int32) × (Nat → Nat → Int64) × (Nat → Nat)
def pI (S : rr_T) (k : Nat) (v : Int32) : rr_T := (va_up S.1 k v, S.2)
def pA (S : rr_T) (n : Nat) (i : Int32) (v : Int32) : rr_T := (S.1, va_up S.2.1 n (upd (S.2.1 n) i.toNatClampNeg v), S.2.2)
def pL (S : rr_T) (n : Nat) (i : Int32) (v : Int64) : rr_T := (S.1, S.2.1, va_up S.2.2.1 n (vp_updL (S.2.2.1 n) i.toNatClampNeg v), S.2.2.2)
def inb (i : Int32) (n : Nat) : Bool := decide (¬ (i < 0 ∨ n ≤ i.toNatClampNeg))
theorem inb_in {i : Int32} {n : Nat} (h : inb i n = true) : vp_in i n := of_decide_eq_true (p := ¬ (i < 0 ∨ n ≤ i.toNatClampNeg)) h
def rr_l {α β : Type} (e : α) (f : α → β) : β := f e
def rr_loop {α τ : Type} : Nat → ((α → Option τ) → α → Option τ) → α → Option τ
  | 0, _, _ => none
  | n + 1, B, a => B (rr_loop n B) a
def rvI : Int32 → Option Value := fun v => some (.int v)
def rvL : Int64 → Option Value := fun v => some (.long v)
def rvIS : Int32 × rr_T → Option Value := fun q => some (.int q.1)
def rvS : rr_T → Option Value := fun _ => none
def fxA : Nat → Bool := fun _ => true
theorem in_rr {x : Cond} (i : Nat) (h : lw_tbl[i]? = some x) (g : goodWord x = true) : x ∈ rr_ws := List.mem_filter.mpr ⟨List.mem_of_getElem? h, g⟩
theorem in_ns {x : Cond} (i : Nat) (h : lw_tbl[i]? = some x) (g : rr_isN x = true) : x ∈ rr_ns := List.mem_filter.mpr ⟨List.mem_of_getElem? h, g⟩
section RCORE
variable {σ α : Type} {l : Launch} {G : rr_G} {mt : rr_M} {rm : Room} {fx : Nat → Bool} {rv : σ → Option Value} {w : σ → rr_H} {mc ms pc : Nat} {lv : List (Nat × Value)} {st : List Value} {h : rr_H} {o : Option σ}
theorem rr_letS {W : α → rr_H} {e : α} {F : α → Option σ} (k : ∀ x, RR l G mt rm fx rv w mc ms pc lv st (W x) (F x)) : RR l G mt rm fx rv w mc ms pc lv st (W e) (rr_l e F) := k e
theorem rr_letI {e : Int32} {F : Int32 → Option σ} (k : ∀ x, RR l G mt rm fx rv w mc ms pc lv (.int x :: st) h (F x)) : RR l G mt rm fx rv w mc ms pc lv (.int e :: st) h (rr_l e F) := k e
theorem rr_letL {e : Int64} {F : Int64 → Option σ} (k : ∀ x, RR l G mt rm fx rv w mc ms pc lv (.long x :: st) h (F x)) : RR l G mt rm fx rv w mc ms pc lv (.long e :: st) h (rr_l e F) := k e
theorem rr_join {J : α → Option σ} {F : (α → Option σ) → Option σ} (pcJ : Nat) (lvJ : α → List (Nat × Value)) (stJ : α → List Value) (hJ : α → rr_H) (k1 : ∀ a, RR l G mt rm fx rv w mc ms pcJ (lvJ a) (stJ a) (hJ a) (J a)) (k2 : ∀ j : α → Option σ, (∀ a, RR l G mt rm fx rv w mc ms pcJ (lvJ a) (stJ a) (hJ a) (j a)) → RR l G mt rm fx rv w mc ms pc lv st h (F j)) : RR l G mt rm fx rv w mc ms pc lv st h (rr_l J F) := k2 J k1
theorem rr_lp {B : (α → Option σ) → α → Option σ} (pcH : Nat) (lvH : α → List (Nat × Value)) (hH : α → rr_H) (k : ∀ rec : α → Option σ, (∀ a, RR l G mt rm fx rv w mc ms pcH (lvH a) [] (hH a) (rec a)) → ∀ a, RR l G mt rm fx rv w mc ms pcH (lvH a) [] (hH a) (B rec a)) : ∀ (n : Nat) (a : α), RR l G mt rm fx rv w mc ms pcH (lvH a) [] (hH a) (rr_loop n B a) := by
  intro n
  induction n with
  | zero => intro a; exact rr_none
  | succ n ih => intro a; exact k _ ih a
theorem TT.by {d lo : Nat} {av : List Value} (hpl : plainName mt.1.cls = true) (hlen : (lg_sl av).length ≤ mt.2.2.1) (hlv : lv_args 0 av = lv) (k : RR l G mt { frames := d, cells := mc, slots := ms, locals := lo } fx rv w mc ms 0 lv [] h o) : TT l G mt d lo fx rv w mc ms av h o := TT.of hpl hlen (hlv ▸ k)
end RCORE
section RCALL3
variable {σ : Type} {l : Launch} {G : rr_G} {mt mt' : rr_M} {rm : Room} {fx : Nat → Bool} {rv : σ → Option Value} {w : σ → rr_H} {mc ms d' lo' n idx pc : Nat} {lv : List (Nat × Value)} {st As rest : List Value} {h : rr_H}
/-- what a virtual call's place wants of the tables -/
def rr_vk (own : String) (idx : Nat) (mt' : rr_M) (ci n : Nat) : Prop := rr_cb mt' n ∧ rr_ml own idx mt'.1 ∧ Cond.instanceMethod mt'.1 ∈ rr_ws ∧ Cond.selects mt'.1.cls mt'.1 mt'.1 ∈ rr_ws ∧ ∃ T N, vwCl[ci]? = some (mt'.1.cls, T, N)
def rr_sk (own : String) (idx : Nat) (mt' : rr_M) (n : Nat) : Prop := rr_cb mt' n ∧ rr_ml own idx mt'.1 ∧ Cond.static mt'.1 ∈ rr_ws
/-- a call that changes nothing of the world and makes nothing, for an int -/
theorem rr_vi {b ci : Nat} {fs : List Value} {o' : Option Int32} {k : Int32 → Option σ} (ht : TT l G mt' d' lo' fxA rvI (fun _ => h) 0 0 (.ref b :: As) h o') (hk : rr_vk mt.1.cls idx mt' ci n) (hobj : h[b]? = some (some (.inr (ci, fs)))) (hn : As.length = n) (hrm : d' + 1 ≤ rm.frames ∧ 8 + (mt'.2.2.1 + 11) + lo' ≤ rm.locals) (hlv : lv.all (fun q => rr_fx fxA q.2) = true) (hrs : rest.all (rr_fx fxA) = true) (hcat : (rest.map fun v => v.category).sum ≤ 8) (hst : st = As.reverse ++ .ref b :: rest) (hd : decode mt.2.1 pc = .ok (.invokevirtual idx, 3))
    (kk : ∀ r, RR l G mt rm fx rv w mc ms (pc + 3) lv (.int r :: rest) h (k r)) : RR l G mt rm fx rv w mc ms pc lv st h (o'.bind k) := by
  obtain ⟨k1, k2, k3, k4, T, N, k5⟩ := hk
  exact rr_callV (mc1 := mc) (ms1 := ms) ht k1 k2 k3 k4 k5 hobj hn hrm (fun _ _ => rfl) hlv hrs hcat rfl rfl hst hd (fun q _ => kk q)
theorem rr_si {o' : Option Int32} {k : Int32 → Option σ} (ht : TT l G mt' d' lo' fxA rvI (fun _ => h) 0 0 As h o') (hk : rr_sk mt.1.cls idx mt' n) (hn : As.length = n) (hrm : d' + 1 ≤ rm.frames ∧ 8 + (mt'.2.2.1 + 11) + lo' ≤ rm.locals) (hlv : lv.all (fun q => rr_fx fxA q.2) = true) (hrs : rest.all (rr_fx fxA) = true) (hcat : (rest.map fun v => v.category).sum ≤ 8) (hst : st = As.reverse ++ rest) (hd : decode mt.2.1 pc = .ok (.invokestatic idx, 3))
    (kk : ∀ r, RR l G mt rm fx rv w mc ms (pc + 3) lv (.int r :: rest) h (k r)) : RR l G mt rm fx rv w mc ms pc lv st h (o'.bind k) := by
  obtain ⟨k1, k2, k3⟩ := hk
  exact rr_callS (mc1 := mc) (ms1 := ms) ht k1 k2 k3 hn hrm (fun _ _ => rfl) hlv hrs hcat rfl rfl hst hd (fun q _ => kk q)
theorem rr_sl_ {o' : Option Int64} {k : Int64 → Option σ} (ht : TT l G mt' d' lo' fxA rvL (fun _ => h) 0 0 As h o') (hk : rr_sk mt.1.cls idx mt' n) (hn : As.length = n) (hrm : d' + 1 ≤ rm.frames ∧ 8 + (mt'.2.2.1 + 11) + lo' ≤ rm.locals) (hlv : lv.all (fun q => rr_fx fxA q.2) = true) (hrs : rest.all (rr_fx fxA) = true) (hcat : (rest.map fun v => v.category).sum ≤ 8) (hst : st = As.reverse ++ rest) (hd : decode mt.2.1 pc = .ok (.invokestatic idx, 3))
    (kk : ∀ r, RR l G mt rm fx rv w mc ms (pc + 3) lv (.long r :: rest) h (k r)) : RR l G mt rm fx rv w mc ms pc lv st h (o'.bind k) := by
  obtain ⟨k1, k2, k3⟩ := hk
  exact rr_callS (mc1 := mc) (ms1 := ms) ht k1 k2 k3 hn hrm (fun _ _ => rfl) hlv hrs hcat rfl rfl hst hd (fun q _ => kk q)
/-- a call that leaves another state of the same world -/
theorem rr_vis {b ci mc' ms' mc1 ms1 : Nat} {fx' : Nat → Bool} {W : rr_T → rr_H} {fs : List Value} {o' : Option (Int32 × rr_T)} {k : Int32 × rr_T → Option σ} (ht : TT l G mt' d' lo' fx' rvIS (fun q => W q.2) mc' ms' (.ref b :: As) h o') (hk : rr_vk mt.1.cls idx mt' ci n) (hobj : h[b]? = some (some (.inr (ci, fs)))) (hn : As.length = n) (hrm : d' + 1 ≤ rm.frames ∧ 8 + (mt'.2.2.1 + 11) + lo' ≤ rm.locals) (hfx : ∀ n, fx n = true → fx' n = true) (hlv : lv.all (fun q => rr_fx fx' q.2) = true) (hrs : rest.all (rr_fx fx') = true) (hcat : (rest.map fun v => v.category).sum ≤ 8) (hmc : mc1 + mc' = mc) (hms : ms1 + ms' = ms) (hst : st = As.reverse ++ .ref b :: rest) (hd : decode mt.2.1 pc = .ok (.invokevirtual idx, 3))
    (kk : ∀ q, RR l G mt rm fx rv w mc1 ms1 (pc + 3) lv (.int q.1 :: rest) (W q.2) (k q)) : RR l G mt rm fx rv w mc ms pc lv st h (o'.bind k) := by
  obtain ⟨k1, k2, k3, k4, T, N, k5⟩ := hk
  exact rr_callV ht k1 k2 k3 k4 k5 hobj hn hrm hfx hlv hrs hcat hmc hms hst hd (fun q _ => kk q)
theorem rr_vs {b ci mc' ms' mc1 ms1 : Nat} {fx' : Nat → Bool} {W : rr_T → rr_H} {fs : List Value} {o' : Option rr_T} {k : rr_T → Option σ} (ht : TT l G mt' d' lo' fx' rvS W mc' ms' (.ref b :: As) h o') (hk : rr_vk mt.1.cls idx mt' ci n) (hobj : h[b]? = some (some (.inr (ci, fs)))) (hn : As.length = n) (hrm : d' + 1 ≤ rm.frames ∧ 8 + (mt'.2.2.1 + 11) + lo' ≤ rm.locals) (hfx : ∀ n, fx n = true → fx' n = true) (hlv : lv.all (fun q => rr_fx fx' q.2) = true) (hrs : rest.all (rr_fx fx') = true) (hcat : (rest.map fun v => v.category).sum ≤ 8) (hmc : mc1 + mc' = mc) (hms : ms1 + ms' = ms) (hst : st = As.reverse ++ .ref b :: rest) (hd : decode mt.2.1 pc = .ok (.invokevirtual idx, 3))
    (kk : ∀ S, RR l G mt rm fx rv w mc1 ms1 (pc + 3) lv rest (W S) (k S)) : RR l G mt rm fx rv w mc ms pc lv st h (o'.bind k) := by
  obtain ⟨k1, k2, k3, k4, T, N, k5⟩ := hk
  exact rr_callV ht k1 k2 k3 k4 k5 hobj hn hrm hfx hlv hrs hcat hmc hms hst hd (fun q _ => kk q)
end RCALL3
end
section
/-! ===== the reference's world: name 0 its object, names 1.. its rows; S.1 k its field k, S.2.1 n its row n ===== -/
def mF (S : rr_T) : List Value := [.int (S.1 0), .ref 1, .ref 2, .ref 3, .ref 4, .int (S.1 5), .ref 5, .int (S.1 7), .int (S.1 8), .ref 6, .ref 7, .ref 8, .ref 9, .int (S.1 13), .ref 10, .ref 11, .ref 12, .ref 13, .ref 14, .int (S.1 19), .ref 15, .int (S.1 21), .int (S.1 22), .ref 16, .ref 17, .int (S.1 25), .ref 18, .ref 19, .int (S.1 28), .ref 20, .ref 21, .ref 22, .ref 23, .int (S.1 33), .ref 24, .ref 25, .ref 26, .int (S.1 37), .ref 27, .ref 28, .ref 29, .int (S.1 41), .int (S.1 42), .ref 30, .ref 31, .ref 32, .ref 33, .ref 34, .ref 35, .int (S.1 49), .int (S.1 50), .ref 36, .int (S.1 52), .int (S.1 53)]
def mw (S : rr_T) : rr_H := some (.inr (11, mF S)) :: [some (.inl (0, 4, .inl (S.2.1 1))), some (.inl (0, 4, .inl (S.2.1 2))), some (.inl (0, 16, .inl (S.2.1 3))), some (.inl (0, 16, .inl (S.2.1 4))), some (.inl (0, 2, .inl (S.2.1 5))), some (.inl (0, 6, .inl (S.2.1 6))), some (.inl (0, 6, .inl (S.2.1 7))), some (.inl (0, 6, .inl (S.2.1 8))), some (.inl (0, 6, .inl (S.2.1 9))), some (.inl (0, 16, .inl (S.2.1 10))), some (.inl (0, 16, .inl (S.2.1 11))), some (.inl (0, 16, .inl (S.2.1 12))), some (.inl (0, 16, .inl (S.2.1 13))), some (.inl (0, 16, .inl (S.2.1 14))), some (.inl (0, 40, .inl (S.2.1 15))), some (.inl (2, 88000, .inl (S.2.1 16))), some (.inl (2, 4000, .inl (S.2.1 17))), some (.inl (0, 4000, .inl (S.2.1 18))), some (.inl (3, 4000, .inl (S.2.1 19))), some (.inl (2, 80000, .inl (S.2.1 20))), some (.inl (2, 4000, .inl (S.2.1 21))), some (.inl (2, 4000, .inl (S.2.1 22))), some (.inl (2, 4000, .inl (S.2.1 23))), some (.inl (0, 4000, .inl (S.2.1 24))), some (.inl (0, 4000, .inl (S.2.1 25))), some (.inl (0, 41, .inl (S.2.1 26))), some (.inl (0, 5, .inl (S.2.1 27))), some (.inl (0, 2, .inl (S.2.1 28))), some (.inl (0, 20, .inl (S.2.1 29))), some (.inl (3, 25, .inl (S.2.1 30))), some (.inl (0, 4, .inl (S.2.1 31))), some (.inl (3, 4, .inl (S.2.1 32))), some (.inl (3, 2, .inl (S.2.1 33))), some (.inl (3, 20, .inl (S.2.1 34))), some (.inl (0, 5, .inl (S.2.1 35))), some (.inl (0, 20, .inl (S.2.1 36)))]
theorem mp0 (S : rr_T) (v : Int32) : (mw S).set 0 (some (.inr (11, (mF S).set 0 (.int v)))) = mw (pI S 0 v) := rfl
theorem mp5 (S : rr_T) (v : Int32) : (mw S).set 0 (some (.inr (11, (mF S).set 5 (.int v)))) = mw (pI S 5 v) := rfl
theorem mp7 (S : rr_T) (v : Int32) : (mw S).set 0 (some (.inr (11, (mF S).set 7 (.int v)))) = mw (pI S 7 v) := rfl
theorem mp8 (S : rr_T) (v : Int32) : (mw S).set 0 (some (.inr (11, (mF S).set 8 (.int v)))) = mw (pI S 8 v) := rfl
theorem mp13 (S : rr_T) (v : Int32) : (mw S).set 0 (some (.inr (11, (mF S).set 13 (.int v)))) = mw (pI S 13 v) := rfl
theorem mp19 (S : rr_T) (v : Int32) : (mw S).set 0 (some (.inr (11, (mF S).set 19 (.int v)))) = mw (pI S 19 v) := rfl
theorem mp21 (S : rr_T) (v : Int32) : (mw S).set 0 (some (.inr (11, (mF S).set 21 (.int v)))) = mw (pI S 21 v) := rfl
theorem mp22 (S : rr_T) (v : Int32) : (mw S).set 0 (some (.inr (11, (mF S).set 22 (.int v)))) = mw (pI S 22 v) := rfl
theorem mp25 (S : rr_T) (v : Int32) : (mw S).set 0 (some (.inr (11, (mF S).set 25 (.int v)))) = mw (pI S 25 v) := rfl
theorem mp28 (S : rr_T) (v : Int32) : (mw S).set 0 (some (.inr (11, (mF S).set 28 (.int v)))) = mw (pI S 28 v) := rfl
theorem mp33 (S : rr_T) (v : Int32) : (mw S).set 0 (some (.inr (11, (mF S).set 33 (.int v)))) = mw (pI S 33 v) := rfl
theorem mp37 (S : rr_T) (v : Int32) : (mw S).set 0 (some (.inr (11, (mF S).set 37 (.int v)))) = mw (pI S 37 v) := rfl
theorem mp41 (S : rr_T) (v : Int32) : (mw S).set 0 (some (.inr (11, (mF S).set 41 (.int v)))) = mw (pI S 41 v) := rfl
theorem mp42 (S : rr_T) (v : Int32) : (mw S).set 0 (some (.inr (11, (mF S).set 42 (.int v)))) = mw (pI S 42 v) := rfl
theorem mp49 (S : rr_T) (v : Int32) : (mw S).set 0 (some (.inr (11, (mF S).set 49 (.int v)))) = mw (pI S 49 v) := rfl
theorem mp50 (S : rr_T) (v : Int32) : (mw S).set 0 (some (.inr (11, (mF S).set 50 (.int v)))) = mw (pI S 50 v) := rfl
theorem mp52 (S : rr_T) (v : Int32) : (mw S).set 0 (some (.inr (11, (mF S).set 52 (.int v)))) = mw (pI S 52 v) := rfl
theorem mp53 (S : rr_T) (v : Int32) : (mw S).set 0 (some (.inr (11, (mF S).set 53 (.int v)))) = mw (pI S 53 v) := rfl
theorem ma1 (S : rr_T) (i v : Int32) : (mw S).set 1 (some (.inl (0, 4, .inl (upd (S.2.1 1) i.toNatClampNeg v)))) = mw (pA S 1 i v) := rfl
theorem ma2 (S : rr_T) (i v : Int32) : (mw S).set 2 (some (.inl (0, 4, .inl (upd (S.2.1 2) i.toNatClampNeg v)))) = mw (pA S 2 i v) := rfl
theorem ma3 (S : rr_T) (i v : Int32) : (mw S).set 3 (some (.inl (0, 16, .inl (upd (S.2.1 3) i.toNatClampNeg v)))) = mw (pA S 3 i v) := rfl
theorem ma4 (S : rr_T) (i v : Int32) : (mw S).set 4 (some (.inl (0, 16, .inl (upd (S.2.1 4) i.toNatClampNeg v)))) = mw (pA S 4 i v) := rfl
theorem ma5 (S : rr_T) (i v : Int32) : (mw S).set 5 (some (.inl (0, 2, .inl (upd (S.2.1 5) i.toNatClampNeg v)))) = mw (pA S 5 i v) := rfl
theorem ma6 (S : rr_T) (i v : Int32) : (mw S).set 6 (some (.inl (0, 6, .inl (upd (S.2.1 6) i.toNatClampNeg v)))) = mw (pA S 6 i v) := rfl
theorem ma7 (S : rr_T) (i v : Int32) : (mw S).set 7 (some (.inl (0, 6, .inl (upd (S.2.1 7) i.toNatClampNeg v)))) = mw (pA S 7 i v) := rfl
theorem ma8 (S : rr_T) (i v : Int32) : (mw S).set 8 (some (.inl (0, 6, .inl (upd (S.2.1 8) i.toNatClampNeg v)))) = mw (pA S 8 i v) := rfl
theorem ma9 (S : rr_T) (i v : Int32) : (mw S).set 9 (some (.inl (0, 6, .inl (upd (S.2.1 9) i.toNatClampNeg v)))) = mw (pA S 9 i v) := rfl
theorem ma10 (S : rr_T) (i v : Int32) : (mw S).set 10 (some (.inl (0, 16, .inl (upd (S.2.1 10) i.toNatClampNeg v)))) = mw (pA S 10 i v) := rfl
theorem ma11 (S : rr_T) (i v : Int32) : (mw S).set 11 (some (.inl (0, 16, .inl (upd (S.2.1 11) i.toNatClampNeg v)))) = mw (pA S 11 i v) := rfl
theorem ma12 (S : rr_T) (i v : Int32) : (mw S).set 12 (some (.inl (0, 16, .inl (upd (S.2.1 12) i.toNatClampNeg v)))) = mw (pA S 12 i v) := rfl
theorem ma13 (S : rr_T) (i v : Int32) : (mw S).set 13 (some (.inl (0, 16, .inl (upd (S.2.1 13) i.toNatClampNeg v)))) = mw (pA S 13 i v) := rfl
theorem ma14 (S : rr_T) (i v : Int32) : (mw S).set 14 (some (.inl (0, 16, .inl (upd (S.2.1 14) i.toNatClampNeg v)))) = mw (pA S 14 i v) := rfl
theorem ma15 (S : rr_T) (i v : Int32) : (mw S).set 15 (some (.inl (0, 40, .inl (upd (S.2.1 15) i.toNatClampNeg v)))) = mw (pA S 15 i v) := rfl
theorem ma16 (S : rr_T) (i v : Int32) : (mw S).set 16 (some (.inl (2, 88000, .inl (upd (S.2.1 16) i.toNatClampNeg (vp_nar .byte v))))) = mw (pA S 16 i (vp_nar .byte v)) := rfl
theorem ma17 (S : rr_T) (i v : Int32) : (mw S).set 17 (some (.inl (2, 4000, .inl (upd (S.2.1 17) i.toNatClampNeg (vp_nar .byte v))))) = mw (pA S 17 i (vp_nar .byte v)) := rfl
theorem ma18 (S : rr_T) (i v : Int32) : (mw S).set 18 (some (.inl (0, 4000, .inl (upd (S.2.1 18) i.toNatClampNeg v)))) = mw (pA S 18 i v) := rfl
theorem ma19 (S : rr_T) (i v : Int32) : (mw S).set 19 (some (.inl (3, 4000, .inl (upd (S.2.1 19) i.toNatClampNeg (vp_nar .boolean v))))) = mw (pA S 19 i (vp_nar .boolean v)) := rfl
theorem ma20 (S : rr_T) (i v : Int32) : (mw S).set 20 (some (.inl (2, 80000, .inl (upd (S.2.1 20) i.toNatClampNeg (vp_nar .byte v))))) = mw (pA S 20 i (vp_nar .byte v)) := rfl
theorem ma21 (S : rr_T) (i v : Int32) : (mw S).set 21 (some (.inl (2, 4000, .inl (upd (S.2.1 21) i.toNatClampNeg (vp_nar .byte v))))) = mw (pA S 21 i (vp_nar .byte v)) := rfl
theorem ma22 (S : rr_T) (i v : Int32) : (mw S).set 22 (some (.inl (2, 4000, .inl (upd (S.2.1 22) i.toNatClampNeg (vp_nar .byte v))))) = mw (pA S 22 i (vp_nar .byte v)) := rfl
theorem ma23 (S : rr_T) (i v : Int32) : (mw S).set 23 (some (.inl (2, 4000, .inl (upd (S.2.1 23) i.toNatClampNeg (vp_nar .byte v))))) = mw (pA S 23 i (vp_nar .byte v)) := rfl
theorem ma24 (S : rr_T) (i v : Int32) : (mw S).set 24 (some (.inl (0, 4000, .inl (upd (S.2.1 24) i.toNatClampNeg v)))) = mw (pA S 24 i v) := rfl
theorem ma25 (S : rr_T) (i v : Int32) : (mw S).set 25 (some (.inl (0, 4000, .inl (upd (S.2.1 25) i.toNatClampNeg v)))) = mw (pA S 25 i v) := rfl
theorem ma26 (S : rr_T) (i v : Int32) : (mw S).set 26 (some (.inl (0, 41, .inl (upd (S.2.1 26) i.toNatClampNeg v)))) = mw (pA S 26 i v) := rfl
theorem ma27 (S : rr_T) (i v : Int32) : (mw S).set 27 (some (.inl (0, 5, .inl (upd (S.2.1 27) i.toNatClampNeg v)))) = mw (pA S 27 i v) := rfl
theorem ma28 (S : rr_T) (i v : Int32) : (mw S).set 28 (some (.inl (0, 2, .inl (upd (S.2.1 28) i.toNatClampNeg v)))) = mw (pA S 28 i v) := rfl
theorem ma29 (S : rr_T) (i v : Int32) : (mw S).set 29 (some (.inl (0, 20, .inl (upd (S.2.1 29) i.toNatClampNeg v)))) = mw (pA S 29 i v) := rfl
theorem ma30 (S : rr_T) (i v : Int32) : (mw S).set 30 (some (.inl (3, 25, .inl (upd (S.2.1 30) i.toNatClampNeg (vp_nar .boolean v))))) = mw (pA S 30 i (vp_nar .boolean v)) := rfl
theorem ma31 (S : rr_T) (i v : Int32) : (mw S).set 31 (some (.inl (0, 4, .inl (upd (S.2.1 31) i.toNatClampNeg v)))) = mw (pA S 31 i v) := rfl
theorem ma32 (S : rr_T) (i v : Int32) : (mw S).set 32 (some (.inl (3, 4, .inl (upd (S.2.1 32) i.toNatClampNeg (vp_nar .boolean v))))) = mw (pA S 32 i (vp_nar .boolean v)) := rfl
theorem ma33 (S : rr_T) (i v : Int32) : (mw S).set 33 (some (.inl (3, 2, .inl (upd (S.2.1 33) i.toNatClampNeg (vp_nar .boolean v))))) = mw (pA S 33 i (vp_nar .boolean v)) := rfl
theorem ma34 (S : rr_T) (i v : Int32) : (mw S).set 34 (some (.inl (3, 20, .inl (upd (S.2.1 34) i.toNatClampNeg (vp_nar .boolean v))))) = mw (pA S 34 i (vp_nar .boolean v)) := rfl
theorem ma35 (S : rr_T) (i v : Int32) : (mw S).set 35 (some (.inl (0, 5, .inl (upd (S.2.1 35) i.toNatClampNeg v)))) = mw (pA S 35 i v) := rfl
theorem ma36 (S : rr_T) (i v : Int32) : (mw S).set 36 (some (.inl (0, 20, .inl (upd (S.2.1 36) i.toNatClampNeg v)))) = mw (pA S 36 i v) := rfl
end
section
/-! ===== M: its words ===== -/
abbrev mX11_init : rr_M := (yX11_init, cX11_init, 1, none)
abbrev mX11_kind : rr_M := (yX11_kind, cX11_kind, 3, some .int)
abbrev mX11_in : rr_M := (yX11_in, cX11_in, 3, some .boolean)
abbrev mX11_changed : rr_M := (yX11_changed, cX11_changed, 1, none)
abbrev mX11_field : rr_M := (yX11_field, cX11_field, 5, some .int)
abbrev mX11_input : rr_M := (yX11_input, cX11_input, 2, some .int)
abbrev mX11_bound : rr_M := (yX11_bound, cX11_bound, 3, some .int)
abbrev mX11_rule : rr_M := (yX11_rule, cX11_rule, 7, some .int)
abbrev mX11_isField : rr_M := (yX11_isField, cX11_isField, 3, some .boolean)
abbrev mX11_isSort : rr_M := (yX11_isSort, cX11_isSort, 4, some .boolean)
abbrev mX11_clear : rr_M := (yX11_clear, cX11_clear, 2, some .int)
abbrev mX11_about : rr_M := (yX11_about, cX11_about, 2, some .int)
abbrev mX11_many : rr_M := (yX11_many, cX11_many, 1, some .int)
abbrev mX11_freshen : rr_M := (yX11_freshen, cX11_freshen, 4, some .boolean)
abbrev mX11_fill : rr_M := (yX11_fill, cX11_fill, 3, some .int)
abbrev mX11_goThrough : rr_M := (yX11_goThrough, cX11_goThrough, 6, none)
abbrev mX11_tellOf : rr_M := (yX11_tellOf, cX11_tellOf, 3, some .int)
abbrev mX11_nextChoice : rr_M := (yX11_nextChoice, cX11_nextChoice, 3, some .int)
abbrev mX11_canBe : rr_M := (yX11_canBe, cX11_canBe, 2, some .boolean)
abbrev mX11_isUnder : rr_M := (yX11_isUnder, cX11_isUnder, 4, some .boolean)
abbrev mX11_holds : rr_M := (yX11_holds, cX11_holds, 4, some .boolean)
abbrev mX11_holdsRing : rr_M := (yX11_holdsRing, cX11_holdsRing, 5, some .boolean)
abbrev mX11_isSuch : rr_M := (yX11_isSuch, cX11_isSuch, 3, some .boolean)
abbrev mX11_holdsApart : rr_M := (yX11_holdsApart, cX11_holdsApart, 6, some .boolean)
abbrev mX11_holdsAt : rr_M := (yX11_holdsAt, cX11_holdsAt, 4, some .boolean)
abbrev mX11_nextRow : rr_M := (yX11_nextRow, cX11_nextRow, 4, some .int)
abbrev mX11_kept : rr_M := (yX11_kept, cX11_kept, 1, some .int)
abbrev mX11_choice : rr_M := (yX11_choice, cX11_choice, 4, some .int)
abbrev mX11_object : rr_M := (yX11_object, cX11_object, 4, some .int)
abbrev mX11_load : rr_M := (yX11_load, cX11_load, 3, none)
abbrev mX11_put : rr_M := (yX11_put, cX11_put, 2, some .int)
abbrev mX11_empty : rr_M := (yX11_empty, cX11_empty, 2, some .int)
abbrev mX11_rank : rr_M := (yX11_rank, cX11_rank, 4, some .int)
abbrev mX11_step : rr_M := (yX11_step, cX11_step, 7, some .int)
abbrev mX11_erase : rr_M := (yX11_erase, cX11_erase, 2, some .int)
abbrev mX11_ends : rr_M := (yX11_ends, cX11_ends, 1, some .int)
abbrev mX11_playAll : rr_M := (yX11_playAll, cX11_playAll, 4, some .boolean)
abbrev mX11_playHeap : rr_M := (yX11_playHeap, cX11_playHeap, 3, some .int)
abbrev mX11_doStep : rr_M := (yX11_doStep, cX11_doStep, 6, some .int)
abbrev mX11_ask : rr_M := (yX11_ask, cX11_ask, 2, none)
abbrev mX11_lookRef : rr_M := (yX11_lookRef, cX11_lookRef, 3, none)
abbrev mX11_askField : rr_M := (yX11_askField, cX11_askField, 4, none)
abbrev mX11_placeOf : rr_M := (yX11_placeOf, cX11_placeOf, 6, some .int)
abbrev mX11_compareLooks : rr_M := (yX11_compareLooks, cX11_compareLooks, 6, some .int)
abbrev mX11_end : rr_M := (yX11_end, cX11_end, 7, some .int)
abbrev mX11_look : rr_M := (yX11_look, cX11_look, 3, some .int)
abbrev mX11_endOf : rr_M := (yX11_endOf, cX11_endOf, 2, some .int)
theorem cl11 : rr_cl 11 RX11 TX11 54 tyX11 := ⟨rfl, by decide +kernel, tyX11_ok, nmX11, by decide +kernel⟩
theorem cbX11_init : rr_cb mX11_init 0 := ⟨in_rr 57 (by decide +kernel) rfl, in_rr 839 (by decide +kernel) rfl, by decide +kernel⟩
theorem cbX11_kind : rr_cb mX11_kind 1 := ⟨in_rr 57 (by decide +kernel) rfl, in_rr 1011 (by decide +kernel) rfl, by decide +kernel⟩
theorem cbX11_in : rr_cb mX11_in 3 := ⟨in_rr 57 (by decide +kernel) rfl, in_rr 1014 (by decide +kernel) rfl, by decide +kernel⟩
theorem cbX11_changed : rr_cb mX11_changed 0 := ⟨in_rr 57 (by decide +kernel) rfl, in_rr 1018 (by decide +kernel) rfl, by decide +kernel⟩
theorem cbX11_field : rr_cb mX11_field 3 := ⟨in_rr 57 (by decide +kernel) rfl, in_rr 1022 (by decide +kernel) rfl, by decide +kernel⟩
theorem cbX11_input : rr_cb mX11_input 1 := ⟨in_rr 57 (by decide +kernel) rfl, in_rr 1026 (by decide +kernel) rfl, by decide +kernel⟩
theorem cbX11_bound : rr_cb mX11_bound 1 := ⟨in_rr 57 (by decide +kernel) rfl, in_rr 1030 (by decide +kernel) rfl, by decide +kernel⟩
theorem cbX11_rule : rr_cb mX11_rule 4 := ⟨in_rr 57 (by decide +kernel) rfl, in_rr 1034 (by decide +kernel) rfl, by decide +kernel⟩
theorem cbX11_isField : rr_cb mX11_isField 2 := ⟨in_rr 57 (by decide +kernel) rfl, in_rr 1038 (by decide +kernel) rfl, by decide +kernel⟩
theorem cbX11_isSort : rr_cb mX11_isSort 3 := ⟨in_rr 57 (by decide +kernel) rfl, in_rr 1042 (by decide +kernel) rfl, by decide +kernel⟩
theorem cbX11_clear : rr_cb mX11_clear 0 := ⟨in_rr 57 (by decide +kernel) rfl, in_rr 1046 (by decide +kernel) rfl, by decide +kernel⟩
theorem cbX11_about : rr_cb mX11_about 1 := ⟨in_rr 57 (by decide +kernel) rfl, in_rr 1050 (by decide +kernel) rfl, by decide +kernel⟩
theorem cbX11_many : rr_cb mX11_many 0 := ⟨in_rr 57 (by decide +kernel) rfl, in_rr 1054 (by decide +kernel) rfl, by decide +kernel⟩
theorem cbX11_freshen : rr_cb mX11_freshen 0 := ⟨in_rr 57 (by decide +kernel) rfl, in_rr 1058 (by decide +kernel) rfl, by decide +kernel⟩
theorem cbX11_fill : rr_cb mX11_fill 1 := ⟨in_rr 57 (by decide +kernel) rfl, in_rr 1062 (by decide +kernel) rfl, by decide +kernel⟩
theorem cbX11_goThrough : rr_cb mX11_goThrough 1 := ⟨in_rr 57 (by decide +kernel) rfl, in_rr 1066 (by decide +kernel) rfl, by decide +kernel⟩
theorem cbX11_tellOf : rr_cb mX11_tellOf 2 := ⟨in_rr 57 (by decide +kernel) rfl, in_rr 1070 (by decide +kernel) rfl, by decide +kernel⟩
theorem cbX11_nextChoice : rr_cb mX11_nextChoice 1 := ⟨in_rr 57 (by decide +kernel) rfl, in_rr 1074 (by decide +kernel) rfl, by decide +kernel⟩
theorem cbX11_canBe : rr_cb mX11_canBe 1 := ⟨in_rr 57 (by decide +kernel) rfl, in_rr 1078 (by decide +kernel) rfl, by decide +kernel⟩
theorem cbX11_isUnder : rr_cb mX11_isUnder 2 := ⟨in_rr 57 (by decide +kernel) rfl, in_rr 1082 (by decide +kernel) rfl, by decide +kernel⟩
theorem cbX11_holds : rr_cb mX11_holds 1 := ⟨in_rr 57 (by decide +kernel) rfl, in_rr 1086 (by decide +kernel) rfl, by decide +kernel⟩
theorem cbX11_holdsRing : rr_cb mX11_holdsRing 1 := ⟨in_rr 57 (by decide +kernel) rfl, in_rr 1090 (by decide +kernel) rfl, by decide +kernel⟩
theorem cbX11_isSuch : rr_cb mX11_isSuch 2 := ⟨in_rr 57 (by decide +kernel) rfl, in_rr 1094 (by decide +kernel) rfl, by decide +kernel⟩
theorem cbX11_holdsApart : rr_cb mX11_holdsApart 1 := ⟨in_rr 57 (by decide +kernel) rfl, in_rr 1098 (by decide +kernel) rfl, by decide +kernel⟩
theorem cbX11_holdsAt : rr_cb mX11_holdsAt 2 := ⟨in_rr 57 (by decide +kernel) rfl, in_rr 1102 (by decide +kernel) rfl, by decide +kernel⟩
theorem cbX11_nextRow : rr_cb mX11_nextRow 1 := ⟨in_rr 57 (by decide +kernel) rfl, in_rr 1106 (by decide +kernel) rfl, by decide +kernel⟩
theorem cbX11_kept : rr_cb mX11_kept 0 := ⟨in_rr 57 (by decide +kernel) rfl, in_rr 1110 (by decide +kernel) rfl, by decide +kernel⟩
theorem cbX11_choice : rr_cb mX11_choice 2 := ⟨in_rr 57 (by decide +kernel) rfl, in_rr 1114 (by decide +kernel) rfl, by decide +kernel⟩
theorem cbX11_object : rr_cb mX11_object 3 := ⟨in_rr 57 (by decide +kernel) rfl, in_rr 1118 (by decide +kernel) rfl, by decide +kernel⟩
theorem cbX11_load : rr_cb mX11_load 1 := ⟨in_rr 57 (by decide +kernel) rfl, in_rr 1122 (by decide +kernel) rfl, by decide +kernel⟩
theorem cbX11_put : rr_cb mX11_put 1 := ⟨in_rr 57 (by decide +kernel) rfl, in_rr 1126 (by decide +kernel) rfl, by decide +kernel⟩
theorem cbX11_empty : rr_cb mX11_empty 0 := ⟨in_rr 57 (by decide +kernel) rfl, in_rr 1130 (by decide +kernel) rfl, by decide +kernel⟩
theorem cbX11_rank : rr_cb mX11_rank 0 := ⟨in_rr 57 (by decide +kernel) rfl, in_rr 1134 (by decide +kernel) rfl, by decide +kernel⟩
theorem cbX11_step : rr_cb mX11_step 5 := ⟨in_rr 57 (by decide +kernel) rfl, in_rr 1138 (by decide +kernel) rfl, by decide +kernel⟩
theorem cbX11_erase : rr_cb mX11_erase 0 := ⟨in_rr 57 (by decide +kernel) rfl, in_rr 1142 (by decide +kernel) rfl, by decide +kernel⟩
theorem cbX11_ends : rr_cb mX11_ends 0 := ⟨in_rr 57 (by decide +kernel) rfl, in_rr 1146 (by decide +kernel) rfl, by decide +kernel⟩
theorem cbX11_playAll : rr_cb mX11_playAll 0 := ⟨in_rr 57 (by decide +kernel) rfl, in_rr 1150 (by decide +kernel) rfl, by decide +kernel⟩
theorem cbX11_playHeap : rr_cb mX11_playHeap 0 := ⟨in_rr 57 (by decide +kernel) rfl, in_rr 1154 (by decide +kernel) rfl, by decide +kernel⟩
theorem cbX11_doStep : rr_cb mX11_doStep 1 := ⟨in_rr 57 (by decide +kernel) rfl, in_rr 1158 (by decide +kernel) rfl, by decide +kernel⟩
theorem cbX11_ask : rr_cb mX11_ask 1 := ⟨in_rr 57 (by decide +kernel) rfl, in_rr 1162 (by decide +kernel) rfl, by decide +kernel⟩
theorem cbX11_lookRef : rr_cb mX11_lookRef 1 := ⟨in_rr 57 (by decide +kernel) rfl, in_rr 1166 (by decide +kernel) rfl, by decide +kernel⟩
theorem cbX11_askField : rr_cb mX11_askField 3 := ⟨in_rr 57 (by decide +kernel) rfl, in_rr 1170 (by decide +kernel) rfl, by decide +kernel⟩
theorem cbX11_placeOf : rr_cb mX11_placeOf 1 := ⟨in_rr 57 (by decide +kernel) rfl, in_rr 1174 (by decide +kernel) rfl, by decide +kernel⟩
theorem cbX11_compareLooks : rr_cb mX11_compareLooks 2 := ⟨in_rr 57 (by decide +kernel) rfl, in_rr 1178 (by decide +kernel) rfl, by decide +kernel⟩
theorem cbX11_end : rr_cb mX11_end 2 := ⟨in_rr 57 (by decide +kernel) rfl, in_rr 1182 (by decide +kernel) rfl, by decide +kernel⟩
theorem cbX11_look : rr_cb mX11_look 2 := ⟨in_rr 57 (by decide +kernel) rfl, in_rr 1186 (by decide +kernel) rfl, by decide +kernel⟩
theorem cbX11_endOf : rr_cb mX11_endOf 1 := ⟨in_rr 57 (by decide +kernel) rfl, in_rr 1190 (by decide +kernel) rfl, by decide +kernel⟩
theorem k11_133 : rr_lk RX11 133 RX11 TX11 0 := Or.inl (in_rr 843 (by decide +kernel) rfl)
theorem k11_7 : rr_lk RX11 7 RX11 TX11 1 := Or.inl (in_rr 844 (by decide +kernel) rfl)
theorem k11_13 : rr_lk RX11 13 RX11 TX11 2 := Or.inl (in_rr 845 (by decide +kernel) rfl)
theorem k11_16 : rr_lk RX11 16 RX11 TX11 3 := Or.inl (in_rr 846 (by decide +kernel) rfl)
theorem k11_19 : rr_lk RX11 19 RX11 TX11 4 := Or.inl (in_rr 847 (by decide +kernel) rfl)
theorem k11_143 : rr_lk RX11 143 RX11 TX11 5 := Or.inl (in_rr 848 (by decide +kernel) rfl)
theorem k11_22 : rr_lk RX11 22 RX11 TX11 6 := Or.inl (in_rr 849 (by decide +kernel) rfl)
theorem k11_25 : rr_lk RX11 25 RX11 TX11 7 := Or.inl (in_rr 850 (by decide +kernel) rfl)
theorem k11_153 : rr_lk RX11 153 RX11 TX11 8 := Or.inl (in_rr 851 (by decide +kernel) rfl)
theorem k11_29 : rr_lk RX11 29 RX11 TX11 9 := Or.inl (in_rr 852 (by decide +kernel) rfl)
theorem k11_32 : rr_lk RX11 32 RX11 TX11 10 := Or.inl (in_rr 853 (by decide +kernel) rfl)
theorem k11_35 : rr_lk RX11 35 RX11 TX11 11 := Or.inl (in_rr 854 (by decide +kernel) rfl)
theorem k11_38 : rr_lk RX11 38 RX11 TX11 12 := Or.inl (in_rr 855 (by decide +kernel) rfl)
theorem k11_156 : rr_lk RX11 156 RX11 TX11 13 := Or.inl (in_rr 856 (by decide +kernel) rfl)
theorem k11_41 : rr_lk RX11 41 RX11 TX11 14 := Or.inl (in_rr 857 (by decide +kernel) rfl)
theorem k11_44 : rr_lk RX11 44 RX11 TX11 15 := Or.inl (in_rr 858 (by decide +kernel) rfl)
theorem k11_47 : rr_lk RX11 47 RX11 TX11 16 := Or.inl (in_rr 859 (by decide +kernel) rfl)
theorem k11_50 : rr_lk RX11 50 RX11 TX11 17 := Or.inl (in_rr 860 (by decide +kernel) rfl)
theorem k11_53 : rr_lk RX11 53 RX11 TX11 18 := Or.inl (in_rr 861 (by decide +kernel) rfl)
theorem k11_159 : rr_lk RX11 159 RX11 TX11 19 := Or.inl (in_rr 862 (by decide +kernel) rfl)
theorem k11_56 : rr_lk RX11 56 RX11 TX11 20 := Or.inl (in_rr 863 (by decide +kernel) rfl)
theorem k11_126 : rr_lk RX11 126 RX11 TX11 21 := Or.inl (in_rr 864 (by decide +kernel) rfl)
theorem k11_205 : rr_lk RX11 205 RX11 TX11 22 := Or.inl (in_rr 865 (by decide +kernel) rfl)
theorem k11_60 : rr_lk RX11 60 RX11 TX11 23 := Or.inl (in_rr 866 (by decide +kernel) rfl)
theorem k11_64 : rr_lk RX11 64 RX11 TX11 24 := Or.inl (in_rr 867 (by decide +kernel) rfl)
theorem k11_208 : rr_lk RX11 208 RX11 TX11 25 := Or.inl (in_rr 868 (by decide +kernel) rfl)
theorem k11_67 : rr_lk RX11 67 RX11 TX11 26 := Or.inl (in_rr 869 (by decide +kernel) rfl)
theorem k11_70 : rr_lk RX11 70 RX11 TX11 27 := Or.inl (in_rr 870 (by decide +kernel) rfl)
theorem k11_130 : rr_lk RX11 130 RX11 TX11 28 := Or.inl (in_rr 871 (by decide +kernel) rfl)
theorem k11_75 : rr_lk RX11 75 RX11 TX11 29 := Or.inl (in_rr 872 (by decide +kernel) rfl)
theorem k11_78 : rr_lk RX11 78 RX11 TX11 30 := Or.inl (in_rr 873 (by decide +kernel) rfl)
theorem k11_81 : rr_lk RX11 81 RX11 TX11 31 := Or.inl (in_rr 874 (by decide +kernel) rfl)
theorem k11_84 : rr_lk RX11 84 RX11 TX11 32 := Or.inl (in_rr 875 (by decide +kernel) rfl)
theorem k11_249 : rr_lk RX11 249 RX11 TX11 33 := Or.inl (in_rr 876 (by decide +kernel) rfl)
theorem k11_87 : rr_lk RX11 87 RX11 TX11 34 := Or.inl (in_rr 877 (by decide +kernel) rfl)
theorem k11_90 : rr_lk RX11 90 RX11 TX11 35 := Or.inl (in_rr 878 (by decide +kernel) rfl)
theorem k11_93 : rr_lk RX11 93 RX11 TX11 36 := Or.inl (in_rr 879 (by decide +kernel) rfl)
theorem k11_162 : rr_lk RX11 162 RX11 TX11 37 := Or.inl (in_rr 880 (by decide +kernel) rfl)
theorem k11_96 : rr_lk RX11 96 RX11 TX11 38 := Or.inl (in_rr 881 (by decide +kernel) rfl)
theorem k11_99 : rr_lk RX11 99 RX11 TX11 39 := Or.inl (in_rr 882 (by decide +kernel) rfl)
theorem k11_102 : rr_lk RX11 102 RX11 TX11 40 := Or.inl (in_rr 883 (by decide +kernel) rfl)
theorem k11_165 : rr_lk RX11 165 RX11 TX11 41 := Or.inl (in_rr 884 (by decide +kernel) rfl)
theorem k11_168 : rr_lk RX11 168 RX11 TX11 42 := Or.inl (in_rr 885 (by decide +kernel) rfl)
theorem k11_105 : rr_lk RX11 105 RX11 TX11 43 := Or.inl (in_rr 886 (by decide +kernel) rfl)
theorem k11_108 : rr_lk RX11 108 RX11 TX11 44 := Or.inl (in_rr 887 (by decide +kernel) rfl)
theorem k11_111 : rr_lk RX11 111 RX11 TX11 45 := Or.inl (in_rr 888 (by decide +kernel) rfl)
theorem k11_114 : rr_lk RX11 114 RX11 TX11 46 := Or.inl (in_rr 889 (by decide +kernel) rfl)
theorem k11_117 : rr_lk RX11 117 RX11 TX11 47 := Or.inl (in_rr 890 (by decide +kernel) rfl)
theorem k11_120 : rr_lk RX11 120 RX11 TX11 48 := Or.inl (in_rr 891 (by decide +kernel) rfl)
theorem k11_224 : rr_lk RX11 224 RX11 TX11 49 := Or.inl (in_rr 892 (by decide +kernel) rfl)
theorem k11_227 : rr_lk RX11 227 RX11 TX11 50 := Or.inl (in_rr 893 (by decide +kernel) rfl)
theorem k11_123 : rr_lk RX11 123 RX11 TX11 51 := Or.inl (in_rr 894 (by decide +kernel) rfl)
theorem k11_243 : rr_lk RX11 243 RX11 TX11 52 := Or.inl (in_rr 895 (by decide +kernel) rfl)
theorem k11_236 : rr_lk RX11 236 RX11 TX11 53 := Or.inl (in_rr 896 (by decide +kernel) rfl)
theorem s11_136 : rr_sk RX11 136 mX11_in 3 := ⟨cbX11_in, Or.inl (in_rr 1012 (by decide +kernel) rfl), in_rr 1013 (by decide +kernel) rfl⟩
theorem v11_140 : rr_vk RX11 140 mX11_changed 11 0 := ⟨cbX11_changed, Or.inl (in_rr 1015 (by decide +kernel) rfl), in_rr 1017 (by decide +kernel) rfl, in_rr 22 (by decide +kernel) rfl, _, _, rfl⟩
theorem v11_146 : rr_vk RX11 146 mX11_isField 11 2 := ⟨cbX11_isField, Or.inl (in_rr 1035 (by decide +kernel) rfl), in_rr 1037 (by decide +kernel) rfl, in_rr 23 (by decide +kernel) rfl, _, _, rfl⟩
theorem v11_150 : rr_vk RX11 150 mX11_isSort 11 3 := ⟨cbX11_isSort, Or.inl (in_rr 1039 (by decide +kernel) rfl), in_rr 1041 (by decide +kernel) rfl, in_rr 24 (by decide +kernel) rfl, _, _, rfl⟩
theorem v11_217 : rr_vk RX11 217 mX11_freshen 11 0 := ⟨cbX11_freshen, Or.inl (in_rr 1055 (by decide +kernel) rfl), in_rr 1057 (by decide +kernel) rfl, in_rr 25 (by decide +kernel) rfl, _, _, rfl⟩
theorem v11_190 : rr_vk RX11 190 mX11_fill 11 1 := ⟨cbX11_fill, Or.inl (in_rr 1059 (by decide +kernel) rfl), in_rr 1061 (by decide +kernel) rfl, in_rr 26 (by decide +kernel) rfl, _, _, rfl⟩
theorem v11_182 : rr_vk RX11 182 mX11_goThrough 11 1 := ⟨cbX11_goThrough, Or.inl (in_rr 1063 (by decide +kernel) rfl), in_rr 1065 (by decide +kernel) rfl, in_rr 27 (by decide +kernel) rfl, _, _, rfl⟩
theorem v11_171 : rr_vk RX11 171 mX11_tellOf 11 2 := ⟨cbX11_tellOf, Or.inl (in_rr 1067 (by decide +kernel) rfl), in_rr 1069 (by decide +kernel) rfl, in_rr 28 (by decide +kernel) rfl, _, _, rfl⟩
theorem v11_186 : rr_vk RX11 186 mX11_nextChoice 11 1 := ⟨cbX11_nextChoice, Or.inl (in_rr 1071 (by decide +kernel) rfl), in_rr 1073 (by decide +kernel) rfl, in_rr 29 (by decide +kernel) rfl, _, _, rfl⟩
theorem v11_178 : rr_vk RX11 178 mX11_canBe 11 1 := ⟨cbX11_canBe, Or.inl (in_rr 1075 (by decide +kernel) rfl), in_rr 1077 (by decide +kernel) rfl, in_rr 30 (by decide +kernel) rfl, _, _, rfl⟩
theorem v11_175 : rr_vk RX11 175 mX11_isUnder 11 2 := ⟨cbX11_isUnder, Or.inl (in_rr 1079 (by decide +kernel) rfl), in_rr 1081 (by decide +kernel) rfl, in_rr 31 (by decide +kernel) rfl, _, _, rfl⟩
theorem v11_211 : rr_vk RX11 211 mX11_holds 11 1 := ⟨cbX11_holds, Or.inl (in_rr 1083 (by decide +kernel) rfl), in_rr 1085 (by decide +kernel) rfl, in_rr 32 (by decide +kernel) rfl, _, _, rfl⟩
theorem v11_196 : rr_vk RX11 196 mX11_holdsRing 11 1 := ⟨cbX11_holdsRing, Or.inl (in_rr 1087 (by decide +kernel) rfl), in_rr 1089 (by decide +kernel) rfl, in_rr 33 (by decide +kernel) rfl, _, _, rfl⟩
theorem v11_193 : rr_vk RX11 193 mX11_isSuch 11 2 := ⟨cbX11_isSuch, Or.inl (in_rr 1091 (by decide +kernel) rfl), in_rr 1093 (by decide +kernel) rfl, in_rr 34 (by decide +kernel) rfl, _, _, rfl⟩
theorem v11_199 : rr_vk RX11 199 mX11_holdsApart 11 1 := ⟨cbX11_holdsApart, Or.inl (in_rr 1095 (by decide +kernel) rfl), in_rr 1097 (by decide +kernel) rfl, in_rr 35 (by decide +kernel) rfl, _, _, rfl⟩
theorem v11_202 : rr_vk RX11 202 mX11_holdsAt 11 2 := ⟨cbX11_holdsAt, Or.inl (in_rr 1099 (by decide +kernel) rfl), in_rr 1101 (by decide +kernel) rfl, in_rr 36 (by decide +kernel) rfl, _, _, rfl⟩
theorem v11_214 : rr_vk RX11 214 mX11_nextRow 11 1 := ⟨cbX11_nextRow, Or.inl (in_rr 1103 (by decide +kernel) rfl), in_rr 1105 (by decide +kernel) rfl, in_rr 37 (by decide +kernel) rfl, _, _, rfl⟩
theorem v11_221 : rr_vk RX11 221 mX11_load 11 1 := ⟨cbX11_load, Or.inl (in_rr 1119 (by decide +kernel) rfl), in_rr 1121 (by decide +kernel) rfl, in_rr 38 (by decide +kernel) rfl, _, _, rfl⟩
theorem v11_262 : rr_vk RX11 262 mX11_playAll 11 0 := ⟨cbX11_playAll, Or.inl (in_rr 1147 (by decide +kernel) rfl), in_rr 1149 (by decide +kernel) rfl, in_rr 39 (by decide +kernel) rfl, _, _, rfl⟩
theorem v11_255 : rr_vk RX11 255 mX11_playHeap 11 0 := ⟨cbX11_playHeap, Or.inl (in_rr 1151 (by decide +kernel) rfl), in_rr 1153 (by decide +kernel) rfl, in_rr 40 (by decide +kernel) rfl, _, _, rfl⟩
theorem v11_246 : rr_vk RX11 246 mX11_doStep 11 1 := ⟨cbX11_doStep, Or.inl (in_rr 1155 (by decide +kernel) rfl), in_rr 1157 (by decide +kernel) rfl, in_rr 41 (by decide +kernel) rfl, _, _, rfl⟩
theorem v11_233 : rr_vk RX11 233 mX11_ask 11 1 := ⟨cbX11_ask, Or.inl (in_rr 1159 (by decide +kernel) rfl), in_rr 1161 (by decide +kernel) rfl, in_rr 42 (by decide +kernel) rfl, _, _, rfl⟩
theorem v11_230 : rr_vk RX11 230 mX11_lookRef 11 1 := ⟨cbX11_lookRef, Or.inl (in_rr 1163 (by decide +kernel) rfl), in_rr 1165 (by decide +kernel) rfl, in_rr 43 (by decide +kernel) rfl, _, _, rfl⟩
theorem v11_239 : rr_vk RX11 239 mX11_askField 11 3 := ⟨cbX11_askField, Or.inl (in_rr 1167 (by decide +kernel) rfl), in_rr 1169 (by decide +kernel) rfl, in_rr 44 (by decide +kernel) rfl, _, _, rfl⟩
theorem v11_259 : rr_vk RX11 259 mX11_placeOf 11 1 := ⟨cbX11_placeOf, Or.inl (in_rr 1171 (by decide +kernel) rfl), in_rr 1173 (by decide +kernel) rfl, in_rr 45 (by decide +kernel) rfl, _, _, rfl⟩
theorem v11_252 : rr_vk RX11 252 mX11_compareLooks 11 2 := ⟨cbX11_compareLooks, Or.inl (in_rr 1175 (by decide +kernel) rfl), in_rr 1177 (by decide +kernel) rfl, in_rr 46 (by decide +kernel) rfl, _, _, rfl⟩
end
