-- ===== PART A: goes FIRST, ahead of the names: the tables' words, and 'selects' of the private methods out of them =====
/-- a private method of a class that the tables say can be made, by its rows of tables_1 -/
def lw_okq (q : MethodName × Nat) : Prop := (q.1.cls ≠ "java/lang/invoke/MethodHandle" ∧ q.1.cls ≠ "java/lang/invoke/VarHandle") ∧ Cond.instantiable q.1.cls q.2 ∈ tables_1 ∧ Cond.privateMethod q.1 ∈ tables_1 ∧ Cond.instanceMethod q.1 ∈ tables_1
theorem lw_p0 : lw_okq (⟨"LeastFailing$Text", "advanceWord", "(Z)V"⟩, 8) := ⟨⟨by decide +kernel, by decide +kernel⟩, List.mem_of_getElem? (i := 26) (by decide +kernel), List.mem_of_getElem? (i := 484) (by decide +kernel), List.mem_of_getElem? (i := 485) (by decide +kernel)⟩
theorem lw_p1 : lw_okq (⟨"LeastFailing$Text", "advanceNumber", "(Z)V"⟩, 8) := ⟨⟨by decide +kernel, by decide +kernel⟩, List.mem_of_getElem? (i := 26) (by decide +kernel), List.mem_of_getElem? (i := 491) (by decide +kernel), List.mem_of_getElem? (i := 492) (by decide +kernel)⟩
theorem lw_p2 : lw_okq (⟨"LeastFailing$Grammar", "betterLeast", "(I)V"⟩, 11) := ⟨⟨by decide +kernel, by decide +kernel⟩, List.mem_of_getElem? (i := 64) (by decide +kernel), List.mem_of_getElem? (i := 559) (by decide +kernel), List.mem_of_getElem? (i := 560) (by decide +kernel)⟩
theorem lw_p3 : lw_okq (⟨"LeastFailing$InputReader", "readClosed", "()Z"⟩, 5) := ⟨⟨by decide +kernel, by decide +kernel⟩, List.mem_of_getElem? (i := 216) (by decide +kernel), List.mem_of_getElem? (i := 601) (by decide +kernel), List.mem_of_getElem? (i := 602) (by decide +kernel)⟩
theorem lw_p4 : lw_okq (⟨"LeastFailing$InputReader", "readNode", "()Z"⟩, 5) := ⟨⟨by decide +kernel, by decide +kernel⟩, List.mem_of_getElem? (i := 216) (by decide +kernel), List.mem_of_getElem? (i := 608) (by decide +kernel), List.mem_of_getElem? (i := 609) (by decide +kernel)⟩
theorem lw_p5 : lw_okq (⟨"LeastFailing$InputReader", "readName", "(Z)Z"⟩, 5) := ⟨⟨by decide +kernel, by decide +kernel⟩, List.mem_of_getElem? (i := 216) (by decide +kernel), List.mem_of_getElem? (i := 612) (by decide +kernel), List.mem_of_getElem? (i := 613) (by decide +kernel)⟩
theorem lw_p6 : lw_okq (⟨"LeastFailing", "remember", "()V"⟩, 15) := ⟨⟨by decide +kernel, by decide +kernel⟩, List.mem_of_getElem? (i := 18) (by decide +kernel), List.mem_of_getElem? (i := 627) (by decide +kernel), List.mem_of_getElem? (i := 628) (by decide +kernel)⟩
theorem lw_p7 : lw_okq (⟨"LeastFailing$Tree", "addAll", "(LLeastFailing$Tree;II)V"⟩, 10) := ⟨⟨by decide +kernel, by decide +kernel⟩, List.mem_of_getElem? (i := 158) (by decide +kernel), List.mem_of_getElem? (i := 636) (by decide +kernel), List.mem_of_getElem? (i := 637) (by decide +kernel)⟩
theorem lw_p8 : lw_okq (⟨"LeastFailing$BugsReader", "readHead", "()Z"⟩, 6) := ⟨⟨by decide +kernel, by decide +kernel⟩, List.mem_of_getElem? (i := 238) (by decide +kernel), List.mem_of_getElem? (i := 659) (by decide +kernel), List.mem_of_getElem? (i := 660) (by decide +kernel)⟩
theorem lw_p9 : lw_okq (⟨"LeastFailing$BugsReader", "readTest", "()Z"⟩, 6) := ⟨⟨by decide +kernel, by decide +kernel⟩, List.mem_of_getElem? (i := 238) (by decide +kernel), List.mem_of_getElem? (i := 687) (by decide +kernel), List.mem_of_getElem? (i := 688) (by decide +kernel)⟩
theorem lw_p10 : lw_okq (⟨"LeastFailing$BugsReader", "readAhead", "()Z"⟩, 6) := ⟨⟨by decide +kernel, by decide +kernel⟩, List.mem_of_getElem? (i := 238) (by decide +kernel), List.mem_of_getElem? (i := 691) (by decide +kernel), List.mem_of_getElem? (i := 692) (by decide +kernel)⟩
theorem lw_p11 : lw_okq (⟨"LeastFailing$BugsReader", "holdBack", "(I)V"⟩, 6) := ⟨⟨by decide +kernel, by decide +kernel⟩, List.mem_of_getElem? (i := 238) (by decide +kernel), List.mem_of_getElem? (i := 697) (by decide +kernel), List.mem_of_getElem? (i := 698) (by decide +kernel)⟩
theorem lw_p12 : lw_okq (⟨"LeastFailing$BugsReader", "readFact", "()Z"⟩, 6) := ⟨⟨by decide +kernel, by decide +kernel⟩, List.mem_of_getElem? (i := 238) (by decide +kernel), List.mem_of_getElem? (i := 701) (by decide +kernel), List.mem_of_getElem? (i := 702) (by decide +kernel)⟩
theorem lw_p13 : lw_okq (⟨"LeastFailing$BugsReader", "countTold", "()I"⟩, 6) := ⟨⟨by decide +kernel, by decide +kernel⟩, List.mem_of_getElem? (i := 238) (by decide +kernel), List.mem_of_getElem? (i := 705) (by decide +kernel), List.mem_of_getElem? (i := 706) (by decide +kernel)⟩
theorem lw_p14 : lw_okq (⟨"LeastFailing$BugsReader", "readName", "()I"⟩, 6) := ⟨⟨by decide +kernel, by decide +kernel⟩, List.mem_of_getElem? (i := 238) (by decide +kernel), List.mem_of_getElem? (i := 714) (by decide +kernel), List.mem_of_getElem? (i := 715) (by decide +kernel)⟩
theorem lw_p15 : lw_okq (⟨"LeastFailing$BugsReader", "signTold", "()I"⟩, 6) := ⟨⟨by decide +kernel, by decide +kernel⟩, List.mem_of_getElem? (i := 238) (by decide +kernel), List.mem_of_getElem? (i := 719) (by decide +kernel), List.mem_of_getElem? (i := 720) (by decide +kernel)⟩
def lw_privs_1 : List (MethodName × Nat) := [(⟨"LeastFailing$Text", "advanceWord", "(Z)V"⟩, 8), (⟨"LeastFailing$Text", "advanceNumber", "(Z)V"⟩, 8), (⟨"LeastFailing$Grammar", "betterLeast", "(I)V"⟩, 11), (⟨"LeastFailing$InputReader", "readClosed", "()Z"⟩, 5), (⟨"LeastFailing$InputReader", "readNode", "()Z"⟩, 5), (⟨"LeastFailing$InputReader", "readName", "(Z)Z"⟩, 5), (⟨"LeastFailing", "remember", "()V"⟩, 15), (⟨"LeastFailing$Tree", "addAll", "(LLeastFailing$Tree;II)V"⟩, 10), (⟨"LeastFailing$BugsReader", "readHead", "()Z"⟩, 6), (⟨"LeastFailing$BugsReader", "readTest", "()Z"⟩, 6), (⟨"LeastFailing$BugsReader", "readAhead", "()Z"⟩, 6), (⟨"LeastFailing$BugsReader", "holdBack", "(I)V"⟩, 6), (⟨"LeastFailing$BugsReader", "readFact", "()Z"⟩, 6), (⟨"LeastFailing$BugsReader", "countTold", "()I"⟩, 6), (⟨"LeastFailing$BugsReader", "readName", "()I"⟩, 6), (⟨"LeastFailing$BugsReader", "signTold", "()I"⟩, 6)]
theorem lw_r1 : ∀ q ∈ lw_privs_1, lw_okq q := List.forall_mem_cons.mpr ⟨lw_p0, List.forall_mem_cons.mpr ⟨lw_p1, List.forall_mem_cons.mpr ⟨lw_p2, List.forall_mem_cons.mpr ⟨lw_p3, List.forall_mem_cons.mpr ⟨lw_p4, List.forall_mem_cons.mpr ⟨lw_p5, List.forall_mem_cons.mpr ⟨lw_p6, List.forall_mem_cons.mpr ⟨lw_p7, List.forall_mem_cons.mpr ⟨lw_p8, List.forall_mem_cons.mpr ⟨lw_p9, List.forall_mem_cons.mpr ⟨lw_p10, List.forall_mem_cons.mpr ⟨lw_p11, List.forall_mem_cons.mpr ⟨lw_p12, List.forall_mem_cons.mpr ⟨lw_p13, List.forall_mem_cons.mpr ⟨lw_p14, List.forall_mem_cons.mpr ⟨lw_p15, fun _ h => absurd h List.not_mem_nil⟩⟩⟩⟩⟩⟩⟩⟩⟩⟩⟩⟩⟩⟩⟩⟩
theorem lw_p16 : lw_okq (⟨"LeastFailing$BugsReader", "writeNots", "()V"⟩, 6) := ⟨⟨by decide +kernel, by decide +kernel⟩, List.mem_of_getElem? (i := 238) (by decide +kernel), List.mem_of_getElem? (i := 727) (by decide +kernel), List.mem_of_getElem? (i := 728) (by decide +kernel)⟩
theorem lw_p17 : lw_okq (⟨"LeastFailing$BugsReader", "readClosed", "()Z"⟩, 6) := ⟨⟨by decide +kernel, by decide +kernel⟩, List.mem_of_getElem? (i := 238) (by decide +kernel), List.mem_of_getElem? (i := 736) (by decide +kernel), List.mem_of_getElem? (i := 737) (by decide +kernel)⟩
theorem lw_p18 : lw_okq (⟨"LeastFailing$BugsReader", "writeJoins", "(I)V"⟩, 6) := ⟨⟨by decide +kernel, by decide +kernel⟩, List.mem_of_getElem? (i := 238) (by decide +kernel), List.mem_of_getElem? (i := 740) (by decide +kernel), List.mem_of_getElem? (i := 741) (by decide +kernel)⟩
theorem lw_p19 : lw_okq (⟨"LeastFailing$BugsReader", "endTest", "()Z"⟩, 6) := ⟨⟨by decide +kernel, by decide +kernel⟩, List.mem_of_getElem? (i := 238) (by decide +kernel), List.mem_of_getElem? (i := 746) (by decide +kernel), List.mem_of_getElem? (i := 747) (by decide +kernel)⟩
theorem lw_p20 : lw_okq (⟨"LeastFailing$Tried", "makeKey", "(LLeastFailing$Tree;)V"⟩, 10) := ⟨⟨by decide +kernel, by decide +kernel⟩, List.mem_of_getElem? (i := 263) (by decide +kernel), List.mem_of_getElem? (i := 840) (by decide +kernel), List.mem_of_getElem? (i := 841) (by decide +kernel)⟩
theorem lw_p21 : lw_okq (⟨"LeastFailing$Tried", "hasKey", "(I)Z"⟩, 10) := ⟨⟨by decide +kernel, by decide +kernel⟩, List.mem_of_getElem? (i := 263) (by decide +kernel), List.mem_of_getElem? (i := 848) (by decide +kernel), List.mem_of_getElem? (i := 849) (by decide +kernel)⟩
theorem lw_p22 : lw_okq (⟨"LeastFailing$Judge", "vote", "(I)I"⟩, 8) := ⟨⟨by decide +kernel, by decide +kernel⟩, List.mem_of_getElem? (i := 311) (by decide +kernel), List.mem_of_getElem? (i := 853) (by decide +kernel), List.mem_of_getElem? (i := 854) (by decide +kernel)⟩
theorem lw_p23 : lw_okq (⟨"LeastFailing$Single", "atNode", "(I)V"⟩, 4) := ⟨⟨by decide +kernel, by decide +kernel⟩, List.mem_of_getElem? (i := 347) (by decide +kernel), List.mem_of_getElem? (i := 886) (by decide +kernel), List.mem_of_getElem? (i := 887) (by decide +kernel)⟩
theorem lw_p24 : lw_okq (⟨"LeastFailing", "makeSingle", "()V"⟩, 15) := ⟨⟨by decide +kernel, by decide +kernel⟩, List.mem_of_getElem? (i := 18) (by decide +kernel), List.mem_of_getElem? (i := 906) (by decide +kernel), List.mem_of_getElem? (i := 907) (by decide +kernel)⟩
theorem lw_p25 : lw_okq (⟨"LeastFailing$Tree", "addLeast", "(I)V"⟩, 10) := ⟨⟨by decide +kernel, by decide +kernel⟩, List.mem_of_getElem? (i := 158) (by decide +kernel), List.mem_of_getElem? (i := 914) (by decide +kernel), List.mem_of_getElem? (i := 915) (by decide +kernel)⟩
theorem lw_p26 : lw_okq (⟨"LeastFailing", "askSingle", "()I"⟩, 15) := ⟨⟨by decide +kernel, by decide +kernel⟩, List.mem_of_getElem? (i := 18) (by decide +kernel), List.mem_of_getElem? (i := 923) (by decide +kernel), List.mem_of_getElem? (i := 924) (by decide +kernel)⟩
theorem lw_p27 : lw_okq (⟨"LeastFailing", "isBug", "(I)Z"⟩, 15) := ⟨⟨by decide +kernel, by decide +kernel⟩, List.mem_of_getElem? (i := 18) (by decide +kernel), List.mem_of_getElem? (i := 942) (by decide +kernel), List.mem_of_getElem? (i := 943) (by decide +kernel)⟩
theorem lw_p28 : lw_okq (⟨"LeastFailing$Reducer", "gatherRow", "(I)V"⟩, 9) := ⟨⟨by decide +kernel, by decide +kernel⟩, List.mem_of_getElem? (i := 369) (by decide +kernel), List.mem_of_getElem? (i := 958) (by decide +kernel), List.mem_of_getElem? (i := 959) (by decide +kernel)⟩
theorem lw_p29 : lw_okq (⟨"LeastFailing$Reducer", "reduceRow", "(I)V"⟩, 9) := ⟨⟨by decide +kernel, by decide +kernel⟩, List.mem_of_getElem? (i := 369) (by decide +kernel), List.mem_of_getElem? (i := 968) (by decide +kernel), List.mem_of_getElem? (i := 969) (by decide +kernel)⟩
theorem lw_p30 : lw_okq (⟨"LeastFailing$Reducer", "isPartTaken", "(IZII)Z"⟩, 9) := ⟨⟨by decide +kernel, by decide +kernel⟩, List.mem_of_getElem? (i := 369) (by decide +kernel), List.mem_of_getElem? (i := 972) (by decide +kernel), List.mem_of_getElem? (i := 973) (by decide +kernel)⟩
theorem lw_p31 : lw_okq (⟨"LeastFailing$Reducer", "markRow", "(IIZ)V"⟩, 9) := ⟨⟨by decide +kernel, by decide +kernel⟩, List.mem_of_getElem? (i := 369) (by decide +kernel), List.mem_of_getElem? (i := 979) (by decide +kernel), List.mem_of_getElem? (i := 980) (by decide +kernel)⟩
def lw_privs_2 : List (MethodName × Nat) := [(⟨"LeastFailing$BugsReader", "writeNots", "()V"⟩, 6), (⟨"LeastFailing$BugsReader", "readClosed", "()Z"⟩, 6), (⟨"LeastFailing$BugsReader", "writeJoins", "(I)V"⟩, 6), (⟨"LeastFailing$BugsReader", "endTest", "()Z"⟩, 6), (⟨"LeastFailing$Tried", "makeKey", "(LLeastFailing$Tree;)V"⟩, 10), (⟨"LeastFailing$Tried", "hasKey", "(I)Z"⟩, 10), (⟨"LeastFailing$Judge", "vote", "(I)I"⟩, 8), (⟨"LeastFailing$Single", "atNode", "(I)V"⟩, 4), (⟨"LeastFailing", "makeSingle", "()V"⟩, 15), (⟨"LeastFailing$Tree", "addLeast", "(I)V"⟩, 10), (⟨"LeastFailing", "askSingle", "()I"⟩, 15), (⟨"LeastFailing", "isBug", "(I)Z"⟩, 15), (⟨"LeastFailing$Reducer", "gatherRow", "(I)V"⟩, 9), (⟨"LeastFailing$Reducer", "reduceRow", "(I)V"⟩, 9), (⟨"LeastFailing$Reducer", "isPartTaken", "(IZII)Z"⟩, 9), (⟨"LeastFailing$Reducer", "markRow", "(IIZ)V"⟩, 9)]
theorem lw_r2 : ∀ q ∈ lw_privs_2, lw_okq q := List.forall_mem_cons.mpr ⟨lw_p16, List.forall_mem_cons.mpr ⟨lw_p17, List.forall_mem_cons.mpr ⟨lw_p18, List.forall_mem_cons.mpr ⟨lw_p19, List.forall_mem_cons.mpr ⟨lw_p20, List.forall_mem_cons.mpr ⟨lw_p21, List.forall_mem_cons.mpr ⟨lw_p22, List.forall_mem_cons.mpr ⟨lw_p23, List.forall_mem_cons.mpr ⟨lw_p24, List.forall_mem_cons.mpr ⟨lw_p25, List.forall_mem_cons.mpr ⟨lw_p26, List.forall_mem_cons.mpr ⟨lw_p27, List.forall_mem_cons.mpr ⟨lw_p28, List.forall_mem_cons.mpr ⟨lw_p29, List.forall_mem_cons.mpr ⟨lw_p30, List.forall_mem_cons.mpr ⟨lw_p31, fun _ h => absurd h List.not_mem_nil⟩⟩⟩⟩⟩⟩⟩⟩⟩⟩⟩⟩⟩⟩⟩⟩
theorem lw_p32 : lw_okq (⟨"LeastFailing$Reducer", "isTaken", "(II)Z"⟩, 9) := ⟨⟨by decide +kernel, by decide +kernel⟩, List.mem_of_getElem? (i := 369) (by decide +kernel), List.mem_of_getElem? (i := 987) (by decide +kernel), List.mem_of_getElem? (i := 988) (by decide +kernel)⟩
theorem lw_p33 : lw_okq (⟨"LeastFailing$Reducer", "keepUnchanged", "()V"⟩, 9) := ⟨⟨by decide +kernel, by decide +kernel⟩, List.mem_of_getElem? (i := 369) (by decide +kernel), List.mem_of_getElem? (i := 993) (by decide +kernel), List.mem_of_getElem? (i := 994) (by decide +kernel)⟩
theorem lw_p34 : lw_okq (⟨"LeastFailing$Reducer", "isHoisted", "(I)Z"⟩, 9) := ⟨⟨by decide +kernel, by decide +kernel⟩, List.mem_of_getElem? (i := 369) (by decide +kernel), List.mem_of_getElem? (i := 1005) (by decide +kernel), List.mem_of_getElem? (i := 1006) (by decide +kernel)⟩
theorem lw_p35 : lw_okq (⟨"LeastFailing$Reducer", "isTakenSingle", "(IIII)Z"⟩, 9) := ⟨⟨by decide +kernel, by decide +kernel⟩, List.mem_of_getElem? (i := 369) (by decide +kernel), List.mem_of_getElem? (i := 1010) (by decide +kernel), List.mem_of_getElem? (i := 1011) (by decide +kernel)⟩
theorem lw_p36 : lw_okq (⟨"LeastFailingModel", "four", "(I)V"⟩, 71) := ⟨⟨by decide +kernel, by decide +kernel⟩, List.mem_of_getElem? (i := 1069) (by decide +kernel), List.mem_of_getElem? (i := 1294) (by decide +kernel), List.mem_of_getElem? (i := 1295) (by decide +kernel)⟩
theorem lw_p37 : lw_okq (⟨"LeastFailingModel", "begins", "()V"⟩, 71) := ⟨⟨by decide +kernel, by decide +kernel⟩, List.mem_of_getElem? (i := 1069) (by decide +kernel), List.mem_of_getElem? (i := 1309) (by decide +kernel), List.mem_of_getElem? (i := 1310) (by decide +kernel)⟩
theorem lw_p38 : lw_okq (⟨"LeastFailingModel", "isOver", "()Z"⟩, 71) := ⟨⟨by decide +kernel, by decide +kernel⟩, List.mem_of_getElem? (i := 1069) (by decide +kernel), List.mem_of_getElem? (i := 1313) (by decide +kernel), List.mem_of_getElem? (i := 1314) (by decide +kernel)⟩
theorem lw_p39 : lw_okq (⟨"LeastFailingModel", "next", "()I"⟩, 71) := ⟨⟨by decide +kernel, by decide +kernel⟩, List.mem_of_getElem? (i := 1069) (by decide +kernel), List.mem_of_getElem? (i := 1317) (by decide +kernel), List.mem_of_getElem? (i := 1318) (by decide +kernel)⟩
theorem lw_p40 : lw_okq (⟨"LeastFailingModel", "unlike", "()V"⟩, 71) := ⟨⟨by decide +kernel, by decide +kernel⟩, List.mem_of_getElem? (i := 1069) (by decide +kernel), List.mem_of_getElem? (i := 1321) (by decide +kernel), List.mem_of_getElem? (i := 1322) (by decide +kernel)⟩
theorem lw_p41 : lw_okq (⟨"LeastFailingModel", "fail", "(II)V"⟩, 71) := ⟨⟨by decide +kernel, by decide +kernel⟩, List.mem_of_getElem? (i := 1069) (by decide +kernel), List.mem_of_getElem? (i := 1325) (by decide +kernel), List.mem_of_getElem? (i := 1326) (by decide +kernel)⟩
theorem lw_p42 : lw_okq (⟨"LeastFailingModel", "isFine", "()Z"⟩, 71) := ⟨⟨by decide +kernel, by decide +kernel⟩, List.mem_of_getElem? (i := 1069) (by decide +kernel), List.mem_of_getElem? (i := 1329) (by decide +kernel), List.mem_of_getElem? (i := 1330) (by decide +kernel)⟩
theorem lw_p43 : lw_okq (⟨"LeastFailingModel", "lineRead", "()V"⟩, 71) := ⟨⟨by decide +kernel, by decide +kernel⟩, List.mem_of_getElem? (i := 1069) (by decide +kernel), List.mem_of_getElem? (i := 1333) (by decide +kernel), List.mem_of_getElem? (i := 1334) (by decide +kernel)⟩
theorem lw_p44 : lw_okq (⟨"LeastFailingModel", "isWord", "(J)Z"⟩, 71) := ⟨⟨by decide +kernel, by decide +kernel⟩, List.mem_of_getElem? (i := 1069) (by decide +kernel), List.mem_of_getElem? (i := 1342) (by decide +kernel), List.mem_of_getElem? (i := 1343) (by decide +kernel)⟩
theorem lw_p45 : lw_okq (⟨"LeastFailingModel", "seesWord", "()Z"⟩, 71) := ⟨⟨by decide +kernel, by decide +kernel⟩, List.mem_of_getElem? (i := 1069) (by decide +kernel), List.mem_of_getElem? (i := 1346) (by decide +kernel), List.mem_of_getElem? (i := 1347) (by decide +kernel)⟩
theorem lw_p46 : lw_okq (⟨"LeastFailingModel", "isLetter", "(I)Z"⟩, 71) := ⟨⟨by decide +kernel, by decide +kernel⟩, List.mem_of_getElem? (i := 1069) (by decide +kernel), List.mem_of_getElem? (i := 1350) (by decide +kernel), List.mem_of_getElem? (i := 1351) (by decide +kernel)⟩
theorem lw_p47 : lw_okq (⟨"LeastFailingModel", "here", "(I)I"⟩, 71) := ⟨⟨by decide +kernel, by decide +kernel⟩, List.mem_of_getElem? (i := 1069) (by decide +kernel), List.mem_of_getElem? (i := 1354) (by decide +kernel), List.mem_of_getElem? (i := 1355) (by decide +kernel)⟩
def lw_privs_3 : List (MethodName × Nat) := [(⟨"LeastFailing$Reducer", "isTaken", "(II)Z"⟩, 9), (⟨"LeastFailing$Reducer", "keepUnchanged", "()V"⟩, 9), (⟨"LeastFailing$Reducer", "isHoisted", "(I)Z"⟩, 9), (⟨"LeastFailing$Reducer", "isTakenSingle", "(IIII)Z"⟩, 9), (⟨"LeastFailingModel", "four", "(I)V"⟩, 71), (⟨"LeastFailingModel", "begins", "()V"⟩, 71), (⟨"LeastFailingModel", "isOver", "()Z"⟩, 71), (⟨"LeastFailingModel", "next", "()I"⟩, 71), (⟨"LeastFailingModel", "unlike", "()V"⟩, 71), (⟨"LeastFailingModel", "fail", "(II)V"⟩, 71), (⟨"LeastFailingModel", "isFine", "()Z"⟩, 71), (⟨"LeastFailingModel", "lineRead", "()V"⟩, 71), (⟨"LeastFailingModel", "isWord", "(J)Z"⟩, 71), (⟨"LeastFailingModel", "seesWord", "()Z"⟩, 71), (⟨"LeastFailingModel", "isLetter", "(I)Z"⟩, 71), (⟨"LeastFailingModel", "here", "(I)I"⟩, 71)]
theorem lw_r3 : ∀ q ∈ lw_privs_3, lw_okq q := List.forall_mem_cons.mpr ⟨lw_p32, List.forall_mem_cons.mpr ⟨lw_p33, List.forall_mem_cons.mpr ⟨lw_p34, List.forall_mem_cons.mpr ⟨lw_p35, List.forall_mem_cons.mpr ⟨lw_p36, List.forall_mem_cons.mpr ⟨lw_p37, List.forall_mem_cons.mpr ⟨lw_p38, List.forall_mem_cons.mpr ⟨lw_p39, List.forall_mem_cons.mpr ⟨lw_p40, List.forall_mem_cons.mpr ⟨lw_p41, List.forall_mem_cons.mpr ⟨lw_p42, List.forall_mem_cons.mpr ⟨lw_p43, List.forall_mem_cons.mpr ⟨lw_p44, List.forall_mem_cons.mpr ⟨lw_p45, List.forall_mem_cons.mpr ⟨lw_p46, List.forall_mem_cons.mpr ⟨lw_p47, fun _ h => absurd h List.not_mem_nil⟩⟩⟩⟩⟩⟩⟩⟩⟩⟩⟩⟩⟩⟩⟩⟩
theorem lw_p48 : lw_okq (⟨"LeastFailingModel", "pass", "()V"⟩, 71) := ⟨⟨by decide +kernel, by decide +kernel⟩, List.mem_of_getElem? (i := 1069) (by decide +kernel), List.mem_of_getElem? (i := 1361) (by decide +kernel), List.mem_of_getElem? (i := 1362) (by decide +kernel)⟩
theorem lw_p49 : lw_okq (⟨"LeastFailingModel", "name", "()J"⟩, 71) := ⟨⟨by decide +kernel, by decide +kernel⟩, List.mem_of_getElem? (i := 1069) (by decide +kernel), List.mem_of_getElem? (i := 1365) (by decide +kernel), List.mem_of_getElem? (i := 1366) (by decide +kernel)⟩
theorem lw_p50 : lw_okq (⟨"LeastFailingModel", "isName", "()Z"⟩, 71) := ⟨⟨by decide +kernel, by decide +kernel⟩, List.mem_of_getElem? (i := 1069) (by decide +kernel), List.mem_of_getElem? (i := 1369) (by decide +kernel), List.mem_of_getElem? (i := 1370) (by decide +kernel)⟩
theorem lw_p51 : lw_okq (⟨"LeastFailingModel", "isOwn", "()Z"⟩, 71) := ⟨⟨by decide +kernel, by decide +kernel⟩, List.mem_of_getElem? (i := 1069) (by decide +kernel), List.mem_of_getElem? (i := 1373) (by decide +kernel), List.mem_of_getElem? (i := 1374) (by decide +kernel)⟩
theorem lw_p52 : lw_okq (⟨"LeastFailingModel", "sortRead", "()I"⟩, 71) := ⟨⟨by decide +kernel, by decide +kernel⟩, List.mem_of_getElem? (i := 1069) (by decide +kernel), List.mem_of_getElem? (i := 1377) (by decide +kernel), List.mem_of_getElem? (i := 1378) (by decide +kernel)⟩
theorem lw_p53 : lw_okq (⟨"LeastFailingModel", "partsRead", "(I)V"⟩, 71) := ⟨⟨by decide +kernel, by decide +kernel⟩, List.mem_of_getElem? (i := 1069) (by decide +kernel), List.mem_of_getElem? (i := 1384) (by decide +kernel), List.mem_of_getElem? (i := 1385) (by decide +kernel)⟩
theorem lw_p54 : lw_okq (⟨"LeastFailingModel", "needsSign", "(I)V"⟩, 71) := ⟨⟨by decide +kernel, by decide +kernel⟩, List.mem_of_getElem? (i := 1069) (by decide +kernel), List.mem_of_getElem? (i := 1388) (by decide +kernel), List.mem_of_getElem? (i := 1389) (by decide +kernel)⟩
theorem lw_p55 : lw_okq (⟨"LeastFailingModel", "takesSign", "(I)Z"⟩, 71) := ⟨⟨by decide +kernel, by decide +kernel⟩, List.mem_of_getElem? (i := 1069) (by decide +kernel), List.mem_of_getElem? (i := 1392) (by decide +kernel), List.mem_of_getElem? (i := 1393) (by decide +kernel)⟩
theorem lw_p56 : lw_okq (⟨"LeastFailingModel", "isSign", "(I)Z"⟩, 71) := ⟨⟨by decide +kernel, by decide +kernel⟩, List.mem_of_getElem? (i := 1069) (by decide +kernel), List.mem_of_getElem? (i := 1396) (by decide +kernel), List.mem_of_getElem? (i := 1397) (by decide +kernel)⟩
theorem lw_p57 : lw_okq (⟨"LeastFailingModel", "laysLeast", "()V"⟩, 71) := ⟨⟨by decide +kernel, by decide +kernel⟩, List.mem_of_getElem? (i := 1069) (by decide +kernel), List.mem_of_getElem? (i := 1400) (by decide +kernel), List.mem_of_getElem? (i := 1401) (by decide +kernel)⟩
theorem lw_p58 : lw_okq (⟨"LeastFailingModel", "leastOf", "(I)I"⟩, 71) := ⟨⟨by decide +kernel, by decide +kernel⟩, List.mem_of_getElem? (i := 1069) (by decide +kernel), List.mem_of_getElem? (i := 1405) (by decide +kernel), List.mem_of_getElem? (i := 1406) (by decide +kernel)⟩
theorem lw_p59 : lw_okq (⟨"LeastFailingModel", "isRead", "()Z"⟩, 71) := ⟨⟨by decide +kernel, by decide +kernel⟩, List.mem_of_getElem? (i := 1069) (by decide +kernel), List.mem_of_getElem? (i := 1409) (by decide +kernel), List.mem_of_getElem? (i := 1410) (by decide +kernel)⟩
theorem lw_p60 : lw_okq (⟨"LeastFailingModel", "ofLine", "(II)I"⟩, 71) := ⟨⟨by decide +kernel, by decide +kernel⟩, List.mem_of_getElem? (i := 1069) (by decide +kernel), List.mem_of_getElem? (i := 1413) (by decide +kernel), List.mem_of_getElem? (i := 1414) (by decide +kernel)⟩
theorem lw_p61 : lw_okq (⟨"LeastFailingModel", "forgets", "()V"⟩, 71) := ⟨⟨by decide +kernel, by decide +kernel⟩, List.mem_of_getElem? (i := 1069) (by decide +kernel), List.mem_of_getElem? (i := 1417) (by decide +kernel), List.mem_of_getElem? (i := 1418) (by decide +kernel)⟩
theorem lw_p62 : lw_okq (⟨"LeastFailingModel", "treeCloses", "()V"⟩, 71) := ⟨⟨by decide +kernel, by decide +kernel⟩, List.mem_of_getElem? (i := 1069) (by decide +kernel), List.mem_of_getElem? (i := 1425) (by decide +kernel), List.mem_of_getElem? (i := 1426) (by decide +kernel)⟩
theorem lw_p63 : lw_okq (⟨"LeastFailingModel", "nameOf", "(II)I"⟩, 71) := ⟨⟨by decide +kernel, by decide +kernel⟩, List.mem_of_getElem? (i := 1069) (by decide +kernel), List.mem_of_getElem? (i := 1429) (by decide +kernel), List.mem_of_getElem? (i := 1430) (by decide +kernel)⟩
def lw_privs_4 : List (MethodName × Nat) := [(⟨"LeastFailingModel", "pass", "()V"⟩, 71), (⟨"LeastFailingModel", "name", "()J"⟩, 71), (⟨"LeastFailingModel", "isName", "()Z"⟩, 71), (⟨"LeastFailingModel", "isOwn", "()Z"⟩, 71), (⟨"LeastFailingModel", "sortRead", "()I"⟩, 71), (⟨"LeastFailingModel", "partsRead", "(I)V"⟩, 71), (⟨"LeastFailingModel", "needsSign", "(I)V"⟩, 71), (⟨"LeastFailingModel", "takesSign", "(I)Z"⟩, 71), (⟨"LeastFailingModel", "isSign", "(I)Z"⟩, 71), (⟨"LeastFailingModel", "laysLeast", "()V"⟩, 71), (⟨"LeastFailingModel", "leastOf", "(I)I"⟩, 71), (⟨"LeastFailingModel", "isRead", "()Z"⟩, 71), (⟨"LeastFailingModel", "ofLine", "(II)I"⟩, 71), (⟨"LeastFailingModel", "forgets", "()V"⟩, 71), (⟨"LeastFailingModel", "treeCloses", "()V"⟩, 71), (⟨"LeastFailingModel", "nameOf", "(II)I"⟩, 71)]
theorem lw_r4 : ∀ q ∈ lw_privs_4, lw_okq q := List.forall_mem_cons.mpr ⟨lw_p48, List.forall_mem_cons.mpr ⟨lw_p49, List.forall_mem_cons.mpr ⟨lw_p50, List.forall_mem_cons.mpr ⟨lw_p51, List.forall_mem_cons.mpr ⟨lw_p52, List.forall_mem_cons.mpr ⟨lw_p53, List.forall_mem_cons.mpr ⟨lw_p54, List.forall_mem_cons.mpr ⟨lw_p55, List.forall_mem_cons.mpr ⟨lw_p56, List.forall_mem_cons.mpr ⟨lw_p57, List.forall_mem_cons.mpr ⟨lw_p58, List.forall_mem_cons.mpr ⟨lw_p59, List.forall_mem_cons.mpr ⟨lw_p60, List.forall_mem_cons.mpr ⟨lw_p61, List.forall_mem_cons.mpr ⟨lw_p62, List.forall_mem_cons.mpr ⟨lw_p63, fun _ h => absurd h List.not_mem_nil⟩⟩⟩⟩⟩⟩⟩⟩⟩⟩⟩⟩⟩⟩⟩⟩
theorem lw_p64 : lw_okq (⟨"LeastFailingModel", "fixed", "(I)I"⟩, 71) := ⟨⟨by decide +kernel, by decide +kernel⟩, List.mem_of_getElem? (i := 1069) (by decide +kernel), List.mem_of_getElem? (i := 1433) (by decide +kernel), List.mem_of_getElem? (i := 1434) (by decide +kernel)⟩
theorem lw_p65 : lw_okq (⟨"LeastFailingModel", "many", "(I)I"⟩, 71) := ⟨⟨by decide +kernel, by decide +kernel⟩, List.mem_of_getElem? (i := 1069) (by decide +kernel), List.mem_of_getElem? (i := 1437) (by decide +kernel), List.mem_of_getElem? (i := 1438) (by decide +kernel)⟩
theorem lw_p66 : lw_okq (⟨"LeastFailingModel", "treeGoesOn", "()V"⟩, 71) := ⟨⟨by decide +kernel, by decide +kernel⟩, List.mem_of_getElem? (i := 1069) (by decide +kernel), List.mem_of_getElem? (i := 1441) (by decide +kernel), List.mem_of_getElem? (i := 1442) (by decide +kernel)⟩
theorem lw_p67 : lw_okq (⟨"LeastFailingModel", "lineOf", "(J)I"⟩, 71) := ⟨⟨by decide +kernel, by decide +kernel⟩, List.mem_of_getElem? (i := 1069) (by decide +kernel), List.mem_of_getElem? (i := 1445) (by decide +kernel), List.mem_of_getElem? (i := 1446) (by decide +kernel)⟩
theorem lw_p68 : lw_okq (⟨"LeastFailingModel", "stands", "(IZI)V"⟩, 71) := ⟨⟨by decide +kernel, by decide +kernel⟩, List.mem_of_getElem? (i := 1069) (by decide +kernel), List.mem_of_getElem? (i := 1449) (by decide +kernel), List.mem_of_getElem? (i := 1450) (by decide +kernel)⟩
theorem lw_p69 : lw_okq (⟨"LeastFailingModel", "sortOfPart", "(II)I"⟩, 71) := ⟨⟨by decide +kernel, by decide +kernel⟩, List.mem_of_getElem? (i := 1069) (by decide +kernel), List.mem_of_getElem? (i := 1453) (by decide +kernel), List.mem_of_getElem? (i := 1454) (by decide +kernel)⟩
theorem lw_p70 : lw_okq (⟨"LeastFailingModel", "adds", "(II)I"⟩, 71) := ⟨⟨by decide +kernel, by decide +kernel⟩, List.mem_of_getElem? (i := 1069) (by decide +kernel), List.mem_of_getElem? (i := 1457) (by decide +kernel), List.mem_of_getElem? (i := 1458) (by decide +kernel)⟩
theorem lw_p71 : lw_okq (⟨"LeastFailingModel", "keeps", "()V"⟩, 71) := ⟨⟨by decide +kernel, by decide +kernel⟩, List.mem_of_getElem? (i := 1069) (by decide +kernel), List.mem_of_getElem? (i := 1461) (by decide +kernel), List.mem_of_getElem? (i := 1462) (by decide +kernel)⟩
theorem lw_p72 : lw_okq (⟨"LeastFailingModel", "copies", "(II)V"⟩, 71) := ⟨⟨by decide +kernel, by decide +kernel⟩, List.mem_of_getElem? (i := 1069) (by decide +kernel), List.mem_of_getElem? (i := 1465) (by decide +kernel), List.mem_of_getElem? (i := 1466) (by decide +kernel)⟩
theorem lw_p73 : lw_okq (⟨"LeastFailingModel", "bugRead", "(I)V"⟩, 71) := ⟨⟨by decide +kernel, by decide +kernel⟩, List.mem_of_getElem? (i := 1069) (by decide +kernel), List.mem_of_getElem? (i := 1477) (by decide +kernel), List.mem_of_getElem? (i := 1478) (by decide +kernel)⟩
theorem lw_p74 : lw_okq (⟨"LeastFailingModel", "takes", "(J)Z"⟩, 71) := ⟨⟨by decide +kernel, by decide +kernel⟩, List.mem_of_getElem? (i := 1069) (by decide +kernel), List.mem_of_getElem? (i := 1481) (by decide +kernel), List.mem_of_getElem? (i := 1482) (by decide +kernel)⟩
theorem lw_p75 : lw_okq (⟨"LeastFailingModel", "number", "()I"⟩, 71) := ⟨⟨by decide +kernel, by decide +kernel⟩, List.mem_of_getElem? (i := 1069) (by decide +kernel), List.mem_of_getElem? (i := 1485) (by decide +kernel), List.mem_of_getElem? (i := 1486) (by decide +kernel)⟩
theorem lw_p76 : lw_okq (⟨"LeastFailingModel", "isDigit", "(I)Z"⟩, 71) := ⟨⟨by decide +kernel, by decide +kernel⟩, List.mem_of_getElem? (i := 1069) (by decide +kernel), List.mem_of_getElem? (i := 1489) (by decide +kernel), List.mem_of_getElem? (i := 1490) (by decide +kernel)⟩
theorem lw_p77 : lw_okq (⟨"LeastFailingModel", "testRead", "()V"⟩, 71) := ⟨⟨by decide +kernel, by decide +kernel⟩, List.mem_of_getElem? (i := 1069) (by decide +kernel), List.mem_of_getElem? (i := 1496) (by decide +kernel), List.mem_of_getElem? (i := 1497) (by decide +kernel)⟩
theorem lw_p78 : lw_okq (⟨"LeastFailingModel", "factBegins", "()Z"⟩, 71) := ⟨⟨by decide +kernel, by decide +kernel⟩, List.mem_of_getElem? (i := 1069) (by decide +kernel), List.mem_of_getElem? (i := 1500) (by decide +kernel), List.mem_of_getElem? (i := 1501) (by decide +kernel)⟩
theorem lw_p79 : lw_okq (⟨"LeastFailingModel", "countRead", "()V"⟩, 71) := ⟨⟨by decide +kernel, by decide +kernel⟩, List.mem_of_getElem? (i := 1069) (by decide +kernel), List.mem_of_getElem? (i := 1504) (by decide +kernel), List.mem_of_getElem? (i := 1505) (by decide +kernel)⟩
def lw_privs_5 : List (MethodName × Nat) := [(⟨"LeastFailingModel", "fixed", "(I)I"⟩, 71), (⟨"LeastFailingModel", "many", "(I)I"⟩, 71), (⟨"LeastFailingModel", "treeGoesOn", "()V"⟩, 71), (⟨"LeastFailingModel", "lineOf", "(J)I"⟩, 71), (⟨"LeastFailingModel", "stands", "(IZI)V"⟩, 71), (⟨"LeastFailingModel", "sortOfPart", "(II)I"⟩, 71), (⟨"LeastFailingModel", "adds", "(II)I"⟩, 71), (⟨"LeastFailingModel", "keeps", "()V"⟩, 71), (⟨"LeastFailingModel", "copies", "(II)V"⟩, 71), (⟨"LeastFailingModel", "bugRead", "(I)V"⟩, 71), (⟨"LeastFailingModel", "takes", "(J)Z"⟩, 71), (⟨"LeastFailingModel", "number", "()I"⟩, 71), (⟨"LeastFailingModel", "isDigit", "(I)Z"⟩, 71), (⟨"LeastFailingModel", "testRead", "()V"⟩, 71), (⟨"LeastFailingModel", "factBegins", "()Z"⟩, 71), (⟨"LeastFailingModel", "countRead", "()V"⟩, 71)]
theorem lw_r5 : ∀ q ∈ lw_privs_5, lw_okq q := List.forall_mem_cons.mpr ⟨lw_p64, List.forall_mem_cons.mpr ⟨lw_p65, List.forall_mem_cons.mpr ⟨lw_p66, List.forall_mem_cons.mpr ⟨lw_p67, List.forall_mem_cons.mpr ⟨lw_p68, List.forall_mem_cons.mpr ⟨lw_p69, List.forall_mem_cons.mpr ⟨lw_p70, List.forall_mem_cons.mpr ⟨lw_p71, List.forall_mem_cons.mpr ⟨lw_p72, List.forall_mem_cons.mpr ⟨lw_p73, List.forall_mem_cons.mpr ⟨lw_p74, List.forall_mem_cons.mpr ⟨lw_p75, List.forall_mem_cons.mpr ⟨lw_p76, List.forall_mem_cons.mpr ⟨lw_p77, List.forall_mem_cons.mpr ⟨lw_p78, List.forall_mem_cons.mpr ⟨lw_p79, fun _ h => absurd h List.not_mem_nil⟩⟩⟩⟩⟩⟩⟩⟩⟩⟩⟩⟩⟩⟩⟩⟩
theorem lw_p80 : lw_okq (⟨"LeastFailingModel", "nameInTest", "()I"⟩, 71) := ⟨⟨by decide +kernel, by decide +kernel⟩, List.mem_of_getElem? (i := 1069) (by decide +kernel), List.mem_of_getElem? (i := 1508) (by decide +kernel), List.mem_of_getElem? (i := 1509) (by decide +kernel)⟩
theorem lw_p81 : lw_okq (⟨"LeastFailingModel", "emits", "(IIIII)V"⟩, 71) := ⟨⟨by decide +kernel, by decide +kernel⟩, List.mem_of_getElem? (i := 1069) (by decide +kernel), List.mem_of_getElem? (i := 1512) (by decide +kernel), List.mem_of_getElem? (i := 1513) (by decide +kernel)⟩
theorem lw_p82 : lw_okq (⟨"LeastFailingModel", "piles", "(I)V"⟩, 71) := ⟨⟨by decide +kernel, by decide +kernel⟩, List.mem_of_getElem? (i := 1069) (by decide +kernel), List.mem_of_getElem? (i := 1516) (by decide +kernel), List.mem_of_getElem? (i := 1517) (by decide +kernel)⟩
theorem lw_p83 : lw_okq (⟨"LeastFailingModel", "factGoesOn", "()Z"⟩, 71) := ⟨⟨by decide +kernel, by decide +kernel⟩, List.mem_of_getElem? (i := 1069) (by decide +kernel), List.mem_of_getElem? (i := 1520) (by decide +kernel), List.mem_of_getElem? (i := 1521) (by decide +kernel)⟩
theorem lw_p84 : lw_okq (⟨"LeastFailingModel", "drops", "(II)V"⟩, 71) := ⟨⟨by decide +kernel, by decide +kernel⟩, List.mem_of_getElem? (i := 1069) (by decide +kernel), List.mem_of_getElem? (i := 1524) (by decide +kernel), List.mem_of_getElem? (i := 1525) (by decide +kernel)⟩
theorem lw_p85 : lw_okq (⟨"LeastFailingModel", "singles", "(I)I"⟩, 71) := ⟨⟨by decide +kernel, by decide +kernel⟩, List.mem_of_getElem? (i := 1069) (by decide +kernel), List.mem_of_getElem? (i := 1536) (by decide +kernel), List.mem_of_getElem? (i := 1537) (by decide +kernel)⟩
theorem lw_p86 : lw_okq (⟨"LeastFailingModel", "lays", "(I)V"⟩, 71) := ⟨⟨by decide +kernel, by decide +kernel⟩, List.mem_of_getElem? (i := 1069) (by decide +kernel), List.mem_of_getElem? (i := 1540) (by decide +kernel), List.mem_of_getElem? (i := 1541) (by decide +kernel)⟩
theorem lw_p87 : lw_okq (⟨"LeastFailingModel", "sizeOf", "(II)I"⟩, 71) := ⟨⟨by decide +kernel, by decide +kernel⟩, List.mem_of_getElem? (i := 1069) (by decide +kernel), List.mem_of_getElem? (i := 1544) (by decide +kernel), List.mem_of_getElem? (i := 1545) (by decide +kernel)⟩
theorem lw_p88 : lw_okq (⟨"LeastFailingModel", "isOne", "(III)V"⟩, 71) := ⟨⟨by decide +kernel, by decide +kernel⟩, List.mem_of_getElem? (i := 1069) (by decide +kernel), List.mem_of_getElem? (i := 1548) (by decide +kernel), List.mem_of_getElem? (i := 1549) (by decide +kernel)⟩
theorem lw_p89 : lw_okq (⟨"LeastFailingModel", "canBeLeast", "(I)Z"⟩, 71) := ⟨⟨by decide +kernel, by decide +kernel⟩, List.mem_of_getElem? (i := 1069) (by decide +kernel), List.mem_of_getElem? (i := 1552) (by decide +kernel), List.mem_of_getElem? (i := 1553) (by decide +kernel)⟩
theorem lw_p90 : lw_okq (⟨"LeastFailingModel", "sortAt", "(II)I"⟩, 71) := ⟨⟨by decide +kernel, by decide +kernel⟩, List.mem_of_getElem? (i := 1069) (by decide +kernel), List.mem_of_getElem? (i := 1556) (by decide +kernel), List.mem_of_getElem? (i := 1557) (by decide +kernel)⟩
theorem lw_p91 : lw_okq (⟨"LeastFailingModel", "isLaid", "(I)Z"⟩, 71) := ⟨⟨by decide +kernel, by decide +kernel⟩, List.mem_of_getElem? (i := 1069) (by decide +kernel), List.mem_of_getElem? (i := 1561) (by decide +kernel), List.mem_of_getElem? (i := 1562) (by decide +kernel)⟩
theorem lw_p92 : lw_okq (⟨"LeastFailingModel", "changes", "(III)V"⟩, 71) := ⟨⟨by decide +kernel, by decide +kernel⟩, List.mem_of_getElem? (i := 1069) (by decide +kernel), List.mem_of_getElem? (i := 1565) (by decide +kernel), List.mem_of_getElem? (i := 1566) (by decide +kernel)⟩
theorem lw_p93 : lw_okq (⟨"LeastFailingModel", "unmarks", "()V"⟩, 71) := ⟨⟨by decide +kernel, by decide +kernel⟩, List.mem_of_getElem? (i := 1069) (by decide +kernel), List.mem_of_getElem? (i := 1569) (by decide +kernel), List.mem_of_getElem? (i := 1570) (by decide +kernel)⟩
theorem lw_p94 : lw_okq (⟨"LeastFailingModel", "builds", "()V"⟩, 71) := ⟨⟨by decide +kernel, by decide +kernel⟩, List.mem_of_getElem? (i := 1069) (by decide +kernel), List.mem_of_getElem? (i := 1573) (by decide +kernel), List.mem_of_getElem? (i := 1574) (by decide +kernel)⟩
theorem lw_p95 : lw_okq (⟨"LeastFailingModel", "addsLeast", "(I)V"⟩, 71) := ⟨⟨by decide +kernel, by decide +kernel⟩, List.mem_of_getElem? (i := 1069) (by decide +kernel), List.mem_of_getElem? (i := 1577) (by decide +kernel), List.mem_of_getElem? (i := 1578) (by decide +kernel)⟩
def lw_privs_6 : List (MethodName × Nat) := [(⟨"LeastFailingModel", "nameInTest", "()I"⟩, 71), (⟨"LeastFailingModel", "emits", "(IIIII)V"⟩, 71), (⟨"LeastFailingModel", "piles", "(I)V"⟩, 71), (⟨"LeastFailingModel", "factGoesOn", "()Z"⟩, 71), (⟨"LeastFailingModel", "drops", "(II)V"⟩, 71), (⟨"LeastFailingModel", "singles", "(I)I"⟩, 71), (⟨"LeastFailingModel", "lays", "(I)V"⟩, 71), (⟨"LeastFailingModel", "sizeOf", "(II)I"⟩, 71), (⟨"LeastFailingModel", "isOne", "(III)V"⟩, 71), (⟨"LeastFailingModel", "canBeLeast", "(I)Z"⟩, 71), (⟨"LeastFailingModel", "sortAt", "(II)I"⟩, 71), (⟨"LeastFailingModel", "isLaid", "(I)Z"⟩, 71), (⟨"LeastFailingModel", "changes", "(III)V"⟩, 71), (⟨"LeastFailingModel", "unmarks", "()V"⟩, 71), (⟨"LeastFailingModel", "builds", "()V"⟩, 71), (⟨"LeastFailingModel", "addsLeast", "(I)V"⟩, 71)]
theorem lw_r6 : ∀ q ∈ lw_privs_6, lw_okq q := List.forall_mem_cons.mpr ⟨lw_p80, List.forall_mem_cons.mpr ⟨lw_p81, List.forall_mem_cons.mpr ⟨lw_p82, List.forall_mem_cons.mpr ⟨lw_p83, List.forall_mem_cons.mpr ⟨lw_p84, List.forall_mem_cons.mpr ⟨lw_p85, List.forall_mem_cons.mpr ⟨lw_p86, List.forall_mem_cons.mpr ⟨lw_p87, List.forall_mem_cons.mpr ⟨lw_p88, List.forall_mem_cons.mpr ⟨lw_p89, List.forall_mem_cons.mpr ⟨lw_p90, List.forall_mem_cons.mpr ⟨lw_p91, List.forall_mem_cons.mpr ⟨lw_p92, List.forall_mem_cons.mpr ⟨lw_p93, List.forall_mem_cons.mpr ⟨lw_p94, List.forall_mem_cons.mpr ⟨lw_p95, fun _ h => absurd h List.not_mem_nil⟩⟩⟩⟩⟩⟩⟩⟩⟩⟩⟩⟩⟩⟩⟩⟩
theorem lw_p96 : lw_okq (⟨"LeastFailingModel", "leastAt", "(II)I"⟩, 71) := ⟨⟨by decide +kernel, by decide +kernel⟩, List.mem_of_getElem? (i := 1069) (by decide +kernel), List.mem_of_getElem? (i := 1581) (by decide +kernel), List.mem_of_getElem? (i := 1582) (by decide +kernel)⟩
theorem lw_p97 : lw_okq (⟨"LeastFailingModel", "addsPart", "(I)V"⟩, 71) := ⟨⟨by decide +kernel, by decide +kernel⟩, List.mem_of_getElem? (i := 1069) (by decide +kernel), List.mem_of_getElem? (i := 1585) (by decide +kernel), List.mem_of_getElem? (i := 1586) (by decide +kernel)⟩
theorem lw_p98 : lw_okq (⟨"LeastFailingModel", "holdingOf", "(I)I"⟩, 71) := ⟨⟨by decide +kernel, by decide +kernel⟩, List.mem_of_getElem? (i := 1069) (by decide +kernel), List.mem_of_getElem? (i := 1589) (by decide +kernel), List.mem_of_getElem? (i := 1590) (by decide +kernel)⟩
theorem lw_p99 : lw_okq (⟨"LeastFailingModel", "holds", "(II)Z"⟩, 71) := ⟨⟨by decide +kernel, by decide +kernel⟩, List.mem_of_getElem? (i := 1069) (by decide +kernel), List.mem_of_getElem? (i := 1593) (by decide +kernel), List.mem_of_getElem? (i := 1594) (by decide +kernel)⟩
theorem lw_p100 : lw_okq (⟨"LeastFailingModel", "isSo", "(II)Z"⟩, 71) := ⟨⟨by decide +kernel, by decide +kernel⟩, List.mem_of_getElem? (i := 1069) (by decide +kernel), List.mem_of_getElem? (i := 1597) (by decide +kernel), List.mem_of_getElem? (i := 1598) (by decide +kernel)⟩
theorem lw_p101 : lw_okq (⟨"LeastFailingModel", "countOf", "(IIII)I"⟩, 71) := ⟨⟨by decide +kernel, by decide +kernel⟩, List.mem_of_getElem? (i := 1069) (by decide +kernel), List.mem_of_getElem? (i := 1601) (by decide +kernel), List.mem_of_getElem? (i := 1602) (by decide +kernel)⟩
theorem lw_p102 : lw_okq (⟨"LeastFailingModel", "deepOf", "(I)I"⟩, 71) := ⟨⟨by decide +kernel, by decide +kernel⟩, List.mem_of_getElem? (i := 1069) (by decide +kernel), List.mem_of_getElem? (i := 1605) (by decide +kernel), List.mem_of_getElem? (i := 1606) (by decide +kernel)⟩
theorem lw_p103 : lw_okq (⟨"LeastFailingModel", "hasOf", "(II)I"⟩, 71) := ⟨⟨by decide +kernel, by decide +kernel⟩, List.mem_of_getElem? (i := 1069) (by decide +kernel), List.mem_of_getElem? (i := 1609) (by decide +kernel), List.mem_of_getElem? (i := 1610) (by decide +kernel)⟩
theorem lw_p104 : lw_okq (⟨"LeastFailingModel", "underOf", "(III)I"⟩, 71) := ⟨⟨by decide +kernel, by decide +kernel⟩, List.mem_of_getElem? (i := 1069) (by decide +kernel), List.mem_of_getElem? (i := 1613) (by decide +kernel), List.mem_of_getElem? (i := 1614) (by decide +kernel)⟩
theorem lw_p105 : lw_okq (⟨"LeastFailingModel", "nextOf", "(III)I"⟩, 71) := ⟨⟨by decide +kernel, by decide +kernel⟩, List.mem_of_getElem? (i := 1069) (by decide +kernel), List.mem_of_getElem? (i := 1617) (by decide +kernel), List.mem_of_getElem? (i := 1618) (by decide +kernel)⟩
theorem lw_p106 : lw_okq (⟨"LeastFailingModel", "verdictOf", "(III)I"⟩, 71) := ⟨⟨by decide +kernel, by decide +kernel⟩, List.mem_of_getElem? (i := 1069) (by decide +kernel), List.mem_of_getElem? (i := 1625) (by decide +kernel), List.mem_of_getElem? (i := 1626) (by decide +kernel)⟩
theorem lw_p107 : lw_okq (⟨"LeastFailingModel", "isTried", "(II)Z"⟩, 71) := ⟨⟨by decide +kernel, by decide +kernel⟩, List.mem_of_getElem? (i := 1069) (by decide +kernel), List.mem_of_getElem? (i := 1629) (by decide +kernel), List.mem_of_getElem? (i := 1630) (by decide +kernel)⟩
theorem lw_p108 : lw_okq (⟨"LeastFailingModel", "cell", "(II)I"⟩, 71) := ⟨⟨by decide +kernel, by decide +kernel⟩, List.mem_of_getElem? (i := 1069) (by decide +kernel), List.mem_of_getElem? (i := 1633) (by decide +kernel), List.mem_of_getElem? (i := 1634) (by decide +kernel)⟩
theorem lw_p109 : lw_okq (⟨"LeastFailingModel", "voted", "(I)I"⟩, 71) := ⟨⟨by decide +kernel, by decide +kernel⟩, List.mem_of_getElem? (i := 1069) (by decide +kernel), List.mem_of_getElem? (i := 1637) (by decide +kernel), List.mem_of_getElem? (i := 1638) (by decide +kernel)⟩
theorem lw_p110 : lw_okq (⟨"LeastFailingModel", "runOf", "(I)I"⟩, 71) := ⟨⟨by decide +kernel, by decide +kernel⟩, List.mem_of_getElem? (i := 1069) (by decide +kernel), List.mem_of_getElem? (i := 1641) (by decide +kernel), List.mem_of_getElem? (i := 1642) (by decide +kernel)⟩
theorem lw_p111 : lw_okq (⟨"LeastFailingModel", "draw", "()I"⟩, 71) := ⟨⟨by decide +kernel, by decide +kernel⟩, List.mem_of_getElem? (i := 1069) (by decide +kernel), List.mem_of_getElem? (i := 1645) (by decide +kernel), List.mem_of_getElem? (i := 1646) (by decide +kernel)⟩
def lw_privs_7 : List (MethodName × Nat) := [(⟨"LeastFailingModel", "leastAt", "(II)I"⟩, 71), (⟨"LeastFailingModel", "addsPart", "(I)V"⟩, 71), (⟨"LeastFailingModel", "holdingOf", "(I)I"⟩, 71), (⟨"LeastFailingModel", "holds", "(II)Z"⟩, 71), (⟨"LeastFailingModel", "isSo", "(II)Z"⟩, 71), (⟨"LeastFailingModel", "countOf", "(IIII)I"⟩, 71), (⟨"LeastFailingModel", "deepOf", "(I)I"⟩, 71), (⟨"LeastFailingModel", "hasOf", "(II)I"⟩, 71), (⟨"LeastFailingModel", "underOf", "(III)I"⟩, 71), (⟨"LeastFailingModel", "nextOf", "(III)I"⟩, 71), (⟨"LeastFailingModel", "verdictOf", "(III)I"⟩, 71), (⟨"LeastFailingModel", "isTried", "(II)Z"⟩, 71), (⟨"LeastFailingModel", "cell", "(II)I"⟩, 71), (⟨"LeastFailingModel", "voted", "(I)I"⟩, 71), (⟨"LeastFailingModel", "runOf", "(I)I"⟩, 71), (⟨"LeastFailingModel", "draw", "()I"⟩, 71)]
theorem lw_r7 : ∀ q ∈ lw_privs_7, lw_okq q := List.forall_mem_cons.mpr ⟨lw_p96, List.forall_mem_cons.mpr ⟨lw_p97, List.forall_mem_cons.mpr ⟨lw_p98, List.forall_mem_cons.mpr ⟨lw_p99, List.forall_mem_cons.mpr ⟨lw_p100, List.forall_mem_cons.mpr ⟨lw_p101, List.forall_mem_cons.mpr ⟨lw_p102, List.forall_mem_cons.mpr ⟨lw_p103, List.forall_mem_cons.mpr ⟨lw_p104, List.forall_mem_cons.mpr ⟨lw_p105, List.forall_mem_cons.mpr ⟨lw_p106, List.forall_mem_cons.mpr ⟨lw_p107, List.forall_mem_cons.mpr ⟨lw_p108, List.forall_mem_cons.mpr ⟨lw_p109, List.forall_mem_cons.mpr ⟨lw_p110, List.forall_mem_cons.mpr ⟨lw_p111, fun _ h => absurd h List.not_mem_nil⟩⟩⟩⟩⟩⟩⟩⟩⟩⟩⟩⟩⟩⟩⟩⟩
theorem lw_p112 : lw_okq (⟨"LeastFailingModel", "isBug", "(I)Z"⟩, 71) := ⟨⟨by decide +kernel, by decide +kernel⟩, List.mem_of_getElem? (i := 1069) (by decide +kernel), List.mem_of_getElem? (i := 1665) (by decide +kernel), List.mem_of_getElem? (i := 1666) (by decide +kernel)⟩
theorem lw_p113 : lw_okq (⟨"LeastFailingModel", "reduces", "(I)V"⟩, 71) := ⟨⟨by decide +kernel, by decide +kernel⟩, List.mem_of_getElem? (i := 1069) (by decide +kernel), List.mem_of_getElem? (i := 1674) (by decide +kernel), List.mem_of_getElem? (i := 1675) (by decide +kernel)⟩
theorem lw_p114 : lw_okq (⟨"LeastFailingModel", "byLevels", "()V"⟩, 71) := ⟨⟨by decide +kernel, by decide +kernel⟩, List.mem_of_getElem? (i := 1069) (by decide +kernel), List.mem_of_getElem? (i := 1678) (by decide +kernel), List.mem_of_getElem? (i := 1679) (by decide +kernel)⟩
theorem lw_p115 : lw_okq (⟨"LeastFailingModel", "laysRow", "(I)V"⟩, 71) := ⟨⟨by decide +kernel, by decide +kernel⟩, List.mem_of_getElem? (i := 1069) (by decide +kernel), List.mem_of_getElem? (i := 1682) (by decide +kernel), List.mem_of_getElem? (i := 1683) (by decide +kernel)⟩
theorem lw_p116 : lw_okq (⟨"LeastFailingModel", "takesRow", "(IIZII)Z"⟩, 71) := ⟨⟨by decide +kernel, by decide +kernel⟩, List.mem_of_getElem? (i := 1069) (by decide +kernel), List.mem_of_getElem? (i := 1686) (by decide +kernel), List.mem_of_getElem? (i := 1687) (by decide +kernel)⟩
theorem lw_p117 : lw_okq (⟨"LeastFailingModel", "isTaken", "(II)Z"⟩, 71) := ⟨⟨by decide +kernel, by decide +kernel⟩, List.mem_of_getElem? (i := 1069) (by decide +kernel), List.mem_of_getElem? (i := 1690) (by decide +kernel), List.mem_of_getElem? (i := 1691) (by decide +kernel)⟩
theorem lw_p118 : lw_okq (⟨"LeastFailingModel", "byHalves", "(I)V"⟩, 71) := ⟨⟨by decide +kernel, by decide +kernel⟩, List.mem_of_getElem? (i := 1069) (by decide +kernel), List.mem_of_getElem? (i := 1694) (by decide +kernel), List.mem_of_getElem? (i := 1695) (by decide +kernel)⟩
theorem lw_p119 : lw_okq (⟨"LeastFailingModel", "takesAPart", "(IZII)Z"⟩, 71) := ⟨⟨by decide +kernel, by decide +kernel⟩, List.mem_of_getElem? (i := 1069) (by decide +kernel), List.mem_of_getElem? (i := 1698) (by decide +kernel), List.mem_of_getElem? (i := 1699) (by decide +kernel)⟩
theorem lw_p120 : lw_okq (⟨"LeastFailingModel", "partFrom", "(II)I"⟩, 71) := ⟨⟨by decide +kernel, by decide +kernel⟩, List.mem_of_getElem? (i := 1069) (by decide +kernel), List.mem_of_getElem? (i := 1702) (by decide +kernel), List.mem_of_getElem? (i := 1703) (by decide +kernel)⟩
theorem lw_p121 : lw_okq (⟨"LeastFailingModel", "byNodes", "(Z)V"⟩, 71) := ⟨⟨by decide +kernel, by decide +kernel⟩, List.mem_of_getElem? (i := 1069) (by decide +kernel), List.mem_of_getElem? (i := 1706) (by decide +kernel), List.mem_of_getElem? (i := 1707) (by decide +kernel)⟩
theorem lw_p122 : lw_okq (⟨"LeastFailingModel", "takesHoist", "(I)Z"⟩, 71) := ⟨⟨by decide +kernel, by decide +kernel⟩, List.mem_of_getElem? (i := 1069) (by decide +kernel), List.mem_of_getElem? (i := 1710) (by decide +kernel), List.mem_of_getElem? (i := 1711) (by decide +kernel)⟩
theorem lw_p123 : lw_okq (⟨"LeastFailingModel", "takesCut", "(I)Z"⟩, 71) := ⟨⟨by decide +kernel, by decide +kernel⟩, List.mem_of_getElem? (i := 1069) (by decide +kernel), List.mem_of_getElem? (i := 1714) (by decide +kernel), List.mem_of_getElem? (i := 1715) (by decide +kernel)⟩
theorem lw_p124 : lw_okq (⟨"LeastFailingModel", "isLine", "(I)Z"⟩, 71) := ⟨⟨by decide +kernel, by decide +kernel⟩, List.mem_of_getElem? (i := 1069) (by decide +kernel), List.mem_of_getElem? (i := 1788) (by decide +kernel), List.mem_of_getElem? (i := 1789) (by decide +kernel)⟩
theorem lw_p125 : lw_okq (⟨"LeastFailingModel", "partsOf", "(I)I"⟩, 71) := ⟨⟨by decide +kernel, by decide +kernel⟩, List.mem_of_getElem? (i := 1069) (by decide +kernel), List.mem_of_getElem? (i := 1801) (by decide +kernel), List.mem_of_getElem? (i := 1802) (by decide +kernel)⟩
def lw_privs_8 : List (MethodName × Nat) := [(⟨"LeastFailingModel", "isBug", "(I)Z"⟩, 71), (⟨"LeastFailingModel", "reduces", "(I)V"⟩, 71), (⟨"LeastFailingModel", "byLevels", "()V"⟩, 71), (⟨"LeastFailingModel", "laysRow", "(I)V"⟩, 71), (⟨"LeastFailingModel", "takesRow", "(IIZII)Z"⟩, 71), (⟨"LeastFailingModel", "isTaken", "(II)Z"⟩, 71), (⟨"LeastFailingModel", "byHalves", "(I)V"⟩, 71), (⟨"LeastFailingModel", "takesAPart", "(IZII)Z"⟩, 71), (⟨"LeastFailingModel", "partFrom", "(II)I"⟩, 71), (⟨"LeastFailingModel", "byNodes", "(Z)V"⟩, 71), (⟨"LeastFailingModel", "takesHoist", "(I)Z"⟩, 71), (⟨"LeastFailingModel", "takesCut", "(I)Z"⟩, 71), (⟨"LeastFailingModel", "isLine", "(I)Z"⟩, 71), (⟨"LeastFailingModel", "partsOf", "(I)I"⟩, 71)]
theorem lw_r8 : ∀ q ∈ lw_privs_8, lw_okq q := List.forall_mem_cons.mpr ⟨lw_p112, List.forall_mem_cons.mpr ⟨lw_p113, List.forall_mem_cons.mpr ⟨lw_p114, List.forall_mem_cons.mpr ⟨lw_p115, List.forall_mem_cons.mpr ⟨lw_p116, List.forall_mem_cons.mpr ⟨lw_p117, List.forall_mem_cons.mpr ⟨lw_p118, List.forall_mem_cons.mpr ⟨lw_p119, List.forall_mem_cons.mpr ⟨lw_p120, List.forall_mem_cons.mpr ⟨lw_p121, List.forall_mem_cons.mpr ⟨lw_p122, List.forall_mem_cons.mpr ⟨lw_p123, List.forall_mem_cons.mpr ⟨lw_p124, List.forall_mem_cons.mpr ⟨lw_p125, fun _ h => absurd h List.not_mem_nil⟩⟩⟩⟩⟩⟩⟩⟩⟩⟩⟩⟩⟩⟩
def lw_privs : List (MethodName × Nat) := lw_privs_1 ++ (lw_privs_2 ++ (lw_privs_3 ++ (lw_privs_4 ++ (lw_privs_5 ++ (lw_privs_6 ++ (lw_privs_7 ++ (lw_privs_8)))))))
def lw_tbl : List Cond := k2_sels lw_privs ++ tables_1
theorem lw_privs_ok : ∀ q ∈ lw_privs, lw_okq q := by
  show ∀ q ∈ lw_privs_1 ++ (lw_privs_2 ++ (lw_privs_3 ++ (lw_privs_4 ++ (lw_privs_5 ++ (lw_privs_6 ++ (lw_privs_7 ++ (lw_privs_8))))))), lw_okq q
  exact List.forall_mem_append.mpr ⟨lw_r1, List.forall_mem_append.mpr ⟨lw_r2, List.forall_mem_append.mpr ⟨lw_r3, List.forall_mem_append.mpr ⟨lw_r4, List.forall_mem_append.mpr ⟨lw_r5, List.forall_mem_append.mpr ⟨lw_r6, List.forall_mem_append.mpr ⟨lw_r7, lw_r8⟩⟩⟩⟩⟩⟩⟩

def RX0 : String := "LeastFailing$Bugs"
def TX0 : u_T := fun k => match k with
  | 0 => ("LeastFailing$Bugs", "many", "I", false)
  | 1 => ("LeastFailing$Bugs", "names", "[I", true)
  | 2 => ("LeastFailing$Bugs", "odds", "[I", true)
  | 3 => ("LeastFailing$Bugs", "length", "I", false)
  | 4 => ("LeastFailing$Bugs", "steps", "[I", true)
  | 5 => ("LeastFailing$Bugs", "firsts", "[I", true)
  | 6 => ("LeastFailing$Bugs", "seconds", "[I", true)
  | _ => ("LeastFailing$Bugs", "numbers", "[I", true)
def tyX0 : Nat → FieldType := fun k => match k with
  | 0 => .int
  | 1 => .array .int
  | 2 => .array .int
  | 3 => .int
  | 4 => .array .int
  | 5 => .array .int
  | 6 => .array .int
  | _ => .array .int
theorem nmX0 : ∀ a, a < 8 → ∀ b, b < 8 → a ≠ b → (TX0 a).2.1 ≠ (TX0 b).2.1 := by decide +kernel
theorem tyX0_ok : ∀ k, k < 8 → parseFieldDescriptor (TX0 k).2.2.1 = some (tyX0 k) := by decide +kernel
def RX1 : String := "LeastFailing$BugsReader"
def TX1 : u_T := fun k => match k with
  | 0 => ("LeastFailing$BugsReader", "text", "LLeastFailing$Text;", true)
  | 1 => ("LeastFailing$BugsReader", "grammar", "LLeastFailing$Grammar;", true)
  | 2 => ("LeastFailing$BugsReader", "bugs", "LLeastFailing$Bugs;", true)
  | 3 => ("LeastFailing$BugsReader", "waiting", "[I", true)
  | 4 => ("LeastFailing$BugsReader", "waits", "I", false)
  | _ => ("LeastFailing$BugsReader", "nested", "I", false)
def tyX1 : Nat → FieldType := fun k => match k with
  | 0 => .object "LeastFailing$Text"
  | 1 => .object "LeastFailing$Grammar"
  | 2 => .object "LeastFailing$Bugs"
  | 3 => .array .int
  | 4 => .int
  | _ => .int
theorem nmX1 : ∀ a, a < 6 → ∀ b, b < 6 → a ≠ b → (TX1 a).2.1 ≠ (TX1 b).2.1 := by decide +kernel
theorem tyX1_ok : ∀ k, k < 6 → parseFieldDescriptor (TX1 k).2.2.1 = some (tyX1 k) := by decide +kernel
def RX2 : String := "LeastFailing$Grammar"
def TX2 : u_T := fun k => match k with
  | 0 => ("LeastFailing$Grammar", "lines", "I", false)
  | 1 => ("LeastFailing$Grammar", "sorts", "I", false)
  | 2 => ("LeastFailing$Grammar", "names", "[I", true)
  | 3 => ("LeastFailing$Grammar", "isForm", "[Z", true)
  | 4 => ("LeastFailing$Grammar", "sortOf", "[I", true)
  | 5 => ("LeastFailing$Grammar", "behind", "[I", true)
  | 6 => ("LeastFailing$Grammar", "hasStar", "[Z", true)
  | 7 => ("LeastFailing$Grammar", "sortsBehind", "[I", true)
  | 8 => ("LeastFailing$Grammar", "sortNames", "[I", true)
  | 9 => ("LeastFailing$Grammar", "leastSize", "[I", true)
  | _ => ("LeastFailing$Grammar", "leastLine", "[I", true)
def tyX2 : Nat → FieldType := fun k => match k with
  | 0 => .int
  | 1 => .int
  | 2 => .array .int
  | 3 => .array .boolean
  | 4 => .array .int
  | 5 => .array .int
  | 6 => .array .boolean
  | 7 => .array .int
  | 8 => .array .int
  | 9 => .array .int
  | _ => .array .int
theorem nmX2 : ∀ a, a < 11 → ∀ b, b < 11 → a ≠ b → (TX2 a).2.1 ≠ (TX2 b).2.1 := by decide +kernel
theorem tyX2_ok : ∀ k, k < 11 → parseFieldDescriptor (TX2 k).2.2.1 = some (tyX2 k) := by decide +kernel
def RX3 : String := "LeastFailing$GrammarReader"
def TX3 : u_T := fun k => match k with
  | _ => ("", "", "", false)
def tyX3 : Nat → FieldType := fun k => match k with
  | _ => .int
theorem nmX3 : ∀ a, a < 0 → ∀ b, b < 0 → a ≠ b → (TX3 a).2.1 ≠ (TX3 b).2.1 := by decide +kernel
theorem tyX3_ok : ∀ k, k < 0 → parseFieldDescriptor (TX3 k).2.2.1 = some (tyX3 k) := by decide +kernel
def RX4 : String := "LeastFailing$InputReader"
def TX4 : u_T := fun k => match k with
  | 0 => ("LeastFailing$InputReader", "text", "LLeastFailing$Text;", true)
  | 1 => ("LeastFailing$InputReader", "grammar", "LLeastFailing$Grammar;", true)
  | 2 => ("LeastFailing$InputReader", "tree", "LLeastFailing$Tree;", true)
  | 3 => ("LeastFailing$InputReader", "open", "[I", true)
  | _ => ("LeastFailing$InputReader", "depth", "I", false)
def tyX4 : Nat → FieldType := fun k => match k with
  | 0 => .object "LeastFailing$Text"
  | 1 => .object "LeastFailing$Grammar"
  | 2 => .object "LeastFailing$Tree"
  | 3 => .array .int
  | _ => .int
theorem nmX4 : ∀ a, a < 5 → ∀ b, b < 5 → a ≠ b → (TX4 a).2.1 ≠ (TX4 b).2.1 := by decide +kernel
theorem tyX4_ok : ∀ k, k < 5 → parseFieldDescriptor (TX4 k).2.2.1 = some (tyX4 k) := by decide +kernel
def RX5 : String := "LeastFailing$Judge"
def TX5 : u_T := fun k => match k with
  | 0 => ("LeastFailing$Judge", "bugs", "LLeastFailing$Bugs;", true)
  | 1 => ("LeastFailing$Judge", "tried", "LLeastFailing$Tried;", true)
  | 2 => ("LeastFailing$Judge", "told", "[I", true)
  | 3 => ("LeastFailing$Judge", "votes", "I", false)
  | 4 => ("LeastFailing$Judge", "seed", "I", false)
  | 5 => ("LeastFailing$Judge", "again", "I", false)
  | 6 => ("LeastFailing$Judge", "runs", "I", false)
  | _ => ("LeastFailing$Judge", "out", "I", false)
def tyX5 : Nat → FieldType := fun k => match k with
  | 0 => .object "LeastFailing$Bugs"
  | 1 => .object "LeastFailing$Tried"
  | 2 => .array .int
  | 3 => .int
  | 4 => .int
  | 5 => .int
  | 6 => .int
  | _ => .int
theorem nmX5 : ∀ a, a < 8 → ∀ b, b < 8 → a ≠ b → (TX5 a).2.1 ≠ (TX5 b).2.1 := by decide +kernel
theorem tyX5_ok : ∀ k, k < 8 → parseFieldDescriptor (TX5 k).2.2.1 = some (tyX5 k) := by decide +kernel
def RX6 : String := "LeastFailing$Reducer"
def TX6 : u_T := fun k => match k with
  | 0 => ("LeastFailing$Reducer", "tree", "LLeastFailing$Tree;", true)
  | 1 => ("LeastFailing$Reducer", "made", "LLeastFailing$Tree;", true)
  | 2 => ("LeastFailing$Reducer", "judge", "LLeastFailing$Judge;", true)
  | 3 => ("LeastFailing$Reducer", "bug", "I", false)
  | 4 => ("LeastFailing$Reducer", "taken", "I", false)
  | 5 => ("LeastFailing$Reducer", "row", "[I", true)
  | 6 => ("LeastFailing$Reducer", "rowSize", "I", false)
  | 7 => ("LeastFailing$Reducer", "changed", "[Z", true)
  | _ => ("LeastFailing$Reducer", "moved", "[I", true)
def tyX6 : Nat → FieldType := fun k => match k with
  | 0 => .object "LeastFailing$Tree"
  | 1 => .object "LeastFailing$Tree"
  | 2 => .object "LeastFailing$Judge"
  | 3 => .int
  | 4 => .int
  | 5 => .array .int
  | 6 => .int
  | 7 => .array .boolean
  | _ => .array .int
theorem nmX6 : ∀ a, a < 9 → ∀ b, b < 9 → a ≠ b → (TX6 a).2.1 ≠ (TX6 b).2.1 := by decide +kernel
theorem tyX6_ok : ∀ k, k < 9 → parseFieldDescriptor (TX6 k).2.2.1 = some (tyX6 k) := by decide +kernel
def RX7 : String := "LeastFailing$Single"
def TX7 : u_T := fun k => match k with
  | 0 => ("LeastFailing$Single", "tree", "LLeastFailing$Tree;", true)
  | 1 => ("LeastFailing$Single", "node", "I", false)
  | 2 => ("LeastFailing$Single", "kind", "I", false)
  | _ => ("LeastFailing$Single", "other", "I", false)
def tyX7 : Nat → FieldType := fun k => match k with
  | 0 => .object "LeastFailing$Tree"
  | 1 => .int
  | 2 => .int
  | _ => .int
theorem nmX7 : ∀ a, a < 4 → ∀ b, b < 4 → a ≠ b → (TX7 a).2.1 ≠ (TX7 b).2.1 := by decide +kernel
theorem tyX7_ok : ∀ k, k < 4 → parseFieldDescriptor (TX7 k).2.2.1 = some (tyX7 k) := by decide +kernel
def RX8 : String := "LeastFailing$Text"
def TX8 : u_T := fun k => match k with
  | 0 => ("LeastFailing$Text", "bytes", "[B", true)
  | 1 => ("LeastFailing$Text", "length", "I", false)
  | 2 => ("LeastFailing$Text", "at", "I", false)
  | 3 => ("LeastFailing$Text", "kind", "I", false)
  | 4 => ("LeastFailing$Text", "place", "I", false)
  | 5 => ("LeastFailing$Text", "value", "I", false)
  | 6 => ("LeastFailing$Text", "fault", "I", false)
  | _ => ("LeastFailing$Text", "faultPlace", "I", false)
def tyX8 : Nat → FieldType := fun k => match k with
  | 0 => .array .byte
  | 1 => .int
  | 2 => .int
  | 3 => .int
  | 4 => .int
  | 5 => .int
  | 6 => .int
  | _ => .int
theorem nmX8 : ∀ a, a < 8 → ∀ b, b < 8 → a ≠ b → (TX8 a).2.1 ≠ (TX8 b).2.1 := by decide +kernel
theorem tyX8_ok : ∀ k, k < 8 → parseFieldDescriptor (TX8 k).2.2.1 = some (tyX8 k) := by decide +kernel
def RX9 : String := "LeastFailing$Tree"
def TX9 : u_T := fun k => match k with
  | 0 => ("LeastFailing$Tree", "grammar", "LLeastFailing$Grammar;", true)
  | 1 => ("LeastFailing$Tree", "nodes", "I", false)
  | 2 => ("LeastFailing$Tree", "deepest", "I", false)
  | 3 => ("LeastFailing$Tree", "names", "[I", true)
  | 4 => ("LeastFailing$Tree", "parts", "[I", true)
  | 5 => ("LeastFailing$Tree", "parents", "[I", true)
  | 6 => ("LeastFailing$Tree", "places", "[I", true)
  | 7 => ("LeastFailing$Tree", "levels", "[I", true)
  | 8 => ("LeastFailing$Tree", "sizes", "[I", true)
  | _ => ("LeastFailing$Tree", "filled", "[I", true)
def tyX9 : Nat → FieldType := fun k => match k with
  | 0 => .object "LeastFailing$Grammar"
  | 1 => .int
  | 2 => .int
  | 3 => .array .int
  | 4 => .array .int
  | 5 => .array .int
  | 6 => .array .int
  | 7 => .array .int
  | 8 => .array .int
  | _ => .array .int
theorem nmX9 : ∀ a, a < 10 → ∀ b, b < 10 → a ≠ b → (TX9 a).2.1 ≠ (TX9 b).2.1 := by decide +kernel
theorem tyX9_ok : ∀ k, k < 10 → parseFieldDescriptor (TX9 k).2.2.1 = some (tyX9 k) := by decide +kernel
def RX10 : String := "LeastFailing$Tried"
def TX10 : u_T := fun k => match k with
  | 0 => ("LeastFailing$Tried", "many", "I", false)
  | 1 => ("LeastFailing$Tried", "sizes", "[I", true)
  | 2 => ("LeastFailing$Tried", "verdicts", "[I", true)
  | 3 => ("LeastFailing$Tried", "reasons", "[I", true)
  | 4 => ("LeastFailing$Tried", "wheres", "[I", true)
  | 5 => ("LeastFailing$Tried", "keys", "[J", true)
  | 6 => ("LeastFailing$Tried", "earlier", "[I", true)
  | 7 => ("LeastFailing$Tried", "latest", "[I", true)
  | 8 => ("LeastFailing$Tried", "key", "[J", true)
  | _ => ("LeastFailing$Tried", "bucket", "I", false)
def tyX10 : Nat → FieldType := fun k => match k with
  | 0 => .int
  | 1 => .array .int
  | 2 => .array .int
  | 3 => .array .int
  | 4 => .array .int
  | 5 => .array .long
  | 6 => .array .int
  | 7 => .array .int
  | 8 => .array .long
  | _ => .int
theorem nmX10 : ∀ a, a < 10 → ∀ b, b < 10 → a ≠ b → (TX10 a).2.1 ≠ (TX10 b).2.1 := by decide +kernel
theorem tyX10_ok : ∀ k, k < 10 → parseFieldDescriptor (TX10 k).2.2.1 = some (tyX10 k) := by decide +kernel
def RX11 : String := "LeastFailing"
def TX11 : u_T := fun k => match k with
  | 0 => ("LeastFailing", "text", "LLeastFailing$Text;", true)
  | 1 => ("LeastFailing", "grammar", "LLeastFailing$Grammar;", true)
  | 2 => ("LeastFailing", "readGrammar", "LLeastFailing$Grammar;", true)
  | 3 => ("LeastFailing", "bugs", "LLeastFailing$Bugs;", true)
  | 4 => ("LeastFailing", "readBugs", "LLeastFailing$Bugs;", true)
  | 5 => ("LeastFailing", "input", "LLeastFailing$Tree;", true)
  | 6 => ("LeastFailing", "made", "LLeastFailing$Tree;", true)
  | 7 => ("LeastFailing", "past", "[LLeastFailing$Tree;", true)
  | 8 => ("LeastFailing", "acts", "I", false)
  | 9 => ("LeastFailing", "inputReader", "LLeastFailing$InputReader;", true)
  | 10 => ("LeastFailing", "bugsReader", "LLeastFailing$BugsReader;", true)
  | 11 => ("LeastFailing", "tried", "LLeastFailing$Tried;", true)
  | 12 => ("LeastFailing", "judge", "LLeastFailing$Judge;", true)
  | 13 => ("LeastFailing", "single", "LLeastFailing$Single;", true)
  | _ => ("LeastFailing", "reducer", "LLeastFailing$Reducer;", true)
def tyX11 : Nat → FieldType := fun k => match k with
  | 0 => .object "LeastFailing$Text"
  | 1 => .object "LeastFailing$Grammar"
  | 2 => .object "LeastFailing$Grammar"
  | 3 => .object "LeastFailing$Bugs"
  | 4 => .object "LeastFailing$Bugs"
  | 5 => .object "LeastFailing$Tree"
  | 6 => .object "LeastFailing$Tree"
  | 7 => .array (.object "LeastFailing$Tree")
  | 8 => .int
  | 9 => .object "LeastFailing$InputReader"
  | 10 => .object "LeastFailing$BugsReader"
  | 11 => .object "LeastFailing$Tried"
  | 12 => .object "LeastFailing$Judge"
  | 13 => .object "LeastFailing$Single"
  | _ => .object "LeastFailing$Reducer"
theorem nmX11 : ∀ a, a < 15 → ∀ b, b < 15 → a ≠ b → (TX11 a).2.1 ≠ (TX11 b).2.1 := by decide +kernel
theorem tyX11_ok : ∀ k, k < 15 → parseFieldDescriptor (TX11 k).2.2.1 = some (tyX11 k) := by decide +kernel
def RX12 : String := "LeastFailingModel"
def TX12 : u_T := fun k => match k with
  | 0 => ("LeastFailingModel", "thrown", "I", false)
  | 1 => ("LeastFailingModel", "tape", "[B", true)
  | 2 => ("LeastFailingModel", "taped", "I", false)
  | 3 => ("LeastFailingModel", "size", "I", false)
  | 4 => ("LeastFailingModel", "at", "I", false)
  | 5 => ("LeastFailingModel", "ended", "I", false)
  | 6 => ("LeastFailingModel", "bad", "I", false)
  | 7 => ("LeastFailingModel", "badPlace", "I", false)
  | 8 => ("LeastFailingModel", "faultKind", "I", false)
  | 9 => ("LeastFailingModel", "faultPlace", "I", false)
  | 10 => ("LeastFailingModel", "word", "J", false)
  | 11 => ("LeastFailingModel", "letters", "I", false)
  | 12 => ("LeastFailingModel", "namePlace", "I", false)
  | 13 => ("LeastFailingModel", "numberPlace", "I", false)
  | 14 => ("LeastFailingModel", "g", "[I", true)
  | 15 => ("LeastFailingModel", "lineName", "[J", true)
  | 16 => ("LeastFailingModel", "sortName", "[J", true)
  | 17 => ("LeastFailingModel", "fresh", "[I", true)
  | 18 => ("LeastFailingModel", "freshLine", "[J", true)
  | 19 => ("LeastFailingModel", "freshSort", "[J", true)
  | 20 => ("LeastFailingModel", "leastSize", "[I", true)
  | 21 => ("LeastFailingModel", "leastLine", "[I", true)
  | 22 => ("LeastFailingModel", "freshSize", "[I", true)
  | 23 => ("LeastFailingModel", "t", "[I", true)
  | 24 => ("LeastFailingModel", "acts", "I", false)
  | 25 => ("LeastFailingModel", "latest", "I", false)
  | 26 => ("LeastFailingModel", "openNode", "[I", true)
  | 27 => ("LeastFailingModel", "openParts", "[I", true)
  | 28 => ("LeastFailingModel", "opened", "I", false)
  | 29 => ("LeastFailingModel", "code", "[I", true)
  | 30 => ("LeastFailingModel", "freshCode", "[I", true)
  | 31 => ("LeastFailingModel", "codeFrom", "[I", true)
  | 32 => ("LeastFailingModel", "freshFrom", "[I", true)
  | 33 => ("LeastFailingModel", "odds", "[I", true)
  | 34 => ("LeastFailingModel", "freshOdds", "[I", true)
  | 35 => ("LeastFailingModel", "bugName", "[J", true)
  | 36 => ("LeastFailingModel", "freshBug", "[J", true)
  | 37 => ("LeastFailingModel", "bugs", "I", false)
  | 38 => ("LeastFailingModel", "coded", "I", false)
  | 39 => ("LeastFailingModel", "pile", "[I", true)
  | 40 => ("LeastFailingModel", "piled", "I", false)
  | 41 => ("LeastFailingModel", "nots", "I", false)
  | 42 => ("LeastFailingModel", "parent", "[I", true)
  | 43 => ("LeastFailingModel", "level", "[I", true)
  | 44 => ("LeastFailingModel", "part", "[I", true)
  | 45 => ("LeastFailingModel", "isStarred", "[Z", true)
  | 46 => ("LeastFailingModel", "deepest", "I", false)
  | 47 => ("LeastFailingModel", "seeded", "J", false)
  | 48 => ("LeastFailingModel", "votes", "I", false)
  | 49 => ("LeastFailingModel", "again", "I", false)
  | 50 => ("LeastFailingModel", "runs", "I", false)
  | 51 => ("LeastFailingModel", "outs", "I", false)
  | 52 => ("LeastFailingModel", "triedCells", "[I", true)
  | 53 => ("LeastFailingModel", "triedNodes", "[I", true)
  | 54 => ("LeastFailingModel", "triedVerdict", "[I", true)
  | 55 => ("LeastFailingModel", "triedFor", "[I", true)
  | 56 => ("LeastFailingModel", "triedAt", "[I", true)
  | 57 => ("LeastFailingModel", "triedMany", "I", false)
  | 58 => ("LeastFailingModel", "tally", "[I", true)
  | 59 => ("LeastFailingModel", "mark", "[I", true)
  | 60 => ("LeastFailingModel", "hoisted", "I", false)
  | 61 => ("LeastFailingModel", "movedTo", "[I", true)
  | 62 => ("LeastFailingModel", "endAt", "[I", true)
  | 63 => ("LeastFailingModel", "outAt", "[I", true)
  | 64 => ("LeastFailingModel", "oneAt", "I", false)
  | 65 => ("LeastFailingModel", "oneWhat", "I", false)
  | 66 => ("LeastFailingModel", "onePart", "I", false)
  | 67 => ("LeastFailingModel", "wanted", "I", false)
  | 68 => ("LeastFailingModel", "taken", "I", false)
  | 69 => ("LeastFailingModel", "row", "[I", true)
  | _ => ("LeastFailingModel", "rowMany", "I", false)
def tyX12 : Nat → FieldType := fun k => match k with
  | 0 => .int
  | 1 => .array .byte
  | 2 => .int
  | 3 => .int
  | 4 => .int
  | 5 => .int
  | 6 => .int
  | 7 => .int
  | 8 => .int
  | 9 => .int
  | 10 => .long
  | 11 => .int
  | 12 => .int
  | 13 => .int
  | 14 => .array .int
  | 15 => .array .long
  | 16 => .array .long
  | 17 => .array .int
  | 18 => .array .long
  | 19 => .array .long
  | 20 => .array .int
  | 21 => .array .int
  | 22 => .array .int
  | 23 => .array .int
  | 24 => .int
  | 25 => .int
  | 26 => .array .int
  | 27 => .array .int
  | 28 => .int
  | 29 => .array .int
  | 30 => .array .int
  | 31 => .array .int
  | 32 => .array .int
  | 33 => .array .int
  | 34 => .array .int
  | 35 => .array .long
  | 36 => .array .long
  | 37 => .int
  | 38 => .int
  | 39 => .array .int
  | 40 => .int
  | 41 => .int
  | 42 => .array .int
  | 43 => .array .int
  | 44 => .array .int
  | 45 => .array .boolean
  | 46 => .int
  | 47 => .long
  | 48 => .int
  | 49 => .int
  | 50 => .int
  | 51 => .int
  | 52 => .array .int
  | 53 => .array .int
  | 54 => .array .int
  | 55 => .array .int
  | 56 => .array .int
  | 57 => .int
  | 58 => .array .int
  | 59 => .array .int
  | 60 => .int
  | 61 => .array .int
  | 62 => .array .int
  | 63 => .array .int
  | 64 => .int
  | 65 => .int
  | 66 => .int
  | 67 => .int
  | 68 => .int
  | 69 => .array .int
  | _ => .int
theorem nmX12 : ∀ a, a < 71 → ∀ b, b < 71 → a ≠ b → (TX12 a).2.1 ≠ (TX12 b).2.1 := by decide +kernel
theorem tyX12_ok : ∀ k, k < 71 → parseFieldDescriptor (TX12 k).2.2.1 = some (tyX12 k) := by decide +kernel
def zCl : List vw_C := [(RX0, TX0, 8), (RX1, TX1, 6), (RX2, TX2, 11), (RX3, TX3, 0), (RX4, TX4, 5), (RX5, TX5, 8), (RX6, TX6, 9), (RX7, TX7, 4), (RX8, TX8, 8), (RX9, TX9, 10), (RX10, TX10, 10), (RX11, TX11, 15), (RX12, TX12, 71)]
def zCns : List String := ["LeastFailing$Bugs", "LeastFailing$BugsReader", "LeastFailing$Grammar", "LeastFailing$GrammarReader", "LeastFailing$InputReader", "LeastFailing$Judge", "LeastFailing$Reducer", "LeastFailing$Single", "LeastFailing$Text", "LeastFailing$Tree", "LeastFailing$Tried", "LeastFailing", "LeastFailingModel", "java/lang/Math", "java/util/Arrays"]
def zCn (c : Nat) : String := zCns.getD c ""
/-- the kinds of the fields of a class: 0 int, 1 long, 2 + 2 off a cell behind, 3 + 2 id a cell that is always the same -/
def zFks : List (List Nat) := [[0, 4, 6, 0, 8, 10, 12, 14], [7, 11, 65, 4, 0, 0], [0, 0, 4, 6, 8, 10, 12, 14, 16, 18, 20], [], [7, 11, 95, 4, 0], [51, 279, 4, 0, 0, 0, 0, 0], [79, 95, 297, 0, 0, 4, 0, 6, 8], [79, 0, 0, 0], [4, 0, 0, 0, 0, 0, 0, 0], [11, 0, 0, 4, 6, 8, 10, 12, 14, 16], [0, 4, 6, 8, 10, 12, 14, 16, 18, 0], [7, 11, 31, 51, 65, 79, 95, 4, 0, 271, 275, 279, 297, 301, 303], [0, 4, 0, 0, 0, 0, 0, 0, 0, 0, 1, 0, 0, 0, 6, 8, 10, 12, 14, 16, 18, 20, 22, 24, 0, 0, 26, 28, 0, 30, 32, 34, 36, 38, 40, 42, 44, 0, 0, 46, 0, 0, 48, 50, 52, 54, 0, 1, 0, 0, 0, 0, 56, 58, 60, 62, 64, 0, 66, 68, 0, 70, 72, 74, 0, 0, 0, 0, 0, 76, 0]]
def zFk (c : Nat) : List Nat := zFks.getD c []
def zYs : List MethodName := [⟨"LeastFailing$Bugs", "clear", "()V"⟩, ⟨"LeastFailing$Bugs", "copyFrom", "(LLeastFailing$Bugs;)V"⟩, ⟨"LeastFailing$Bugs", "isTold", "(I)Z"⟩, ⟨"LeastFailing$Bugs", "addBug", "(II)V"⟩, ⟨"LeastFailing$Bugs", "addFact", "(IIII)V"⟩, ⟨"LeastFailing$Bugs", "addStep", "(I)V"⟩, ⟨"LeastFailing$Bugs", "bitsFor", "(LLeastFailing$Tree;)I"⟩, ⟨"LeastFailing$Bugs", "compares", "(III)Z"⟩, ⟨"LeastFailing$BugsReader", "readAll", "()Z"⟩, ⟨"LeastFailing$BugsReader", "readHead", "()Z"⟩, ⟨"LeastFailing$BugsReader", "readTest", "()Z"⟩, ⟨"LeastFailing$BugsReader", "endTest", "()Z"⟩, ⟨"LeastFailing$BugsReader", "holdBack", "(I)V"⟩, ⟨"LeastFailing$BugsReader", "readAhead", "()Z"⟩, ⟨"LeastFailing$BugsReader", "readClosed", "()Z"⟩, ⟨"LeastFailing$BugsReader", "writeNots", "()V"⟩, ⟨"LeastFailing$BugsReader", "writeJoins", "(I)V"⟩, ⟨"LeastFailing$BugsReader", "readFact", "()Z"⟩, ⟨"LeastFailing$BugsReader", "countTold", "()I"⟩, ⟨"LeastFailing$BugsReader", "signTold", "()I"⟩, ⟨"LeastFailing$BugsReader", "readName", "()I"⟩, ⟨"LeastFailing$Grammar", "clear", "()V"⟩, ⟨"LeastFailing$Grammar", "copyFrom", "(LLeastFailing$Grammar;)V"⟩, ⟨"LeastFailing$Grammar", "findLine", "(I)I"⟩, ⟨"LeastFailing$Grammar", "findSort", "(I)I"⟩, ⟨"LeastFailing$Grammar", "addSort", "(I)V"⟩, ⟨"LeastFailing$Grammar", "addLine", "(IIZ)V"⟩, ⟨"LeastFailing$Grammar", "addBehind", "(I)V"⟩, ⟨"LeastFailing$Grammar", "sortBehind", "(II)I"⟩, ⟨"LeastFailing$Grammar", "needed", "(I)I"⟩, ⟨"LeastFailing$Grammar", "sortOfPart", "(II)I"⟩, ⟨"LeastFailing$Grammar", "findLeast", "()Z"⟩, ⟨"LeastFailing$Grammar", "betterLeast", "(I)V"⟩, ⟨"LeastFailing$Grammar", "leastName", "(II)I"⟩, ⟨"LeastFailing$GrammarReader", "readAll", "(LLeastFailing$Text;LLeastFailing$Grammar;)Z"⟩, ⟨"LeastFailing$GrammarReader", "readLine", "(LLeastFailing$Text;LLeastFailing$Grammar;)Z"⟩, ⟨"LeastFailing$GrammarReader", "readSort", "(LLeastFailing$Text;LLeastFailing$Grammar;)I"⟩, ⟨"LeastFailing$GrammarReader", "readBehind", "(LLeastFailing$Text;LLeastFailing$Grammar;)Z"⟩, ⟨"LeastFailing$InputReader", "readAll", "()Z"⟩, ⟨"LeastFailing$InputReader", "readClosed", "()Z"⟩, ⟨"LeastFailing$InputReader", "readNode", "()Z"⟩, ⟨"LeastFailing$InputReader", "readName", "(Z)Z"⟩, ⟨"LeastFailing$Judge", "ask", "(LLeastFailing$Tree;II)I"⟩, ⟨"LeastFailing$Judge", "vote", "(I)I"⟩, ⟨"LeastFailing$Judge", "runOnce", "(I)I"⟩, ⟨"LeastFailing$Reducer", "partStart", "(III)I"⟩, ⟨"LeastFailing$Reducer", "start", "(I)V"⟩, ⟨"LeastFailing$Reducer", "byLevels", "()V"⟩, ⟨"LeastFailing$Reducer", "byHoists", "()V"⟩, ⟨"LeastFailing$Reducer", "byCuts", "()V"⟩, ⟨"LeastFailing$Reducer", "isHoisted", "(I)Z"⟩, ⟨"LeastFailing$Reducer", "isTakenSingle", "(IIII)Z"⟩, ⟨"LeastFailing$Reducer", "isTaken", "(II)Z"⟩, ⟨"LeastFailing$Reducer", "gatherRow", "(I)V"⟩, ⟨"LeastFailing$Reducer", "reduceRow", "(I)V"⟩, ⟨"LeastFailing$Reducer", "isPartTaken", "(IZII)Z"⟩, ⟨"LeastFailing$Reducer", "markRow", "(IIZ)V"⟩, ⟨"LeastFailing$Reducer", "keepUnchanged", "()V"⟩, ⟨"LeastFailing$Single", "start", "()V"⟩, ⟨"LeastFailing$Single", "atNode", "(I)V"⟩, ⟨"LeastFailing$Single", "step", "()Z"⟩, ⟨"LeastFailing$Single", "goTo", "(I)Z"⟩, ⟨"LeastFailing$Single", "howMany", "()I"⟩, ⟨"LeastFailing$Text", "letterOf", "(II)I"⟩, ⟨"LeastFailing$Text", "append", "(I)V"⟩, ⟨"LeastFailing$Text", "start", "()V"⟩, ⟨"LeastFailing$Text", "fail", "(I)Z"⟩, ⟨"LeastFailing$Text", "advance", "()V"⟩, ⟨"LeastFailing$Text", "advanceWord", "(Z)V"⟩, ⟨"LeastFailing$Text", "advanceNumber", "(Z)V"⟩, ⟨"LeastFailing$Text", "isLetter", "(I)Z"⟩, ⟨"LeastFailing$Text", "isDigit", "(I)Z"⟩, ⟨"LeastFailing$Text", "isAtEnd", "()Z"⟩, ⟨"LeastFailing$Text", "isWord", "(I)Z"⟩, ⟨"LeastFailing$Text", "isSign", "(I)Z"⟩, ⟨"LeastFailing$Text", "isNumber", "()Z"⟩, ⟨"LeastFailing$Text", "isName", "()Z"⟩, ⟨"LeastFailing$Text", "passWord", "(I)Z"⟩, ⟨"LeastFailing$Text", "passSign", "(I)Z"⟩, ⟨"LeastFailing$Tree", "clear", "()V"⟩, ⟨"LeastFailing$Tree", "copyFrom", "(LLeastFailing$Tree;)V"⟩, ⟨"LeastFailing$Tree", "addNode", "(II)V"⟩, ⟨"LeastFailing$Tree", "addAll", "(LLeastFailing$Tree;II)V"⟩, ⟨"LeastFailing$Tree", "addLeast", "(I)V"⟩, ⟨"LeastFailing$Tree", "settle", "()V"⟩, ⟨"LeastFailing$Tree", "sortAt", "(I)I"⟩, ⟨"LeastFailing$Tree", "canCut", "(I)Z"⟩, ⟨"LeastFailing$Tree", "canBeLeast", "(I)Z"⟩, ⟨"LeastFailing$Tree", "isInRow", "(II)Z"⟩, ⟨"LeastFailing$Tree", "countOf", "(III)I"⟩, ⟨"LeastFailing$Tree", "becomeSingle", "(LLeastFailing$Tree;III)V"⟩, ⟨"LeastFailing$Tree", "becomeChanged", "(LLeastFailing$Tree;[Z[I)V"⟩, ⟨"LeastFailing$Tried", "forget", "()V"⟩, ⟨"LeastFailing$Tried", "find", "(LLeastFailing$Tree;)I"⟩, ⟨"LeastFailing$Tried", "add", "(IIII)V"⟩, ⟨"LeastFailing$Tried", "makeKey", "(LLeastFailing$Tree;)V"⟩, ⟨"LeastFailing$Tried", "hasKey", "(I)Z"⟩, ⟨"LeastFailing", "feed", "(IIIII)I"⟩, ⟨"LeastFailing", "end", "(I)Z"⟩, ⟨"LeastFailing", "grammar", "()I"⟩, ⟨"LeastFailing", "input", "()I"⟩, ⟨"LeastFailing", "bugs", "()I"⟩, ⟨"LeastFailing", "fault", "(I)I"⟩, ⟨"LeastFailing", "votes", "(I)I"⟩, ⟨"LeastFailing", "seed", "(I)I"⟩, ⟨"LeastFailing", "count", "(I)I"⟩, ⟨"LeastFailing", "letter", "(III)I"⟩, ⟨"LeastFailing", "line", "(II)I"⟩, ⟨"LeastFailing", "least", "(II)I"⟩, ⟨"LeastFailing", "node", "(II)I"⟩, ⟨"LeastFailing", "holding", "()I"⟩, ⟨"LeastFailing", "counts", "(III)I"⟩, ⟨"LeastFailing", "verdict", "()I"⟩, ⟨"LeastFailing", "run", "(I)I"⟩, ⟨"LeastFailing", "single", "(II)I"⟩, ⟨"LeastFailing", "tries", "(I)I"⟩, ⟨"LeastFailing", "change", "(I)I"⟩, ⟨"LeastFailing", "more", "()I"⟩, ⟨"LeastFailing", "apart", "(II)I"⟩, ⟨"LeastFailing", "reduce", "(II)I"⟩, ⟨"LeastFailing", "row", "(II)I"⟩, ⟨"LeastFailing", "part", "(IIII)I"⟩, ⟨"LeastFailing", "tried", "(I)I"⟩, ⟨"LeastFailing", "trace", "(II)I"⟩, ⟨"LeastFailing", "sure", "(II)I"⟩, ⟨"LeastFailing", "enough", "(II)I"⟩, ⟨"LeastFailing", "often", "(III)I"⟩, ⟨"LeastFailing", "undo", "()I"⟩, ⟨"LeastFailing", "isBug", "(I)Z"⟩, ⟨"LeastFailing", "canVote", "(I)Z"⟩, ⟨"LeastFailing", "areOdds", "(I)Z"⟩, ⟨"LeastFailing", "remember", "()V"⟩, ⟨"LeastFailing", "makeSingle", "()V"⟩, ⟨"LeastFailing", "askSingle", "()I"⟩, ⟨"LeastFailing", "millionths", "(II)I"⟩, ⟨"LeastFailing", "waysOf", "(II)J"⟩, ⟨"LeastFailing", "powerOf", "(II)J"⟩, ⟨"LeastFailingModel", "isIn", "(JJJ)Z"⟩, ⟨"LeastFailingModel", "flag", "(Z)I"⟩, ⟨"LeastFailingModel", "four", "(I)V"⟩, ⟨"LeastFailingModel", "feed", "(IIIII)I"⟩, ⟨"LeastFailingModel", "end", "(I)Z"⟩, ⟨"LeastFailingModel", "begins", "()V"⟩, ⟨"LeastFailingModel", "isFine", "()Z"⟩, ⟨"LeastFailingModel", "fail", "(II)V"⟩, ⟨"LeastFailingModel", "isRead", "()Z"⟩, ⟨"LeastFailingModel", "here", "(I)I"⟩, ⟨"LeastFailingModel", "isLetter", "(I)Z"⟩, ⟨"LeastFailingModel", "isDigit", "(I)Z"⟩, ⟨"LeastFailingModel", "next", "()I"⟩, ⟨"LeastFailingModel", "isOver", "()Z"⟩, ⟨"LeastFailingModel", "unlike", "()V"⟩, ⟨"LeastFailingModel", "isSign", "(I)Z"⟩, ⟨"LeastFailingModel", "takesSign", "(I)Z"⟩, ⟨"LeastFailingModel", "needsSign", "(I)V"⟩, ⟨"LeastFailingModel", "packed", "(IIIIII)J"⟩, ⟨"LeastFailingModel", "seesWord", "()Z"⟩, ⟨"LeastFailingModel", "isWord", "(J)Z"⟩, ⟨"LeastFailingModel", "pass", "()V"⟩, ⟨"LeastFailingModel", "takes", "(J)Z"⟩, ⟨"LeastFailingModel", "isOwn", "()Z"⟩, ⟨"LeastFailingModel", "isName", "()Z"⟩, ⟨"LeastFailingModel", "name", "()J"⟩, ⟨"LeastFailingModel", "number", "()I"⟩, ⟨"LeastFailingModel", "sortRead", "()I"⟩, ⟨"LeastFailingModel", "partsRead", "(I)V"⟩, ⟨"LeastFailingModel", "lineRead", "()V"⟩, ⟨"LeastFailingModel", "leastOf", "(I)I"⟩, ⟨"LeastFailingModel", "laysLeast", "()V"⟩, ⟨"LeastFailingModel", "grammar", "()I"⟩, ⟨"LeastFailingModel", "ofLine", "(II)I"⟩, ⟨"LeastFailingModel", "lineOf", "(J)I"⟩, ⟨"LeastFailingModel", "fixed", "(I)I"⟩, ⟨"LeastFailingModel", "sortOfPart", "(II)I"⟩, ⟨"LeastFailingModel", "many", "(I)I"⟩, ⟨"LeastFailingModel", "nameOf", "(II)I"⟩, ⟨"LeastFailingModel", "sizeOf", "(II)I"⟩, ⟨"LeastFailingModel", "copies", "(II)V"⟩, ⟨"LeastFailingModel", "adds", "(II)I"⟩, ⟨"LeastFailingModel", "stands", "(IZI)V"⟩, ⟨"LeastFailingModel", "treeGoesOn", "()V"⟩, ⟨"LeastFailingModel", "treeCloses", "()V"⟩, ⟨"LeastFailingModel", "input", "()I"⟩, ⟨"LeastFailingModel", "keeps", "()V"⟩, ⟨"LeastFailingModel", "undo", "()I"⟩, ⟨"LeastFailingModel", "emits", "(IIIII)V"⟩, ⟨"LeastFailingModel", "nameInTest", "()I"⟩, ⟨"LeastFailingModel", "countRead", "()V"⟩, ⟨"LeastFailingModel", "piles", "(I)V"⟩, ⟨"LeastFailingModel", "drops", "(II)V"⟩, ⟨"LeastFailingModel", "factBegins", "()Z"⟩, ⟨"LeastFailingModel", "factGoesOn", "()Z"⟩, ⟨"LeastFailingModel", "testRead", "()V"⟩, ⟨"LeastFailingModel", "bugs", "()I"⟩, ⟨"LeastFailingModel", "bugRead", "(I)V"⟩, ⟨"LeastFailingModel", "fault", "(I)I"⟩, ⟨"LeastFailingModel", "lays", "(I)V"⟩, ⟨"LeastFailingModel", "sortAt", "(II)I"⟩, ⟨"LeastFailingModel", "leastAt", "(II)I"⟩, ⟨"LeastFailingModel", "deepOf", "(I)I"⟩, ⟨"LeastFailingModel", "underOf", "(III)I"⟩, ⟨"LeastFailingModel", "nextOf", "(III)I"⟩, ⟨"LeastFailingModel", "hasOf", "(II)I"⟩, ⟨"LeastFailingModel", "countOf", "(IIII)I"⟩, ⟨"LeastFailingModel", "isSo", "(II)Z"⟩, ⟨"LeastFailingModel", "holds", "(II)Z"⟩, ⟨"LeastFailingModel", "holdingOf", "(I)I"⟩, ⟨"LeastFailingModel", "draw", "()I"⟩, ⟨"LeastFailingModel", "runOf", "(I)I"⟩, ⟨"LeastFailingModel", "forgets", "()V"⟩, ⟨"LeastFailingModel", "cell", "(II)I"⟩, ⟨"LeastFailingModel", "isTried", "(II)Z"⟩, ⟨"LeastFailingModel", "voted", "(I)I"⟩, ⟨"LeastFailingModel", "verdictOf", "(III)I"⟩, ⟨"LeastFailingModel", "unmarks", "()V"⟩, ⟨"LeastFailingModel", "addsLeast", "(I)V"⟩, ⟨"LeastFailingModel", "addsPart", "(I)V"⟩, ⟨"LeastFailingModel", "builds", "()V"⟩, ⟨"LeastFailingModel", "canBeLeast", "(I)Z"⟩, ⟨"LeastFailingModel", "changes", "(III)V"⟩, ⟨"LeastFailingModel", "isOne", "(III)V"⟩, ⟨"LeastFailingModel", "singles", "(I)I"⟩, ⟨"LeastFailingModel", "isLaid", "(I)Z"⟩, ⟨"LeastFailingModel", "single", "(II)I"⟩, ⟨"LeastFailingModel", "tries", "(I)I"⟩, ⟨"LeastFailingModel", "change", "(I)I"⟩, ⟨"LeastFailingModel", "more", "()I"⟩, ⟨"LeastFailingModel", "isBug", "(I)Z"⟩, ⟨"LeastFailingModel", "apart", "(II)I"⟩, ⟨"LeastFailingModel", "isTaken", "(II)Z"⟩, ⟨"LeastFailingModel", "laysRow", "(I)V"⟩, ⟨"LeastFailingModel", "takesRow", "(IIZII)Z"⟩, ⟨"LeastFailingModel", "partFrom", "(II)I"⟩, ⟨"LeastFailingModel", "takesAPart", "(IZII)Z"⟩, ⟨"LeastFailingModel", "byHalves", "(I)V"⟩, ⟨"LeastFailingModel", "byLevels", "()V"⟩, ⟨"LeastFailingModel", "takesHoist", "(I)Z"⟩, ⟨"LeastFailingModel", "takesCut", "(I)Z"⟩, ⟨"LeastFailingModel", "byNodes", "(Z)V"⟩, ⟨"LeastFailingModel", "reduces", "(I)V"⟩, ⟨"LeastFailingModel", "reduce", "(II)I"⟩, ⟨"LeastFailingModel", "row", "(II)I"⟩, ⟨"LeastFailingModel", "part", "(IIII)I"⟩, ⟨"LeastFailingModel", "tried", "(I)I"⟩, ⟨"LeastFailingModel", "trace", "(II)I"⟩, ⟨"LeastFailingModel", "votes", "(I)I"⟩, ⟨"LeastFailingModel", "seed", "(I)I"⟩, ⟨"LeastFailingModel", "ways", "(III)J"⟩, ⟨"LeastFailingModel", "sureOf", "(II)I"⟩, ⟨"LeastFailingModel", "sure", "(II)I"⟩, ⟨"LeastFailingModel", "enough", "(II)I"⟩, ⟨"LeastFailingModel", "run", "(I)I"⟩, ⟨"LeastFailingModel", "often", "(III)I"⟩, ⟨"LeastFailingModel", "verdict", "()I"⟩, ⟨"LeastFailingModel", "count", "(I)I"⟩, ⟨"LeastFailingModel", "letter", "(III)I"⟩, ⟨"LeastFailingModel", "isLine", "(I)Z"⟩, ⟨"LeastFailingModel", "line", "(II)I"⟩, ⟨"LeastFailingModel", "least", "(II)I"⟩, ⟨"LeastFailingModel", "partsOf", "(I)I"⟩, ⟨"LeastFailingModel", "node", "(II)I"⟩, ⟨"LeastFailingModel", "holding", "()I"⟩, ⟨"LeastFailingModel", "counts", "(III)I"⟩, ⟨"java/util/Arrays", "fill", "([JJ)V"⟩, ⟨"java/util/Arrays", "fill", "([II)V"⟩]
def zY (μ : Nat) : MethodName := zYs.getD μ ⟨"", "", ""⟩
def zCds : List ByteArray := [prog_2_method_2_code, prog_2_method_3_code, prog_2_method_4_code, prog_2_method_5_code, prog_2_method_6_code, prog_2_method_7_code, prog_2_method_8_code, prog_2_method_9_code, prog_3_method_2_code, prog_3_method_3_code, prog_3_method_4_code, prog_3_method_5_code, prog_3_method_6_code, prog_3_method_7_code, prog_3_method_8_code, prog_3_method_9_code, prog_3_method_10_code, prog_3_method_11_code, prog_3_method_12_code, prog_3_method_13_code, prog_3_method_14_code, prog_4_method_2_code, prog_4_method_3_code, prog_4_method_4_code, prog_4_method_5_code, prog_4_method_6_code, prog_4_method_7_code, prog_4_method_8_code, prog_4_method_9_code, prog_4_method_10_code, prog_4_method_11_code, prog_4_method_12_code, prog_4_method_13_code, prog_4_method_14_code, prog_5_method_2_code, prog_5_method_3_code, prog_5_method_4_code, prog_5_method_5_code, prog_6_method_2_code, prog_6_method_3_code, prog_6_method_4_code, prog_6_method_5_code, prog_7_method_2_code, prog_7_method_3_code, prog_7_method_4_code, prog_8_method_2_code, prog_8_method_3_code, prog_8_method_4_code, prog_8_method_5_code, prog_8_method_6_code, prog_8_method_7_code, prog_8_method_8_code, prog_8_method_9_code, prog_8_method_10_code, prog_8_method_11_code, prog_8_method_12_code, prog_8_method_13_code, prog_8_method_14_code, prog_9_method_2_code, prog_9_method_3_code, prog_9_method_4_code, prog_9_method_5_code, prog_9_method_6_code, prog_10_method_2_code, prog_10_method_3_code, prog_10_method_4_code, prog_10_method_5_code, prog_10_method_6_code, prog_10_method_7_code, prog_10_method_8_code, prog_10_method_9_code, prog_10_method_10_code, prog_10_method_11_code, prog_10_method_12_code, prog_10_method_13_code, prog_10_method_14_code, prog_10_method_15_code, prog_10_method_16_code, prog_10_method_17_code, prog_11_method_2_code, prog_11_method_3_code, prog_11_method_4_code, prog_11_method_5_code, prog_11_method_6_code, prog_11_method_7_code, prog_11_method_8_code, prog_11_method_9_code, prog_11_method_10_code, prog_11_method_11_code, prog_11_method_12_code, prog_11_method_13_code, prog_11_method_14_code, prog_12_method_2_code, prog_12_method_3_code, prog_12_method_4_code, prog_12_method_5_code, prog_12_method_6_code, prog_1_method_2_code, prog_1_method_3_code, prog_1_method_4_code, prog_1_method_5_code, prog_1_method_6_code, prog_1_method_7_code, prog_1_method_8_code, prog_1_method_9_code, prog_1_method_10_code, prog_1_method_11_code, prog_1_method_12_code, prog_1_method_13_code, prog_1_method_14_code, prog_1_method_15_code, prog_1_method_16_code, prog_1_method_17_code, prog_1_method_18_code, prog_1_method_19_code, prog_1_method_20_code, prog_1_method_21_code, prog_1_method_22_code, prog_1_method_23_code, prog_1_method_24_code, prog_1_method_25_code, prog_1_method_26_code, prog_1_method_27_code, prog_1_method_28_code, prog_1_method_29_code, prog_1_method_30_code, prog_1_method_31_code, prog_1_method_32_code, prog_1_method_33_code, prog_1_method_34_code, prog_1_method_35_code, prog_1_method_36_code, prog_1_method_37_code, prog_1_method_38_code, prog_1_method_39_code, prog_1_method_40_code, prog_1_method_41_code, prog_14_method_3_code, prog_14_method_4_code, prog_14_method_5_code, prog_14_method_6_code, prog_14_method_7_code, prog_14_method_8_code, prog_14_method_9_code, prog_14_method_10_code, prog_14_method_11_code, prog_14_method_12_code, prog_14_method_13_code, prog_14_method_14_code, prog_14_method_15_code, prog_14_method_16_code, prog_14_method_17_code, prog_14_method_18_code, prog_14_method_19_code, prog_14_method_20_code, prog_14_method_21_code, prog_14_method_22_code, prog_14_method_23_code, prog_14_method_24_code, prog_14_method_25_code, prog_14_method_26_code, prog_14_method_27_code, prog_14_method_28_code, prog_14_method_29_code, prog_14_method_30_code, prog_14_method_31_code, prog_14_method_32_code, prog_14_method_33_code, prog_14_method_34_code, prog_14_method_35_code, prog_14_method_36_code, prog_14_method_37_code, prog_14_method_38_code, prog_14_method_39_code, prog_14_method_40_code, prog_14_method_41_code, prog_14_method_42_code, prog_14_method_43_code, prog_14_method_44_code, prog_14_method_45_code, prog_14_method_46_code, prog_14_method_47_code, prog_14_method_48_code, prog_14_method_49_code, prog_14_method_50_code, prog_14_method_51_code, prog_14_method_52_code, prog_14_method_53_code, prog_14_method_54_code, prog_14_method_55_code, prog_14_method_56_code, prog_14_method_57_code, prog_14_method_58_code, prog_14_method_59_code, prog_14_method_60_code, prog_14_method_61_code, prog_14_method_62_code, prog_14_method_63_code, prog_14_method_64_code, prog_14_method_65_code, prog_14_method_66_code, prog_14_method_67_code, prog_14_method_68_code, prog_14_method_69_code, prog_14_method_70_code, prog_14_method_71_code, prog_14_method_72_code, prog_14_method_73_code, prog_14_method_74_code, prog_14_method_75_code, prog_14_method_76_code, prog_14_method_77_code, prog_14_method_78_code, prog_14_method_79_code, prog_14_method_80_code, prog_14_method_81_code, prog_14_method_82_code, prog_14_method_83_code, prog_14_method_84_code, prog_14_method_85_code, prog_14_method_86_code, prog_14_method_87_code, prog_14_method_88_code, prog_14_method_89_code, prog_14_method_90_code, prog_14_method_91_code, prog_14_method_92_code, prog_14_method_93_code, prog_14_method_94_code, prog_14_method_95_code, prog_14_method_96_code, prog_14_method_97_code, prog_14_method_98_code, prog_14_method_99_code, prog_14_method_100_code, prog_14_method_101_code, prog_14_method_102_code, prog_14_method_103_code, prog_14_method_104_code, prog_14_method_105_code, prog_14_method_106_code, prog_14_method_107_code, prog_14_method_108_code, prog_14_method_109_code, prog_14_method_110_code, prog_14_method_111_code, prog_14_method_112_code, prog_14_method_113_code, prog_14_method_114_code, prog_14_method_115_code, prog_14_method_116_code, prog_14_method_117_code, prog_14_method_118_code, prog_14_method_119_code, prog_14_method_120_code, prog_14_method_121_code, prog_14_method_122_code, prog_14_method_123_code, prog_14_method_124_code, prog_14_method_125_code, prog_14_method_126_code, prog_14_method_127_code, prog_14_method_128_code, prog_17_method_101_code, prog_17_method_103_code]
def zCd (μ : Nat) : ByteArray := zCds.getD μ ⟨#[]⟩
def zRts : List (Option FieldType) := [none, none, (some .boolean), none, none, none, (some .int), (some .boolean), (some .boolean), (some .boolean), (some .boolean), (some .boolean), none, (some .boolean), (some .boolean), none, none, (some .boolean), (some .int), (some .int), (some .int), none, none, (some .int), (some .int), none, none, none, (some .int), (some .int), (some .int), (some .boolean), none, (some .int), (some .boolean), (some .boolean), (some .int), (some .boolean), (some .boolean), (some .boolean), (some .boolean), (some .boolean), (some .int), (some .int), (some .int), (some .int), none, none, none, none, (some .boolean), (some .boolean), (some .boolean), none, none, (some .boolean), none, none, none, none, (some .boolean), (some .boolean), (some .int), (some .int), none, none, (some .boolean), none, none, none, (some .boolean), (some .boolean), (some .boolean), (some .boolean), (some .boolean), (some .boolean), (some .boolean), (some .boolean), (some .boolean), none, none, none, none, none, none, (some .int), (some .boolean), (some .boolean), (some .boolean), (some .int), none, none, none, (some .int), none, none, (some .boolean), (some .int), (some .boolean), (some .int), (some .int), (some .int), (some .int), (some .int), (some .int), (some .int), (some .int), (some .int), (some .int), (some .int), (some .int), (some .int), (some .int), (some .int), (some .int), (some .int), (some .int), (some .int), (some .int), (some .int), (some .int), (some .int), (some .int), (some .int), (some .int), (some .int), (some .int), (some .int), (some .boolean), (some .boolean), (some .boolean), none, none, (some .int), (some .int), (some .long), (some .long), (some .boolean), (some .int), none, (some .int), (some .boolean), none, (some .boolean), none, (some .boolean), (some .int), (some .boolean), (some .boolean), (some .int), (some .boolean), none, (some .boolean), (some .boolean), none, (some .long), (some .boolean), (some .boolean), none, (some .boolean), (some .boolean), (some .boolean), (some .long), (some .int), (some .int), none, none, (some .int), none, (some .int), (some .int), (some .int), (some .int), (some .int), (some .int), (some .int), (some .int), none, (some .int), none, none, none, (some .int), none, (some .int), none, (some .int), none, none, none, (some .boolean), (some .boolean), none, (some .int), none, (some .int), none, (some .int), (some .int), (some .int), (some .int), (some .int), (some .int), (some .int), (some .boolean), (some .boolean), (some .int), (some .int), (some .int), none, (some .int), (some .boolean), (some .int), (some .int), none, none, none, none, (some .boolean), none, none, (some .int), (some .boolean), (some .int), (some .int), (some .int), (some .int), (some .boolean), (some .int), (some .boolean), none, (some .boolean), (some .int), (some .boolean), none, none, (some .boolean), (some .boolean), none, none, (some .int), (some .int), (some .int), (some .int), (some .int), (some .int), (some .int), (some .long), (some .int), (some .int), (some .int), (some .int), (some .int), (some .int), (some .int), (some .int), (some .boolean), (some .int), (some .int), (some .int), (some .int), (some .int), (some .int), none, none]
def zRt (μ : Nat) : Option FieldType := zRts.getD μ none
def zOns : List Nat := [0, 0, 0, 0, 0, 0, 0, 0, 1, 1, 1, 1, 1, 1, 1, 1, 1, 1, 1, 1, 1, 2, 2, 2, 2, 2, 2, 2, 2, 2, 2, 2, 2, 2, 3, 3, 3, 3, 4, 4, 4, 4, 5, 5, 5, 6, 6, 6, 6, 6, 6, 6, 6, 6, 6, 6, 6, 6, 7, 7, 7, 7, 7, 8, 8, 8, 8, 8, 8, 8, 8, 8, 8, 8, 8, 8, 8, 8, 8, 9, 9, 9, 9, 9, 9, 9, 9, 9, 9, 9, 9, 9, 10, 10, 10, 10, 10, 11, 11, 11, 11, 11, 11, 11, 11, 11, 11, 11, 11, 11, 11, 11, 11, 11, 11, 11, 11, 11, 11, 11, 11, 11, 11, 11, 11, 11, 11, 11, 11, 11, 11, 11, 11, 11, 11, 11, 11, 12, 12, 12, 12, 12, 12, 12, 12, 12, 12, 12, 12, 12, 12, 12, 12, 12, 12, 12, 12, 12, 12, 12, 12, 12, 12, 12, 12, 12, 12, 12, 12, 12, 12, 12, 12, 12, 12, 12, 12, 12, 12, 12, 12, 12, 12, 12, 12, 12, 12, 12, 12, 12, 12, 12, 12, 12, 12, 12, 12, 12, 12, 12, 12, 12, 12, 12, 12, 12, 12, 12, 12, 12, 12, 12, 12, 12, 12, 12, 12, 12, 12, 12, 12, 12, 12, 12, 12, 12, 12, 12, 12, 12, 12, 12, 12, 12, 12, 12, 12, 12, 12, 12, 12, 12, 12, 12, 12, 12, 12, 12, 12, 12, 12, 12, 12, 12, 12, 12, 12, 12, 12, 12, 12, 12, 12, 14, 14]
def zOn (μ : Nat) : Nat := zOns.getD μ 0
def zFrs : List Nat := [0, 1, 0, 0, 0, 1, 2, 0, 6, 4, 5, 4, 0, 3, 3, 2, 2, 4, 1, 1, 3, 0, 1, 0, 0, 0, 0, 0, 0, 0, 1, 2, 1, 1, 6, 5, 3, 4, 5, 3, 4, 3, 3, 1, 0, 0, 0, 7, 7, 6, 6, 5, 4, 3, 6, 5, 0, 0, 1, 0, 2, 3, 3, 0, 0, 3, 0, 2, 1, 1, 0, 0, 0, 0, 0, 0, 0, 3, 3, 0, 2, 0, 1, 2, 1, 0, 1, 1, 2, 1, 3, 3, 1, 2, 1, 1, 0, 1, 0, 7, 6, 7, 0, 2, 2, 0, 1, 1, 2, 2, 3, 2, 4, 3, 5, 6, 5, 6, 5, 8, 3, 1, 1, 0, 2, 2, 3, 3, 0, 0, 0, 3, 4, 5, 1, 0, 0, 0, 0, 0, 1, 1, 0, 0, 0, 0, 0, 1, 1, 0, 1, 1, 1, 2, 3, 0, 2, 3, 0, 4, 1, 3, 4, 2, 5, 6, 7, 0, 1, 8, 0, 0, 1, 2, 0, 0, 0, 0, 0, 3, 5, 3, 6, 1, 1, 0, 5, 6, 0, 1, 7, 5, 8, 10, 9, 0, 2, 1, 1, 1, 1, 1, 1, 2, 3, 4, 5, 0, 1, 0, 1, 2, 6, 7, 0, 2, 1, 3, 2, 4, 0, 3, 5, 6, 8, 6, 8, 1, 6, 8, 3, 9, 0, 10, 11, 12, 9, 9, 10, 13, 14, 4, 1, 1, 1, 1, 1, 0, 1, 2, 2, 6, 6, 8, 2, 1, 1, 2, 2, 1, 3, 6, 3, 0, 0]
def zFr (μ : Nat) : Nat := zFrs.getD μ 0
def zLos : List Nat := [0, 39, 0, 0, 0, 24, 66, 0, 130, 85, 109, 85, 0, 64, 66, 45, 45, 85, 21, 21, 64, 0, 39, 0, 0, 0, 0, 0, 0, 0, 22, 46, 22, 22, 134, 110, 64, 86, 109, 64, 88, 64, 93, 23, 0, 0, 0, 188, 186, 164, 164, 140, 118, 65, 165, 140, 0, 0, 21, 0, 43, 63, 63, 0, 0, 64, 0, 42, 20, 20, 0, 0, 0, 0, 0, 0, 0, 64, 64, 0, 62, 0, 22, 50, 39, 0, 21, 21, 43, 39, 73, 73, 23, 49, 39, 24, 0, 22, 0, 156, 131, 151, 0, 43, 43, 0, 21, 22, 50, 43, 93, 66, 118, 93, 118, 138, 118, 138, 118, 209, 65, 22, 21, 0, 48, 48, 93, 83, 0, 0, 0, 83, 98, 118, 24, 0, 0, 0, 0, 0, 22, 25, 0, 0, 0, 0, 0, 25, 25, 0, 20, 22, 20, 41, 62, 0, 46, 68, 0, 90, 27, 68, 88, 46, 110, 133, 157, 0, 24, 182, 0, 0, 22, 43, 0, 0, 0, 0, 0, 65, 110, 62, 135, 23, 23, 0, 110, 133, 0, 25, 158, 112, 179, 224, 200, 0, 43, 22, 22, 22, 22, 22, 22, 50, 74, 99, 124, 0, 20, 0, 22, 44, 147, 171, 0, 48, 23, 72, 44, 95, 0, 68, 118, 147, 196, 139, 196, 25, 139, 196, 68, 218, 0, 245, 270, 292, 218, 218, 241, 313, 334, 90, 25, 25, 25, 25, 20, 0, 25, 49, 49, 147, 147, 196, 46, 25, 25, 46, 48, 22, 68, 147, 74, 0, 0]
def zLo (μ : Nat) : Nat := zLos.getD μ 0
def zNps : List Nat := [0, 1, 1, 2, 4, 1, 1, 3, 0, 0, 0, 0, 1, 0, 0, 0, 1, 0, 0, 0, 0, 0, 1, 1, 1, 1, 3, 1, 2, 1, 2, 0, 1, 2, 2, 2, 2, 2, 0, 0, 0, 1, 3, 1, 1, 3, 1, 0, 0, 0, 1, 4, 2, 1, 1, 4, 3, 0, 0, 1, 0, 1, 0, 2, 1, 0, 1, 0, 1, 1, 1, 1, 0, 1, 1, 0, 0, 1, 1, 0, 1, 2, 3, 1, 0, 1, 1, 1, 2, 3, 4, 3, 0, 1, 4, 1, 1, 5, 1, 0, 0, 0, 1, 1, 1, 1, 3, 2, 2, 2, 0, 3, 0, 1, 2, 1, 1, 0, 2, 2, 2, 4, 1, 2, 2, 2, 3, 0, 1, 1, 1, 0, 0, 0, 2, 2, 2, 3, 1, 1, 5, 1, 0, 0, 2, 0, 1, 1, 1, 0, 0, 0, 1, 1, 1, 6, 0, 1, 0, 1, 0, 0, 0, 0, 0, 1, 0, 1, 0, 0, 2, 1, 1, 2, 1, 2, 2, 2, 2, 3, 0, 0, 0, 0, 0, 5, 0, 0, 1, 2, 0, 0, 0, 0, 1, 1, 1, 2, 2, 1, 3, 3, 2, 4, 2, 2, 1, 0, 1, 0, 2, 2, 1, 3, 0, 1, 1, 0, 1, 3, 3, 1, 1, 2, 1, 1, 0, 1, 2, 2, 1, 5, 2, 4, 1, 0, 1, 1, 1, 1, 2, 2, 4, 1, 2, 1, 1, 3, 2, 2, 2, 1, 3, 0, 1, 3, 1, 2, 2, 1, 2, 0, 3, 2, 2]
def zNp (μ : Nat) : Nat := zNps.getD μ 0
def zRks : List Int := [0, 0, 1, 0, 0, 0, 1, 1, 1, 1, 1, 1, 0, 1, 1, 0, 0, 1, 1, 1, 1, 0, 0, 1, 1, 0, 0, 0, 1, 1, 1, 1, 0, 1, 1, 1, 1, 1, 1, 1, 1, 1, 1, 1, 1, 1, 0, 0, 0, 0, 1, 1, 1, 0, 0, 1, 0, 0, 0, 0, 1, 1, 1, 1, 0, 0, 1, 0, 0, 0, 1, 1, 1, 1, 1, 1, 1, 1, 1, 0, 0, 0, 0, 0, 0, 1, 1, 1, 1, 1, 0, 0, 0, 1, 0, 0, 1, 1, 1, 1, 1, 1, 1, 1, 1, 1, 1, 1, 1, 1, 1, 1, 1, 1, 1, 1, 1, 1, 1, 1, 1, 1, 1, 1, 1, 1, 1, 1, 1, 1, 1, 0, 0, 1, 1, 2, 2, 1, 1, 0, 1, 1, 0, 1, 0, 1, 1, 1, 1, 1, 1, 0, 1, 1, 0, 2, 1, 1, 0, 1, 1, 1, 2, 1, 1, 0, 0, 1, 0, 1, 1, 1, 1, 1, 1, 1, 1, 0, 1, 0, 0, 0, 1, 0, 1, 0, 1, 0, 0, 0, 1, 1, 0, 1, 0, 1, 0, 1, 1, 1, 1, 1, 1, 1, 1, 1, 1, 1, 1, 0, 1, 1, 1, 1, 0, 0, 0, 0, 1, 0, 0, 1, 1, 1, 1, 1, 1, 1, 1, 1, 0, 1, 1, 1, 0, 0, 1, 1, 0, 0, 1, 1, 1, 1, 1, 1, 1, 2, 1, 1, 1, 1, 1, 1, 1, 1, 1, 1, 1, 1, 1, 1, 1, 0, 0]
def zRk (μ : Nat) : Int := zRks.getD μ 0
def zStats : List Nat := [7, 34, 35, 36, 37, 45, 63, 70, 71, 129, 130, 134, 135, 136, 137, 138, 155, 247, 248, 263, 264]
def zInsts : List Nat := [0, 1, 2, 3, 4, 5, 6, 8, 9, 10, 11, 12, 13, 14, 15, 16, 17, 18, 19, 20, 21, 22, 23, 24, 25, 26, 27, 28, 29, 30, 31, 32, 33, 38, 39, 40, 41, 42, 43, 44, 46, 47, 48, 49, 50, 51, 52, 53, 54, 55, 56, 57, 58, 59, 60, 61, 62, 64, 65, 66, 67, 68, 69, 72, 73, 74, 75, 76, 77, 78, 79, 80, 81, 82, 83, 84, 85, 86, 87, 88, 89, 90, 91, 92, 93, 94, 95, 96, 97, 98, 99, 100, 101, 102, 103, 104, 105, 106, 107, 108, 109, 110, 111, 112, 113, 114, 115, 116, 117, 118, 119, 120, 121, 122, 123, 124, 125, 126, 127, 128, 131, 132, 133, 139, 140, 141, 142, 143, 144, 145, 146, 147, 148, 149, 150, 151, 152, 153, 154, 156, 157, 158, 159, 160, 161, 162, 163, 164, 165, 166, 167, 168, 169, 170, 171, 172, 173, 174, 175, 176, 177, 178, 179, 180, 181, 182, 183, 184, 185, 186, 187, 188, 189, 190, 191, 192, 193, 194, 195, 196, 197, 198, 199, 200, 201, 202, 203, 204, 205, 206, 207, 208, 209, 210, 211, 212, 213, 214, 215, 216, 217, 218, 219, 220, 221, 222, 223, 224, 225, 226, 227, 228, 229, 230, 231, 232, 233, 234, 235, 236, 237, 238, 239, 240, 241, 242, 243, 244, 245, 246, 249, 250, 251, 252, 253, 254, 255, 256, 257, 258, 259, 260, 261, 262]
/-- links of fields: who, which entry, the class, the field -/
def zFl : List (Nat × Nat × Nat × Nat) := [(8, 9, 8, 0), (8, 19, 8, 1), (8, 22, 8, 2), (8, 25, 8, 3), (8, 34, 8, 4), (8, 51, 8, 5), (8, 28, 8, 6), (8, 15, 8, 7), (2, 40, 2, 0), (2, 44, 2, 1), (2, 9, 2, 2), (2, 15, 2, 3), (2, 19, 2, 4), (2, 22, 2, 5), (2, 25, 2, 6), (2, 28, 2, 7), (2, 31, 2, 8), (2, 34, 2, 9), (2, 37, 2, 10), (0, 30, 0, 0), (0, 9, 0, 1), (0, 15, 0, 2), (0, 34, 0, 3), (0, 18, 0, 4), (0, 21, 0, 5), (0, 24, 0, 6), (0, 27, 0, 7), (9, 33, 9, 0), (9, 37, 9, 1), (9, 68, 9, 2), (9, 9, 9, 3), (9, 15, 9, 4), (9, 18, 9, 5), (9, 21, 9, 6), (9, 24, 9, 7), (9, 27, 9, 8), (9, 30, 9, 9), (4, 15, 4, 0), (4, 19, 4, 1), (4, 23, 4, 2), (4, 9, 4, 3), (4, 27, 4, 4), (1, 15, 1, 0), (1, 19, 1, 1), (1, 23, 1, 2), (1, 11, 1, 3), (1, 83, 1, 4), (1, 86, 1, 5), (10, 43, 10, 0), (10, 11, 10, 1), (10, 15, 10, 2), (10, 18, 10, 3), (10, 21, 10, 4), (10, 24, 10, 5), (10, 28, 10, 6), (10, 31, 10, 7), (10, 34, 10, 8), (10, 51, 10, 9), (5, 22, 5, 0), (5, 26, 5, 1), (5, 9, 5, 2), (5, 15, 5, 3), (5, 19, 5, 4), (5, 36, 5, 5), (5, 76, 5, 6), (5, 45, 5, 7), (7, 9, 7, 0), (7, 19, 7, 1), (7, 23, 7, 2), (7, 26, 7, 3), (6, 22, 6, 0), (6, 26, 6, 1), (6, 29, 6, 2), (6, 33, 6, 3), (6, 37, 6, 4), (6, 9, 6, 5), (6, 49, 6, 6), (6, 15, 6, 7), (6, 19, 6, 8), (11, 12, 11, 0), (11, 19, 11, 1), (11, 23, 11, 2), (11, 29, 11, 3), (11, 33, 11, 4), (11, 41, 11, 5), (11, 45, 11, 6), (11, 48, 11, 7), (11, 125, 11, 8), (11, 57, 11, 9), (11, 66, 11, 10), (11, 73, 11, 11), (11, 82, 11, 12), (11, 91, 11, 13), (11, 100, 11, 14), (12, 136, 12, 0), (12, 7, 12, 1), (12, 139, 12, 2), (12, 150, 12, 3), (12, 153, 12, 4), (12, 156, 12, 5), (12, 159, 12, 6), (12, 162, 12, 7), (12, 165, 12, 8), (12, 13, 12, 9), (12, 209, 12, 10), (12, 206, 12, 11), (12, 234, 12, 12), (12, 240, 12, 13), (12, 17, 12, 14), (12, 21, 12, 15), (12, 25, 12, 16), (12, 28, 12, 17), (12, 31, 12, 18), (12, 34, 12, 19), (12, 37, 12, 20), (12, 40, 12, 21), (12, 43, 12, 22), (12, 46, 12, 23), (12, 289, 12, 24), (12, 333, 12, 25), (12, 49, 12, 26), (12, 52, 12, 27), (12, 298, 12, 28), (12, 55, 12, 29), (12, 58, 12, 30), (12, 61, 12, 31), (12, 64, 12, 32), (12, 67, 12, 33), (12, 70, 12, 34), (12, 73, 12, 35), (12, 76, 12, 36), (12, 286, 12, 37), (12, 336, 12, 38), (12, 79, 12, 39), (12, 352, 12, 40), (12, 355, 12, 41), (12, 82, 12, 42), (12, 85, 12, 43), (12, 88, 12, 44), (12, 91, 12, 45), (12, 381, 12, 46), (12, 95, 12, 47), (12, 99, 12, 48), (12, 440, 12, 49), (12, 434, 12, 50), (12, 443, 12, 51), (12, 103, 12, 52), (12, 106, 12, 53), (12, 109, 12, 54), (12, 112, 12, 55), (12, 115, 12, 56), (12, 422, 12, 57), (12, 118, 12, 58), (12, 121, 12, 59), (12, 458, 12, 60), (12, 124, 12, 61), (12, 127, 12, 62), (12, 130, 12, 63), (12, 470, 12, 64), (12, 473, 12, 65), (12, 476, 12, 66), (12, 506, 12, 67), (12, 509, 12, 68), (12, 133, 12, 69), (12, 512, 12, 70)]
def zNl : List (Nat × Nat × Nat × Nat) := [(11, 104, 8, 1), (3, 51, 8, 5), (1, 65, 8, 5), (4, 83, 8, 5), (11, 152, 8, 6), (11, 155, 8, 7), (3, 41, 2, 0), (11, 131, 2, 0), (3, 75, 2, 1), (11, 168, 2, 1), (11, 184, 2, 2), (4, 93, 2, 3), (11, 196, 2, 3), (4, 97, 2, 4), (9, 76, 2, 4), (11, 200, 2, 4), (11, 203, 2, 5), (3, 88, 2, 6), (11, 206, 2, 6), (11, 192, 2, 8), (9, 55, 2, 9), (11, 212, 2, 9), (5, 66, 0, 0), (1, 55, 0, 0), (11, 149, 0, 0), (11, 195, 0, 1), (5, 79, 0, 2), (5, 57, 9, 1), (10, 54, 9, 1), (7, 29, 9, 1), (4, 73, 9, 1), (6, 56, 9, 1), (11, 142, 9, 1), (6, 40, 9, 2), (11, 181, 9, 2), (4, 61, 9, 3), (10, 72, 9, 3), (11, 218, 9, 3), (4, 58, 9, 4), (10, 75, 9, 4), (11, 229, 9, 4), (11, 232, 9, 5), (11, 235, 9, 6), (11, 223, 9, 7), (7, 41, 9, 8), (6, 73, 9, 8), (11, 226, 9, 8), (5, 42, 10, 0), (11, 171, 10, 0), (11, 312, 10, 1), (5, 39, 10, 2), (11, 309, 10, 2), (11, 313, 10, 3), (11, 316, 10, 4), (11, 162, 5, 3), (11, 165, 5, 4), (11, 172, 5, 5), (11, 175, 5, 6), (11, 178, 5, 7), (11, 263, 7, 1), (11, 266, 7, 2), (11, 269, 7, 3), (11, 290, 6, 4)]
def zTs : List u_T := [TX0, TX1, TX2, TX3, TX4, TX5, TX6, TX7, TX8, TX9, TX10, TX11, TX12]
def zT (c : Nat) : u_T := zTs.getD c TX0
def zMk : List (Nat × Nat × Nat) := [(10, 37, 264), (11, 108, 64), (11, 112, 34), (3, 9, 21), (3, 14, 65), (8, 31, 67), (8, 37, 70), (8, 41, 68), (8, 45, 71), (8, 48, 69), (3, 19, 35), (3, 37, 73), (3, 32, 66), (3, 45, 67), (3, 48, 76), (3, 54, 23), (3, 58, 36), (3, 72, 24), (3, 78, 25), (3, 62, 26), (3, 66, 78), (8, 64, 74), (8, 61, 66), (3, 69, 37), (3, 82, 74), (3, 85, 27), (3, 25, 72), (3, 29, 31), (2, 61, 32), (2, 53, 29), (2, 57, 28), (11, 118, 22), (11, 121, 79), (11, 124, 0), (11, 128, 92), (11, 134, 38), (4, 31, 79), (4, 36, 65), (4, 41, 74), (4, 45, 39), (4, 64, 29), (4, 55, 66), (4, 70, 67), (4, 49, 40), (4, 76, 41), (4, 80, 76), (4, 86, 23), (4, 89, 30), (4, 100, 81), (4, 52, 72), (11, 137, 131), (11, 140, 80), (9, 41, 79), (9, 44, 82), (9, 51, 81), (9, 48, 84), (11, 145, 8), (1, 27, 0), (1, 32, 65), (1, 37, 72), (1, 41, 9), (1, 48, 73), (1, 52, 66), (1, 59, 67), (1, 62, 76), (1, 68, 2), (1, 72, 77), (8, 58, 73), (1, 75, 75), (1, 78, 3), (1, 44, 10), (1, 89, 13), (1, 120, 74), (1, 106, 12), (1, 92, 17), (1, 123, 18), (1, 127, 20), (1, 142, 23), (1, 130, 19), (1, 133, 4), (1, 95, 15), (1, 113, 5), (0, 43, 4), (1, 98, 14), (1, 102, 16), (1, 110, 11), (1, 116, 78), (11, 146, 1), (11, 158, 129), (11, 188, 63), (11, 209, 28), (11, 215, 33), (11, 219, 85), (11, 238, 86), (9, 64, 29), (11, 241, 6), (0, 47, 89), (0, 53, 7), (11, 245, 89), (11, 249, 42), (5, 30, 93), (10, 47, 95), (10, 69, 263), (10, 59, 96), (5, 48, 6), (5, 53, 43), (5, 67, 264), (5, 73, 44), (5, 62, 94), (11, 253, 44), (11, 256, 62), (7, 49, 58), (7, 15, 59), (7, 53, 60), (7, 34, 86), (7, 38, 87), (9, 79, 85), (7, 45, 85), (11, 260, 61), (11, 272, 132), (11, 326, 90), (9, 89, 83), (9, 60, 33), (11, 275, 133), (11, 278, 58), (11, 282, 60), (11, 285, 128), (11, 288, 46), (11, 293, 47), (6, 45, 53), (6, 98, 88), (9, 82, 86), (9, 86, 87), (6, 52, 54), (6, 101, 55), (6, 111, 45), (6, 115, 56), (6, 119, 91), (6, 84, 52), (6, 88, 42), (6, 94, 80), (6, 123, 57), (11, 296, 48), (6, 59, 50), (6, 76, 85), (6, 66, 51), (6, 80, 90), (11, 299, 49), (6, 63, 86), (6, 70, 87), (11, 302, 88), (11, 306, 45), (11, 319, 130), (11, 322, 134), (11, 330, 135), (11, 334, 136), (12, 142, 139), (12, 146, 137), (12, 267, 142), (12, 270, 150), (12, 180, 149), (12, 199, 151), (12, 184, 144), (12, 188, 143), (12, 273, 166), (12, 227, 155), (12, 220, 157), (12, 217, 156), (12, 212, 147), (12, 168, 146), (12, 224, 158), (12, 246, 162), (12, 237, 161), (12, 231, 160), (12, 253, 164), (12, 256, 138), (12, 260, 165), (12, 250, 154), (12, 196, 153), (12, 192, 152), (12, 276, 168), (12, 264, 167), (12, 279, 145), (12, 282, 170), (12, 292, 209), (12, 321, 181), (12, 301, 175), (12, 295, 172), (12, 307, 174), (12, 324, 180), (12, 310, 171), (12, 314, 179), (12, 304, 173), (12, 318, 178), (12, 327, 183), (12, 330, 177), (12, 373, 194), (12, 339, 159), (12, 345, 163), (12, 243, 148), (12, 378, 192), (12, 367, 190), (12, 358, 187), (12, 342, 186), (12, 348, 185), (12, 361, 188), (12, 370, 191), (12, 364, 189), (12, 489, 221), (12, 479, 196), (12, 384, 176), (12, 482, 220), (12, 486, 218), (12, 452, 197), (12, 497, 222), (12, 492, 219), (12, 464, 214), (12, 467, 217), (12, 455, 215), (12, 449, 198), (12, 461, 216), (12, 428, 206), (12, 408, 205), (12, 404, 204), (12, 400, 203), (12, 387, 199), (12, 390, 202), (12, 393, 200), (12, 397, 201), (12, 500, 213), (12, 437, 211), (12, 425, 210), (12, 446, 212), (12, 431, 208), (12, 419, 207), (12, 503, 227), (12, 550, 239), (12, 541, 235), (12, 529, 230), (12, 521, 231), (12, 515, 229), (12, 532, 234), (12, 525, 233), (12, 518, 232), (12, 544, 238), (12, 535, 236), (12, 538, 237), (12, 565, 248), (12, 559, 247), (12, 576, 256), (12, 581, 259)]
def zAc : List (Nat × Nat) := [(2, 47), (0, 37), (10, 63)]
def zMx : List (Nat × Nat) := [(9, 71)]
def zMi : List (Nat × Nat) := [(6, 105)]
def zKi : List (Nat × Nat × Int) := [(3, 36, 217658368), (3, 40, 407934976), (1, 47, 89358336), (1, 71, 507661312), (1, 82, 780318720), (1, 119, 486146048), (1, 137, 647828480), (1, 138, 139640832), (1, 139, 270106624), (1, 140, 719459904), (1, 141, 475811840), (1, 101, 48365568), (1, 109, 522190848), (5, 82, 1103515245), (5, 83, 2147483647), (7, 52, 100000), (11, 281, 100000), (6, 55, 100000), (11, 325, 1000000), (12, 102, 48000), (12, 263, 1000000)]
def zKj : List (Nat × Nat × Int) := [(10, 78, 31), (11, 337, 10000), (12, 202, 32), (12, 204, 3221225472), (12, 172, 97), (12, 174, 122), (12, 215, 96), (12, 176, 48), (12, 178, 57), (12, 376, 100), (12, 495, 4), (12, 411, 1103515245), (12, 413, 12345), (12, 415, 2147483648), (12, 417, 64), (12, 548, 3), (12, 553, 80), (12, 555, -1), (12, 557, 9), (12, 563, 10000), (12, 568, 1000000), (12, 570, 1000), (12, 572, 5), (12, 574, 31), (12, 579, 10)]
theorem zAt {α : Type} {f : α → Jvm.Cond} {l : List α} (ps : List Nat) (h : l.map f = ps.filterMap (fun i => lw_tbl[i]?)) : ∀ x ∈ l, f x ∈ lw_tbl := by
  intro x hx
  have h1 : f x ∈ l.map f := List.mem_map.mpr ⟨x, hx, rfl⟩
  rw [h] at h1
  obtain ⟨i, -, hi⟩ := List.mem_filterMap.mp h1
  exact List.mem_of_getElem? hi
set_option maxRecDepth 100000 in
theorem zc_init : ∀ x ∈ List.range 265, (fun μ => Jvm.Cond.initialized (zY μ).cls) x ∈ lw_tbl := zAt [130, 130, 130, 130, 130, 130, 130, 130, 133, 133, 133, 133, 133, 133, 133, 133, 133, 133, 133, 133, 133, 129, 129, 129, 129, 129, 129, 129, 129, 129, 129, 129, 129, 129, 140, 140, 140, 140, 132, 132, 132, 132, 136, 136, 136, 138, 138, 138, 138, 138, 138, 138, 138, 138, 138, 138, 138, 138, 137, 137, 137, 137, 137, 128, 128, 128, 128, 128, 128, 128, 128, 128, 128, 128, 128, 128, 128, 128, 128, 131, 131, 131, 131, 131, 131, 131, 131, 131, 131, 131, 131, 131, 134, 134, 134, 134, 134, 127, 127, 127, 127, 127, 127, 127, 127, 127, 127, 127, 127, 127, 127, 127, 127, 127, 127, 127, 127, 127, 127, 127, 127, 127, 127, 127, 127, 127, 127, 127, 127, 127, 127, 127, 127, 127, 127, 127, 127, 139, 139, 139, 139, 139, 139, 139, 139, 139, 139, 139, 139, 139, 139, 139, 139, 139, 139, 139, 139, 139, 139, 139, 139, 139, 139, 139, 139, 139, 139, 139, 139, 139, 139, 139, 139, 139, 139, 139, 139, 139, 139, 139, 139, 139, 139, 139, 139, 139, 139, 139, 139, 139, 139, 139, 139, 139, 139, 139, 139, 139, 139, 139, 139, 139, 139, 139, 139, 139, 139, 139, 139, 139, 139, 139, 139, 139, 139, 139, 139, 139, 139, 139, 139, 139, 139, 139, 139, 139, 139, 139, 139, 139, 139, 139, 139, 139, 139, 139, 139, 139, 139, 139, 139, 139, 139, 139, 139, 139, 139, 139, 139, 139, 139, 139, 139, 139, 139, 139, 139, 139, 139, 139, 139, 139, 139, 135, 135] (by decide +kernel)
set_option maxRecDepth 100000 in
theorem zc_inst : ∀ x ∈ zInsts, (fun μ => Jvm.Cond.instanceMethod (zY μ)) x ∈ lw_tbl := zAt [708, 877, 794, 808, 849, 857, 938, 778, 786, 814, 873, 824, 818, 863, 854, 867, 828, 832, 846, 841, 595, 697, 641, 648, 652, 656, 673, 693, 689, 744, 681, 686, 917, 720, 728, 735, 739, 958, 980, 984, 1076, 1080, 1127, 1141, 1132, 1137, 1114, 1085, 1095, 1099, 1106, 1120, 1008, 1013, 1017, 1028, 1004, 580, 599, 630, 603, 611, 618, 677, 625, 664, 804, 635, 799, 660, 704, 757, 748, 763, 1041, 767, 925, 929, 1022, 1088, 942, 1036, 1109, 712, 962, 990, 967, 975, 576, 584, 588, 716, 774, 882, 886, 893, 897, 901, 908, 913, 921, 934, 949, 954, 995, 1000, 1045, 1053, 1057, 1064, 1072, 1147, 1152, 1157, 1161, 1165, 1182, 1187, 1191, 1069, 754, 1033, 1050, 1421, 1416, 1424, 1436, 1456, 1452, 1536, 1481, 1477, 1616, 1444, 1440, 1448, 1523, 1519, 1515, 1473, 1469, 1488, 1608, 1500, 1496, 1492, 1612, 1504, 1511, 1460, 1532, 1527, 1431, 1540, 1572, 1560, 1580, 1564, 1556, 1671, 1592, 1584, 1576, 1568, 1552, 1547, 1588, 1595, 1639, 1635, 1631, 1643, 1651, 1627, 1647, 1623, 1599, 1604, 1654, 1667, 1683, 1708, 1732, 1740, 1744, 1736, 1728, 1724, 1720, 1716, 1772, 1768, 1544, 1760, 1756, 1764, 1752, 1696, 1704, 1712, 1700, 1679, 1692, 1675, 1663, 1688, 1658, 1747, 1779, 1783, 1792, 1787, 1817, 1809, 1813, 1829, 1825, 1821, 1805, 1837, 1841, 1833, 1801, 1795, 1844, 1848, 1853, 1858, 1862, 1867, 1871, 1882, 1887, 1891, 1896, 1900, 1904, 1915, 1910, 1919, 1928, 1923, 1931, 1935] (by decide +kernel)
set_option maxRecDepth 100000 in
theorem zc_sel : ∀ x ∈ zInsts, (fun μ => Jvm.Cond.selects (zY μ).cls (zY μ) (zY μ)) x ∈ lw_tbl := zAt [709, 878, 795, 809, 850, 858, 939, 779, 8, 9, 19, 11, 10, 17, 16, 18, 12, 13, 15, 14, 596, 698, 642, 649, 653, 657, 674, 694, 690, 745, 682, 2, 918, 721, 3, 4, 5, 959, 22, 985, 1077, 1081, 1128, 1142, 34, 35, 32, 28, 29, 30, 31, 33, 1009, 23, 1018, 1029, 1005, 581, 600, 631, 604, 0, 1, 678, 626, 665, 805, 636, 800, 661, 705, 758, 749, 7, 25, 768, 926, 930, 1023, 1089, 943, 1037, 1110, 713, 963, 991, 20, 21, 577, 585, 589, 717, 775, 883, 887, 894, 898, 902, 909, 914, 922, 935, 950, 955, 996, 1001, 1046, 1054, 1058, 1065, 1073, 1148, 1153, 1158, 1162, 1166, 1183, 1188, 1192, 27, 6, 24, 26, 36, 1417, 1425, 37, 42, 41, 59, 47, 46, 76, 39, 38, 40, 56, 55, 54, 45, 44, 48, 74, 51, 50, 49, 75, 52, 53, 43, 58, 57, 1432, 60, 67, 64, 69, 65, 63, 87, 72, 70, 68, 66, 62, 1548, 71, 1596, 81, 80, 79, 82, 84, 78, 83, 77, 1600, 73, 1655, 86, 90, 96, 102, 104, 105, 103, 101, 100, 99, 98, 111, 110, 61, 108, 107, 109, 106, 93, 95, 97, 94, 89, 92, 88, 85, 91, 1659, 1748, 1780, 1784, 112, 1788, 117, 115, 116, 120, 119, 118, 114, 122, 123, 121, 113, 1796, 1845, 1849, 1854, 1859, 1863, 1868, 1872, 1883, 1888, 1892, 1897, 1901, 1905, 124, 1911, 1920, 125, 1924, 1932, 1936] (by decide +kernel)
set_option maxRecDepth 100000 in
theorem zc_stat : ∀ x ∈ zStats, (fun μ => Jvm.Cond.static (zY μ)) x ∈ lw_tbl := zAt [946, 592, 621, 645, 669, 1102, 905, 607, 614, 890, 1169, 1172, 1175, 1178, 1428, 1507, 1463, 1878, 1875, 970, 395] (by decide +kernel)
set_option maxRecDepth 100000 in
theorem zc_fl : ∀ x ∈ zFl, (fun (q : Nat × Nat × Nat × Nat) => Jvm.Cond.fieldLink (zCn q.1) q.2.1 (zCn q.2.2.1) (zT q.2.2.1 q.2.2.2).2.1 (zT q.2.2.1 q.2.2.2).2.2.1) x ∈ lw_tbl := zAt [157, 159, 160, 161, 162, 166, 167, 169, 195, 198, 201, 203, 206, 210, 212, 215, 216, 218, 221, 253, 257, 259, 261, 262, 263, 264, 265, 289, 290, 298, 300, 304, 308, 310, 312, 314, 318, 347, 348, 349, 350, 351, 369, 370, 371, 372, 373, 374, 397, 400, 402, 405, 407, 409, 410, 411, 412, 413, 442, 443, 444, 445, 447, 449, 451, 453, 478, 479, 481, 483, 500, 501, 502, 503, 504, 506, 507, 508, 509, 529, 530, 531, 532, 533, 534, 535, 536, 537, 538, 539, 540, 541, 542, 543, 1201, 1202, 1203, 1204, 1205, 1206, 1207, 1208, 1209, 1210, 1211, 1212, 1213, 1214, 1215, 1216, 1217, 1218, 1219, 1220, 1221, 1222, 1223, 1224, 1225, 1226, 1227, 1228, 1229, 1230, 1231, 1232, 1233, 1234, 1235, 1236, 1237, 1238, 1239, 1240, 1241, 1242, 1243, 1244, 1245, 1246, 1247, 1248, 1249, 1250, 1251, 1252, 1253, 1254, 1255, 1256, 1257, 1258, 1259, 1260, 1261, 1262, 1263, 1264, 1265, 1266, 1267, 1268, 1269, 1270, 1271] (by decide +kernel)
set_option maxRecDepth 100000 in
theorem zc_nl : ∀ x ∈ zNl, (fun (q : Nat × Nat × Nat × Nat) => Jvm.Cond.fieldLinkNest (zCn q.1) q.2.1 (zCn q.2.2.1) (zT q.2.2.1 q.2.2.2).2.1 (zT q.2.2.1 q.2.2.2).2.2.1 "LeastFailing") x ∈ lw_tbl := zAt [158, 163, 164, 165, 168, 170, 196, 197, 199, 200, 202, 204, 205, 207, 208, 209, 211, 213, 214, 217, 219, 220, 254, 255, 256, 258, 260, 291, 292, 293, 294, 295, 296, 297, 299, 301, 302, 303, 305, 306, 307, 309, 311, 313, 315, 316, 317, 398, 399, 401, 403, 404, 406, 408, 446, 448, 450, 452, 454, 480, 482, 484, 505] (by decide +kernel)
set_option maxRecDepth 100000 in
theorem zc_mk : ∀ x ∈ zMk, (fun (q : Nat × Nat × Nat) => Jvm.Cond.methodLink (zCn q.1) q.2.1 (zY q.2.2)) x ∈ lw_tbl := zAt [394, 579, 591, 594, 598, 602, 606, 609, 613, 616, 620, 624, 629, 633, 634, 640, 644, 647, 651, 655, 659, 663, 667, 668, 671, 672, 676, 680, 684, 688, 692, 696, 703, 707, 711, 719, 723, 724, 725, 726, 730, 731, 732, 733, 737, 741, 742, 743, 747, 751, 752, 756, 760, 761, 765, 766, 777, 781, 782, 783, 784, 789, 790, 791, 792, 793, 798, 802, 803, 807, 812, 816, 821, 822, 826, 830, 839, 843, 844, 848, 852, 856, 860, 861, 865, 871, 875, 876, 889, 904, 911, 916, 924, 928, 932, 937, 941, 945, 952, 957, 961, 965, 969, 973, 977, 978, 982, 983, 989, 998, 1003, 1007, 1011, 1016, 1020, 1021, 1025, 1026, 1027, 1031, 1035, 1039, 1043, 1048, 1060, 1062, 1067, 1075, 1079, 1083, 1087, 1091, 1092, 1093, 1097, 1101, 1104, 1108, 1112, 1116, 1117, 1118, 1126, 1130, 1134, 1135, 1139, 1140, 1144, 1145, 1150, 1155, 1168, 1171, 1174, 1177, 1419, 1427, 1434, 1438, 1442, 1446, 1450, 1454, 1458, 1462, 1467, 1471, 1475, 1479, 1486, 1490, 1494, 1498, 1502, 1506, 1509, 1513, 1517, 1521, 1525, 1530, 1534, 1538, 1542, 1550, 1554, 1558, 1562, 1566, 1570, 1574, 1578, 1582, 1586, 1590, 1602, 1606, 1610, 1614, 1621, 1625, 1629, 1633, 1637, 1641, 1645, 1649, 1661, 1665, 1669, 1673, 1677, 1681, 1686, 1690, 1694, 1698, 1702, 1706, 1710, 1714, 1718, 1722, 1726, 1730, 1734, 1738, 1742, 1750, 1754, 1758, 1762, 1766, 1770, 1790, 1799, 1803, 1807, 1811, 1815, 1819, 1823, 1827, 1831, 1835, 1839, 1874, 1877, 1913, 1926] (by decide +kernel)
set_option maxRecDepth 100000 in
theorem zc_max : ∀ x ∈ zMx, (fun (q : Nat × Nat) => Jvm.Cond.methodLink (zCn q.1) q.2 Lib.Math.max.name) x ∈ lw_tbl := zAt [770] (by decide +kernel)
set_option maxRecDepth 100000 in
theorem zc_min : ∀ x ∈ zMi, (fun (q : Nat × Nat) => Jvm.Cond.methodLink (zCn q.1) q.2 Lib.Math.min.name) x ∈ lw_tbl := zAt [1123] (by decide +kernel)
set_option maxRecDepth 100000 in
theorem zc_ac : ∀ x ∈ zAc, (fun (q : Nat × Nat) => Jvm.Cond.methodLink (zCn q.1) q.2 arraycopyName) x ∈ lw_tbl := zAt [700, 880, 993] (by decide +kernel)
set_option maxRecDepth 100000 in
theorem zc_ki : ∀ x ∈ zKi, (fun (q : Nat × Nat × Int) => Jvm.Cond.constant (zCn q.1) q.2.1 (Int32.ofInt q.2.2)) x ∈ lw_tbl := zAt [623, 628, 788, 797, 811, 820, 834, 835, 836, 837, 838, 869, 870, 987, 988, 1015, 1061, 1122, 1185, 1200, 1529] (by decide +kernel)
set_option maxRecDepth 100000 in
theorem zc_kj : ∀ x ∈ zKj, (fun (q : Nat × Nat × Int) => Jvm.Cond.constantLong (zCn q.1) q.2.1 (Int64.ofInt q.2.2)) x ∈ lw_tbl := zAt [972, 1180, 1465, 1466, 1483, 1484, 1485, 1618, 1619, 1620, 1685, 1774, 1775, 1776, 1777, 1798, 1851, 1856, 1865, 1880, 1885, 1894, 1907, 1908, 1917] (by decide +kernel)
set_option maxRecDepth 100000 in
theorem zl_0 : ∀ w ∈ u_ws RX0 TX0 8, w ∈ lw_tbl := by
  intro w hw
  obtain ⟨k, hk, rfl⟩ := List.mem_map.mp hw
  exact zAt (f := u_lay RX0 TX0) (l := List.range 8) [266, 268, 270, 272, 274, 276, 278, 280] (by decide +kernel) k hk
set_option maxRecDepth 100000 in
theorem zl_1 : ∀ w ∈ u_ws RX1 TX1 6, w ∈ lw_tbl := by
  intro w hw
  obtain ⟨k, hk, rfl⟩ := List.mem_map.mp hw
  exact zAt (f := u_lay RX1 TX1) (l := List.range 6) [375, 377, 379, 381, 383, 385] (by decide +kernel) k hk
set_option maxRecDepth 100000 in
theorem zl_2 : ∀ w ∈ u_ws RX2 TX2 11, w ∈ lw_tbl := by
  intro w hw
  obtain ⟨k, hk, rfl⟩ := List.mem_map.mp hw
  exact zAt (f := u_lay RX2 TX2) (l := List.range 11) [222, 224, 226, 228, 230, 232, 234, 236, 238, 240, 242] (by decide +kernel) k hk
set_option maxRecDepth 100000 in
theorem zl_4 : ∀ w ∈ u_ws RX4 TX4 5, w ∈ lw_tbl := by
  intro w hw
  obtain ⟨k, hk, rfl⟩ := List.mem_map.mp hw
  exact zAt (f := u_lay RX4 TX4) (l := List.range 5) [352, 354, 356, 358, 360] (by decide +kernel) k hk
set_option maxRecDepth 100000 in
theorem zl_5 : ∀ w ∈ u_ws RX5 TX5 8, w ∈ lw_tbl := by
  intro w hw
  obtain ⟨k, hk, rfl⟩ := List.mem_map.mp hw
  exact zAt (f := u_lay RX5 TX5) (l := List.range 8) [455, 457, 459, 461, 463, 465, 467, 469] (by decide +kernel) k hk
set_option maxRecDepth 100000 in
theorem zl_6 : ∀ w ∈ u_ws RX6 TX6 9, w ∈ lw_tbl := by
  intro w hw
  obtain ⟨k, hk, rfl⟩ := List.mem_map.mp hw
  exact zAt (f := u_lay RX6 TX6) (l := List.range 9) [510, 512, 514, 516, 518, 520, 522, 524, 526] (by decide +kernel) k hk
set_option maxRecDepth 100000 in
theorem zl_7 : ∀ w ∈ u_ws RX7 TX7 4, w ∈ lw_tbl := by
  intro w hw
  obtain ⟨k, hk, rfl⟩ := List.mem_map.mp hw
  exact zAt (f := u_lay RX7 TX7) (l := List.range 4) [485, 487, 489, 491] (by decide +kernel) k hk
set_option maxRecDepth 100000 in
theorem zl_8 : ∀ w ∈ u_ws RX8 TX8 8, w ∈ lw_tbl := by
  intro w hw
  obtain ⟨k, hk, rfl⟩ := List.mem_map.mp hw
  exact zAt (f := u_lay RX8 TX8) (l := List.range 8) [171, 173, 175, 177, 179, 181, 183, 185] (by decide +kernel) k hk
set_option maxRecDepth 100000 in
theorem zl_9 : ∀ w ∈ u_ws RX9 TX9 10, w ∈ lw_tbl := by
  intro w hw
  obtain ⟨k, hk, rfl⟩ := List.mem_map.mp hw
  exact zAt (f := u_lay RX9 TX9) (l := List.range 10) [319, 321, 323, 325, 327, 329, 331, 333, 335, 337] (by decide +kernel) k hk
set_option maxRecDepth 100000 in
theorem zl_10 : ∀ w ∈ u_ws RX10 TX10 10, w ∈ lw_tbl := by
  intro w hw
  obtain ⟨k, hk, rfl⟩ := List.mem_map.mp hw
  exact zAt (f := u_lay RX10 TX10) (l := List.range 10) [414, 416, 418, 420, 422, 424, 426, 428, 430, 432] (by decide +kernel) k hk
set_option maxRecDepth 100000 in
theorem zl_11 : ∀ w ∈ u_ws RX11 TX11 15, w ∈ lw_tbl := by
  intro w hw
  obtain ⟨k, hk, rfl⟩ := List.mem_map.mp hw
  exact zAt (f := u_lay RX11 TX11) (l := List.range 15) [544, 546, 548, 550, 552, 554, 556, 558, 560, 562, 564, 566, 568, 570, 572] (by decide +kernel) k hk
set_option maxRecDepth 100000 in
theorem zl_12 : ∀ w ∈ u_ws RX12 TX12 71, w ∈ lw_tbl := by
  intro w hw
  obtain ⟨k, hk, rfl⟩ := List.mem_map.mp hw
  exact zAt (f := u_lay RX12 TX12) (l := List.range 71) [1272, 1274, 1276, 1278, 1280, 1282, 1284, 1286, 1288, 1290, 1292, 1294, 1296, 1298, 1300, 1302, 1304, 1306, 1308, 1310, 1312, 1314, 1316, 1318, 1320, 1322, 1324, 1326, 1328, 1330, 1332, 1334, 1336, 1338, 1340, 1342, 1344, 1346, 1348, 1350, 1352, 1354, 1356, 1358, 1360, 1362, 1364, 1366, 1368, 1370, 1372, 1374, 1376, 1378, 1380, 1382, 1384, 1386, 1388, 1390, 1392, 1394, 1396, 1398, 1400, 1402, 1404, 1406, 1408, 1410, 1412] (by decide +kernel) k hk
theorem zI1 {w : Jvm.Cond} (h : w ∈ tables_1_1) : w ∈ lw_tbl := List.mem_append_right _ (List.mem_append_left _ h)
theorem zI2 {w : Jvm.Cond} (h : w ∈ tables_1_2) : w ∈ lw_tbl := List.mem_append_right _ (List.mem_append_right _ (List.mem_append_left _ h))
theorem zI3 {w : Jvm.Cond} (h : w ∈ tables_1_3) : w ∈ lw_tbl := List.mem_append_right _ (List.mem_append_right _ (List.mem_append_right _ (List.mem_append_left _ h)))
theorem zI4 {w : Jvm.Cond} (h : w ∈ tables_1_4) : w ∈ lw_tbl := List.mem_append_right _ (List.mem_append_right _ (List.mem_append_right _ (List.mem_append_right _ (List.mem_append_left _ h))))
theorem zI5 {w : Jvm.Cond} (h : w ∈ tables_1_5) : w ∈ lw_tbl := List.mem_append_right _ (List.mem_append_right _ (List.mem_append_right _ (List.mem_append_right _ (List.mem_append_right _ (List.mem_append_left _ h)))))
theorem zI6 {w : Jvm.Cond} (h : w ∈ tables_1_6) : w ∈ lw_tbl := List.mem_append_right _ (List.mem_append_right _ (List.mem_append_right _ (List.mem_append_right _ (List.mem_append_right _ (List.mem_append_right _ (List.mem_append_left _ h))))))
theorem zI7 {w : Jvm.Cond} (h : w ∈ tables_1_7) : w ∈ lw_tbl := List.mem_append_right _ (List.mem_append_right _ (List.mem_append_right _ (List.mem_append_right _ (List.mem_append_right _ (List.mem_append_right _ (List.mem_append_right _ (List.mem_append_left _ h)))))))
theorem zI8 {w : Jvm.Cond} (h : w ∈ tables_1_8) : w ∈ lw_tbl := List.mem_append_right _ (List.mem_append_right _ (List.mem_append_right _ (List.mem_append_right _ (List.mem_append_right _ (List.mem_append_right _ (List.mem_append_right _ (List.mem_append_right _ (h))))))))
theorem zc_0 : Jvm.Cond.code ⟨"LeastFailing$Bugs", "clear", "()V"⟩ prog_2_method_2_code 1 none ∈ lw_tbl := zI3 (List.mem_of_getElem? (i := 104) rfl)
theorem zc_1 : Jvm.Cond.code ⟨"LeastFailing$Bugs", "copyFrom", "(LLeastFailing$Bugs;)V"⟩ prog_2_method_3_code 2 none ∈ lw_tbl := zI4 (List.mem_of_getElem? (i := 33) rfl)
theorem zc_2 : Jvm.Cond.code ⟨"LeastFailing$Bugs", "isTold", "(I)Z"⟩ prog_2_method_4_code 3 (some .boolean) ∈ lw_tbl := zI3 (List.mem_of_getElem? (i := 190) rfl)
theorem zc_3 : Jvm.Cond.code ⟨"LeastFailing$Bugs", "addBug", "(II)V"⟩ prog_2_method_5_code 3 none ∈ lw_tbl := zI3 (List.mem_of_getElem? (i := 204) rfl)
theorem zc_4 : Jvm.Cond.code ⟨"LeastFailing$Bugs", "addFact", "(IIII)V"⟩ prog_2_method_6_code 5 none ∈ lw_tbl := zI4 (List.mem_of_getElem? (i := 5) rfl)
theorem zc_5 : Jvm.Cond.code ⟨"LeastFailing$Bugs", "addStep", "(I)V"⟩ prog_2_method_7_code 2 none ∈ lw_tbl := zI4 (List.mem_of_getElem? (i := 13) rfl)
theorem zc_6 : Jvm.Cond.code ⟨"LeastFailing$Bugs", "bitsFor", "(LLeastFailing$Tree;)I"⟩ prog_2_method_8_code 8 (some .int) ∈ lw_tbl := zI4 (List.mem_of_getElem? (i := 94) rfl)
theorem zc_7 : Jvm.Cond.code ⟨"LeastFailing$Bugs", "compares", "(III)Z"⟩ prog_2_method_9_code 3 (some .boolean) ∈ lw_tbl := zI4 (List.mem_of_getElem? (i := 101) rfl)
theorem zc_8 : Jvm.Cond.code ⟨"LeastFailing$BugsReader", "readAll", "()Z"⟩ prog_3_method_2_code 2 (some .boolean) ∈ lw_tbl := zI3 (List.mem_of_getElem? (i := 174) rfl)
theorem zc_9 : Jvm.Cond.code ⟨"LeastFailing$BugsReader", "readHead", "()Z"⟩ prog_3_method_3_code 3 (some .boolean) ∈ lw_tbl := zI3 (List.mem_of_getElem? (i := 181) rfl)
theorem zc_10 : Jvm.Cond.code ⟨"LeastFailing$BugsReader", "readTest", "()Z"⟩ prog_3_method_4_code 2 (some .boolean) ∈ lw_tbl := zI3 (List.mem_of_getElem? (i := 209) rfl)
theorem zc_11 : Jvm.Cond.code ⟨"LeastFailing$BugsReader", "endTest", "()Z"⟩ prog_3_method_5_code 1 (some .boolean) ∈ lw_tbl := zI4 (List.mem_of_getElem? (i := 28) rfl)
theorem zc_12 : Jvm.Cond.code ⟨"LeastFailing$BugsReader", "holdBack", "(I)V"⟩ prog_3_method_6_code 2 none ∈ lw_tbl := zI3 (List.mem_of_getElem? (i := 219) rfl)
theorem zc_13 : Jvm.Cond.code ⟨"LeastFailing$BugsReader", "readAhead", "()Z"⟩ prog_3_method_7_code 3 (some .boolean) ∈ lw_tbl := zI3 (List.mem_of_getElem? (i := 213) rfl)
theorem zc_14 : Jvm.Cond.code ⟨"LeastFailing$BugsReader", "readClosed", "()Z"⟩ prog_3_method_8_code 2 (some .boolean) ∈ lw_tbl := zI4 (List.mem_of_getElem? (i := 18) rfl)
theorem zc_15 : Jvm.Cond.code ⟨"LeastFailing$BugsReader", "writeNots", "()V"⟩ prog_3_method_9_code 1 none ∈ lw_tbl := zI4 (List.mem_of_getElem? (i := 9) rfl)
theorem zc_16 : Jvm.Cond.code ⟨"LeastFailing$BugsReader", "writeJoins", "(I)V"⟩ prog_3_method_10_code 2 none ∈ lw_tbl := zI4 (List.mem_of_getElem? (i := 22) rfl)
theorem zc_17 : Jvm.Cond.code ⟨"LeastFailing$BugsReader", "readFact", "()Z"⟩ prog_3_method_11_code 5 (some .boolean) ∈ lw_tbl := zI3 (List.mem_of_getElem? (i := 223) rfl)
theorem zc_18 : Jvm.Cond.code ⟨"LeastFailing$BugsReader", "countTold", "()I"⟩ prog_3_method_12_code 1 (some .int) ∈ lw_tbl := zI3 (List.mem_of_getElem? (i := 227) rfl)
theorem zc_19 : Jvm.Cond.code ⟨"LeastFailing$BugsReader", "signTold", "()I"⟩ prog_3_method_13_code 1 (some .int) ∈ lw_tbl := zI4 (List.mem_of_getElem? (i := 1) rfl)
theorem zc_20 : Jvm.Cond.code ⟨"LeastFailing$BugsReader", "readName", "()I"⟩ prog_3_method_14_code 2 (some .int) ∈ lw_tbl := zI3 (List.mem_of_getElem? (i := 236) rfl)
theorem zc_21 : Jvm.Cond.code ⟨"LeastFailing$Grammar", "clear", "()V"⟩ prog_4_method_2_code 1 none ∈ lw_tbl := zI2 (List.mem_of_getElem? (i := 231) rfl)
theorem zc_22 : Jvm.Cond.code ⟨"LeastFailing$Grammar", "copyFrom", "(LLeastFailing$Grammar;)V"⟩ prog_4_method_3_code 3 none ∈ lw_tbl := zI3 (List.mem_of_getElem? (i := 93) rfl)
theorem zc_23 : Jvm.Cond.code ⟨"LeastFailing$Grammar", "findLine", "(I)I"⟩ prog_4_method_4_code 3 (some .int) ∈ lw_tbl := zI3 (List.mem_of_getElem? (i := 37) rfl)
theorem zc_24 : Jvm.Cond.code ⟨"LeastFailing$Grammar", "findSort", "(I)I"⟩ prog_4_method_5_code 3 (some .int) ∈ lw_tbl := zI3 (List.mem_of_getElem? (i := 44) rfl)
theorem zc_25 : Jvm.Cond.code ⟨"LeastFailing$Grammar", "addSort", "(I)V"⟩ prog_4_method_6_code 2 none ∈ lw_tbl := zI3 (List.mem_of_getElem? (i := 48) rfl)
theorem zc_26 : Jvm.Cond.code ⟨"LeastFailing$Grammar", "addLine", "(IIZ)V"⟩ prog_4_method_7_code 4 none ∈ lw_tbl := zI3 (List.mem_of_getElem? (i := 52) rfl)
theorem zc_27 : Jvm.Cond.code ⟨"LeastFailing$Grammar", "addBehind", "(I)V"⟩ prog_4_method_8_code 3 none ∈ lw_tbl := zI3 (List.mem_of_getElem? (i := 69) rfl)
theorem zc_28 : Jvm.Cond.code ⟨"LeastFailing$Grammar", "sortBehind", "(II)I"⟩ prog_4_method_9_code 3 (some .int) ∈ lw_tbl := zI3 (List.mem_of_getElem? (i := 89) rfl)
theorem zc_29 : Jvm.Cond.code ⟨"LeastFailing$Grammar", "needed", "(I)I"⟩ prog_4_method_10_code 2 (some .int) ∈ lw_tbl := zI3 (List.mem_of_getElem? (i := 85) rfl)
theorem zc_30 : Jvm.Cond.code ⟨"LeastFailing$Grammar", "sortOfPart", "(II)I"⟩ prog_4_method_11_code 3 (some .int) ∈ lw_tbl := zI3 (List.mem_of_getElem? (i := 140) rfl)
theorem zc_31 : Jvm.Cond.code ⟨"LeastFailing$Grammar", "findLeast", "()Z"⟩ prog_4_method_12_code 3 (some .boolean) ∈ lw_tbl := zI3 (List.mem_of_getElem? (i := 77) rfl)
theorem zc_32 : Jvm.Cond.code ⟨"LeastFailing$Grammar", "betterLeast", "(I)V"⟩ prog_4_method_13_code 5 none ∈ lw_tbl := zI3 (List.mem_of_getElem? (i := 81) rfl)
theorem zc_33 : Jvm.Cond.code ⟨"LeastFailing$Grammar", "leastName", "(II)I"⟩ prog_4_method_14_code 9 (some .int) ∈ lw_tbl := zI4 (List.mem_of_getElem? (i := 73) rfl)
theorem zc_34 : Jvm.Cond.code ⟨"LeastFailing$GrammarReader", "readAll", "(LLeastFailing$Text;LLeastFailing$Grammar;)Z"⟩ prog_5_method_2_code 3 (some .boolean) ∈ lw_tbl := zI2 (List.mem_of_getElem? (i := 227) rfl)
theorem zc_35 : Jvm.Cond.code ⟨"LeastFailing$GrammarReader", "readLine", "(LLeastFailing$Text;LLeastFailing$Grammar;)Z"⟩ prog_5_method_3_code 5 (some .boolean) ∈ lw_tbl := zI3 (List.mem_of_getElem? (i := 16) rfl)
theorem zc_36 : Jvm.Cond.code ⟨"LeastFailing$GrammarReader", "readSort", "(LLeastFailing$Text;LLeastFailing$Grammar;)I"⟩ prog_5_method_4_code 3 (some .int) ∈ lw_tbl := zI3 (List.mem_of_getElem? (i := 40) rfl)
theorem zc_37 : Jvm.Cond.code ⟨"LeastFailing$GrammarReader", "readBehind", "(LLeastFailing$Text;LLeastFailing$Grammar;)Z"⟩ prog_5_method_5_code 5 (some .boolean) ∈ lw_tbl := zI3 (List.mem_of_getElem? (i := 64) rfl)
theorem zc_38 : Jvm.Cond.code ⟨"LeastFailing$InputReader", "readAll", "()Z"⟩ prog_6_method_2_code 3 (some .boolean) ∈ lw_tbl := zI3 (List.mem_of_getElem? (i := 116) rfl)
theorem zc_39 : Jvm.Cond.code ⟨"LeastFailing$InputReader", "readClosed", "()Z"⟩ prog_6_method_3_code 2 (some .boolean) ∈ lw_tbl := zI3 (List.mem_of_getElem? (i := 123) rfl)
theorem zc_40 : Jvm.Cond.code ⟨"LeastFailing$InputReader", "readNode", "()Z"⟩ prog_6_method_4_code 2 (some .boolean) ∈ lw_tbl := zI3 (List.mem_of_getElem? (i := 130) rfl)
theorem zc_41 : Jvm.Cond.code ⟨"LeastFailing$InputReader", "readName", "(Z)Z"⟩ prog_6_method_5_code 5 (some .boolean) ∈ lw_tbl := zI3 (List.mem_of_getElem? (i := 134) rfl)
theorem zc_42 : Jvm.Cond.code ⟨"LeastFailing$Judge", "ask", "(LLeastFailing$Tree;II)I"⟩ prog_7_method_2_code 6 (some .int) ∈ lw_tbl := zI4 (List.mem_of_getElem? (i := 114) rfl)
theorem zc_43 : Jvm.Cond.code ⟨"LeastFailing$Judge", "vote", "(I)I"⟩ prog_7_method_3_code 5 (some .int) ∈ lw_tbl := zI4 (List.mem_of_getElem? (i := 135) rfl)
theorem zc_44 : Jvm.Cond.code ⟨"LeastFailing$Judge", "runOnce", "(I)I"⟩ prog_7_method_4_code 3 (some .int) ∈ lw_tbl := zI4 (List.mem_of_getElem? (i := 140) rfl)
theorem zc_45 : Jvm.Cond.code ⟨"LeastFailing$Reducer", "partStart", "(III)I"⟩ prog_8_method_2_code 3 (some .int) ∈ lw_tbl := zI5 (List.mem_of_getElem? (i := 17) rfl)
theorem zc_46 : Jvm.Cond.code ⟨"LeastFailing$Reducer", "start", "(I)V"⟩ prog_8_method_3_code 2 none ∈ lw_tbl := zI4 (List.mem_of_getElem? (i := 232) rfl)
theorem zc_47 : Jvm.Cond.code ⟨"LeastFailing$Reducer", "byLevels", "()V"⟩ prog_8_method_4_code 2 none ∈ lw_tbl := zI4 (List.mem_of_getElem? (i := 236) rfl)
theorem zc_48 : Jvm.Cond.code ⟨"LeastFailing$Reducer", "byHoists", "()V"⟩ prog_8_method_5_code 3 none ∈ lw_tbl := zI5 (List.mem_of_getElem? (i := 43) rfl)
theorem zc_49 : Jvm.Cond.code ⟨"LeastFailing$Reducer", "byCuts", "()V"⟩ prog_8_method_6_code 4 none ∈ lw_tbl := zI5 (List.mem_of_getElem? (i := 57) rfl)
theorem zc_50 : Jvm.Cond.code ⟨"LeastFailing$Reducer", "isHoisted", "(I)Z"⟩ prog_8_method_7_code 3 (some .boolean) ∈ lw_tbl := zI5 (List.mem_of_getElem? (i := 47) rfl)
theorem zc_51 : Jvm.Cond.code ⟨"LeastFailing$Reducer", "isTakenSingle", "(IIII)Z"⟩ prog_8_method_8_code 5 (some .boolean) ∈ lw_tbl := zI5 (List.mem_of_getElem? (i := 52) rfl)
theorem zc_52 : Jvm.Cond.code ⟨"LeastFailing$Reducer", "isTaken", "(II)Z"⟩ prog_8_method_9_code 3 (some .boolean) ∈ lw_tbl := zI5 (List.mem_of_getElem? (i := 29) rfl)
theorem zc_53 : Jvm.Cond.code ⟨"LeastFailing$Reducer", "gatherRow", "(I)V"⟩ prog_8_method_10_code 3 none ∈ lw_tbl := zI5 (List.mem_of_getElem? (i := 0) rfl)
theorem zc_54 : Jvm.Cond.code ⟨"LeastFailing$Reducer", "reduceRow", "(I)V"⟩ prog_8_method_11_code 4 none ∈ lw_tbl := zI5 (List.mem_of_getElem? (i := 10) rfl)
theorem zc_55 : Jvm.Cond.code ⟨"LeastFailing$Reducer", "isPartTaken", "(IZII)Z"⟩ prog_8_method_12_code 6 (some .boolean) ∈ lw_tbl := zI5 (List.mem_of_getElem? (i := 14) rfl)
theorem zc_56 : Jvm.Cond.code ⟨"LeastFailing$Reducer", "markRow", "(IIZ)V"⟩ prog_8_method_13_code 5 none ∈ lw_tbl := zI5 (List.mem_of_getElem? (i := 21) rfl)
theorem zc_57 : Jvm.Cond.code ⟨"LeastFailing$Reducer", "keepUnchanged", "()V"⟩ prog_8_method_14_code 3 none ∈ lw_tbl := zI5 (List.mem_of_getElem? (i := 35) rfl)
theorem zc_58 : Jvm.Cond.code ⟨"LeastFailing$Single", "start", "()V"⟩ prog_9_method_2_code 1 none ∈ lw_tbl := zI4 (List.mem_of_getElem? (i := 164) rfl)
theorem zc_59 : Jvm.Cond.code ⟨"LeastFailing$Single", "atNode", "(I)V"⟩ prog_9_method_3_code 2 none ∈ lw_tbl := zI4 (List.mem_of_getElem? (i := 168) rfl)
theorem zc_60 : Jvm.Cond.code ⟨"LeastFailing$Single", "step", "()Z"⟩ prog_9_method_4_code 1 (some .boolean) ∈ lw_tbl := zI4 (List.mem_of_getElem? (i := 173) rfl)
theorem zc_61 : Jvm.Cond.code ⟨"LeastFailing$Single", "goTo", "(I)Z"⟩ prog_9_method_5_code 3 (some .boolean) ∈ lw_tbl := zI4 (List.mem_of_getElem? (i := 184) rfl)
theorem zc_62 : Jvm.Cond.code ⟨"LeastFailing$Single", "howMany", "()I"⟩ prog_9_method_6_code 2 (some .int) ∈ lw_tbl := zI4 (List.mem_of_getElem? (i := 160) rfl)
theorem zc_63 : Jvm.Cond.code ⟨"LeastFailing$Text", "letterOf", "(II)I"⟩ prog_10_method_2_code 2 (some .int) ∈ lw_tbl := zI4 (List.mem_of_getElem? (i := 60) rfl)
theorem zc_64 : Jvm.Cond.code ⟨"LeastFailing$Text", "append", "(I)V"⟩ prog_10_method_3_code 3 none ∈ lw_tbl := zI2 (List.mem_of_getElem? (i := 216) rfl)
theorem zc_65 : Jvm.Cond.code ⟨"LeastFailing$Text", "start", "()V"⟩ prog_10_method_4_code 1 none ∈ lw_tbl := zI2 (List.mem_of_getElem? (i := 235) rfl)
theorem zc_66 : Jvm.Cond.code ⟨"LeastFailing$Text", "fail", "(I)Z"⟩ prog_10_method_5_code 2 (some .boolean) ∈ lw_tbl := zI3 (List.mem_of_getElem? (i := 26) rfl)
theorem zc_67 : Jvm.Cond.code ⟨"LeastFailing$Text", "advance", "()V"⟩ prog_10_method_6_code 3 none ∈ lw_tbl := zI2 (List.mem_of_getElem? (i := 239) rfl)
theorem zc_68 : Jvm.Cond.code ⟨"LeastFailing$Text", "advanceWord", "(Z)V"⟩ prog_10_method_7_code 3 none ∈ lw_tbl := zI3 (List.mem_of_getElem? (i := 6) rfl)
theorem zc_69 : Jvm.Cond.code ⟨"LeastFailing$Text", "advanceNumber", "(Z)V"⟩ prog_10_method_8_code 3 none ∈ lw_tbl := zI3 (List.mem_of_getElem? (i := 13) rfl)
theorem zc_70 : Jvm.Cond.code ⟨"LeastFailing$Text", "isLetter", "(I)Z"⟩ prog_10_method_9_code 1 (some .boolean) ∈ lw_tbl := zI3 (List.mem_of_getElem? (i := 2) rfl)
theorem zc_71 : Jvm.Cond.code ⟨"LeastFailing$Text", "isDigit", "(I)Z"⟩ prog_10_method_10_code 1 (some .boolean) ∈ lw_tbl := zI3 (List.mem_of_getElem? (i := 9) rfl)
theorem zc_72 : Jvm.Cond.code ⟨"LeastFailing$Text", "isAtEnd", "()Z"⟩ prog_10_method_11_code 1 (some .boolean) ∈ lw_tbl := zI3 (List.mem_of_getElem? (i := 73) rfl)
theorem zc_73 : Jvm.Cond.code ⟨"LeastFailing$Text", "isWord", "(I)Z"⟩ prog_10_method_12_code 2 (some .boolean) ∈ lw_tbl := zI3 (List.mem_of_getElem? (i := 21) rfl)
theorem zc_74 : Jvm.Cond.code ⟨"LeastFailing$Text", "isSign", "(I)Z"⟩ prog_10_method_13_code 2 (some .boolean) ∈ lw_tbl := zI3 (List.mem_of_getElem? (i := 60) rfl)
theorem zc_75 : Jvm.Cond.code ⟨"LeastFailing$Text", "isNumber", "()Z"⟩ prog_10_method_14_code 1 (some .boolean) ∈ lw_tbl := zI3 (List.mem_of_getElem? (i := 200) rfl)
theorem zc_76 : Jvm.Cond.code ⟨"LeastFailing$Text", "isName", "()Z"⟩ prog_10_method_15_code 2 (some .boolean) ∈ lw_tbl := zI3 (List.mem_of_getElem? (i := 31) rfl)
theorem zc_77 : Jvm.Cond.code ⟨"LeastFailing$Text", "passWord", "(I)Z"⟩ prog_10_method_16_code 2 (some .boolean) ∈ lw_tbl := zI3 (List.mem_of_getElem? (i := 195) rfl)
theorem zc_78 : Jvm.Cond.code ⟨"LeastFailing$Text", "passSign", "(I)Z"⟩ prog_10_method_17_code 2 (some .boolean) ∈ lw_tbl := zI3 (List.mem_of_getElem? (i := 56) rfl)
theorem zc_79 : Jvm.Cond.code ⟨"LeastFailing$Tree", "clear", "()V"⟩ prog_11_method_2_code 1 none ∈ lw_tbl := zI3 (List.mem_of_getElem? (i := 100) rfl)
theorem zc_80 : Jvm.Cond.code ⟨"LeastFailing$Tree", "copyFrom", "(LLeastFailing$Tree;)V"⟩ prog_11_method_3_code 2 none ∈ lw_tbl := zI3 (List.mem_of_getElem? (i := 153) rfl)
theorem zc_81 : Jvm.Cond.code ⟨"LeastFailing$Tree", "addNode", "(II)V"⟩ prog_11_method_4_code 3 none ∈ lw_tbl := zI3 (List.mem_of_getElem? (i := 144) rfl)
theorem zc_82 : Jvm.Cond.code ⟨"LeastFailing$Tree", "addAll", "(LLeastFailing$Tree;II)V"⟩ prog_11_method_5_code 5 none ∈ lw_tbl := zI3 (List.mem_of_getElem? (i := 158) rfl)
theorem zc_83 : Jvm.Cond.code ⟨"LeastFailing$Tree", "addLeast", "(I)V"⟩ prog_11_method_6_code 4 none ∈ lw_tbl := zI4 (List.mem_of_getElem? (i := 196) rfl)
theorem zc_84 : Jvm.Cond.code ⟨"LeastFailing$Tree", "settle", "()V"⟩ prog_11_method_7_code 4 none ∈ lw_tbl := zI3 (List.mem_of_getElem? (i := 163) rfl)
theorem zc_85 : Jvm.Cond.code ⟨"LeastFailing$Tree", "sortAt", "(I)I"⟩ prog_11_method_8_code 2 (some .int) ∈ lw_tbl := zI4 (List.mem_of_getElem? (i := 81) rfl)
theorem zc_86 : Jvm.Cond.code ⟨"LeastFailing$Tree", "canCut", "(I)Z"⟩ prog_11_method_9_code 3 (some .boolean) ∈ lw_tbl := zI4 (List.mem_of_getElem? (i := 85) rfl)
theorem zc_87 : Jvm.Cond.code ⟨"LeastFailing$Tree", "canBeLeast", "(I)Z"⟩ prog_11_method_10_code 2 (some .boolean) ∈ lw_tbl := zI4 (List.mem_of_getElem? (i := 178) rfl)
theorem zc_88 : Jvm.Cond.code ⟨"LeastFailing$Tree", "isInRow", "(II)Z"⟩ prog_11_method_11_code 3 (some .boolean) ∈ lw_tbl := zI5 (List.mem_of_getElem? (i := 4) rfl)
theorem zc_89 : Jvm.Cond.code ⟨"LeastFailing$Tree", "countOf", "(III)I"⟩ prog_11_method_12_code 8 (some .int) ∈ lw_tbl := zI4 (List.mem_of_getElem? (i := 98) rfl)
theorem zc_90 : Jvm.Cond.code ⟨"LeastFailing$Tree", "becomeSingle", "(LLeastFailing$Tree;III)V"⟩ prog_11_method_13_code 6 none ∈ lw_tbl := zI4 (List.mem_of_getElem? (i := 192) rfl)
theorem zc_91 : Jvm.Cond.code ⟨"LeastFailing$Tree", "becomeChanged", "(LLeastFailing$Tree;[Z[I)V"⟩ prog_11_method_14_code 5 none ∈ lw_tbl := zI5 (List.mem_of_getElem? (i := 25) rfl)
theorem zc_92 : Jvm.Cond.code ⟨"LeastFailing$Tried", "forget", "()V"⟩ prog_12_method_2_code 1 none ∈ lw_tbl := zI3 (List.mem_of_getElem? (i := 108) rfl)
theorem zc_93 : Jvm.Cond.code ⟨"LeastFailing$Tried", "find", "(LLeastFailing$Tree;)I"⟩ prog_12_method_3_code 4 (some .int) ∈ lw_tbl := zI4 (List.mem_of_getElem? (i := 118) rfl)
theorem zc_94 : Jvm.Cond.code ⟨"LeastFailing$Tried", "add", "(IIII)V"⟩ prog_12_method_4_code 5 none ∈ lw_tbl := zI4 (List.mem_of_getElem? (i := 146) rfl)
theorem zc_95 : Jvm.Cond.code ⟨"LeastFailing$Tried", "makeKey", "(LLeastFailing$Tree;)V"⟩ prog_12_method_5_code 6 none ∈ lw_tbl := zI4 (List.mem_of_getElem? (i := 122) rfl)
theorem zc_96 : Jvm.Cond.code ⟨"LeastFailing$Tried", "hasKey", "(I)Z"⟩ prog_12_method_6_code 3 (some .boolean) ∈ lw_tbl := zI4 (List.mem_of_getElem? (i := 130) rfl)
theorem zc_97 : Jvm.Cond.code ⟨"LeastFailing", "feed", "(IIIII)I"⟩ prog_1_method_2_code 6 (some .int) ∈ lw_tbl := zI2 (List.mem_of_getElem? (i := 212) rfl)
theorem zc_98 : Jvm.Cond.code ⟨"LeastFailing", "end", "(I)Z"⟩ prog_1_method_3_code 2 (some .boolean) ∈ lw_tbl := zI2 (List.mem_of_getElem? (i := 220) rfl)
theorem zc_99 : Jvm.Cond.code ⟨"LeastFailing", "grammar", "()I"⟩ prog_1_method_4_code 2 (some .int) ∈ lw_tbl := zI2 (List.mem_of_getElem? (i := 224) rfl)
theorem zc_100 : Jvm.Cond.code ⟨"LeastFailing", "input", "()I"⟩ prog_1_method_5_code 2 (some .int) ∈ lw_tbl := zI3 (List.mem_of_getElem? (i := 112) rfl)
theorem zc_101 : Jvm.Cond.code ⟨"LeastFailing", "bugs", "()I"⟩ prog_1_method_6_code 2 (some .int) ∈ lw_tbl := zI3 (List.mem_of_getElem? (i := 170) rfl)
theorem zc_102 : Jvm.Cond.code ⟨"LeastFailing", "fault", "(I)I"⟩ prog_1_method_7_code 2 (some .int) ∈ lw_tbl := zI4 (List.mem_of_getElem? (i := 38) rfl)
theorem zc_103 : Jvm.Cond.code ⟨"LeastFailing", "votes", "(I)I"⟩ prog_1_method_8_code 3 (some .int) ∈ lw_tbl := zI4 (List.mem_of_getElem? (i := 42) rfl)
theorem zc_104 : Jvm.Cond.code ⟨"LeastFailing", "seed", "(I)I"⟩ prog_1_method_9_code 2 (some .int) ∈ lw_tbl := zI4 (List.mem_of_getElem? (i := 49) rfl)
theorem zc_105 : Jvm.Cond.code ⟨"LeastFailing", "count", "(I)I"⟩ prog_1_method_10_code 2 (some .int) ∈ lw_tbl := zI4 (List.mem_of_getElem? (i := 53) rfl)
theorem zc_106 : Jvm.Cond.code ⟨"LeastFailing", "letter", "(III)I"⟩ prog_1_method_11_code 4 (some .int) ∈ lw_tbl := zI4 (List.mem_of_getElem? (i := 57) rfl)
theorem zc_107 : Jvm.Cond.code ⟨"LeastFailing", "line", "(II)I"⟩ prog_1_method_12_code 3 (some .int) ∈ lw_tbl := zI4 (List.mem_of_getElem? (i := 64) rfl)
theorem zc_108 : Jvm.Cond.code ⟨"LeastFailing", "least", "(II)I"⟩ prog_1_method_13_code 3 (some .int) ∈ lw_tbl := zI4 (List.mem_of_getElem? (i := 69) rfl)
theorem zc_109 : Jvm.Cond.code ⟨"LeastFailing", "node", "(II)I"⟩ prog_1_method_14_code 3 (some .int) ∈ lw_tbl := zI4 (List.mem_of_getElem? (i := 77) rfl)
theorem zc_110 : Jvm.Cond.code ⟨"LeastFailing", "holding", "()I"⟩ prog_1_method_15_code 1 (some .int) ∈ lw_tbl := zI4 (List.mem_of_getElem? (i := 90) rfl)
theorem zc_111 : Jvm.Cond.code ⟨"LeastFailing", "counts", "(III)I"⟩ prog_1_method_16_code 4 (some .int) ∈ lw_tbl := zI4 (List.mem_of_getElem? (i := 105) rfl)
theorem zc_112 : Jvm.Cond.code ⟨"LeastFailing", "verdict", "()I"⟩ prog_1_method_17_code 1 (some .int) ∈ lw_tbl := zI4 (List.mem_of_getElem? (i := 110) rfl)
theorem zc_113 : Jvm.Cond.code ⟨"LeastFailing", "run", "(I)I"⟩ prog_1_method_18_code 4 (some .int) ∈ lw_tbl := zI4 (List.mem_of_getElem? (i := 151) rfl)
theorem zc_114 : Jvm.Cond.code ⟨"LeastFailing", "single", "(II)I"⟩ prog_1_method_19_code 3 (some .int) ∈ lw_tbl := zI4 (List.mem_of_getElem? (i := 156) rfl)
theorem zc_115 : Jvm.Cond.code ⟨"LeastFailing", "tries", "(I)I"⟩ prog_1_method_20_code 2 (some .int) ∈ lw_tbl := zI4 (List.mem_of_getElem? (i := 201) rfl)
theorem zc_116 : Jvm.Cond.code ⟨"LeastFailing", "change", "(I)I"⟩ prog_1_method_21_code 2 (some .int) ∈ lw_tbl := zI4 (List.mem_of_getElem? (i := 209) rfl)
theorem zc_117 : Jvm.Cond.code ⟨"LeastFailing", "more", "()I"⟩ prog_1_method_22_code 3 (some .int) ∈ lw_tbl := zI4 (List.mem_of_getElem? (i := 213) rfl)
theorem zc_118 : Jvm.Cond.code ⟨"LeastFailing", "apart", "(II)I"⟩ prog_1_method_23_code 5 (some .int) ∈ lw_tbl := zI4 (List.mem_of_getElem? (i := 220) rfl)
theorem zc_119 : Jvm.Cond.code ⟨"LeastFailing", "reduce", "(II)I"⟩ prog_1_method_24_code 5 (some .int) ∈ lw_tbl := zI4 (List.mem_of_getElem? (i := 228) rfl)
theorem zc_120 : Jvm.Cond.code ⟨"LeastFailing", "row", "(II)I"⟩ prog_1_method_25_code 5 (some .int) ∈ lw_tbl := zI5 (List.mem_of_getElem? (i := 63) rfl)
theorem zc_121 : Jvm.Cond.code ⟨"LeastFailing", "part", "(IIII)I"⟩ prog_1_method_26_code 6 (some .int) ∈ lw_tbl := zI5 (List.mem_of_getElem? (i := 68) rfl)
theorem zc_122 : Jvm.Cond.code ⟨"LeastFailing", "tried", "(I)I"⟩ prog_1_method_27_code 4 (some .int) ∈ lw_tbl := zI5 (List.mem_of_getElem? (i := 73) rfl)
theorem zc_123 : Jvm.Cond.code ⟨"LeastFailing", "trace", "(II)I"⟩ prog_1_method_28_code 3 (some .int) ∈ lw_tbl := zI5 (List.mem_of_getElem? (i := 77) rfl)
theorem zc_124 : Jvm.Cond.code ⟨"LeastFailing", "sure", "(II)I"⟩ prog_1_method_29_code 3 (some .int) ∈ lw_tbl := zI5 (List.mem_of_getElem? (i := 81) rfl)
theorem zc_125 : Jvm.Cond.code ⟨"LeastFailing", "enough", "(II)I"⟩ prog_1_method_30_code 4 (some .int) ∈ lw_tbl := zI5 (List.mem_of_getElem? (i := 98) rfl)
theorem zc_126 : Jvm.Cond.code ⟨"LeastFailing", "often", "(III)I"⟩ prog_1_method_31_code 8 (some .int) ∈ lw_tbl := zI5 (List.mem_of_getElem? (i := 103) rfl)
theorem zc_127 : Jvm.Cond.code ⟨"LeastFailing", "undo", "()I"⟩ prog_1_method_32_code 1 (some .int) ∈ lw_tbl := zI5 (List.mem_of_getElem? (i := 107) rfl)
theorem zc_128 : Jvm.Cond.code ⟨"LeastFailing", "isBug", "(I)Z"⟩ prog_1_method_33_code 2 (some .boolean) ∈ lw_tbl := zI4 (List.mem_of_getElem? (i := 224) rfl)
theorem zc_129 : Jvm.Cond.code ⟨"LeastFailing", "canVote", "(I)Z"⟩ prog_1_method_34_code 1 (some .boolean) ∈ lw_tbl := zI4 (List.mem_of_getElem? (i := 45) rfl)
theorem zc_130 : Jvm.Cond.code ⟨"LeastFailing", "areOdds", "(I)Z"⟩ prog_1_method_35_code 1 (some .boolean) ∈ lw_tbl := zI5 (List.mem_of_getElem? (i := 84) rfl)
theorem zc_131 : Jvm.Cond.code ⟨"LeastFailing", "remember", "()V"⟩ prog_1_method_36_code 3 none ∈ lw_tbl := zI3 (List.mem_of_getElem? (i := 149) rfl)
theorem zc_132 : Jvm.Cond.code ⟨"LeastFailing", "makeSingle", "()V"⟩ prog_1_method_37_code 1 none ∈ lw_tbl := zI4 (List.mem_of_getElem? (i := 188) rfl)
theorem zc_133 : Jvm.Cond.code ⟨"LeastFailing", "askSingle", "()I"⟩ prog_1_method_38_code 1 (some .int) ∈ lw_tbl := zI4 (List.mem_of_getElem? (i := 205) rfl)
theorem zc_134 : Jvm.Cond.code ⟨"LeastFailing", "millionths", "(II)I"⟩ prog_1_method_39_code 5 (some .int) ∈ lw_tbl := zI5 (List.mem_of_getElem? (i := 87) rfl)
theorem zc_135 : Jvm.Cond.code ⟨"LeastFailing", "waysOf", "(II)J"⟩ prog_1_method_40_code 5 (some .long) ∈ lw_tbl := zI5 (List.mem_of_getElem? (i := 90) rfl)
theorem zc_136 : Jvm.Cond.code ⟨"LeastFailing", "powerOf", "(II)J"⟩ prog_1_method_41_code 5 (some .long) ∈ lw_tbl := zI5 (List.mem_of_getElem? (i := 93) rfl)
theorem zc_137 : Jvm.Cond.code ⟨"LeastFailingModel", "isIn", "(JJJ)Z"⟩ prog_14_method_3_code 6 (some .boolean) ∈ lw_tbl := zI6 (List.mem_of_getElem? (i := 103) rfl)
theorem zc_138 : Jvm.Cond.code ⟨"LeastFailingModel", "flag", "(Z)I"⟩ prog_14_method_4_code 1 (some .int) ∈ lw_tbl := zI6 (List.mem_of_getElem? (i := 182) rfl)
theorem zc_139 : Jvm.Cond.code ⟨"LeastFailingModel", "four", "(I)V"⟩ prog_14_method_5_code 3 none ∈ lw_tbl := zI6 (List.mem_of_getElem? (i := 96) rfl)
theorem zc_140 : Jvm.Cond.code ⟨"LeastFailingModel", "feed", "(IIIII)I"⟩ prog_14_method_6_code 6 (some .int) ∈ lw_tbl := zI6 (List.mem_of_getElem? (i := 92) rfl)
theorem zc_141 : Jvm.Cond.code ⟨"LeastFailingModel", "end", "(I)Z"⟩ prog_14_method_7_code 2 (some .boolean) ∈ lw_tbl := zI6 (List.mem_of_getElem? (i := 100) rfl)
theorem zc_142 : Jvm.Cond.code ⟨"LeastFailingModel", "begins", "()V"⟩ prog_14_method_8_code 1 none ∈ lw_tbl := zI6 (List.mem_of_getElem? (i := 111) rfl)
theorem zc_143 : Jvm.Cond.code ⟨"LeastFailingModel", "isFine", "()Z"⟩ prog_14_method_9_code 1 (some .boolean) ∈ lw_tbl := zI6 (List.mem_of_getElem? (i := 131) rfl)
theorem zc_144 : Jvm.Cond.code ⟨"LeastFailingModel", "fail", "(II)V"⟩ prog_14_method_10_code 3 none ∈ lw_tbl := zI6 (List.mem_of_getElem? (i := 127) rfl)
theorem zc_145 : Jvm.Cond.code ⟨"LeastFailingModel", "isRead", "()Z"⟩ prog_14_method_11_code 1 (some .boolean) ∈ lw_tbl := zI6 (List.mem_of_getElem? (i := 211) rfl)
theorem zc_146 : Jvm.Cond.code ⟨"LeastFailingModel", "here", "(I)I"⟩ prog_14_method_12_code 2 (some .int) ∈ lw_tbl := zI6 (List.mem_of_getElem? (i := 156) rfl)
theorem zc_147 : Jvm.Cond.code ⟨"LeastFailingModel", "isLetter", "(I)Z"⟩ prog_14_method_13_code 2 (some .boolean) ∈ lw_tbl := zI6 (List.mem_of_getElem? (i := 152) rfl)
theorem zc_148 : Jvm.Cond.code ⟨"LeastFailingModel", "isDigit", "(I)Z"⟩ prog_14_method_14_code 2 (some .boolean) ∈ lw_tbl := zI7 (List.mem_of_getElem? (i := 51) rfl)
theorem zc_149 : Jvm.Cond.code ⟨"LeastFailingModel", "next", "()I"⟩ prog_14_method_15_code 1 (some .int) ∈ lw_tbl := zI6 (List.mem_of_getElem? (i := 119) rfl)
theorem zc_150 : Jvm.Cond.code ⟨"LeastFailingModel", "isOver", "()Z"⟩ prog_14_method_16_code 1 (some .boolean) ∈ lw_tbl := zI6 (List.mem_of_getElem? (i := 115) rfl)
theorem zc_151 : Jvm.Cond.code ⟨"LeastFailingModel", "unlike", "()V"⟩ prog_14_method_17_code 1 none ∈ lw_tbl := zI6 (List.mem_of_getElem? (i := 123) rfl)
theorem zc_152 : Jvm.Cond.code ⟨"LeastFailingModel", "isSign", "(I)Z"⟩ prog_14_method_18_code 2 (some .boolean) ∈ lw_tbl := zI6 (List.mem_of_getElem? (i := 198) rfl)
theorem zc_153 : Jvm.Cond.code ⟨"LeastFailingModel", "takesSign", "(I)Z"⟩ prog_14_method_19_code 2 (some .boolean) ∈ lw_tbl := zI6 (List.mem_of_getElem? (i := 194) rfl)
theorem zc_154 : Jvm.Cond.code ⟨"LeastFailingModel", "needsSign", "(I)V"⟩ prog_14_method_20_code 2 none ∈ lw_tbl := zI6 (List.mem_of_getElem? (i := 190) rfl)
theorem zc_155 : Jvm.Cond.code ⟨"LeastFailingModel", "packed", "(IIIIII)J"⟩ prog_14_method_21_code 8 (some .long) ∈ lw_tbl := zI6 (List.mem_of_getElem? (i := 138) rfl)
theorem zc_156 : Jvm.Cond.code ⟨"LeastFailingModel", "seesWord", "()Z"⟩ prog_14_method_22_code 3 (some .boolean) ∈ lw_tbl := zI6 (List.mem_of_getElem? (i := 148) rfl)
theorem zc_157 : Jvm.Cond.code ⟨"LeastFailingModel", "isWord", "(J)Z"⟩ prog_14_method_23_code 3 (some .boolean) ∈ lw_tbl := zI6 (List.mem_of_getElem? (i := 144) rfl)
theorem zc_158 : Jvm.Cond.code ⟨"LeastFailingModel", "pass", "()V"⟩ prog_14_method_24_code 1 none ∈ lw_tbl := zI6 (List.mem_of_getElem? (i := 163) rfl)
theorem zc_159 : Jvm.Cond.code ⟨"LeastFailingModel", "takes", "(J)Z"⟩ prog_14_method_25_code 3 (some .boolean) ∈ lw_tbl := zI7 (List.mem_of_getElem? (i := 43) rfl)
theorem zc_160 : Jvm.Cond.code ⟨"LeastFailingModel", "isOwn", "()Z"⟩ prog_14_method_26_code 1 (some .boolean) ∈ lw_tbl := zI6 (List.mem_of_getElem? (i := 175) rfl)
theorem zc_161 : Jvm.Cond.code ⟨"LeastFailingModel", "isName", "()Z"⟩ prog_14_method_27_code 1 (some .boolean) ∈ lw_tbl := zI6 (List.mem_of_getElem? (i := 171) rfl)
theorem zc_162 : Jvm.Cond.code ⟨"LeastFailingModel", "name", "()J"⟩ prog_14_method_28_code 3 (some .long) ∈ lw_tbl := zI6 (List.mem_of_getElem? (i := 167) rfl)
theorem zc_163 : Jvm.Cond.code ⟨"LeastFailingModel", "number", "()I"⟩ prog_14_method_29_code 4 (some .int) ∈ lw_tbl := zI7 (List.mem_of_getElem? (i := 47) rfl)
theorem zc_164 : Jvm.Cond.code ⟨"LeastFailingModel", "sortRead", "()I"⟩ prog_14_method_30_code 4 (some .int) ∈ lw_tbl := zI6 (List.mem_of_getElem? (i := 179) rfl)
theorem zc_165 : Jvm.Cond.code ⟨"LeastFailingModel", "partsRead", "(I)V"⟩ prog_14_method_31_code 5 none ∈ lw_tbl := zI6 (List.mem_of_getElem? (i := 186) rfl)
theorem zc_166 : Jvm.Cond.code ⟨"LeastFailingModel", "lineRead", "()V"⟩ prog_14_method_32_code 6 none ∈ lw_tbl := zI6 (List.mem_of_getElem? (i := 135) rfl)
theorem zc_167 : Jvm.Cond.code ⟨"LeastFailingModel", "leastOf", "(I)I"⟩ prog_14_method_33_code 5 (some .int) ∈ lw_tbl := zI6 (List.mem_of_getElem? (i := 207) rfl)
theorem zc_168 : Jvm.Cond.code ⟨"LeastFailingModel", "laysLeast", "()V"⟩ prog_14_method_34_code 4 none ∈ lw_tbl := zI6 (List.mem_of_getElem? (i := 202) rfl)
theorem zc_169 : Jvm.Cond.code ⟨"LeastFailingModel", "grammar", "()I"⟩ prog_14_method_35_code 2 (some .int) ∈ lw_tbl := zI6 (List.mem_of_getElem? (i := 107) rfl)
theorem zc_170 : Jvm.Cond.code ⟨"LeastFailingModel", "ofLine", "(II)I"⟩ prog_14_method_36_code 3 (some .int) ∈ lw_tbl := zI6 (List.mem_of_getElem? (i := 215) rfl)
theorem zc_171 : Jvm.Cond.code ⟨"LeastFailingModel", "lineOf", "(J)I"⟩ prog_14_method_37_code 4 (some .int) ∈ lw_tbl := zI7 (List.mem_of_getElem? (i := 7) rfl)
theorem zc_172 : Jvm.Cond.code ⟨"LeastFailingModel", "fixed", "(I)I"⟩ prog_14_method_38_code 2 (some .int) ∈ lw_tbl := zI6 (List.mem_of_getElem? (i := 235) rfl)
theorem zc_173 : Jvm.Cond.code ⟨"LeastFailingModel", "sortOfPart", "(II)I"⟩ prog_14_method_39_code 3 (some .int) ∈ lw_tbl := zI7 (List.mem_of_getElem? (i := 15) rfl)
theorem zc_174 : Jvm.Cond.code ⟨"LeastFailingModel", "many", "(I)I"⟩ prog_14_method_40_code 2 (some .int) ∈ lw_tbl := zI6 (List.mem_of_getElem? (i := 239) rfl)
theorem zc_175 : Jvm.Cond.code ⟨"LeastFailingModel", "nameOf", "(II)I"⟩ prog_14_method_41_code 3 (some .int) ∈ lw_tbl := zI6 (List.mem_of_getElem? (i := 231) rfl)
theorem zc_176 : Jvm.Cond.code ⟨"LeastFailingModel", "sizeOf", "(II)I"⟩ prog_14_method_42_code 3 (some .int) ∈ lw_tbl := zI7 (List.mem_of_getElem? (i := 106) rfl)
theorem zc_177 : Jvm.Cond.code ⟨"LeastFailingModel", "copies", "(II)V"⟩ prog_14_method_43_code 4 none ∈ lw_tbl := zI7 (List.mem_of_getElem? (i := 27) rfl)
theorem zc_178 : Jvm.Cond.code ⟨"LeastFailingModel", "adds", "(II)I"⟩ prog_14_method_44_code 4 (some .int) ∈ lw_tbl := zI7 (List.mem_of_getElem? (i := 19) rfl)
theorem zc_179 : Jvm.Cond.code ⟨"LeastFailingModel", "stands", "(IZI)V"⟩ prog_14_method_45_code 6 none ∈ lw_tbl := zI7 (List.mem_of_getElem? (i := 11) rfl)
theorem zc_180 : Jvm.Cond.code ⟨"LeastFailingModel", "treeGoesOn", "()V"⟩ prog_14_method_46_code 6 none ∈ lw_tbl := zI7 (List.mem_of_getElem? (i := 3) rfl)
theorem zc_181 : Jvm.Cond.code ⟨"LeastFailingModel", "treeCloses", "()V"⟩ prog_14_method_47_code 2 none ∈ lw_tbl := zI6 (List.mem_of_getElem? (i := 227) rfl)
theorem zc_182 : Jvm.Cond.code ⟨"LeastFailingModel", "input", "()I"⟩ prog_14_method_48_code 1 (some .int) ∈ lw_tbl := zI6 (List.mem_of_getElem? (i := 223) rfl)
theorem zc_183 : Jvm.Cond.code ⟨"LeastFailingModel", "keeps", "()V"⟩ prog_14_method_49_code 1 none ∈ lw_tbl := zI7 (List.mem_of_getElem? (i := 23) rfl)
theorem zc_184 : Jvm.Cond.code ⟨"LeastFailingModel", "undo", "()I"⟩ prog_14_method_50_code 1 (some .int) ∈ lw_tbl := zI7 (List.mem_of_getElem? (i := 31) rfl)
theorem zc_185 : Jvm.Cond.code ⟨"LeastFailingModel", "emits", "(IIIII)V"⟩ prog_14_method_51_code 6 none ∈ lw_tbl := zI7 (List.mem_of_getElem? (i := 74) rfl)
theorem zc_186 : Jvm.Cond.code ⟨"LeastFailingModel", "nameInTest", "()I"⟩ prog_14_method_52_code 4 (some .int) ∈ lw_tbl := zI7 (List.mem_of_getElem? (i := 70) rfl)
theorem zc_187 : Jvm.Cond.code ⟨"LeastFailingModel", "countRead", "()V"⟩ prog_14_method_53_code 6 none ∈ lw_tbl := zI7 (List.mem_of_getElem? (i := 66) rfl)
theorem zc_188 : Jvm.Cond.code ⟨"LeastFailingModel", "piles", "(I)V"⟩ prog_14_method_54_code 2 none ∈ lw_tbl := zI7 (List.mem_of_getElem? (i := 78) rfl)
theorem zc_189 : Jvm.Cond.code ⟨"LeastFailingModel", "drops", "(II)V"⟩ prog_14_method_55_code 3 none ∈ lw_tbl := zI7 (List.mem_of_getElem? (i := 86) rfl)
theorem zc_190 : Jvm.Cond.code ⟨"LeastFailingModel", "factBegins", "()Z"⟩ prog_14_method_56_code 2 (some .boolean) ∈ lw_tbl := zI7 (List.mem_of_getElem? (i := 62) rfl)
theorem zc_191 : Jvm.Cond.code ⟨"LeastFailingModel", "factGoesOn", "()Z"⟩ prog_14_method_57_code 1 (some .boolean) ∈ lw_tbl := zI7 (List.mem_of_getElem? (i := 82) rfl)
theorem zc_192 : Jvm.Cond.code ⟨"LeastFailingModel", "testRead", "()V"⟩ prog_14_method_58_code 2 none ∈ lw_tbl := zI7 (List.mem_of_getElem? (i := 58) rfl)
theorem zc_193 : Jvm.Cond.code ⟨"LeastFailingModel", "bugs", "()I"⟩ prog_14_method_59_code 3 (some .int) ∈ lw_tbl := zI7 (List.mem_of_getElem? (i := 35) rfl)
theorem zc_194 : Jvm.Cond.code ⟨"LeastFailingModel", "bugRead", "(I)V"⟩ prog_14_method_60_code 5 none ∈ lw_tbl := zI7 (List.mem_of_getElem? (i := 39) rfl)
theorem zc_195 : Jvm.Cond.code ⟨"LeastFailingModel", "fault", "(I)I"⟩ prog_14_method_61_code 2 (some .int) ∈ lw_tbl := zI7 (List.mem_of_getElem? (i := 90) rfl)
theorem zc_196 : Jvm.Cond.code ⟨"LeastFailingModel", "lays", "(I)V"⟩ prog_14_method_62_code 6 none ∈ lw_tbl := zI7 (List.mem_of_getElem? (i := 102) rfl)
theorem zc_197 : Jvm.Cond.code ⟨"LeastFailingModel", "sortAt", "(II)I"⟩ prog_14_method_63_code 3 (some .int) ∈ lw_tbl := zI7 (List.mem_of_getElem? (i := 118) rfl)
theorem zc_198 : Jvm.Cond.code ⟨"LeastFailingModel", "leastAt", "(II)I"⟩ prog_14_method_64_code 7 (some .int) ∈ lw_tbl := zI7 (List.mem_of_getElem? (i := 143) rfl)
theorem zc_199 : Jvm.Cond.code ⟨"LeastFailingModel", "deepOf", "(I)I"⟩ prog_14_method_65_code 5 (some .int) ∈ lw_tbl := zI7 (List.mem_of_getElem? (i := 167) rfl)
theorem zc_200 : Jvm.Cond.code ⟨"LeastFailingModel", "underOf", "(III)I"⟩ prog_14_method_66_code 7 (some .int) ∈ lw_tbl := zI7 (List.mem_of_getElem? (i := 175) rfl)
theorem zc_201 : Jvm.Cond.code ⟨"LeastFailingModel", "nextOf", "(III)I"⟩ prog_14_method_67_code 9 (some .int) ∈ lw_tbl := zI7 (List.mem_of_getElem? (i := 179) rfl)
theorem zc_202 : Jvm.Cond.code ⟨"LeastFailingModel", "hasOf", "(II)I"⟩ prog_14_method_68_code 5 (some .int) ∈ lw_tbl := zI7 (List.mem_of_getElem? (i := 171) rfl)
theorem zc_203 : Jvm.Cond.code ⟨"LeastFailingModel", "countOf", "(IIII)I"⟩ prog_14_method_69_code 5 (some .int) ∈ lw_tbl := zI7 (List.mem_of_getElem? (i := 163) rfl)
theorem zc_204 : Jvm.Cond.code ⟨"LeastFailingModel", "isSo", "(II)Z"⟩ prog_14_method_70_code 6 (some .boolean) ∈ lw_tbl := zI7 (List.mem_of_getElem? (i := 159) rfl)
theorem zc_205 : Jvm.Cond.code ⟨"LeastFailingModel", "holds", "(II)Z"⟩ prog_14_method_71_code 6 (some .boolean) ∈ lw_tbl := zI7 (List.mem_of_getElem? (i := 155) rfl)
theorem zc_206 : Jvm.Cond.code ⟨"LeastFailingModel", "holdingOf", "(I)I"⟩ prog_14_method_72_code 4 (some .int) ∈ lw_tbl := zI7 (List.mem_of_getElem? (i := 151) rfl)
theorem zc_207 : Jvm.Cond.code ⟨"LeastFailingModel", "draw", "()I"⟩ prog_14_method_73_code 1 (some .int) ∈ lw_tbl := zI7 (List.mem_of_getElem? (i := 207) rfl)
theorem zc_208 : Jvm.Cond.code ⟨"LeastFailingModel", "runOf", "(I)I"⟩ prog_14_method_74_code 3 (some .int) ∈ lw_tbl := zI7 (List.mem_of_getElem? (i := 203) rfl)
theorem zc_209 : Jvm.Cond.code ⟨"LeastFailingModel", "forgets", "()V"⟩ prog_14_method_75_code 1 none ∈ lw_tbl := zI6 (List.mem_of_getElem? (i := 219) rfl)
theorem zc_210 : Jvm.Cond.code ⟨"LeastFailingModel", "cell", "(II)I"⟩ prog_14_method_76_code 3 (some .int) ∈ lw_tbl := zI7 (List.mem_of_getElem? (i := 195) rfl)
theorem zc_211 : Jvm.Cond.code ⟨"LeastFailingModel", "isTried", "(II)Z"⟩ prog_14_method_77_code 4 (some .boolean) ∈ lw_tbl := zI7 (List.mem_of_getElem? (i := 191) rfl)
theorem zc_212 : Jvm.Cond.code ⟨"LeastFailingModel", "voted", "(I)I"⟩ prog_14_method_78_code 5 (some .int) ∈ lw_tbl := zI7 (List.mem_of_getElem? (i := 199) rfl)
theorem zc_213 : Jvm.Cond.code ⟨"LeastFailingModel", "verdictOf", "(III)I"⟩ prog_14_method_79_code 6 (some .int) ∈ lw_tbl := zI7 (List.mem_of_getElem? (i := 187) rfl)
theorem zc_214 : Jvm.Cond.code ⟨"LeastFailingModel", "unmarks", "()V"⟩ prog_14_method_80_code 2 none ∈ lw_tbl := zI7 (List.mem_of_getElem? (i := 131) rfl)
theorem zc_215 : Jvm.Cond.code ⟨"LeastFailingModel", "addsLeast", "(I)V"⟩ prog_14_method_81_code 5 none ∈ lw_tbl := zI7 (List.mem_of_getElem? (i := 139) rfl)
theorem zc_216 : Jvm.Cond.code ⟨"LeastFailingModel", "addsPart", "(I)V"⟩ prog_14_method_82_code 4 none ∈ lw_tbl := zI7 (List.mem_of_getElem? (i := 147) rfl)
theorem zc_217 : Jvm.Cond.code ⟨"LeastFailingModel", "builds", "()V"⟩ prog_14_method_83_code 4 none ∈ lw_tbl := zI7 (List.mem_of_getElem? (i := 135) rfl)
theorem zc_218 : Jvm.Cond.code ⟨"LeastFailingModel", "canBeLeast", "(I)Z"⟩ prog_14_method_84_code 2 (some .boolean) ∈ lw_tbl := zI7 (List.mem_of_getElem? (i := 114) rfl)
theorem zc_219 : Jvm.Cond.code ⟨"LeastFailingModel", "changes", "(III)V"⟩ prog_14_method_85_code 4 none ∈ lw_tbl := zI7 (List.mem_of_getElem? (i := 127) rfl)
theorem zc_220 : Jvm.Cond.code ⟨"LeastFailingModel", "isOne", "(III)V"⟩ prog_14_method_86_code 4 none ∈ lw_tbl := zI7 (List.mem_of_getElem? (i := 110) rfl)
theorem zc_221 : Jvm.Cond.code ⟨"LeastFailingModel", "singles", "(I)I"⟩ prog_14_method_87_code 5 (some .int) ∈ lw_tbl := zI7 (List.mem_of_getElem? (i := 98) rfl)
theorem zc_222 : Jvm.Cond.code ⟨"LeastFailingModel", "isLaid", "(I)Z"⟩ prog_14_method_88_code 2 (some .boolean) ∈ lw_tbl := zI7 (List.mem_of_getElem? (i := 123) rfl)
theorem zc_223 : Jvm.Cond.code ⟨"LeastFailingModel", "single", "(II)I"⟩ prog_14_method_89_code 3 (some .int) ∈ lw_tbl := zI7 (List.mem_of_getElem? (i := 94) rfl)
theorem zc_224 : Jvm.Cond.code ⟨"LeastFailingModel", "tries", "(I)I"⟩ prog_14_method_90_code 2 (some .int) ∈ lw_tbl := zI7 (List.mem_of_getElem? (i := 183) rfl)
theorem zc_225 : Jvm.Cond.code ⟨"LeastFailingModel", "change", "(I)I"⟩ prog_14_method_91_code 2 (some .int) ∈ lw_tbl := zI7 (List.mem_of_getElem? (i := 215) rfl)
theorem zc_226 : Jvm.Cond.code ⟨"LeastFailingModel", "more", "()I"⟩ prog_14_method_92_code 3 (some .int) ∈ lw_tbl := zI7 (List.mem_of_getElem? (i := 219) rfl)
theorem zc_227 : Jvm.Cond.code ⟨"LeastFailingModel", "isBug", "(I)Z"⟩ prog_14_method_93_code 2 (some .boolean) ∈ lw_tbl := zI7 (List.mem_of_getElem? (i := 227) rfl)
theorem zc_228 : Jvm.Cond.code ⟨"LeastFailingModel", "apart", "(II)I"⟩ prog_14_method_94_code 4 (some .int) ∈ lw_tbl := zI7 (List.mem_of_getElem? (i := 223) rfl)
theorem zc_229 : Jvm.Cond.code ⟨"LeastFailingModel", "isTaken", "(II)Z"⟩ prog_14_method_95_code 3 (some .boolean) ∈ lw_tbl := zI8 (List.mem_of_getElem? (i := 12) rfl)
theorem zc_230 : Jvm.Cond.code ⟨"LeastFailingModel", "laysRow", "(I)V"⟩ prog_14_method_96_code 3 none ∈ lw_tbl := zI8 (List.mem_of_getElem? (i := 4) rfl)
theorem zc_231 : Jvm.Cond.code ⟨"LeastFailingModel", "takesRow", "(IIZII)Z"⟩ prog_14_method_97_code 8 (some .boolean) ∈ lw_tbl := zI8 (List.mem_of_getElem? (i := 8) rfl)
theorem zc_232 : Jvm.Cond.code ⟨"LeastFailingModel", "partFrom", "(II)I"⟩ prog_14_method_98_code 3 (some .int) ∈ lw_tbl := zI8 (List.mem_of_getElem? (i := 24) rfl)
theorem zc_233 : Jvm.Cond.code ⟨"LeastFailingModel", "takesAPart", "(IZII)Z"⟩ prog_14_method_99_code 6 (some .boolean) ∈ lw_tbl := zI8 (List.mem_of_getElem? (i := 20) rfl)
theorem zc_234 : Jvm.Cond.code ⟨"LeastFailingModel", "byHalves", "(I)V"⟩ prog_14_method_100_code 3 none ∈ lw_tbl := zI8 (List.mem_of_getElem? (i := 16) rfl)
theorem zc_235 : Jvm.Cond.code ⟨"LeastFailingModel", "byLevels", "()V"⟩ prog_14_method_101_code 2 none ∈ lw_tbl := zI8 (List.mem_of_getElem? (i := 0) rfl)
theorem zc_236 : Jvm.Cond.code ⟨"LeastFailingModel", "takesHoist", "(I)Z"⟩ prog_14_method_102_code 4 (some .boolean) ∈ lw_tbl := zI8 (List.mem_of_getElem? (i := 32) rfl)
theorem zc_237 : Jvm.Cond.code ⟨"LeastFailingModel", "takesCut", "(I)Z"⟩ prog_14_method_103_code 2 (some .boolean) ∈ lw_tbl := zI8 (List.mem_of_getElem? (i := 36) rfl)
theorem zc_238 : Jvm.Cond.code ⟨"LeastFailingModel", "byNodes", "(Z)V"⟩ prog_14_method_104_code 3 none ∈ lw_tbl := zI8 (List.mem_of_getElem? (i := 28) rfl)
theorem zc_239 : Jvm.Cond.code ⟨"LeastFailingModel", "reduces", "(I)V"⟩ prog_14_method_105_code 2 none ∈ lw_tbl := zI7 (List.mem_of_getElem? (i := 236) rfl)
theorem zc_240 : Jvm.Cond.code ⟨"LeastFailingModel", "reduce", "(II)I"⟩ prog_14_method_106_code 4 (some .int) ∈ lw_tbl := zI7 (List.mem_of_getElem? (i := 231) rfl)
theorem zc_241 : Jvm.Cond.code ⟨"LeastFailingModel", "row", "(II)I"⟩ prog_14_method_107_code 3 (some .int) ∈ lw_tbl := zI8 (List.mem_of_getElem? (i := 40) rfl)
theorem zc_242 : Jvm.Cond.code ⟨"LeastFailingModel", "part", "(IIII)I"⟩ prog_14_method_108_code 6 (some .int) ∈ lw_tbl := zI8 (List.mem_of_getElem? (i := 44) rfl)
theorem zc_243 : Jvm.Cond.code ⟨"LeastFailingModel", "tried", "(I)I"⟩ prog_14_method_109_code 4 (some .int) ∈ lw_tbl := zI8 (List.mem_of_getElem? (i := 49) rfl)
theorem zc_244 : Jvm.Cond.code ⟨"LeastFailingModel", "trace", "(II)I"⟩ prog_14_method_110_code 3 (some .int) ∈ lw_tbl := zI8 (List.mem_of_getElem? (i := 54) rfl)
theorem zc_245 : Jvm.Cond.code ⟨"LeastFailingModel", "votes", "(I)I"⟩ prog_14_method_111_code 3 (some .int) ∈ lw_tbl := zI8 (List.mem_of_getElem? (i := 58) rfl)
theorem zc_246 : Jvm.Cond.code ⟨"LeastFailingModel", "seed", "(I)I"⟩ prog_14_method_112_code 2 (some .int) ∈ lw_tbl := zI8 (List.mem_of_getElem? (i := 63) rfl)
theorem zc_247 : Jvm.Cond.code ⟨"LeastFailingModel", "ways", "(III)J"⟩ prog_14_method_113_code 6 (some .long) ∈ lw_tbl := zI8 (List.mem_of_getElem? (i := 73) rfl)
theorem zc_248 : Jvm.Cond.code ⟨"LeastFailingModel", "sureOf", "(II)I"⟩ prog_14_method_114_code 5 (some .int) ∈ lw_tbl := zI8 (List.mem_of_getElem? (i := 70) rfl)
theorem zc_249 : Jvm.Cond.code ⟨"LeastFailingModel", "sure", "(II)I"⟩ prog_14_method_115_code 3 (some .int) ∈ lw_tbl := zI8 (List.mem_of_getElem? (i := 67) rfl)
theorem zc_250 : Jvm.Cond.code ⟨"LeastFailingModel", "enough", "(II)I"⟩ prog_14_method_116_code 4 (some .int) ∈ lw_tbl := zI8 (List.mem_of_getElem? (i := 78) rfl)
theorem zc_251 : Jvm.Cond.code ⟨"LeastFailingModel", "run", "(I)I"⟩ prog_14_method_117_code 5 (some .int) ∈ lw_tbl := zI8 (List.mem_of_getElem? (i := 83) rfl)
theorem zc_252 : Jvm.Cond.code ⟨"LeastFailingModel", "often", "(III)I"⟩ prog_14_method_118_code 9 (some .int) ∈ lw_tbl := zI8 (List.mem_of_getElem? (i := 87) rfl)
theorem zc_253 : Jvm.Cond.code ⟨"LeastFailingModel", "verdict", "()I"⟩ prog_14_method_119_code 1 (some .int) ∈ lw_tbl := zI8 (List.mem_of_getElem? (i := 92) rfl)
theorem zc_254 : Jvm.Cond.code ⟨"LeastFailingModel", "count", "(I)I"⟩ prog_14_method_120_code 2 (some .int) ∈ lw_tbl := zI8 (List.mem_of_getElem? (i := 96) rfl)
theorem zc_255 : Jvm.Cond.code ⟨"LeastFailingModel", "letter", "(III)I"⟩ prog_14_method_121_code 7 (some .int) ∈ lw_tbl := zI8 (List.mem_of_getElem? (i := 100) rfl)
theorem zc_256 : Jvm.Cond.code ⟨"LeastFailingModel", "isLine", "(I)Z"⟩ prog_14_method_122_code 2 (some .boolean) ∈ lw_tbl := zI8 (List.mem_of_getElem? (i := 110) rfl)
theorem zc_257 : Jvm.Cond.code ⟨"LeastFailingModel", "line", "(II)I"⟩ prog_14_method_123_code 3 (some .int) ∈ lw_tbl := zI8 (List.mem_of_getElem? (i := 106) rfl)
theorem zc_258 : Jvm.Cond.code ⟨"LeastFailingModel", "least", "(II)I"⟩ prog_14_method_124_code 3 (some .int) ∈ lw_tbl := zI8 (List.mem_of_getElem? (i := 115) rfl)
theorem zc_259 : Jvm.Cond.code ⟨"LeastFailingModel", "partsOf", "(I)I"⟩ prog_14_method_125_code 4 (some .int) ∈ lw_tbl := zI8 (List.mem_of_getElem? (i := 123) rfl)
theorem zc_260 : Jvm.Cond.code ⟨"LeastFailingModel", "node", "(II)I"⟩ prog_14_method_126_code 3 (some .int) ∈ lw_tbl := zI8 (List.mem_of_getElem? (i := 119) rfl)
theorem zc_261 : Jvm.Cond.code ⟨"LeastFailingModel", "holding", "()I"⟩ prog_14_method_127_code 1 (some .int) ∈ lw_tbl := zI8 (List.mem_of_getElem? (i := 127) rfl)
theorem zc_262 : Jvm.Cond.code ⟨"LeastFailingModel", "counts", "(III)I"⟩ prog_14_method_128_code 4 (some .int) ∈ lw_tbl := zI8 (List.mem_of_getElem? (i := 131) rfl)
theorem zc_263 : Jvm.Cond.code ⟨"java/util/Arrays", "fill", "([JJ)V"⟩ prog_17_method_101_code 5 none ∈ lw_tbl := zI4 (List.mem_of_getElem? (i := 125) rfl)
theorem zc_264 : Jvm.Cond.code ⟨"java/util/Arrays", "fill", "([II)V"⟩ prog_17_method_103_code 4 none ∈ lw_tbl := zI2 (List.mem_of_getElem? (i := 30) rfl)
theorem zcr_0 : ∀ μ ∈ [0, 1, 2, 3, 4, 5, 6, 7, 8, 9, 10, 11, 12, 13, 14, 15, 16, 17, 18, 19, 20, 21, 22, 23, 24, 25, 26, 27, 28, 29], Jvm.Cond.code (zY μ) (zCd μ) (zMl μ) (zRt μ) ∈ lw_tbl := List.forall_mem_cons.mpr ⟨zc_0, List.forall_mem_cons.mpr ⟨zc_1, List.forall_mem_cons.mpr ⟨zc_2, List.forall_mem_cons.mpr ⟨zc_3, List.forall_mem_cons.mpr ⟨zc_4, List.forall_mem_cons.mpr ⟨zc_5, List.forall_mem_cons.mpr ⟨zc_6, List.forall_mem_cons.mpr ⟨zc_7, List.forall_mem_cons.mpr ⟨zc_8, List.forall_mem_cons.mpr ⟨zc_9, List.forall_mem_cons.mpr ⟨zc_10, List.forall_mem_cons.mpr ⟨zc_11, List.forall_mem_cons.mpr ⟨zc_12, List.forall_mem_cons.mpr ⟨zc_13, List.forall_mem_cons.mpr ⟨zc_14, List.forall_mem_cons.mpr ⟨zc_15, List.forall_mem_cons.mpr ⟨zc_16, List.forall_mem_cons.mpr ⟨zc_17, List.forall_mem_cons.mpr ⟨zc_18, List.forall_mem_cons.mpr ⟨zc_19, List.forall_mem_cons.mpr ⟨zc_20, List.forall_mem_cons.mpr ⟨zc_21, List.forall_mem_cons.mpr ⟨zc_22, List.forall_mem_cons.mpr ⟨zc_23, List.forall_mem_cons.mpr ⟨zc_24, List.forall_mem_cons.mpr ⟨zc_25, List.forall_mem_cons.mpr ⟨zc_26, List.forall_mem_cons.mpr ⟨zc_27, List.forall_mem_cons.mpr ⟨zc_28, List.forall_mem_cons.mpr ⟨zc_29, fun _ q => absurd q List.not_mem_nil⟩⟩⟩⟩⟩⟩⟩⟩⟩⟩⟩⟩⟩⟩⟩⟩⟩⟩⟩⟩⟩⟩⟩⟩⟩⟩⟩⟩⟩⟩
theorem zcr_30 : ∀ μ ∈ [30, 31, 32, 33, 34, 35, 36, 37, 38, 39, 40, 41, 42, 43, 44, 45, 46, 47, 48, 49, 50, 51, 52, 53, 54, 55, 56, 57, 58, 59], Jvm.Cond.code (zY μ) (zCd μ) (zMl μ) (zRt μ) ∈ lw_tbl := List.forall_mem_cons.mpr ⟨zc_30, List.forall_mem_cons.mpr ⟨zc_31, List.forall_mem_cons.mpr ⟨zc_32, List.forall_mem_cons.mpr ⟨zc_33, List.forall_mem_cons.mpr ⟨zc_34, List.forall_mem_cons.mpr ⟨zc_35, List.forall_mem_cons.mpr ⟨zc_36, List.forall_mem_cons.mpr ⟨zc_37, List.forall_mem_cons.mpr ⟨zc_38, List.forall_mem_cons.mpr ⟨zc_39, List.forall_mem_cons.mpr ⟨zc_40, List.forall_mem_cons.mpr ⟨zc_41, List.forall_mem_cons.mpr ⟨zc_42, List.forall_mem_cons.mpr ⟨zc_43, List.forall_mem_cons.mpr ⟨zc_44, List.forall_mem_cons.mpr ⟨zc_45, List.forall_mem_cons.mpr ⟨zc_46, List.forall_mem_cons.mpr ⟨zc_47, List.forall_mem_cons.mpr ⟨zc_48, List.forall_mem_cons.mpr ⟨zc_49, List.forall_mem_cons.mpr ⟨zc_50, List.forall_mem_cons.mpr ⟨zc_51, List.forall_mem_cons.mpr ⟨zc_52, List.forall_mem_cons.mpr ⟨zc_53, List.forall_mem_cons.mpr ⟨zc_54, List.forall_mem_cons.mpr ⟨zc_55, List.forall_mem_cons.mpr ⟨zc_56, List.forall_mem_cons.mpr ⟨zc_57, List.forall_mem_cons.mpr ⟨zc_58, List.forall_mem_cons.mpr ⟨zc_59, fun _ q => absurd q List.not_mem_nil⟩⟩⟩⟩⟩⟩⟩⟩⟩⟩⟩⟩⟩⟩⟩⟩⟩⟩⟩⟩⟩⟩⟩⟩⟩⟩⟩⟩⟩⟩
theorem zcr_60 : ∀ μ ∈ [60, 61, 62, 63, 64, 65, 66, 67, 68, 69, 70, 71, 72, 73, 74, 75, 76, 77, 78, 79, 80, 81, 82, 83, 84, 85, 86, 87, 88, 89], Jvm.Cond.code (zY μ) (zCd μ) (zMl μ) (zRt μ) ∈ lw_tbl := List.forall_mem_cons.mpr ⟨zc_60, List.forall_mem_cons.mpr ⟨zc_61, List.forall_mem_cons.mpr ⟨zc_62, List.forall_mem_cons.mpr ⟨zc_63, List.forall_mem_cons.mpr ⟨zc_64, List.forall_mem_cons.mpr ⟨zc_65, List.forall_mem_cons.mpr ⟨zc_66, List.forall_mem_cons.mpr ⟨zc_67, List.forall_mem_cons.mpr ⟨zc_68, List.forall_mem_cons.mpr ⟨zc_69, List.forall_mem_cons.mpr ⟨zc_70, List.forall_mem_cons.mpr ⟨zc_71, List.forall_mem_cons.mpr ⟨zc_72, List.forall_mem_cons.mpr ⟨zc_73, List.forall_mem_cons.mpr ⟨zc_74, List.forall_mem_cons.mpr ⟨zc_75, List.forall_mem_cons.mpr ⟨zc_76, List.forall_mem_cons.mpr ⟨zc_77, List.forall_mem_cons.mpr ⟨zc_78, List.forall_mem_cons.mpr ⟨zc_79, List.forall_mem_cons.mpr ⟨zc_80, List.forall_mem_cons.mpr ⟨zc_81, List.forall_mem_cons.mpr ⟨zc_82, List.forall_mem_cons.mpr ⟨zc_83, List.forall_mem_cons.mpr ⟨zc_84, List.forall_mem_cons.mpr ⟨zc_85, List.forall_mem_cons.mpr ⟨zc_86, List.forall_mem_cons.mpr ⟨zc_87, List.forall_mem_cons.mpr ⟨zc_88, List.forall_mem_cons.mpr ⟨zc_89, fun _ q => absurd q List.not_mem_nil⟩⟩⟩⟩⟩⟩⟩⟩⟩⟩⟩⟩⟩⟩⟩⟩⟩⟩⟩⟩⟩⟩⟩⟩⟩⟩⟩⟩⟩⟩
theorem zcr_90 : ∀ μ ∈ [90, 91, 92, 93, 94, 95, 96, 97, 98, 99, 100, 101, 102, 103, 104, 105, 106, 107, 108, 109, 110, 111, 112, 113, 114, 115, 116, 117, 118, 119], Jvm.Cond.code (zY μ) (zCd μ) (zMl μ) (zRt μ) ∈ lw_tbl := List.forall_mem_cons.mpr ⟨zc_90, List.forall_mem_cons.mpr ⟨zc_91, List.forall_mem_cons.mpr ⟨zc_92, List.forall_mem_cons.mpr ⟨zc_93, List.forall_mem_cons.mpr ⟨zc_94, List.forall_mem_cons.mpr ⟨zc_95, List.forall_mem_cons.mpr ⟨zc_96, List.forall_mem_cons.mpr ⟨zc_97, List.forall_mem_cons.mpr ⟨zc_98, List.forall_mem_cons.mpr ⟨zc_99, List.forall_mem_cons.mpr ⟨zc_100, List.forall_mem_cons.mpr ⟨zc_101, List.forall_mem_cons.mpr ⟨zc_102, List.forall_mem_cons.mpr ⟨zc_103, List.forall_mem_cons.mpr ⟨zc_104, List.forall_mem_cons.mpr ⟨zc_105, List.forall_mem_cons.mpr ⟨zc_106, List.forall_mem_cons.mpr ⟨zc_107, List.forall_mem_cons.mpr ⟨zc_108, List.forall_mem_cons.mpr ⟨zc_109, List.forall_mem_cons.mpr ⟨zc_110, List.forall_mem_cons.mpr ⟨zc_111, List.forall_mem_cons.mpr ⟨zc_112, List.forall_mem_cons.mpr ⟨zc_113, List.forall_mem_cons.mpr ⟨zc_114, List.forall_mem_cons.mpr ⟨zc_115, List.forall_mem_cons.mpr ⟨zc_116, List.forall_mem_cons.mpr ⟨zc_117, List.forall_mem_cons.mpr ⟨zc_118, List.forall_mem_cons.mpr ⟨zc_119, fun _ q => absurd q List.not_mem_nil⟩⟩⟩⟩⟩⟩⟩⟩⟩⟩⟩⟩⟩⟩⟩⟩⟩⟩⟩⟩⟩⟩⟩⟩⟩⟩⟩⟩⟩⟩
theorem zcr_120 : ∀ μ ∈ [120, 121, 122, 123, 124, 125, 126, 127, 128, 129, 130, 131, 132, 133, 134, 135, 136, 137, 138, 139, 140, 141, 142, 143, 144, 145, 146, 147, 148, 149], Jvm.Cond.code (zY μ) (zCd μ) (zMl μ) (zRt μ) ∈ lw_tbl := List.forall_mem_cons.mpr ⟨zc_120, List.forall_mem_cons.mpr ⟨zc_121, List.forall_mem_cons.mpr ⟨zc_122, List.forall_mem_cons.mpr ⟨zc_123, List.forall_mem_cons.mpr ⟨zc_124, List.forall_mem_cons.mpr ⟨zc_125, List.forall_mem_cons.mpr ⟨zc_126, List.forall_mem_cons.mpr ⟨zc_127, List.forall_mem_cons.mpr ⟨zc_128, List.forall_mem_cons.mpr ⟨zc_129, List.forall_mem_cons.mpr ⟨zc_130, List.forall_mem_cons.mpr ⟨zc_131, List.forall_mem_cons.mpr ⟨zc_132, List.forall_mem_cons.mpr ⟨zc_133, List.forall_mem_cons.mpr ⟨zc_134, List.forall_mem_cons.mpr ⟨zc_135, List.forall_mem_cons.mpr ⟨zc_136, List.forall_mem_cons.mpr ⟨zc_137, List.forall_mem_cons.mpr ⟨zc_138, List.forall_mem_cons.mpr ⟨zc_139, List.forall_mem_cons.mpr ⟨zc_140, List.forall_mem_cons.mpr ⟨zc_141, List.forall_mem_cons.mpr ⟨zc_142, List.forall_mem_cons.mpr ⟨zc_143, List.forall_mem_cons.mpr ⟨zc_144, List.forall_mem_cons.mpr ⟨zc_145, List.forall_mem_cons.mpr ⟨zc_146, List.forall_mem_cons.mpr ⟨zc_147, List.forall_mem_cons.mpr ⟨zc_148, List.forall_mem_cons.mpr ⟨zc_149, fun _ q => absurd q List.not_mem_nil⟩⟩⟩⟩⟩⟩⟩⟩⟩⟩⟩⟩⟩⟩⟩⟩⟩⟩⟩⟩⟩⟩⟩⟩⟩⟩⟩⟩⟩⟩
theorem zcr_150 : ∀ μ ∈ [150, 151, 152, 153, 154, 155, 156, 157, 158, 159, 160, 161, 162, 163, 164, 165, 166, 167, 168, 169, 170, 171, 172, 173, 174, 175, 176, 177, 178, 179], Jvm.Cond.code (zY μ) (zCd μ) (zMl μ) (zRt μ) ∈ lw_tbl := List.forall_mem_cons.mpr ⟨zc_150, List.forall_mem_cons.mpr ⟨zc_151, List.forall_mem_cons.mpr ⟨zc_152, List.forall_mem_cons.mpr ⟨zc_153, List.forall_mem_cons.mpr ⟨zc_154, List.forall_mem_cons.mpr ⟨zc_155, List.forall_mem_cons.mpr ⟨zc_156, List.forall_mem_cons.mpr ⟨zc_157, List.forall_mem_cons.mpr ⟨zc_158, List.forall_mem_cons.mpr ⟨zc_159, List.forall_mem_cons.mpr ⟨zc_160, List.forall_mem_cons.mpr ⟨zc_161, List.forall_mem_cons.mpr ⟨zc_162, List.forall_mem_cons.mpr ⟨zc_163, List.forall_mem_cons.mpr ⟨zc_164, List.forall_mem_cons.mpr ⟨zc_165, List.forall_mem_cons.mpr ⟨zc_166, List.forall_mem_cons.mpr ⟨zc_167, List.forall_mem_cons.mpr ⟨zc_168, List.forall_mem_cons.mpr ⟨zc_169, List.forall_mem_cons.mpr ⟨zc_170, List.forall_mem_cons.mpr ⟨zc_171, List.forall_mem_cons.mpr ⟨zc_172, List.forall_mem_cons.mpr ⟨zc_173, List.forall_mem_cons.mpr ⟨zc_174, List.forall_mem_cons.mpr ⟨zc_175, List.forall_mem_cons.mpr ⟨zc_176, List.forall_mem_cons.mpr ⟨zc_177, List.forall_mem_cons.mpr ⟨zc_178, List.forall_mem_cons.mpr ⟨zc_179, fun _ q => absurd q List.not_mem_nil⟩⟩⟩⟩⟩⟩⟩⟩⟩⟩⟩⟩⟩⟩⟩⟩⟩⟩⟩⟩⟩⟩⟩⟩⟩⟩⟩⟩⟩⟩
theorem zcr_180 : ∀ μ ∈ [180, 181, 182, 183, 184, 185, 186, 187, 188, 189, 190, 191, 192, 193, 194, 195, 196, 197, 198, 199, 200, 201, 202, 203, 204, 205, 206, 207, 208, 209], Jvm.Cond.code (zY μ) (zCd μ) (zMl μ) (zRt μ) ∈ lw_tbl := List.forall_mem_cons.mpr ⟨zc_180, List.forall_mem_cons.mpr ⟨zc_181, List.forall_mem_cons.mpr ⟨zc_182, List.forall_mem_cons.mpr ⟨zc_183, List.forall_mem_cons.mpr ⟨zc_184, List.forall_mem_cons.mpr ⟨zc_185, List.forall_mem_cons.mpr ⟨zc_186, List.forall_mem_cons.mpr ⟨zc_187, List.forall_mem_cons.mpr ⟨zc_188, List.forall_mem_cons.mpr ⟨zc_189, List.forall_mem_cons.mpr ⟨zc_190, List.forall_mem_cons.mpr ⟨zc_191, List.forall_mem_cons.mpr ⟨zc_192, List.forall_mem_cons.mpr ⟨zc_193, List.forall_mem_cons.mpr ⟨zc_194, List.forall_mem_cons.mpr ⟨zc_195, List.forall_mem_cons.mpr ⟨zc_196, List.forall_mem_cons.mpr ⟨zc_197, List.forall_mem_cons.mpr ⟨zc_198, List.forall_mem_cons.mpr ⟨zc_199, List.forall_mem_cons.mpr ⟨zc_200, List.forall_mem_cons.mpr ⟨zc_201, List.forall_mem_cons.mpr ⟨zc_202, List.forall_mem_cons.mpr ⟨zc_203, List.forall_mem_cons.mpr ⟨zc_204, List.forall_mem_cons.mpr ⟨zc_205, List.forall_mem_cons.mpr ⟨zc_206, List.forall_mem_cons.mpr ⟨zc_207, List.forall_mem_cons.mpr ⟨zc_208, List.forall_mem_cons.mpr ⟨zc_209, fun _ q => absurd q List.not_mem_nil⟩⟩⟩⟩⟩⟩⟩⟩⟩⟩⟩⟩⟩⟩⟩⟩⟩⟩⟩⟩⟩⟩⟩⟩⟩⟩⟩⟩⟩⟩
theorem zcr_210 : ∀ μ ∈ [210, 211, 212, 213, 214, 215, 216, 217, 218, 219, 220, 221, 222, 223, 224, 225, 226, 227, 228, 229, 230, 231, 232, 233, 234, 235, 236, 237, 238, 239], Jvm.Cond.code (zY μ) (zCd μ) (zMl μ) (zRt μ) ∈ lw_tbl := List.forall_mem_cons.mpr ⟨zc_210, List.forall_mem_cons.mpr ⟨zc_211, List.forall_mem_cons.mpr ⟨zc_212, List.forall_mem_cons.mpr ⟨zc_213, List.forall_mem_cons.mpr ⟨zc_214, List.forall_mem_cons.mpr ⟨zc_215, List.forall_mem_cons.mpr ⟨zc_216, List.forall_mem_cons.mpr ⟨zc_217, List.forall_mem_cons.mpr ⟨zc_218, List.forall_mem_cons.mpr ⟨zc_219, List.forall_mem_cons.mpr ⟨zc_220, List.forall_mem_cons.mpr ⟨zc_221, List.forall_mem_cons.mpr ⟨zc_222, List.forall_mem_cons.mpr ⟨zc_223, List.forall_mem_cons.mpr ⟨zc_224, List.forall_mem_cons.mpr ⟨zc_225, List.forall_mem_cons.mpr ⟨zc_226, List.forall_mem_cons.mpr ⟨zc_227, List.forall_mem_cons.mpr ⟨zc_228, List.forall_mem_cons.mpr ⟨zc_229, List.forall_mem_cons.mpr ⟨zc_230, List.forall_mem_cons.mpr ⟨zc_231, List.forall_mem_cons.mpr ⟨zc_232, List.forall_mem_cons.mpr ⟨zc_233, List.forall_mem_cons.mpr ⟨zc_234, List.forall_mem_cons.mpr ⟨zc_235, List.forall_mem_cons.mpr ⟨zc_236, List.forall_mem_cons.mpr ⟨zc_237, List.forall_mem_cons.mpr ⟨zc_238, List.forall_mem_cons.mpr ⟨zc_239, fun _ q => absurd q List.not_mem_nil⟩⟩⟩⟩⟩⟩⟩⟩⟩⟩⟩⟩⟩⟩⟩⟩⟩⟩⟩⟩⟩⟩⟩⟩⟩⟩⟩⟩⟩⟩
theorem zcr_240 : ∀ μ ∈ [240, 241, 242, 243, 244, 245, 246, 247, 248, 249, 250, 251, 252, 253, 254, 255, 256, 257, 258, 259, 260, 261, 262, 263, 264], Jvm.Cond.code (zY μ) (zCd μ) (zMl μ) (zRt μ) ∈ lw_tbl := List.forall_mem_cons.mpr ⟨zc_240, List.forall_mem_cons.mpr ⟨zc_241, List.forall_mem_cons.mpr ⟨zc_242, List.forall_mem_cons.mpr ⟨zc_243, List.forall_mem_cons.mpr ⟨zc_244, List.forall_mem_cons.mpr ⟨zc_245, List.forall_mem_cons.mpr ⟨zc_246, List.forall_mem_cons.mpr ⟨zc_247, List.forall_mem_cons.mpr ⟨zc_248, List.forall_mem_cons.mpr ⟨zc_249, List.forall_mem_cons.mpr ⟨zc_250, List.forall_mem_cons.mpr ⟨zc_251, List.forall_mem_cons.mpr ⟨zc_252, List.forall_mem_cons.mpr ⟨zc_253, List.forall_mem_cons.mpr ⟨zc_254, List.forall_mem_cons.mpr ⟨zc_255, List.forall_mem_cons.mpr ⟨zc_256, List.forall_mem_cons.mpr ⟨zc_257, List.forall_mem_cons.mpr ⟨zc_258, List.forall_mem_cons.mpr ⟨zc_259, List.forall_mem_cons.mpr ⟨zc_260, List.forall_mem_cons.mpr ⟨zc_261, List.forall_mem_cons.mpr ⟨zc_262, List.forall_mem_cons.mpr ⟨zc_263, List.forall_mem_cons.mpr ⟨zc_264, fun _ q => absurd q List.not_mem_nil⟩⟩⟩⟩⟩⟩⟩⟩⟩⟩⟩⟩⟩⟩⟩⟩⟩⟩⟩⟩⟩⟩⟩⟩⟩
theorem zc_split : ∀ μ, μ < 265 → μ ∈ [0, 1, 2, 3, 4, 5, 6, 7, 8, 9, 10, 11, 12, 13, 14, 15, 16, 17, 18, 19, 20, 21, 22, 23, 24, 25, 26, 27, 28, 29] ∨ μ ∈ [30, 31, 32, 33, 34, 35, 36, 37, 38, 39, 40, 41, 42, 43, 44, 45, 46, 47, 48, 49, 50, 51, 52, 53, 54, 55, 56, 57, 58, 59] ∨ μ ∈ [60, 61, 62, 63, 64, 65, 66, 67, 68, 69, 70, 71, 72, 73, 74, 75, 76, 77, 78, 79, 80, 81, 82, 83, 84, 85, 86, 87, 88, 89] ∨ μ ∈ [90, 91, 92, 93, 94, 95, 96, 97, 98, 99, 100, 101, 102, 103, 104, 105, 106, 107, 108, 109, 110, 111, 112, 113, 114, 115, 116, 117, 118, 119] ∨ μ ∈ [120, 121, 122, 123, 124, 125, 126, 127, 128, 129, 130, 131, 132, 133, 134, 135, 136, 137, 138, 139, 140, 141, 142, 143, 144, 145, 146, 147, 148, 149] ∨ μ ∈ [150, 151, 152, 153, 154, 155, 156, 157, 158, 159, 160, 161, 162, 163, 164, 165, 166, 167, 168, 169, 170, 171, 172, 173, 174, 175, 176, 177, 178, 179] ∨ μ ∈ [180, 181, 182, 183, 184, 185, 186, 187, 188, 189, 190, 191, 192, 193, 194, 195, 196, 197, 198, 199, 200, 201, 202, 203, 204, 205, 206, 207, 208, 209] ∨ μ ∈ [210, 211, 212, 213, 214, 215, 216, 217, 218, 219, 220, 221, 222, 223, 224, 225, 226, 227, 228, 229, 230, 231, 232, 233, 234, 235, 236, 237, 238, 239] ∨ μ ∈ [240, 241, 242, 243, 244, 245, 246, 247, 248, 249, 250, 251, 252, 253, 254, 255, 256, 257, 258, 259, 260, 261, 262, 263, 264] := by decide +kernel
theorem zc_code (μ : Nat) (h : μ < 265) : Jvm.Cond.code (zY μ) (zCd μ) (zMl μ) (zRt μ) ∈ lw_tbl := by
  rcases zc_split μ h with h | h | h | h | h | h | h | h | h
  · exact zcr_0 μ h
  · exact zcr_30 μ h
  · exact zcr_60 μ h
  · exact zcr_90 μ h
  · exact zcr_120 μ h
  · exact zcr_150 μ h
  · exact zcr_180 μ h
  · exact zcr_210 μ h
  · exact zcr_240 μ h
def zTb : List Jvm.Cond := lw_tbl.filter goodWord
theorem zGw {w : Jvm.Cond} (h : w ∈ lw_tbl) (g : goodWord w = true) : w ∈ zTb := List.mem_filter.mpr ⟨h, g⟩
-- OWN_WORDS: entries [54]
theorem zc_ow : Jvm.Cond.fieldLink "LeastFailing$Text" 54 "LeastFailing$Text" "OWN_WORDS" "[I" ∈ lw_tbl := List.mem_of_getElem? (i := 638) (by decide +kernel)
theorem zc_acn : Jvm.Cond.native arraycopyName ∈ lw_tbl := List.mem_of_getElem? (i := 702) (by decide +kernel)
theorem zc_acs : Jvm.Cond.static arraycopyName ∈ lw_tbl := List.mem_of_getElem? (i := 701) (by decide +kernel)
theorem zc_aci : Jvm.Cond.initialized "java/lang/System" ∈ lw_tbl := List.mem_of_getElem? (i := 141) (by decide +kernel)
theorem zc_maxs : Jvm.Cond.static Lib.Math.max.name ∈ lw_tbl := List.mem_of_getElem? (i := 771) (by decide +kernel)
theorem zc_maxc : Jvm.Cond.code Lib.Math.max.name Lib.Math.max.code 2 (some .int) ∈ lw_tbl := zI3 (List.mem_of_getElem? (i := 166) rfl)
theorem zc_mins : Jvm.Cond.static Lib.Math.min.name ∈ lw_tbl := List.mem_of_getElem? (i := 1124) (by decide +kernel)
theorem zc_minc : Jvm.Cond.code Lib.Math.min.name Lib.Math.min.code 2 (some .int) ∈ lw_tbl := zI5 (List.mem_of_getElem? (i := 39) rfl)
theorem zc_mai : Jvm.Cond.initialized "java/lang/Math" ∈ lw_tbl := List.mem_of_getElem? (i := 142) (by decide +kernel)
