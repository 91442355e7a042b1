section
-- ===== PART A: goes FIRST, ahead of the names: the tables' words, and 'selects' of the private methods out of them =====
/-- a private method of a class that the tables say can be made, by its rows of tables_1 -/
def lw_okq (q : MethodName × Nat) : Prop := (q.1.cls ≠ "java/lang/invoke/MethodHandle" ∧ q.1.cls ≠ "java/lang/invoke/VarHandle") ∧ Cond.instantiable q.1.cls q.2 ∈ tables_1 ∧ Cond.privateMethod q.1 ∈ tables_1 ∧ Cond.instanceMethod q.1 ∈ tables_1
theorem lw_p0 : lw_okq (⟨"QuorumBakery", "barredUnder", "(LQuorumBakery$Agreement;I)I"⟩, 8) := ⟨⟨by decide +kernel, by decide +kernel⟩, List.mem_of_getElem? (i := 20) (by decide +kernel), List.mem_of_getElem? (i := 277) (by decide +kernel), List.mem_of_getElem? (i := 278) (by decide +kernel)⟩
theorem lw_p1 : lw_okq (⟨"java/lang/Throwable", "fillInStackTrace", "(I)Ljava/lang/Throwable;"⟩, 6) := ⟨⟨by decide +kernel, by decide +kernel⟩, List.mem_of_getElem? (i := 331) (by decide +kernel), List.mem_of_getElem? (i := 329) (by decide +kernel), List.mem_of_getElem? (i := 330) (by decide +kernel)⟩
theorem lw_p2 : lw_okq (⟨"QuorumBakery", "checkReach", "(II)V"⟩, 8) := ⟨⟨by decide +kernel, by decide +kernel⟩, List.mem_of_getElem? (i := 20) (by decide +kernel), List.mem_of_getElem? (i := 431) (by decide +kernel), List.mem_of_getElem? (i := 432) (by decide +kernel)⟩
theorem lw_p3 : lw_okq (⟨"QuorumBakery$Agreement", "takeTerm", "(II)V"⟩, 12) := ⟨⟨by decide +kernel, by decide +kernel⟩, List.mem_of_getElem? (i := 28) (by decide +kernel), List.mem_of_getElem? (i := 445) (by decide +kernel), List.mem_of_getElem? (i := 446) (by decide +kernel)⟩
theorem lw_p4 : lw_okq (⟨"QuorumBakery$Agreement", "hasBetterLog", "(II)Z"⟩, 12) := ⟨⟨by decide +kernel, by decide +kernel⟩, List.mem_of_getElem? (i := 28) (by decide +kernel), List.mem_of_getElem? (i := 449) (by decide +kernel), List.mem_of_getElem? (i := 450) (by decide +kernel)⟩
theorem lw_p5 : lw_okq (⟨"QuorumBakery$Agreement", "lastTerm", "(I)I"⟩, 12) := ⟨⟨by decide +kernel, by decide +kernel⟩, List.mem_of_getElem? (i := 28) (by decide +kernel), List.mem_of_getElem? (i := 453) (by decide +kernel), List.mem_of_getElem? (i := 454) (by decide +kernel)⟩
theorem lw_p6 : lw_okq (⟨"QuorumBakery$Agreement", "giveVote", "(II)V"⟩, 12) := ⟨⟨by decide +kernel, by decide +kernel⟩, List.mem_of_getElem? (i := 28) (by decide +kernel), List.mem_of_getElem? (i := 457) (by decide +kernel), List.mem_of_getElem? (i := 458) (by decide +kernel)⟩
theorem lw_p7 : lw_okq (⟨"QuorumBakery", "checkLeader", "(I)V"⟩, 8) := ⟨⟨by decide +kernel, by decide +kernel⟩, List.mem_of_getElem? (i := 20) (by decide +kernel), List.mem_of_getElem? (i := 474) (by decide +kernel), List.mem_of_getElem? (i := 475) (by decide +kernel)⟩
theorem lw_p8 : lw_okq (⟨"QuorumBakery$Agreement", "append", "(II)V"⟩, 12) := ⟨⟨by decide +kernel, by decide +kernel⟩, List.mem_of_getElem? (i := 28) (by decide +kernel), List.mem_of_getElem? (i := 484) (by decide +kernel), List.mem_of_getElem? (i := 485) (by decide +kernel)⟩
theorem lw_p9 : lw_okq (⟨"QuorumBakery$Agreement", "judgeHeld", "(I)V"⟩, 12) := ⟨⟨by decide +kernel, by decide +kernel⟩, List.mem_of_getElem? (i := 28) (by decide +kernel), List.mem_of_getElem? (i := 488) (by decide +kernel), List.mem_of_getElem? (i := 489) (by decide +kernel)⟩
theorem lw_p10 : lw_okq (⟨"QuorumBakery$Agreement", "commonLength", "(II)I"⟩, 12) := ⟨⟨by decide +kernel, by decide +kernel⟩, List.mem_of_getElem? (i := 28) (by decide +kernel), List.mem_of_getElem? (i := 508) (by decide +kernel), List.mem_of_getElem? (i := 509) (by decide +kernel)⟩
theorem lw_p11 : lw_okq (⟨"QuorumBakery$Agreement", "cutAt", "(II)V"⟩, 12) := ⟨⟨by decide +kernel, by decide +kernel⟩, List.mem_of_getElem? (i := 28) (by decide +kernel), List.mem_of_getElem? (i := 515) (by decide +kernel), List.mem_of_getElem? (i := 516) (by decide +kernel)⟩
theorem lw_p12 : lw_okq (⟨"QuorumBakery$Agreement", "copyRest", "(II)I"⟩, 12) := ⟨⟨by decide +kernel, by decide +kernel⟩, List.mem_of_getElem? (i := 28) (by decide +kernel), List.mem_of_getElem? (i := 519) (by decide +kernel), List.mem_of_getElem? (i := 520) (by decide +kernel)⟩
theorem lw_p13 : lw_okq (⟨"QuorumBakery", "callBackUnheld", "(J)V"⟩, 8) := ⟨⟨by decide +kernel, by decide +kernel⟩, List.mem_of_getElem? (i := 20) (by decide +kernel), List.mem_of_getElem? (i := 524) (by decide +kernel), List.mem_of_getElem? (i := 525) (by decide +kernel)⟩
theorem lw_p14 : lw_okq (⟨"QuorumBakery", "callBackVersion", "(I)V"⟩, 8) := ⟨⟨by decide +kernel, by decide +kernel⟩, List.mem_of_getElem? (i := 20) (by decide +kernel), List.mem_of_getElem? (i := 528) (by decide +kernel), List.mem_of_getElem? (i := 529) (by decide +kernel)⟩
theorem lw_p15 : lw_okq (⟨"QuorumBakery", "callBackBatch", "(II)I"⟩, 8) := ⟨⟨by decide +kernel, by decide +kernel⟩, List.mem_of_getElem? (i := 20) (by decide +kernel), List.mem_of_getElem? (i := 532) (by decide +kernel), List.mem_of_getElem? (i := 533) (by decide +kernel)⟩
def lw_privs_1 : List (MethodName × Nat) := [(⟨"QuorumBakery", "barredUnder", "(LQuorumBakery$Agreement;I)I"⟩, 8), (⟨"java/lang/Throwable", "fillInStackTrace", "(I)Ljava/lang/Throwable;"⟩, 6), (⟨"QuorumBakery", "checkReach", "(II)V"⟩, 8), (⟨"QuorumBakery$Agreement", "takeTerm", "(II)V"⟩, 12), (⟨"QuorumBakery$Agreement", "hasBetterLog", "(II)Z"⟩, 12), (⟨"QuorumBakery$Agreement", "lastTerm", "(I)I"⟩, 12), (⟨"QuorumBakery$Agreement", "giveVote", "(II)V"⟩, 12), (⟨"QuorumBakery", "checkLeader", "(I)V"⟩, 8), (⟨"QuorumBakery$Agreement", "append", "(II)V"⟩, 12), (⟨"QuorumBakery$Agreement", "judgeHeld", "(I)V"⟩, 12), (⟨"QuorumBakery$Agreement", "commonLength", "(II)I"⟩, 12), (⟨"QuorumBakery$Agreement", "cutAt", "(II)V"⟩, 12), (⟨"QuorumBakery$Agreement", "copyRest", "(II)I"⟩, 12), (⟨"QuorumBakery", "callBackUnheld", "(J)V"⟩, 8), (⟨"QuorumBakery", "callBackVersion", "(I)V"⟩, 8), (⟨"QuorumBakery", "callBackBatch", "(II)I"⟩, 8)]
theorem lw_r1 : ∀ q ∈ lw_privs_1, lw_okq q := List.forall_mem_cons.mpr ⟨lw_p0, List.forall_mem_cons.mpr ⟨lw_p1, List.forall_mem_cons.mpr ⟨lw_p2, List.forall_mem_cons.mpr ⟨lw_p3, List.forall_mem_cons.mpr ⟨lw_p4, List.forall_mem_cons.mpr ⟨lw_p5, List.forall_mem_cons.mpr ⟨lw_p6, List.forall_mem_cons.mpr ⟨lw_p7, List.forall_mem_cons.mpr ⟨lw_p8, List.forall_mem_cons.mpr ⟨lw_p9, List.forall_mem_cons.mpr ⟨lw_p10, List.forall_mem_cons.mpr ⟨lw_p11, List.forall_mem_cons.mpr ⟨lw_p12, List.forall_mem_cons.mpr ⟨lw_p13, List.forall_mem_cons.mpr ⟨lw_p14, List.forall_mem_cons.mpr ⟨lw_p15, fun _ h => absurd h List.not_mem_nil⟩⟩⟩⟩⟩⟩⟩⟩⟩⟩⟩⟩⟩⟩⟩⟩
theorem lw_p16 : lw_okq (⟨"QuorumBakery", "checkVersion", "(I)V"⟩, 8) := ⟨⟨by decide +kernel, by decide +kernel⟩, List.mem_of_getElem? (i := 20) (by decide +kernel), List.mem_of_getElem? (i := 590) (by decide +kernel), List.mem_of_getElem? (i := 591) (by decide +kernel)⟩
theorem lw_p17 : lw_okq (⟨"QuorumBakery", "findCurrent", "(II)I"⟩, 8) := ⟨⟨by decide +kernel, by decide +kernel⟩, List.mem_of_getElem? (i := 20) (by decide +kernel), List.mem_of_getElem? (i := 623) (by decide +kernel), List.mem_of_getElem? (i := 624) (by decide +kernel)⟩
theorem lw_p18 : lw_okq (⟨"QuorumBakery", "checkLot", "(I)V"⟩, 8) := ⟨⟨by decide +kernel, by decide +kernel⟩, List.mem_of_getElem? (i := 20) (by decide +kernel), List.mem_of_getElem? (i := 642) (by decide +kernel), List.mem_of_getElem? (i := 643) (by decide +kernel)⟩
theorem lw_p19 : lw_okq (⟨"QuorumBakery", "checkGood", "(I)V"⟩, 8) := ⟨⟨by decide +kernel, by decide +kernel⟩, List.mem_of_getElem? (i := 20) (by decide +kernel), List.mem_of_getElem? (i := 648) (by decide +kernel), List.mem_of_getElem? (i := 649) (by decide +kernel)⟩
theorem lw_p20 : lw_okq (⟨"QuorumBakery$Flour", "throwOutOf", "(II)V"⟩, 4) := ⟨⟨by decide +kernel, by decide +kernel⟩, List.mem_of_getElem? (i := 134) (by decide +kernel), List.mem_of_getElem? (i := 669) (by decide +kernel), List.mem_of_getElem? (i := 670) (by decide +kernel)⟩
theorem lw_p21 : lw_okq (⟨"QuorumBakery", "callBackLot", "(I)I"⟩, 8) := ⟨⟨by decide +kernel, by decide +kernel⟩, List.mem_of_getElem? (i := 20) (by decide +kernel), List.mem_of_getElem? (i := 673) (by decide +kernel), List.mem_of_getElem? (i := 674) (by decide +kernel)⟩
theorem lw_p22 : lw_okq (⟨"QuorumBakery", "checkHour", "(I)V"⟩, 8) := ⟨⟨by decide +kernel, by decide +kernel⟩, List.mem_of_getElem? (i := 20) (by decide +kernel), List.mem_of_getElem? (i := 691) (by decide +kernel), List.mem_of_getElem? (i := 692) (by decide +kernel)⟩
theorem lw_p23 : lw_okq (⟨"QuorumBakery", "putCurrent", "(III)I"⟩, 8) := ⟨⟨by decide +kernel, by decide +kernel⟩, List.mem_of_getElem? (i := 20) (by decide +kernel), List.mem_of_getElem? (i := 697) (by decide +kernel), List.mem_of_getElem? (i := 698) (by decide +kernel)⟩
theorem lw_p24 : lw_okq (⟨"QuorumBakery", "passHour", "()I"⟩, 8) := ⟨⟨by decide +kernel, by decide +kernel⟩, List.mem_of_getElem? (i := 20) (by decide +kernel), List.mem_of_getElem? (i := 740) (by decide +kernel), List.mem_of_getElem? (i := 741) (by decide +kernel)⟩
theorem lw_p25 : lw_okq (⟨"QuorumBakery", "canBake", "(II)Z"⟩, 8) := ⟨⟨by decide +kernel, by decide +kernel⟩, List.mem_of_getElem? (i := 20) (by decide +kernel), List.mem_of_getElem? (i := 744) (by decide +kernel), List.mem_of_getElem? (i := 745) (by decide +kernel)⟩
theorem lw_p26 : lw_okq (⟨"QuorumBakery", "bake", "(II)V"⟩, 8) := ⟨⟨by decide +kernel, by decide +kernel⟩, List.mem_of_getElem? (i := 20) (by decide +kernel), List.mem_of_getElem? (i := 748) (by decide +kernel), List.mem_of_getElem? (i := 749) (by decide +kernel)⟩
theorem lw_p27 : lw_okq (⟨"QuorumBakery", "checkBatch", "(I)V"⟩, 8) := ⟨⟨by decide +kernel, by decide +kernel⟩, List.mem_of_getElem? (i := 20) (by decide +kernel), List.mem_of_getElem? (i := 774) (by decide +kernel), List.mem_of_getElem? (i := 775) (by decide +kernel)⟩
theorem lw_p28 : lw_okq (⟨"QuorumBakery", "repeatHistory", "()V"⟩, 8) := ⟨⟨by decide +kernel, by decide +kernel⟩, List.mem_of_getElem? (i := 20) (by decide +kernel), List.mem_of_getElem? (i := 807) (by decide +kernel), List.mem_of_getElem? (i := 808) (by decide +kernel)⟩
theorem lw_p29 : lw_okq (⟨"QuorumBakery", "repeatCall", "(III)V"⟩, 8) := ⟨⟨by decide +kernel, by decide +kernel⟩, List.mem_of_getElem? (i := 20) (by decide +kernel), List.mem_of_getElem? (i := 812) (by decide +kernel), List.mem_of_getElem? (i := 813) (by decide +kernel)⟩
theorem lw_p30 : lw_okq (⟨"QuorumBakery", "checkRecall", "(I)V"⟩, 8) := ⟨⟨by decide +kernel, by decide +kernel⟩, List.mem_of_getElem? (i := 20) (by decide +kernel), List.mem_of_getElem? (i := 846) (by decide +kernel), List.mem_of_getElem? (i := 847) (by decide +kernel)⟩
theorem lw_p31 : lw_okq (⟨"QuorumBakeryModel", "takes", "(II)V"⟩, 31) := ⟨⟨by decide +kernel, by decide +kernel⟩, List.mem_of_getElem? (i := 865) (by decide +kernel), List.mem_of_getElem? (i := 983) (by decide +kernel), List.mem_of_getElem? (i := 984) (by decide +kernel)⟩
def lw_privs_2 : List (MethodName × Nat) := [(⟨"QuorumBakery", "checkVersion", "(I)V"⟩, 8), (⟨"QuorumBakery", "findCurrent", "(II)I"⟩, 8), (⟨"QuorumBakery", "checkLot", "(I)V"⟩, 8), (⟨"QuorumBakery", "checkGood", "(I)V"⟩, 8), (⟨"QuorumBakery$Flour", "throwOutOf", "(II)V"⟩, 4), (⟨"QuorumBakery", "callBackLot", "(I)I"⟩, 8), (⟨"QuorumBakery", "checkHour", "(I)V"⟩, 8), (⟨"QuorumBakery", "putCurrent", "(III)I"⟩, 8), (⟨"QuorumBakery", "passHour", "()I"⟩, 8), (⟨"QuorumBakery", "canBake", "(II)Z"⟩, 8), (⟨"QuorumBakery", "bake", "(II)V"⟩, 8), (⟨"QuorumBakery", "checkBatch", "(I)V"⟩, 8), (⟨"QuorumBakery", "repeatHistory", "()V"⟩, 8), (⟨"QuorumBakery", "repeatCall", "(III)V"⟩, 8), (⟨"QuorumBakery", "checkRecall", "(I)V"⟩, 8), (⟨"QuorumBakeryModel", "takes", "(II)V"⟩, 31)]
theorem lw_r2 : ∀ q ∈ lw_privs_2, lw_okq q := List.forall_mem_cons.mpr ⟨lw_p16, List.forall_mem_cons.mpr ⟨lw_p17, List.forall_mem_cons.mpr ⟨lw_p18, List.forall_mem_cons.mpr ⟨lw_p19, List.forall_mem_cons.mpr ⟨lw_p20, List.forall_mem_cons.mpr ⟨lw_p21, List.forall_mem_cons.mpr ⟨lw_p22, List.forall_mem_cons.mpr ⟨lw_p23, List.forall_mem_cons.mpr ⟨lw_p24, List.forall_mem_cons.mpr ⟨lw_p25, List.forall_mem_cons.mpr ⟨lw_p26, List.forall_mem_cons.mpr ⟨lw_p27, List.forall_mem_cons.mpr ⟨lw_p28, List.forall_mem_cons.mpr ⟨lw_p29, List.forall_mem_cons.mpr ⟨lw_p30, List.forall_mem_cons.mpr ⟨lw_p31, fun _ h => absurd h List.not_mem_nil⟩⟩⟩⟩⟩⟩⟩⟩⟩⟩⟩⟩⟩⟩⟩⟩
theorem lw_p32 : lw_okq (⟨"QuorumBakeryModel", "reachCheck", "(III)I"⟩, 31) := ⟨⟨by decide +kernel, by decide +kernel⟩, List.mem_of_getElem? (i := 865) (by decide +kernel), List.mem_of_getElem? (i := 991) (by decide +kernel), List.mem_of_getElem? (i := 992) (by decide +kernel)⟩
theorem lw_p33 : lw_okq (⟨"QuorumBakeryModel", "areTogether", "(II)Z"⟩, 31) := ⟨⟨by decide +kernel, by decide +kernel⟩, List.mem_of_getElem? (i := 865) (by decide +kernel), List.mem_of_getElem? (i := 995) (by decide +kernel), List.mem_of_getElem? (i := 996) (by decide +kernel)⟩
theorem lw_p34 : lw_okq (⟨"QuorumBakeryModel", "isBetter", "(II)Z"⟩, 31) := ⟨⟨by decide +kernel, by decide +kernel⟩, List.mem_of_getElem? (i := 865) (by decide +kernel), List.mem_of_getElem? (i := 999) (by decide +kernel), List.mem_of_getElem? (i := 1000) (by decide +kernel)⟩
theorem lw_p35 : lw_okq (⟨"QuorumBakeryModel", "lastTerm", "(I)I"⟩, 31) := ⟨⟨by decide +kernel, by decide +kernel⟩, List.mem_of_getElem? (i := 865) (by decide +kernel), List.mem_of_getElem? (i := 1003) (by decide +kernel), List.mem_of_getElem? (i := 1004) (by decide +kernel)⟩
theorem lw_p36 : lw_okq (⟨"QuorumBakeryModel", "isHeldNow", "(I)Z"⟩, 31) := ⟨⟨by decide +kernel, by decide +kernel⟩, List.mem_of_getElem? (i := 865) (by decide +kernel), List.mem_of_getElem? (i := 1015) (by decide +kernel), List.mem_of_getElem? (i := 1016) (by decide +kernel)⟩
theorem lw_p37 : lw_okq (⟨"QuorumBakeryModel", "holdersOf", "(I)I"⟩, 31) := ⟨⟨by decide +kernel, by decide +kernel⟩, List.mem_of_getElem? (i := 865) (by decide +kernel), List.mem_of_getElem? (i := 1019) (by decide +kernel), List.mem_of_getElem? (i := 1020) (by decide +kernel)⟩
theorem lw_p38 : lw_okq (⟨"QuorumBakeryModel", "callsBackVersions", "()V"⟩, 31) := ⟨⟨by decide +kernel, by decide +kernel⟩, List.mem_of_getElem? (i := 865) (by decide +kernel), List.mem_of_getElem? (i := 1023) (by decide +kernel), List.mem_of_getElem? (i := 1024) (by decide +kernel)⟩
theorem lw_p39 : lw_okq (⟨"QuorumBakeryModel", "callsBack", "(II)I"⟩, 31) := ⟨⟨by decide +kernel, by decide +kernel⟩, List.mem_of_getElem? (i := 865) (by decide +kernel), List.mem_of_getElem? (i := 1027) (by decide +kernel), List.mem_of_getElem? (i := 1028) (by decide +kernel)⟩
theorem lw_p40 : lw_okq (⟨"QuorumBakeryModel", "isTold", "(I)Z"⟩, 31) := ⟨⟨by decide +kernel, by decide +kernel⟩, List.mem_of_getElem? (i := 865) (by decide +kernel), List.mem_of_getElem? (i := 1035) (by decide +kernel), List.mem_of_getElem? (i := 1036) (by decide +kernel)⟩
theorem lw_p41 : lw_okq (⟨"QuorumBakeryModel", "isVersion", "(I)Z"⟩, 31) := ⟨⟨by decide +kernel, by decide +kernel⟩, List.mem_of_getElem? (i := 865) (by decide +kernel), List.mem_of_getElem? (i := 1067) (by decide +kernel), List.mem_of_getElem? (i := 1068) (by decide +kernel)⟩
theorem lw_p42 : lw_okq (⟨"QuorumBakeryModel", "currentOf", "(II)I"⟩, 31) := ⟨⟨by decide +kernel, by decide +kernel⟩, List.mem_of_getElem? (i := 865) (by decide +kernel), List.mem_of_getElem? (i := 1087) (by decide +kernel), List.mem_of_getElem? (i := 1088) (by decide +kernel)⟩
theorem lw_p43 : lw_okq (⟨"QuorumBakeryModel", "isLot", "(I)Z"⟩, 31) := ⟨⟨by decide +kernel, by decide +kernel⟩, List.mem_of_getElem? (i := 865) (by decide +kernel), List.mem_of_getElem? (i := 1099) (by decide +kernel), List.mem_of_getElem? (i := 1100) (by decide +kernel)⟩
theorem lw_p44 : lw_okq (⟨"QuorumBakeryModel", "throwsOut", "(II)V"⟩, 31) := ⟨⟨by decide +kernel, by decide +kernel⟩, List.mem_of_getElem? (i := 865) (by decide +kernel), List.mem_of_getElem? (i := 1107) (by decide +kernel), List.mem_of_getElem? (i := 1108) (by decide +kernel)⟩
theorem lw_p45 : lw_okq (⟨"QuorumBakeryModel", "isHour", "(I)Z"⟩, 31) := ⟨⟨by decide +kernel, by decide +kernel⟩, List.mem_of_getElem? (i := 865) (by decide +kernel), List.mem_of_getElem? (i := 1119) (by decide +kernel), List.mem_of_getElem? (i := 1120) (by decide +kernel)⟩
theorem lw_p46 : lw_okq (⟨"QuorumBakeryModel", "fails", "(I)I"⟩, 31) := ⟨⟨by decide +kernel, by decide +kernel⟩, List.mem_of_getElem? (i := 865) (by decide +kernel), List.mem_of_getElem? (i := 1123) (by decide +kernel), List.mem_of_getElem? (i := 1124) (by decide +kernel)⟩
theorem lw_p47 : lw_okq (⟨"QuorumBakeryModel", "bakes", "(II)Z"⟩, 31) := ⟨⟨by decide +kernel, by decide +kernel⟩, List.mem_of_getElem? (i := 865) (by decide +kernel), List.mem_of_getElem? (i := 1147) (by decide +kernel), List.mem_of_getElem? (i := 1148) (by decide +kernel)⟩
def lw_privs_3 : List (MethodName × Nat) := [(⟨"QuorumBakeryModel", "reachCheck", "(III)I"⟩, 31), (⟨"QuorumBakeryModel", "areTogether", "(II)Z"⟩, 31), (⟨"QuorumBakeryModel", "isBetter", "(II)Z"⟩, 31), (⟨"QuorumBakeryModel", "lastTerm", "(I)I"⟩, 31), (⟨"QuorumBakeryModel", "isHeldNow", "(I)Z"⟩, 31), (⟨"QuorumBakeryModel", "holdersOf", "(I)I"⟩, 31), (⟨"QuorumBakeryModel", "callsBackVersions", "()V"⟩, 31), (⟨"QuorumBakeryModel", "callsBack", "(II)I"⟩, 31), (⟨"QuorumBakeryModel", "isTold", "(I)Z"⟩, 31), (⟨"QuorumBakeryModel", "isVersion", "(I)Z"⟩, 31), (⟨"QuorumBakeryModel", "currentOf", "(II)I"⟩, 31), (⟨"QuorumBakeryModel", "isLot", "(I)Z"⟩, 31), (⟨"QuorumBakeryModel", "throwsOut", "(II)V"⟩, 31), (⟨"QuorumBakeryModel", "isHour", "(I)Z"⟩, 31), (⟨"QuorumBakeryModel", "fails", "(I)I"⟩, 31), (⟨"QuorumBakeryModel", "bakes", "(II)Z"⟩, 31)]
theorem lw_r3 : ∀ q ∈ lw_privs_3, lw_okq q := List.forall_mem_cons.mpr ⟨lw_p32, List.forall_mem_cons.mpr ⟨lw_p33, List.forall_mem_cons.mpr ⟨lw_p34, List.forall_mem_cons.mpr ⟨lw_p35, List.forall_mem_cons.mpr ⟨lw_p36, List.forall_mem_cons.mpr ⟨lw_p37, List.forall_mem_cons.mpr ⟨lw_p38, List.forall_mem_cons.mpr ⟨lw_p39, List.forall_mem_cons.mpr ⟨lw_p40, List.forall_mem_cons.mpr ⟨lw_p41, List.forall_mem_cons.mpr ⟨lw_p42, List.forall_mem_cons.mpr ⟨lw_p43, List.forall_mem_cons.mpr ⟨lw_p44, List.forall_mem_cons.mpr ⟨lw_p45, List.forall_mem_cons.mpr ⟨lw_p46, List.forall_mem_cons.mpr ⟨lw_p47, fun _ h => absurd h List.not_mem_nil⟩⟩⟩⟩⟩⟩⟩⟩⟩⟩⟩⟩⟩⟩⟩⟩
theorem lw_p48 : lw_okq (⟨"QuorumBakeryModel", "isBatch", "(I)Z"⟩, 31) := ⟨⟨by decide +kernel, by decide +kernel⟩, List.mem_of_getElem? (i := 865) (by decide +kernel), List.mem_of_getElem? (i := 1167) (by decide +kernel), List.mem_of_getElem? (i := 1168) (by decide +kernel)⟩
theorem lw_p49 : lw_okq (⟨"QuorumBakeryModel", "barredBy", "(I)I"⟩, 31) := ⟨⟨by decide +kernel, by decide +kernel⟩, List.mem_of_getElem? (i := 865) (by decide +kernel), List.mem_of_getElem? (i := 1183) (by decide +kernel), List.mem_of_getElem? (i := 1184) (by decide +kernel)⟩
theorem lw_p50 : lw_okq (⟨"QuorumBakeryModel", "isRecall", "(I)Z"⟩, 31) := ⟨⟨by decide +kernel, by decide +kernel⟩, List.mem_of_getElem? (i := 865) (by decide +kernel), List.mem_of_getElem? (i := 1216) (by decide +kernel), List.mem_of_getElem? (i := 1217) (by decide +kernel)⟩
def lw_privs_4 : List (MethodName × Nat) := [(⟨"QuorumBakeryModel", "isBatch", "(I)Z"⟩, 31), (⟨"QuorumBakeryModel", "barredBy", "(I)I"⟩, 31), (⟨"QuorumBakeryModel", "isRecall", "(I)Z"⟩, 31)]
theorem lw_r4 : ∀ q ∈ lw_privs_4, lw_okq q := List.forall_mem_cons.mpr ⟨lw_p48, List.forall_mem_cons.mpr ⟨lw_p49, List.forall_mem_cons.mpr ⟨lw_p50, fun _ h => absurd h List.not_mem_nil⟩⟩⟩
def lw_privs : List (MethodName × Nat) := lw_privs_1 ++ (lw_privs_2 ++ (lw_privs_3 ++ (lw_privs_4)))
def lw_tbl : List Cond := k2_sels lw_privs ++ tables_1
theorem lw_privs_ok : ∀ q ∈ lw_privs, lw_okq q := by
  show ∀ q ∈ lw_privs_1 ++ (lw_privs_2 ++ (lw_privs_3 ++ (lw_privs_4))), lw_okq q
  exact List.forall_mem_append.mpr ⟨lw_r1, List.forall_mem_append.mpr ⟨lw_r2, List.forall_mem_append.mpr ⟨lw_r3, lw_r4⟩⟩⟩
end
section
/-- the printed va_mna names this; no file of the kit defines it -/
def va_AOA (ty : FieldType) (U : State) : Prop := (Cond.arrayOver (.array ty)).before #[] U = true
theorem va_AOA.use {ty : FieldType} {A : Array Value} {U : State} (h : va_AOA ty U) : (Cond.arrayOver (.array ty)).before A U = true := h
/-! ===== BEGIN words of one list among another's, by their places ===== -/
theorem goodIn_r {big : List Cond} (ws : List Cond) (ps : List Nat) (hp : ws = ps.filterMap (fun i => big[i]?)) (h : ws.all goodWord = true) : GoodIn big ws := by
  intro w hw
  have h1 := List.all_eq_true.mp h w hw
  rw [hp] at hw
  obtain ⟨i, -, hi⟩ := List.mem_filterMap.mp hw
  have hm : w ∈ big := by first | exact List.mem_of_getElem? hi | exact List.getElem?_mem hi
  exact ⟨hm, good_of_word h1⟩
theorem goodIn_app {big a b : List Cond} (ha : GoodIn big a) (hb : GoodIn big b) : GoodIn big (a ++ b) := fun w h => (List.mem_append.mp h).elim (ha w) (hb w)
theorem goodIn_ca {big a b : List Cond} {c : Cond} (ha : GoodIn big (c :: a)) (hb : GoodIn big b) : GoodIn big (c :: (a ++ b)) := fun w h => (List.mem_cons.mp h).elim (fun e => ha w (List.mem_cons.mpr (Or.inl e))) (fun h => (List.mem_append.mp h).elim (fun h => ha w (List.mem_cons.mpr (Or.inr h))) (hb w))
theorem goodIn_sub {big ws : List Cond} (hm : ∀ w ∈ ws, w ∈ big) (h : ws.all goodWord = true) : GoodIn big ws := fun w hw => ⟨hm w hw, good_of_word (List.all_eq_true.mp h w hw)⟩
/-! ===== END ===== -/

/-! ===== BEGIN new T[n][m]: the outer array a place, the inner ones among the pooled ===== -/
/-- f, but v at every address of l -/
def vr_up {α : Type} (f : Nat → α) (l : List Nat) (v : α) : Nat → α := fun a => if a ∈ l then v else f a
theorem vr_up_in {α : Type} {f : Nat → α} {l : List Nat} {v : α} {a : Nat} (h : a ∈ l) : vr_up f l v a = v := if_pos h
theorem vr_up_ne {α : Type} {f : Nat → α} {l : List Nat} {v : α} {a : Nat} (h : a ∉ l) : vr_up f l v a = f a := if_neg h
theorem vr_rows {L l : List Nat} {f : Nat → va_E} {e : va_E} (h : ∀ a, a ∈ l → a ∉ L) : va_pl L f ++ l.map (fun a => (a, e)) = va_pl (L ++ l) (vr_up f l e) := by
  unfold va_pl
  rw [List.map_append]
  congr 1
  · apply List.map_congr_left
    intro a ha
    rw [vr_up_ne (fun q => h a q ha)]
  · apply List.map_congr_left
    intro a ha
    rw [vr_up_in ha]
theorem vr_lay {X rows : va_W} {x : Nat × va_E} {pl : va_W} {D : va_G} {cl : List vw_C} {H : Heap} (hP : va_P D cl (((X ++ pl) ++ [x]) ++ rows) H) : va_P D cl ((X ++ [x]) ++ (pl ++ rows)) H := by
  rw [List.append_assoc (X ++ pl)] at hP
  have h := va_P.swap hP
  rw [← List.append_assoc X] at h
  have h2 := va_P.swap h
  rw [List.append_assoc (X ++ [x])] at h2
  exact h2
theorem vr_layD {X rows : va_W} {x : Nat × va_E} {pl : va_W} {A : Nat → Prop} (hD : va_D A (((X ++ pl) ++ [x]) ++ rows)) : va_D A ((X ++ [x]) ++ (pl ++ rows)) := by
  rw [List.append_assoc (X ++ pl)] at hD
  have h := va_D.swap hD
  rw [← List.append_assoc X] at h
  have h2 := va_D.swap h
  rw [List.append_assoc (X ++ [x])] at h2
  exact h2
theorem vr_outer (c : ClassId) (N h0 : Nat) : ∀ i : Nat, Jvm.Free.Multi.outerC c N h0 i = arrV c N (fun j => va_rf (if j < i then some (h0 + 1 + j) else none))
  | 0 => by
    show ({ cls := c, slots := Array.replicate N .null, vm := .none } : Cell) = _
    rw [arrV_new]
    refine congrArg (arrV c N) (funext fun j => ?_)
    simp [va_rf]
  | i + 1 => by
    show (Jvm.Free.Multi.outerC c N h0 i).setSlot i (.ref (h0 + 1 + i)) = _
    rw [vr_outer c N h0 i, arrV_store]
    refine congrArg (arrV c N) (funext fun j => ?_)
    by_cases e : j = i
    · subst e
      simp [updV, va_rf]
    · by_cases h : j < i
      · simp [updV, e, h, Nat.lt_succ_of_lt h]
      · simp [updV, e, h, show ¬ j < i + 1 by omega]
section VGM
variable {p : Program} {l : Launch} {e : Env} {R : Room} {s : State} {m : MethodId} {args : Array Value} {below : List Frame} {meth : Method} {c : Code} {H : Heap} {locs : List Loc} {cells slots : Nat} {Q : State → Prop}
variable {cc : ByteArray} {pc : Nat} {ls : Array Slot} {rest : List Value} {D : va_G} {cl : List vw_C} {A : Nat → Prop} {a : Nat} {tys : List (ClassId × FieldType)} {ws : va_W} {H0 : Heap}
theorem va_mna {X : va_W} {L : List Nat} {f : Nat → va_E} {cc : ByteArray} (hexec : p.tables.exec = Jvm.exec) (hb : c.code = cc) {own : String} {index : Nat} {ty : FieldType} {cy : ClassId} (hown : s.vm.findClass own = some m.cls) (hclink : (Cond.classLink own index ("[" ++ (FieldType.array ty).toString)).before args s = true) (hover : va_AOA ty s) (harr : (Cond.arrayClass ty).before args s = true) (hcy : s.vm.findClass (FieldType.array ty).toString = some cy)
    (hK : va_K D cl tys s) (hP : va_P D cl (X ++ va_pl L f) H) (hD : va_D A (X ++ va_pl L f)) (hS : va_S A H0 H locs) (hA : ∀ q, H0.size ≤ q → A q) {n k : Int32} {N' K' : Nat} {z : vp_A} (hn : ¬ n < 0) (hk : ¬ k < 0) (hN : n.toNatClampNeg = N') (hM : k.toNatClampNeg = K')
    (hb1 : N' * 4 ≤ 536870912) (hb2 : K' * componentBytes ty ≤ 536870912) (hb3 : K' ≤ 536870912) (hdf : fits ty (defaultValue ty) = true) (hdd : (defaultValue ty).isDefault = true) (hcells : cells + (1 + N') ≤ R.cells) (hslots : slots + (N' + N' * K') ≤ R.slots) (hz : ∀ c : ClassId, Jvm.Free.Multi.innerC c K' (defaultValue ty) = vp_cell c z) (hdg : decode cc pc = .ok (.multianewarray index 2, 4))
    (kk : ∀ (q : Nat) (r : Nat → Nat) (cA : ClassId) (H1 : Heap), (∀ i j : Nat, i < N' → j < N' → r i = r j → i = j) → (∀ i : Nat, i < N' → r i ∉ L) → va_K D cl (tys ++ [(cA, .array ty)]) s →
      va_P D cl ((X ++ [(q, .inl (cA, N', .inr (.inr (.inr (.inr (fun i => if i < N' then some (r i) else none))))))]) ++ va_pl (L ++ (List.range N').map r) (vr_up f ((List.range N').map r) (.inl (cy, z)))) H1 → va_D A ((X ++ [(q, .inl (cA, N', .inr (.inr (.inr (.inr (fun i => if i < N' then some (r i) else none))))))]) ++ va_pl (L ++ (List.range N').map r) (vr_up f ((List.range N').map r) (.inl (cy, z)))) → va_S A H0 H1 locs →
      W p l e R s m args below meth c H1 locs (cells + 1 + N') (slots + N' + N' * K') Q (F0 m (pc + 4) ls (.ref q :: rest))) : W p l e R s m args below meth c H locs cells slots Q (F0 m pc ls (.int k :: .int n :: rest)) := by
  subst hN
  subst hM
  intro T hT Xs
  obtain ⟨vm₁, cA, comp, -, fA, fC, hO, -, X', step⟩ := Xs.multianewarray2F hexec hown hclink (va_AOA.use hover) harr (g := F0 m pc ls (.int k :: .int n :: rest)) rfl (by rw [hb]; exact hdg) rfl hn hk hb1 hb2 hb3 hdf hdd hcells hslots
  have ec : some cy = some comp := hcy.symm.trans fC
  cases ec
  generalize hF : Jvm.Free.Multi.fill (T.setVm vm₁) cA cy n.toNatClampNeg k.toNatClampNeg (defaultValue ty) n.toNatClampNeg = F at X' step
  have hTh : (T.setVm vm₁).heap = H := hT
  obtain ⟨f1, f2, -, -⟩ := Jvm.Free.Multi.fill_facts (T.setVm vm₁) cA cy n.toNatClampNeg k.toNatClampNeg (defaultValue ty) n.toNatClampNeg
  rw [hF, hTh] at f1 f2
  have hold : ∀ x : Nat, x < H.size → F.heap[x]? = H[x]? := fun x hx => by
    have := Jvm.Free.Multi.fill_old (T.setVm vm₁) cA cy n.toNatClampNeg k.toNatClampNeg (defaultValue ty) (a := x) (by rw [hTh]; exact hx) n.toNatClampNeg
    rw [hF, hTh] at this
    exact this
  have hrow : ∀ j : Nat, j < n.toNatClampNeg → F.heap[H.size + 1 + j]? = some (vp_cell cy z) := fun j hj => by
    have := Jvm.Free.Multi.fill_inner (T.setVm vm₁) cA cy n.toNatClampNeg k.toNatClampNeg (defaultValue ty) n.toNatClampNeg j hj
    rw [hF, hTh, hz] at this
    exact this
  have hout : Jvm.Free.Multi.outerC cA n.toNatClampNeg H.size n.toNatClampNeg = vp_cell cA (n.toNatClampNeg, .inr (.inr (.inr (.inr (fun i => if i < n.toNatClampNeg then some (H.size + 1 + i) else none))))) := by
    rw [vp_cell_q]
    exact vr_outer cA n.toNatClampNeg H.size n.toNatClampNeg
  rw [hout] at f2
  have hlt : ∀ a, a ∈ L → a < H.size := fun a ha => by
    obtain ⟨k9, hk9⟩ := va_pl_get (X := X) (f := f) ha
    exact (hP k9 _ hk9).lt
  have hnl : ∀ i : Nat, i < n.toNatClampNeg → H.size + 1 + i ∉ L := fun i _ h => by
    have := hlt _ h
    omega
  have hnm : ∀ a, a ∈ (List.range n.toNatClampNeg).map (fun i => H.size + 1 + i) → a ∉ L := fun a ha h => by
    obtain ⟨i, -, rfl⟩ := List.mem_map.mp ha
    have := hlt _ h
    omega
  have hP0 : va_P D cl (X ++ va_pl L f) F.heap := hP.kept (fun k9 x hx => hold x.1 ((hP k9 x hx).lt))
  have hP1 : va_P D cl ((X ++ va_pl L f) ++ [(H.size, .inl (cA, n.toNatClampNeg, .inr (.inr (.inr (.inr (fun i => if i < n.toNatClampNeg then some (H.size + 1 + i) else none))))))]) F.heap := hP0.app (fun k9 x hx => by
    have h0 : k9 < 1 := (List.getElem?_eq_some_iff.mp hx).1
    rw [show k9 = 0 by omega] at hx
    cases hx
    exact f2)
  have hP2 : va_P D cl (((X ++ va_pl L f) ++ [(H.size, .inl (cA, n.toNatClampNeg, .inr (.inr (.inr (.inr (fun i => if i < n.toNatClampNeg then some (H.size + 1 + i) else none))))))]) ++ ((List.range n.toNatClampNeg).map (fun i => H.size + 1 + i)).map (fun a => (a, .inl (cy, z)))) F.heap := hP1.app (fun k9 x hx => by
    obtain ⟨a, ha, rfl⟩ := List.mem_map.mp (List.mem_of_getElem? hx)
    obtain ⟨i, hi, rfl⟩ := List.mem_map.mp ha
    exact hrow i (List.mem_range.mp hi))
  have hD2 : va_D A (((X ++ va_pl L f) ++ [(H.size, .inl (cA, n.toNatClampNeg, .inr (.inr (.inr (.inr (fun i => if i < n.toNatClampNeg then some (H.size + 1 + i) else none))))))]) ++ ((List.range n.toNatClampNeg).map (fun i => H.size + 1 + i)).map (fun a => (a, .inl (cy, z)))) := by
    have hD1 := hD.push (e := .inl (cA, n.toNatClampNeg, .inr (.inr (.inr (.inr (fun i => if i < n.toNatClampNeg then some (H.size + 1 + i) else none)))))) hP rfl (hA _ hS.1)
    generalize hW1 : (X ++ va_pl L f) ++ [(H.size, .inl (cA, n.toNatClampNeg, .inr (.inr (.inr (.inr (fun i => if i < n.toNatClampNeg then some (H.size + 1 + i) else none))))))] = W1 at hD1 hP1 ⊢
    have hle : ∀ (k9 : Nat) (x : Nat × va_E), W1[k9]? = some x → x.1 ≤ H.size := fun k9 x hx => by
      rw [← hW1] at hx
      by_cases hl : k9 < (X ++ va_pl L f).length
      · rw [List.getElem?_append_left hl] at hx
        exact Nat.le_of_lt ((hP k9 x hx).lt)
      · rw [List.getElem?_append_right (by omega)] at hx
        have h0 : k9 - (X ++ va_pl L f).length < 1 := (List.getElem?_eq_some_iff.mp hx).1
        rw [show k9 - (X ++ va_pl L f).length = 0 by omega] at hx
        cases hx
        exact Nat.le_refl _
    have hr : ∀ (k9 : Nat) (x : Nat × va_E), (((List.range n.toNatClampNeg).map (fun i => H.size + 1 + i)).map (fun a => ((a, .inl (cy, z)) : Nat × va_E)))[k9]? = some x → x.1 = H.size + 1 + k9 := fun k9 x hx => by
      rw [List.getElem?_map, List.getElem?_map] at hx
      by_cases h9 : k9 < n.toNatClampNeg
      · rw [List.getElem?_range h9] at hx
        cases hx
        rfl
      · have hn0 : (List.range n.toNatClampNeg)[k9]? = none := List.getElem?_eq_none (by rw [List.length_range]; omega)
        rw [hn0] at hx
        cases hx
    refine ⟨fun i j x y hi hj hxy => ?_, fun k9 x hx => ?_⟩
    · by_cases h1 : i < W1.length <;> by_cases h2 : j < W1.length
      · rw [List.getElem?_append_left h1] at hi
        rw [List.getElem?_append_left h2] at hj
        exact hD1.1 i j x y hi hj hxy
      · rw [List.getElem?_append_left h1] at hi
        rw [List.getElem?_append_right (by omega)] at hj
        have := hle _ _ hi
        have := hr _ _ hj
        omega
      · rw [List.getElem?_append_right (by omega)] at hi
        rw [List.getElem?_append_left h2] at hj
        have := hle _ _ hj
        have := hr _ _ hi
        omega
      · rw [List.getElem?_append_right (by omega)] at hi hj
        have := hr _ _ hi
        have := hr _ _ hj
        omega
    · by_cases h1 : k9 < W1.length
      · rw [List.getElem?_append_left h1] at hx
        exact hD1.2 k9 x hx
      · rw [List.getElem?_append_right (by omega)] at hx
        have := hr _ _ hx
        exact hA _ (by have := hS.1; omega)
  have hAr : ArrOfT s cA (.array ty) := fun N9 z9 => by
    obtain ⟨-, k9, hk9, cm9, hkk9⟩ := (hO 0 0 0).1
    exact ⟨(fun q hq => by cases hq), k9, hk9, cm9, hkk9⟩
  have hK2 : va_K D cl (tys ++ [(cA, .array ty)]) s := ⟨hK.1, fun k9 x hx => by
    by_cases hl : k9 < tys.length
    · rw [List.getElem?_append_left hl] at hx
      exact hK.2 k9 x hx
    · rw [List.getElem?_append_right (by omega)] at hx
      have h0 : k9 - tys.length < 1 := (List.getElem?_eq_some_iff.mp hx).1
      rw [show k9 - tys.length = 0 by omega] at hx
      cases hx
      exact ⟨hAr, fA⟩⟩
  obtain ⟨t, a1, b1⟩ := kk H.size (fun i => H.size + 1 + i) cA F.heap (fun i j _ _ h => by have h9 : H.size + 1 + i = H.size + 1 + j := h; omega) hnl hK2 (by rw [← vr_rows hnm]; exact vr_lay hP2) (by rw [← vr_rows hnm]; exact vr_layD hD2) ⟨by rw [f1]; have := hS.1; omega, fun x h1 h2 => (hold x (Nat.lt_of_lt_of_le h1 hS.1)).trans (hS.2.1 x h1 h2), hS.2.2⟩ F rfl X'
  refine ⟨t, step t ?_, b1⟩
  have e : T.heap.size = H.size := by rw [hT]
  rw [e]
  exact a1
end VGM
/-! ===== END ===== -/

/-! ===== BEGIN exceptions that leave a method, and their catching by the caller (launches without stack traces) ===== -/
section VXA
/-! The laws vx_back, vx_callV, vx_callS, vx_callSW, vx_throw0, vx_throwS follow proofs of the library, with one case more: JvmDerived/Free/Laws.lean (Back.of_free), Shelf42/LK1.lean (callV, callS), Shelf/KitTraced.lean (throwNew0V, throwNewS). -/
/-- where a method has thrown q: the class by its name, the cell, what was written, the world -/
def vx_T (XC : String → State → State → Prop) (st : State) (q : Addr) (t : State) (mc ms : Nat) (free : Addr → Prop) : Prop :=
  ∃ (E : String) (ce : Cell) (L : List Loc), XC E st t ∧ t.heap[q]? = some ce ∧ ce.vm = .none ∧ st.vm.findClass E = some ce.cls ∧ st.WarmedH t.vm ∧ st.sameButNew ({ t with vm := st.vm } : State) L mc ms ∧ ∀ z ∈ L, free z.base
def vx_Q (Qc : Array Value → State → Outcome → State → Prop) (XC : String → State → State → Prop) (mc ms : Nat) (free : Addr → Prop) : Array Value → State → Outcome → State → Prop := fun a st o t =>
  (Qc a st o t ∧ ∃ L, FrameEnd st o t L mc ms ∧ ∀ q ∈ L, free q.base) ∨ ∃ q, o = .threw q ∧ vx_T XC st q t mc ms free
/-- a callee that returns or throws -/
def vx_Met (l : Launch) (y : MethodName) (ws : List Cond) (rm : Room) (Pc : Array Value → State → Prop) (Qc : Array Value → State → Outcome → State → Prop) (XC : String → State → State → Prop) (mc ms : Nat) (free : Addr → Prop) : Prop :=
  MetFree l y (headSpec ws rm) Pc (fun _ _ _ _ _ => True) (vx_Q Qc XC mc ms free)
def vx_Post (XC : String → State → State → Prop) (mc ms : Nat) (free : Addr → Prop) : Pt → Array Value → Addr → Pt → Prop := fun A a q B =>
  ∃ (g : JFrame) (mk : MethodId) (t : State) (L : List Loc) (E : String) (ce : Cell), B.U.heap = t.heap ∧ B.U.vm = t.vm ∧ XC E (A.U.calling g mk a) t ∧ t.heap[q]? = some ce ∧ ce.vm = .none ∧ A.U.vm.findClass E = some ce.cls ∧ B.locs = A.locs ++ L ∧ (∀ z ∈ L, free z.base) ∧ B.cells = A.cells + mc ∧ B.slots = A.slots + ms
def vx_Back (l : Launch) (R : Room) (p : Program) (e : Env) (below : List Frame) (s : State) (sargs : Array Value) (y : MethodName) (len W9 : Nat)
    (Pre : Pt → Array Value → Prop) (Post : Pt → Array Value → Option Value → Pt → Prop) (PostX : Pt → Array Value → Addr → Pt → Prop) : Prop :=
  ∀ (m : MethodId) (meth : Method) (c : Code) (A : Pt) (g : JFrame) (ig : Instr) (mk : MethodId) (a : Array Value),
    Stand p l e R s m sargs below meth c A.U A.locs A.cells A.slots → g.method = m → g.locals.size = c.maxLocals → decode c.code g.pc = .ok (ig, len) →
    2 * g.monitorRoom + (g.stack.map fun v => v.category).sum ≤ W9 → A.U.methodNamed? y = some mk → Pre A a →
    (∃ (v : Option Value) (B : Pt), Stand p l e R s m sargs below meth c B.U B.locs B.cells B.slots ∧ Post A a v B ∧
      Steps p.tables e below (doInvoke e (A.U.setTop g) [] mk a).1 (B.U.setTop { g with pc := g.pc + len, stack := v.toList ++ g.stack })) ∨
    (∃ (q : Addr) (B : Pt), Stand p l e R s m sargs below meth c B.U B.locs B.cells B.slots ∧ PostX A a q B ∧
      Steps p.tables e below (doInvoke e (A.U.setTop g) [] mk a).1 ((B.U.setTop g).pushFrame (.throwing q)))
section Payer
variable {l : Launch} {R : Room} {p : Program} {e : Env} {below : List Frame} {s : State} {sargs : Array Value} {y : MethodName} {len W9 : Nat}
theorem vx_back {ws : List Cond} {rm : Room} {Pc : Array Value → State → Prop} {Qc : Array Value → State → Outcome → State → Prop} {XC : String → State → State → Prop} {mc ms : Nat} {free : Addr → Prop} {bytes : ByteArray} {maxL : Nat} {ret : Option FieldType}
    (hM : vx_Met l y ws rm Pc Qc XC mc ms free) (hblind : FrameBlind Pc) (hrc : rm.cells = mc) (hrs : rm.slots = ms)
    (hframes : rm.frames + 1 ≤ R.frames) (hlocals : W9 + (maxL + 11) + rm.locals ≤ R.locals)
    (hws : ∀ w ∈ ws, ∀ a' U, s.WarmedH U.vm → w.before a' U = true) (hcode : Cond.code y bytes maxL ret ∈ ws) (hinit : ∀ a' U, s.WarmedH U.vm → (Cond.initialized y.cls).before a' U = true) :
    vx_Back l R p e below s sargs y len W9 (PreOf R mc ms Pc) (PostOf Qc mc ms free) (vx_Post XC mc ms free) := by
  intro m meth c A g ig mk a X hg hsize hdg hW hn hp
  have h1 : (headSpec ws rm).pre.before a A.U = true := atoms_intro fun w hw => hws w hw _ _ X.warmed
  have h2 : (Cond.code y bytes maxL ret).before a A.U = true := hws _ hcode _ _ X.warmed
  have h3 : (Cond.initialized y.cls).before a A.U = true := hinit _ _ X.warmed
  have h4 : A.cells + (headSpec ws rm).room.cells ≤ R.cells := by rw [show (headSpec ws rm).room.cells = mc from hrc]; exact hp.1
  have h5 : A.slots + (headSpec ws rm).room.slots ≤ R.slots := by rw [show (headSpec ws rm).room.slots = ms from hrs]; exact hp.2.1
  have hPc : Pc a (A.U.calling g mk a) := hblind _ _ _ _ hp.2.2
  obtain ⟨U, Ls, c0, s0⟩ := A
  dsimp only [Pt.U, Pt.locs, Pt.cells, Pt.slots] at h1 h2 h3 h4 h5 X hn hPc ⊢
  obtain ⟨methY, cY, hmY, hcY, -, hlY, -, -, -, -⟩ := Cond.code_spec hn h2
  obtain ⟨kY, hkY, -⟩ := className_of_methodNamed hn
  have hinitY : kY.init = .initialized := Cond.initialized_spec (findClass_of_methodNamed hn) hkY h3
  have h : At U g.method c below := by rw [hg]; exact X.here
  have hlocals9 : W9 + (maxL + 11) + (headSpec ws rm).room.locals ≤ R.locals := hlocals
  have happ : (headSpec ws rm).appliesLoose y e.platform (U.calling g mk a) = true :=
    Spec.appliesLoose_calling (g := g) h hdg hn hkY hinitY
      (X.room_calling (g := g) (R' := (headSpec ws rm).room) hsize hmY hcY hframes (by rw [hlY]; omega) h4 h5) h1
  obtain ⟨mid, hmid⟩ := h.above
  have hfr : (U.setTop g).frames = (.java g :: mid) ++ below := by rw [State.frames_setTop' g h.top, hmid]; rfl
  obtain ⟨o, s₂, hsteps, -, hend, hq⟩ := Steps.callFree hM p X.admits X.cas X.clock (acts := []) hfr happ hPc trivial
  have hq' : vx_Q Qc XC mc ms free a (U.calling g mk a) o s₂ := hq
  rw [State.frames_setTop' g h.top] at hend
  obtain ⟨g₀, hg0⟩ := Option.isSome_iff_exists.mp h.top
  obtain ⟨r, hr⟩ := State.topJava?_eq_some.mp hg0
  have hr' : (({ U with heap := s₂.heap, slotsUsed := s₂.slotsUsed } : State).setVm s₂.vm).frames = .java g₀ :: r := hr
  rcases hq' with ⟨hqc, L, hfe, hL⟩ | ⟨q, rfl, E, ce, L, hx, hce, hcv, hcl, hW₂, hsm, hL⟩
  · obtain ⟨⟨v, rfl⟩, hW₂, e2, q2, q3, q4, q5, q6⟩ := id hfe
    have e3 : s₂ = ({ (U.calling g mk a).setFrames s₂.frames with heap := s₂.heap, slotsUsed := s₂.slotsUsed } : State).setVm s₂.vm := by
      have : s₂ = ({ s₂ with vm := (U.calling g mk a).vm } : State).setVm s₂.vm := rfl
      rw [e2] at this
      exact this
    obtain ⟨c₂, i₂, len₂, hc₂, hd₂, hf₂⟩ := hend
    have hW' : U.WarmedH s₂.vm := hW₂
    have hcc : c₂ = c := by
      have h1 : s₂.code? g.method = U.code? g.method := by
        rw [State.code?_eq, State.code?_eq, hW'.alike.method?]
      exact Option.some.inj (hc₂.symm.trans (h1.trans h.code))
    subst hcc
    have hlen : len₂ = len := by rw [hdg] at hd₂; cases hd₂; rfl
    subst hlen
    have hs₂ : s₂ = (({ U with heap := s₂.heap, slotsUsed := s₂.slotsUsed } : State).setVm s₂.vm).setTop { g with pc := g.pc + len₂, stack := v.toList ++ g.stack } := by
      refine e3.trans ?_
      rw [hf₂, State.calling_eq h.top, State.setFrames_setFrames, State.setTop_of_frames _ hr', hr]
      rfl
    have hsame : U.sameButNew ({ U with heap := s₂.heap, slotsUsed := s₂.slotsUsed } : State) L mc ms := by
      refine ⟨?_, q2, q3, q4, q5, q6⟩
      obtain ⟨t, ht, -⟩ := State.frames_cons hr
      show ({ U with heap := s₂.heap, slotsUsed := s₂.slotsUsed } : State) = { U.setFrames U.frames with heap := s₂.heap, slotsUsed := s₂.slotsUsed }
      rw [State.setFrames_self ht]
    subst hg
    refine Or.inl ⟨v, ⟨(({ U with heap := s₂.heap, slotsUsed := s₂.slotsUsed } : State).setVm s₂.vm), Ls ++ L, c0 + mc, s0 + ms⟩,
      ⟨X.admits, X.cas, X.clock, X.frames, X.room, X.hears, X.method, X.code, (X.here.setHeapUsed s₂.heap s₂.slotsUsed).setVm hW'.alike, X.tail, State.WarmedH.trans X.warmed hW', X.limits, X.bytes, X.same.trans (hsame.setVm s.vm)⟩,
      ⟨g, mk, s₂, L, rfl, rfl, hqc, rfl, hL, rfl, rfl⟩, ?_⟩
    show Steps p.tables e below _ ((({ U with heap := s₂.heap, slotsUsed := s₂.slotsUsed } : State).setVm s₂.vm).setTop { g with pc := g.pc + len₂, stack := v.toList ++ g.stack })
    rw [← hs₂]
    exact hsteps
  · obtain ⟨e2, q2, q3, q4, q5, q6⟩ := id hsm
    have e3 : s₂ = ({ (U.calling g mk a).setFrames s₂.frames with heap := s₂.heap, slotsUsed := s₂.slotsUsed } : State).setVm s₂.vm := by
      have : s₂ = ({ s₂ with vm := (U.calling g mk a).vm } : State).setVm s₂.vm := rfl
      rw [e2] at this
      exact this
    have hf₂ : s₂.frames = .throwing q :: .java g :: U.frames.tail := hend
    have hW' : U.WarmedH s₂.vm := hW₂
    have hs₂ : s₂ = ((({ U with heap := s₂.heap, slotsUsed := s₂.slotsUsed } : State).setVm s₂.vm).setTop g).pushFrame (.throwing q) := by
      refine e3.trans ?_
      rw [hf₂, State.calling_eq h.top, State.setFrames_setFrames, State.pushFrame, State.frames_setTop _ hr', State.setTop_of_frames _ hr', State.setFrames_setFrames, hr]
      rfl
    have hsame : U.sameButNew ({ U with heap := s₂.heap, slotsUsed := s₂.slotsUsed } : State) L mc ms := by
      refine ⟨?_, q2, q3, q4, q5, q6⟩
      obtain ⟨t, ht, -⟩ := State.frames_cons hr
      show ({ U with heap := s₂.heap, slotsUsed := s₂.slotsUsed } : State) = { U.setFrames U.frames with heap := s₂.heap, slotsUsed := s₂.slotsUsed }
      rw [State.setFrames_self ht]
    subst hg
    refine Or.inr ⟨q, ⟨(({ U with heap := s₂.heap, slotsUsed := s₂.slotsUsed } : State).setVm s₂.vm), Ls ++ L, c0 + mc, s0 + ms⟩,
      ⟨X.admits, X.cas, X.clock, X.frames, X.room, X.hears, X.method, X.code, (X.here.setHeapUsed s₂.heap s₂.slotsUsed).setVm hW'.alike, X.tail, State.WarmedH.trans X.warmed hW', X.limits, X.bytes, X.same.trans (hsame.setVm s.vm)⟩,
      ⟨g, mk, s₂, L, E, ce, rfl, rfl, hx, hce, hcv, hcl, rfl, hL, rfl, rfl⟩, ?_⟩
    show Steps p.tables e below _ (((({ U with heap := s₂.heap, slotsUsed := s₂.slotsUsed } : State).setVm s₂.vm).setTop g).pushFrame (.throwing q))
    rw [← hs₂]
    exact hsteps
end Payer
section Calls
variable {p : Program} {l : Launch} {e : Env} {R : Room} {s : State} {m : MethodId} {args : Array Value} {below : List Frame} {meth : Method} {c : Code} {T : State} {locs : List Loc} {cells slots : Nat}
theorem vx_callV (X : Stand p l e R s m args below meth c T locs cells slots) (hexec : p.tables.exec = Jvm.exec) {own C : String} {index : Nat} {y : MethodName} {bytes : ByteArray} {maxL : Nat} {ret : Option FieldType}
    (hown : s.vm.findClass own = some m.cls) (hlink : (Cond.methodLink own index y).before args s = true) (hinst : (Cond.instanceMethod y).before args s = true) (hsel : (Cond.selects C y y).before args s = true)
    (hcode : (Cond.code y bytes maxL ret).before args s = true) (hy : y.cls ≠ "java/lang/invoke/MethodHandle" ∧ y.cls ≠ "java/lang/invoke/VarHandle")
    {W9 : Nat} {Pre : Pt → Array Value → Prop} {Post : Pt → Array Value → Option Value → Pt → Prop} {PostX : Pt → Array Value → Addr → Pt → Prop} (hK : vx_Back l R p e below s args y 3 W9 Pre Post PostX)
    {b : Addr} {cellB : Cell} (hcell : T.heap[b]? = some cellB) (hobj : cellB.vm.isStatics = false) (hcls : s.vm.findClass C = some cellB.cls)
    {g : JFrame} (hg : g.method = m) (hsize : g.locals.size = c.maxLocals) {argsL rest : List Value} (hlen : ∀ sig, parseMethodDescriptor y.desc = some sig → argsL.length = sig.parameters.length)
    (hstack : g.stack = argsL.reverse ++ .ref b :: rest) (hW : 2 * g.monitorRoom + (rest.map fun v => v.category).sum ≤ W9) (hdg : decode c.code g.pc = .ok (.invokevirtual index, 3))
    (hpre : ∀ vm₁, s.WarmedH vm₁ → Pre ⟨T.setVm vm₁, locs, cells, slots⟩ (Value.ref b :: argsL).toArray) :
    (∃ (v : Option Value) (vm₁ : Vm) (B : Pt), s.WarmedH vm₁ ∧ Stand p l e R s m args below meth c B.U B.locs B.cells B.slots ∧ Post ⟨T.setVm vm₁, locs, cells, slots⟩ (Value.ref b :: argsL).toArray v B ∧
      ∀ target, Steps p.tables e below (B.U.setTop { g with pc := g.pc + 3, stack := v.toList ++ rest }) target → Steps p.tables e below (T.setTop g) target) ∨
    (∃ (q : Addr) (vm₁ : Vm) (B : Pt), s.WarmedH vm₁ ∧ Stand p l e R s m args below meth c B.U B.locs B.cells B.slots ∧ PostX ⟨T.setVm vm₁, locs, cells, slots⟩ (Value.ref b :: argsL).toArray q B ∧
      Steps p.tables e below (T.setTop g) ((B.U.setTop { g with stack := rest }).pushFrame (.throwing q))) := by
  obtain ⟨mk, methM, hnamed, hmethM, hstM, habM⟩ := Cond.instanceMethod_spec hinst
  obtain ⟨methM', cM, hmethM', -, -, -, -, -, -, hsigM⟩ := Cond.code_spec hnamed hcode
  cases hmethM.symm.trans hmethM'
  obtain ⟨c2, r2, m2, q1, q2, q3, q4, kP, hkP, hkPi⟩ := Cond.selects_spec hsel
  cases hcls.symm.trans q1
  cases (State.methodFound?_of_named hnamed hy).symm.trans q2
  cases hnamed.symm.trans q3
  have hselP : selectMethod e.platform s.vm cellB.cls mk = .method mk := by rw [Launch.admits_selectMethod X.admits]; exact q4
  obtain ⟨vm₁, X₁, hstep₁⟩ := X.invokevirtual hexec hown hlink hnamed hmethM hstM hkP hkPi hy (a := b) (cell := cellB) hcell
    (fun z h => by rw [h] at hobj; cases hobj) hselP hmethM habM hkP hkPi (g := g) hg (argsL := argsL) (rest := rest) (hlen _ hsigM) hstack hdg
  rcases hK m meth c ⟨T.setVm vm₁, locs, cells, slots⟩ { g with stack := rest } (.invokevirtual index) mk (Value.ref b :: argsL).toArray X₁ hg hsize hdg hW (X₁.named hnamed) (hpre vm₁ X₁.warmed) with ⟨v, B, X', hpost, hsteps⟩ | ⟨q, B, X', hpost, hsteps⟩
  · exact Or.inl ⟨v, vm₁, B, X₁.warmed, X', hpost, fun target h => hstep₁ _ fun acts => by rw [doInvoke_state]; exact hsteps.trans h⟩
  · exact Or.inr ⟨q, vm₁, B, X₁.warmed, X', hpost, hstep₁ _ fun acts => by rw [doInvoke_state]; exact hsteps⟩
theorem vx_callS (X : Stand p l e R s m args below meth c T locs cells slots) (hexec : p.tables.exec = Jvm.exec) {own : String} {index : Nat} {y : MethodName} {bytes : ByteArray} {maxL : Nat} {ret : Option FieldType}
    (hown : s.vm.findClass own = some m.cls) (hlink : (Cond.methodLink own index y).before args s = true) (hstat : (Cond.static y).before args s = true) (hinit : (Cond.initialized y.cls).before args s = true)
    (hcode : (Cond.code y bytes maxL ret).before args s = true) (hy : y.cls ≠ "java/lang/invoke/MethodHandle" ∧ y.cls ≠ "java/lang/invoke/VarHandle")
    {W9 : Nat} {Pre : Pt → Array Value → Prop} {Post : Pt → Array Value → Option Value → Pt → Prop} {PostX : Pt → Array Value → Addr → Pt → Prop} (hK : vx_Back l R p e below s args y 3 W9 Pre Post PostX)
    {g : JFrame} (hg : g.method = m) (hsize : g.locals.size = c.maxLocals) {argsL rest : List Value} (hlen : ∀ sig, parseMethodDescriptor y.desc = some sig → argsL.length = sig.parameters.length)
    (hstack : g.stack = argsL.reverse ++ rest) (hW : 2 * g.monitorRoom + (rest.map fun v => v.category).sum ≤ W9) (hdg : decode c.code g.pc = .ok (.invokestatic index, 3))
    (hpre : ∀ vm₁, s.WarmedH vm₁ → Pre ⟨T.setVm vm₁, locs, cells, slots⟩ argsL.toArray) :
    (∃ (v : Option Value) (vm₁ : Vm) (B : Pt), s.WarmedH vm₁ ∧ Stand p l e R s m args below meth c B.U B.locs B.cells B.slots ∧ Post ⟨T.setVm vm₁, locs, cells, slots⟩ argsL.toArray v B ∧
      ∀ target, Steps p.tables e below (B.U.setTop { g with pc := g.pc + 3, stack := v.toList ++ rest }) target → Steps p.tables e below (T.setTop g) target) ∨
    (∃ (q : Addr) (vm₁ : Vm) (B : Pt), s.WarmedH vm₁ ∧ Stand p l e R s m args below meth c B.U B.locs B.cells B.slots ∧ PostX ⟨T.setVm vm₁, locs, cells, slots⟩ argsL.toArray q B ∧
      Steps p.tables e below (T.setTop g) ((B.U.setTop { g with stack := rest }).pushFrame (.throwing q))) := by
  obtain ⟨mk, hnamed⟩ := Cond.code_named hcode
  obtain ⟨methM, cM, hmethM, -, -, -, -, -, -, hsigM⟩ := Cond.code_spec hnamed hcode
  have hstatic : methM.isStatic = true := Cond.static_spec hnamed hmethM hstat
  obtain ⟨kP, hkP, -⟩ := className_of_methodNamed hnamed
  have hinitP : kP.init = .initialized := Cond.initialized_spec (findClass_of_methodNamed hnamed) hkP hinit
  obtain ⟨vm₁, X₁, hstep₁⟩ := X.invokestatic hexec hown hlink hnamed hmethM hstatic hkP hinitP hy (g := g) hg (argsL := argsL) (rest := rest) (hlen _ hsigM) hstack hdg
  rcases hK m meth c ⟨T.setVm vm₁, locs, cells, slots⟩ { g with stack := rest } (.invokestatic index) mk argsL.toArray X₁ hg hsize hdg hW (X₁.named hnamed) (hpre vm₁ X₁.warmed) with ⟨v, B, X', hpost, hsteps⟩ | ⟨q, B, X', hpost, hsteps⟩
  · exact Or.inl ⟨v, vm₁, B, X₁.warmed, X', hpost, fun target h => hstep₁ _ fun acts => by rw [doInvoke_state]; exact hsteps.trans h⟩
  · exact Or.inr ⟨q, vm₁, B, X₁.warmed, X', hpost, hstep₁ _ fun acts => by rw [doInvoke_state]; exact hsteps⟩
end Calls
theorem vx_cls {s : State} {T : State} {vm₁ : Vm} {E : String} {k : ClassId} (hW : s.WarmedH vm₁) (h : (T.setVm vm₁).vm.findClass E = some k) : s.vm.findClass E = some k := by
  have h1 : vm₁.findClass E = some k := h
  rw [hW.alike.findClass] at h1
  exact h1
/-- the method's frame g, with q thrown over it -/
def vx_W (p : Program) (l : Launch) (e : Env) (R : Room) (s : State) (m : MethodId) (args : Array Value) (below : List Frame) (meth : Method) (c : Code) (H : Heap) (locs : List Loc) (cells slots : Nat) (Q : State → Prop) (g : JFrame) (q : Addr) : Prop :=
  ∀ T : State, T.heap = H → Stand p l e R s m args below meth c T locs cells slots → ∃ t, Steps p.tables e below ((T.setTop g).pushFrame (.throwing q)) t ∧ Q t
def vx_Run (p : Program) (l : Launch) (e : Env) (R : Room) (s : State) (m : MethodId) (args : Array Value) (below : List Frame) (meth : Method) (c : Code) (H : Heap) (locs : List Loc) (cells slots mc ms : Nat) (g : JFrame) (rest : List Value) (Qa : State → Outcome → State → Prop) (XC : String → State → State → Prop) (free : Addr → Prop) : Prop :=
  ∀ T : State, T.heap = H → Stand p l e R s m args below meth c T locs cells slots →
    (∃ (v : Option Value) (st₀ t T' : State) (L : List Loc), st₀.heap = H ∧ Stand p l e R s m args below meth c T' (locs ++ L) (cells + mc) (slots + ms) ∧ (∀ q ∈ L, free q.base) ∧ T'.heap = t.heap ∧ T'.vm = t.vm ∧ Qa st₀ (.returned v) t ∧
      Goes p e below T g T' { g with pc := g.pc + 3, stack := v.toList ++ rest }) ∨
    (∃ (q : Addr) (st₀ t T' : State) (L : List Loc) (E : String) (ce : Cell), st₀.heap = H ∧ Stand p l e R s m args below meth c T' (locs ++ L) (cells + mc) (slots + ms) ∧ (∀ z ∈ L, free z.base) ∧ T'.heap = t.heap ∧ T'.vm = t.vm ∧ XC E st₀ t ∧ t.heap[q]? = some ce ∧ ce.vm = .none ∧ s.vm.findClass E = some ce.cls ∧
      Steps p.tables e below (T.setTop g) ((T'.setTop { g with stack := rest }).pushFrame (.throwing q)))
def vx_X {S : Type} (px : S → Prop) (B : String → S → State → Prop) (A : Nat → Prop) : String → State → State → Prop := fun E st t => ∃ u : S, px u ∧ B E u t ∧ va_F A st t
section Runs
variable {p : Program} {l : Launch} {e : Env} {R : Room} {s : State} {m : MethodId} {args : Array Value} {below : List Frame} {meth : Method} {c : Code} {H : Heap} {locs : List Loc} {cells slots : Nat}
variable {y : MethodName} {bytes cc : ByteArray} {maxL nL mc ms n index : Nat} {ret : Option FieldType} {ws : List Cond} {rm : Room} {Pc : Array Value → State → Prop} {Qc : Array Value → State → Outcome → State → Prop} {XC : String → State → State → Prop} {free : Addr → Prop} {Ts : List Cond} {own C : String} {b : Addr} {As rest : List Value} {g : JFrame}
theorem vx_callBack (cb : CallB R s args own index y bytes maxL ret ws rm mc ms n) (hM : vx_Met l y ws rm Pc Qc XC mc ms free) (hbl : FrameBlind Pc) : vx_Back l R p e below s args y 3 8 (PreOf R mc ms Pc) (PostOf Qc mc ms free) (vx_Post XC mc ms free) := by
  obtain ⟨hrc, hrs, hfr, hlo, hws, hcw, -, hini, -⟩ := cb
  exact vx_back (bytes := bytes) (maxL := maxL) (ret := ret) hM hbl hrc hrs hfr hlo hws hcw (fun a' U hW => word_at hW (Or.inl (by first | rfl | simp [Cond.onTables, Cond.keeps, Cond.steady])) hini)
theorem vx_runV (S : CallFix p m c cc nL s args Ts own) (hM : vx_Met l y ws rm Pc Qc XC mc ms free) (cw : CallW R s args own C index y bytes maxL ret ws rm mc ms n) (hp : PreV s H C b Pc As)
    (hg : g.method = m) (hn : As.length = n) (hsize : g.locals.size = nL) (hstack : g.stack = As.reverse ++ .ref b :: rest) (hW : 2 * g.monitorRoom + (rest.map fun v => v.category).sum ≤ 8) (hdg : decode cc g.pc = .ok (.invokevirtual index, 3)) (hf : cells + mc ≤ R.cells ∧ slots + ms ≤ R.slots) :
    vx_Run p l e R s m args below meth c H locs cells slots mc ms g rest (Qc (Value.ref b :: As).toArray) XC free := by
  have hK : vx_Back l R p e below s args y 3 8 (PreOf R mc ms Pc) (PostOf Qc mc ms free) (vx_Post XC mc ms free) := vx_callBack cw.1 hM hp.1
  obtain ⟨⟨-, -, -, -, -, -, hcode, -, hy, hlen, hl⟩, hin, hse⟩ := cw
  obtain ⟨hx, hb, hml, ho, -⟩ := S
  obtain ⟨-, ⟨cellB, hcB, hoB, hclB⟩, hPc⟩ := hp
  intro T hT X
  rcases vx_callV X hx (C := C) (bytes := bytes) (maxL := maxL) (ret := ret) ho hl hin hse hcode hy hK (by rw [hT]; exact hcB) hoB hclB hg (hsize.trans hml.symm) (argsL := As) (rest := rest) (fun sig h => hn.trans (hlen sig h)) hstack hW (by rw [hb]; exact hdg)
    (fun vm₁ hW₁ => ⟨hf.1, hf.2, hPc (T.setVm vm₁) hT hW₁⟩) with ⟨v, vm₁, ⟨U', l2, c2, s2⟩, hW₁, X', ⟨g', mk, t, L, e1, e2, hq, h1, hL, h2, h3⟩, st⟩ | ⟨q, vm₁, ⟨U', l2, c2, s2⟩, hW₁, X', ⟨g', mk, t, L, E, ce, e1, e2, hq, hce, hcv, hcl, h1, hL, h2, h3⟩, st⟩
  · dsimp only [Pt.U, Pt.locs, Pt.cells, Pt.slots] at X' e1 e2 h1 h2 h3 st
    subst h1; subst h2; subst h3
    exact Or.inl ⟨v, (T.setVm vm₁).calling g' mk (Value.ref b :: As).toArray, t, U', L, hT, X', hL, e1, e2, hq, st⟩
  · dsimp only [Pt.U, Pt.locs, Pt.cells, Pt.slots] at X' e1 e2 h1 h2 h3 st hcl
    subst h1; subst h2; subst h3
    exact Or.inr ⟨q, (T.setVm vm₁).calling g' mk (Value.ref b :: As).toArray, t, U', L, E, ce, hT, X', hL, e1, e2, hq, hce, hcv, vx_cls hW₁ hcl, st⟩
theorem vx_runS (S : CallFix p m c cc nL s args Ts own) (hM : vx_Met l y ws rm Pc Qc XC mc ms free) (cw : CallB R s args own index y bytes maxL ret ws rm mc ms n ∧ (Cond.static y).before args s = true) (hp : PreS s H Pc As)
    (hg : g.method = m) (hn : As.length = n) (hsize : g.locals.size = nL) (hstack : g.stack = As.reverse ++ rest) (hW : 2 * g.monitorRoom + (rest.map fun v => v.category).sum ≤ 8) (hdg : decode cc g.pc = .ok (.invokestatic index, 3)) (hf : cells + mc ≤ R.cells ∧ slots + ms ≤ R.slots) :
    vx_Run p l e R s m args below meth c H locs cells slots mc ms g rest (Qc As.toArray) XC free := by
  have hK : vx_Back l R p e below s args y 3 8 (PreOf R mc ms Pc) (PostOf Qc mc ms free) (vx_Post XC mc ms free) := vx_callBack cw.1 hM hp.1
  obtain ⟨⟨-, -, -, -, -, -, hcode, hini, hy, hlen, hl⟩, hstt⟩ := cw
  obtain ⟨hx, hb, hml, ho, -⟩ := S
  intro T hT X
  rcases vx_callS X hx (bytes := bytes) (maxL := maxL) (ret := ret) ho hl hstt hini hcode hy hK hg (hsize.trans hml.symm) (argsL := As) (rest := rest) (fun sig h => hn.trans (hlen sig h)) hstack hW (by rw [hb]; exact hdg)
    (fun vm₁ hW₁ => ⟨hf.1, hf.2, hp.2 (T.setVm vm₁) hT hW₁⟩) with ⟨v, vm₁, ⟨U', l2, c2, s2⟩, hW₁, X', ⟨g', mk, t, L, e1, e2, hq, h1, hL, h2, h3⟩, st⟩ | ⟨q, vm₁, ⟨U', l2, c2, s2⟩, hW₁, X', ⟨g', mk, t, L, E, ce, e1, e2, hq, hce, hcv, hcl, h1, hL, h2, h3⟩, st⟩
  · dsimp only [Pt.U, Pt.locs, Pt.cells, Pt.slots] at X' e1 e2 h1 h2 h3 st
    subst h1; subst h2; subst h3
    exact Or.inl ⟨v, (T.setVm vm₁).calling g' mk As.toArray, t, U', L, hT, X', hL, e1, e2, hq, st⟩
  · dsimp only [Pt.U, Pt.locs, Pt.cells, Pt.slots] at X' e1 e2 h1 h2 h3 st hcl
    subst h1; subst h2; subst h3
    exact Or.inr ⟨q, (T.setVm vm₁).calling g' mk As.toArray, t, U', L, E, ce, hT, X', hL, e1, e2, hq, hce, hcv, vx_cls hW₁ hcl, st⟩
end Runs
section Rows
variable {p : Program} {l : Launch} {e : Env} {R : Room} {s : State} {m : MethodId} {args : Array Value} {below : List Frame} {meth : Method} {c : Code} {H : Heap} {locs : List Loc} {cells slots : Nat} {Q : State → Prop}
variable {mc ms : Nat} {free : Addr → Prop} {A0 A1 : Nat → Prop} {H0 : Heap} {a : Array Value} {pc : Nat} {ls : Array Slot} {st0 rest : List Value}
theorem vx_keep {st₀ t T' : State} {L : List Loc} (h0 : st₀.heap = H) (e1 : T'.heap = t.heap) (hS : va_S A0 H0 H locs) (hA : ∀ q, q < H.size → A1 q → A0 q) (hf : ∀ q, free q → A0 q) (hL : ∀ q ∈ L, free q.base) (hF : va_F A1 st₀ t) :
    H.size ≤ T'.heap.size ∧ (∀ q : Nat, q < H.size → ¬ A1 q → T'.heap[q]? = H[q]?) ∧ va_S A0 H0 T'.heap (locs ++ L) := by
  obtain ⟨hz, hk⟩ := hF
  rw [h0] at hz hk
  exact ⟨by rw [e1]; exact hz, fun q h1 h2 => by rw [e1]; exact hk q h1 h2,
    ⟨Nat.le_trans hS.1 (by rw [e1]; exact hz), fun q h1 h2 => by rw [e1, hk q (Nat.lt_of_lt_of_le h1 hS.1) (fun z => h2 (hA q (Nat.lt_of_lt_of_le h1 hS.1) z))]; exact hS.2.1 q h1 h2, fun q hq => by
      rcases List.mem_append.mp hq with h | h
      · exact hS.2.2 q h
      · exact hf _ (hL q h)⟩⟩
theorem vx_calli {S SX : Type} {post : Int32 → S → Prop} {px : SX → Prop} {B : S → State → Prop} {BX : String → SX → State → Prop} {AX : Nat → Prop} (hr : vx_Run p l e R s m args below meth c H locs cells slots mc ms (F0 m pc ls st0) rest (va_Qi post B A1 a) (vx_X px BX AX) free) (hS : va_S A0 H0 H locs) (hA : ∀ q, q < H.size → A1 q → A0 q) (hf : ∀ q, free q → A0 q) (hAX : ∀ q, q < H.size → AX q → A0 q)
    (kx : ∀ (E : String) (ce : Cell) (q9 : Addr) (u : SX) (t : State) (H1 : Heap) (locs1 : List Loc), t.heap = H1 → s.vm.Alike t.vm → px u → BX E u t → H.size ≤ H1.size → (∀ q : Nat, q < H.size → ¬ AX q → H1[q]? = H[q]?) → va_S A0 H0 H1 locs1 → H1[q9]? = some ce → ce.vm = .none → s.vm.findClass E = some ce.cls → vx_W p l e R s m args below meth c H1 locs1 (cells + mc) (slots + ms) Q (F0 m pc ls rest) q9)
    (kk : ∀ (r : Int32) (u : S) (t : State) (H1 : Heap) (locs1 : List Loc), t.heap = H1 → s.vm.Alike t.vm → post r u → B u t → H.size ≤ H1.size → (∀ q : Nat, q < H.size → ¬ A1 q → H1[q]? = H[q]?) → va_S A0 H0 H1 locs1 → W p l e R s m args below meth c H1 locs1 (cells + mc) (slots + ms) Q (F0 m (pc + 3) ls (.int r :: rest))) : W p l e R s m args below meth c H locs cells slots Q (F0 m pc ls st0) := by
  intro T hT X
  rcases hr T hT X with ⟨v, st₀, t, T', L, h0, X', hL, e1, e2, ⟨⟨r, u, hv, hp, hb⟩, hF⟩, st⟩ | ⟨q, st₀, t, T', L, E, ce, h0, X', hL, e1, e2, ⟨u, hp, hb, hF⟩, hce, hcv, hcl, st⟩
  · cases hv
    obtain ⟨k1, k2, k3⟩ := vx_keep h0 e1 hS hA hf hL hF
    obtain ⟨t2, a1, b1⟩ := kk r u t T'.heap (locs ++ L) e1.symm (by rw [← e2]; exact X'.warmed.alike) hp hb k1 k2 k3 T' rfl X'
    exact ⟨t2, st t2 a1, b1⟩
  · obtain ⟨k1, k2, k3⟩ := vx_keep h0 e1 hS hAX hf hL hF
    obtain ⟨t2, a1, b1⟩ := kx E ce q u t T'.heap (locs ++ L) e1.symm (by rw [← e2]; exact X'.warmed.alike) hp hb k1 k2 k3 (by rw [e1]; exact hce) hcv hcl T' rfl X'
    exact ⟨t2, st.trans a1, b1⟩
theorem vx_calll {S SX : Type} {post : Int64 → S → Prop} {px : SX → Prop} {B : S → State → Prop} {BX : String → SX → State → Prop} {AX : Nat → Prop} (hr : vx_Run p l e R s m args below meth c H locs cells slots mc ms (F0 m pc ls st0) rest (va_Ql post B A1 a) (vx_X px BX AX) free) (hS : va_S A0 H0 H locs) (hA : ∀ q, q < H.size → A1 q → A0 q) (hf : ∀ q, free q → A0 q) (hAX : ∀ q, q < H.size → AX q → A0 q)
    (kx : ∀ (E : String) (ce : Cell) (q9 : Addr) (u : SX) (t : State) (H1 : Heap) (locs1 : List Loc), t.heap = H1 → s.vm.Alike t.vm → px u → BX E u t → H.size ≤ H1.size → (∀ q : Nat, q < H.size → ¬ AX q → H1[q]? = H[q]?) → va_S A0 H0 H1 locs1 → H1[q9]? = some ce → ce.vm = .none → s.vm.findClass E = some ce.cls → vx_W p l e R s m args below meth c H1 locs1 (cells + mc) (slots + ms) Q (F0 m pc ls rest) q9)
    (kk : ∀ (r : Int64) (u : S) (t : State) (H1 : Heap) (locs1 : List Loc), t.heap = H1 → s.vm.Alike t.vm → post r u → B u t → H.size ≤ H1.size → (∀ q : Nat, q < H.size → ¬ A1 q → H1[q]? = H[q]?) → va_S A0 H0 H1 locs1 → W p l e R s m args below meth c H1 locs1 (cells + mc) (slots + ms) Q (F0 m (pc + 3) ls (.long r :: rest))) : W p l e R s m args below meth c H locs cells slots Q (F0 m pc ls st0) := by
  intro T hT X
  rcases hr T hT X with ⟨v, st₀, t, T', L, h0, X', hL, e1, e2, ⟨⟨r, u, hv, hp, hb⟩, hF⟩, st⟩ | ⟨q, st₀, t, T', L, E, ce, h0, X', hL, e1, e2, ⟨u, hp, hb, hF⟩, hce, hcv, hcl, st⟩
  · cases hv
    obtain ⟨k1, k2, k3⟩ := vx_keep h0 e1 hS hA hf hL hF
    obtain ⟨t2, a1, b1⟩ := kk r u t T'.heap (locs ++ L) e1.symm (by rw [← e2]; exact X'.warmed.alike) hp hb k1 k2 k3 T' rfl X'
    exact ⟨t2, st t2 a1, b1⟩
  · obtain ⟨k1, k2, k3⟩ := vx_keep h0 e1 hS hAX hf hL hF
    obtain ⟨t2, a1, b1⟩ := kx E ce q u t T'.heap (locs ++ L) e1.symm (by rw [← e2]; exact X'.warmed.alike) hp hb k1 k2 k3 (by rw [e1]; exact hce) hcv hcl T' rfl X'
    exact ⟨t2, st.trans a1, b1⟩
theorem vx_callf {S SX : Type} {post : UInt32 → S → Prop} {px : SX → Prop} {B : S → State → Prop} {BX : String → SX → State → Prop} {AX : Nat → Prop} (hr : vx_Run p l e R s m args below meth c H locs cells slots mc ms (F0 m pc ls st0) rest (va_Qf post B A1 a) (vx_X px BX AX) free) (hS : va_S A0 H0 H locs) (hA : ∀ q, q < H.size → A1 q → A0 q) (hf : ∀ q, free q → A0 q) (hAX : ∀ q, q < H.size → AX q → A0 q)
    (kx : ∀ (E : String) (ce : Cell) (q9 : Addr) (u : SX) (t : State) (H1 : Heap) (locs1 : List Loc), t.heap = H1 → s.vm.Alike t.vm → px u → BX E u t → H.size ≤ H1.size → (∀ q : Nat, q < H.size → ¬ AX q → H1[q]? = H[q]?) → va_S A0 H0 H1 locs1 → H1[q9]? = some ce → ce.vm = .none → s.vm.findClass E = some ce.cls → vx_W p l e R s m args below meth c H1 locs1 (cells + mc) (slots + ms) Q (F0 m pc ls rest) q9)
    (kk : ∀ (r : UInt32) (u : S) (t : State) (H1 : Heap) (locs1 : List Loc), t.heap = H1 → s.vm.Alike t.vm → post r u → B u t → H.size ≤ H1.size → (∀ q : Nat, q < H.size → ¬ A1 q → H1[q]? = H[q]?) → va_S A0 H0 H1 locs1 → W p l e R s m args below meth c H1 locs1 (cells + mc) (slots + ms) Q (F0 m (pc + 3) ls (.float r :: rest))) : W p l e R s m args below meth c H locs cells slots Q (F0 m pc ls st0) := by
  intro T hT X
  rcases hr T hT X with ⟨v, st₀, t, T', L, h0, X', hL, e1, e2, ⟨⟨r, u, hv, hp, hb⟩, hF⟩, st⟩ | ⟨q, st₀, t, T', L, E, ce, h0, X', hL, e1, e2, ⟨u, hp, hb, hF⟩, hce, hcv, hcl, st⟩
  · cases hv
    obtain ⟨k1, k2, k3⟩ := vx_keep h0 e1 hS hA hf hL hF
    obtain ⟨t2, a1, b1⟩ := kk r u t T'.heap (locs ++ L) e1.symm (by rw [← e2]; exact X'.warmed.alike) hp hb k1 k2 k3 T' rfl X'
    exact ⟨t2, st t2 a1, b1⟩
  · obtain ⟨k1, k2, k3⟩ := vx_keep h0 e1 hS hAX hf hL hF
    obtain ⟨t2, a1, b1⟩ := kx E ce q u t T'.heap (locs ++ L) e1.symm (by rw [← e2]; exact X'.warmed.alike) hp hb k1 k2 k3 (by rw [e1]; exact hce) hcv hcl T' rfl X'
    exact ⟨t2, st.trans a1, b1⟩
theorem vx_calld {S SX : Type} {post : UInt64 → S → Prop} {px : SX → Prop} {B : S → State → Prop} {BX : String → SX → State → Prop} {AX : Nat → Prop} (hr : vx_Run p l e R s m args below meth c H locs cells slots mc ms (F0 m pc ls st0) rest (va_Qd post B A1 a) (vx_X px BX AX) free) (hS : va_S A0 H0 H locs) (hA : ∀ q, q < H.size → A1 q → A0 q) (hf : ∀ q, free q → A0 q) (hAX : ∀ q, q < H.size → AX q → A0 q)
    (kx : ∀ (E : String) (ce : Cell) (q9 : Addr) (u : SX) (t : State) (H1 : Heap) (locs1 : List Loc), t.heap = H1 → s.vm.Alike t.vm → px u → BX E u t → H.size ≤ H1.size → (∀ q : Nat, q < H.size → ¬ AX q → H1[q]? = H[q]?) → va_S A0 H0 H1 locs1 → H1[q9]? = some ce → ce.vm = .none → s.vm.findClass E = some ce.cls → vx_W p l e R s m args below meth c H1 locs1 (cells + mc) (slots + ms) Q (F0 m pc ls rest) q9)
    (kk : ∀ (r : UInt64) (u : S) (t : State) (H1 : Heap) (locs1 : List Loc), t.heap = H1 → s.vm.Alike t.vm → post r u → B u t → H.size ≤ H1.size → (∀ q : Nat, q < H.size → ¬ A1 q → H1[q]? = H[q]?) → va_S A0 H0 H1 locs1 → W p l e R s m args below meth c H1 locs1 (cells + mc) (slots + ms) Q (F0 m (pc + 3) ls (.double r :: rest))) : W p l e R s m args below meth c H locs cells slots Q (F0 m pc ls st0) := by
  intro T hT X
  rcases hr T hT X with ⟨v, st₀, t, T', L, h0, X', hL, e1, e2, ⟨⟨r, u, hv, hp, hb⟩, hF⟩, st⟩ | ⟨q, st₀, t, T', L, E, ce, h0, X', hL, e1, e2, ⟨u, hp, hb, hF⟩, hce, hcv, hcl, st⟩
  · cases hv
    obtain ⟨k1, k2, k3⟩ := vx_keep h0 e1 hS hA hf hL hF
    obtain ⟨t2, a1, b1⟩ := kk r u t T'.heap (locs ++ L) e1.symm (by rw [← e2]; exact X'.warmed.alike) hp hb k1 k2 k3 T' rfl X'
    exact ⟨t2, st t2 a1, b1⟩
  · obtain ⟨k1, k2, k3⟩ := vx_keep h0 e1 hS hAX hf hL hF
    obtain ⟨t2, a1, b1⟩ := kx E ce q u t T'.heap (locs ++ L) e1.symm (by rw [← e2]; exact X'.warmed.alike) hp hb k1 k2 k3 (by rw [e1]; exact hce) hcv hcl T' rfl X'
    exact ⟨t2, st.trans a1, b1⟩
theorem vx_callv {S SX : Type} {post : S → Prop} {px : SX → Prop} {B : S → State → Prop} {BX : String → SX → State → Prop} {AX : Nat → Prop} (hr : vx_Run p l e R s m args below meth c H locs cells slots mc ms (F0 m pc ls st0) rest (va_Qv post B A1 a) (vx_X px BX AX) free) (hS : va_S A0 H0 H locs) (hA : ∀ q, q < H.size → A1 q → A0 q) (hf : ∀ q, free q → A0 q) (hAX : ∀ q, q < H.size → AX q → A0 q)
    (kx : ∀ (E : String) (ce : Cell) (q9 : Addr) (u : SX) (t : State) (H1 : Heap) (locs1 : List Loc), t.heap = H1 → s.vm.Alike t.vm → px u → BX E u t → H.size ≤ H1.size → (∀ q : Nat, q < H.size → ¬ AX q → H1[q]? = H[q]?) → va_S A0 H0 H1 locs1 → H1[q9]? = some ce → ce.vm = .none → s.vm.findClass E = some ce.cls → vx_W p l e R s m args below meth c H1 locs1 (cells + mc) (slots + ms) Q (F0 m pc ls rest) q9)
    (kk : ∀ (u : S) (t : State) (H1 : Heap) (locs1 : List Loc), t.heap = H1 → s.vm.Alike t.vm → post u → B u t → H.size ≤ H1.size → (∀ q : Nat, q < H.size → ¬ A1 q → H1[q]? = H[q]?) → va_S A0 H0 H1 locs1 → W p l e R s m args below meth c H1 locs1 (cells + mc) (slots + ms) Q (F0 m (pc + 3) ls (rest))) : W p l e R s m args below meth c H locs cells slots Q (F0 m pc ls st0) := by
  intro T hT X
  rcases hr T hT X with ⟨v, st₀, t, T', L, h0, X', hL, e1, e2, ⟨⟨u, hv, hp, hb⟩, hF⟩, st⟩ | ⟨q, st₀, t, T', L, E, ce, h0, X', hL, e1, e2, ⟨u, hp, hb, hF⟩, hce, hcv, hcl, st⟩
  · cases hv
    obtain ⟨k1, k2, k3⟩ := vx_keep h0 e1 hS hA hf hL hF
    obtain ⟨t2, a1, b1⟩ := kk u t T'.heap (locs ++ L) e1.symm (by rw [← e2]; exact X'.warmed.alike) hp hb k1 k2 k3 T' rfl X'
    exact ⟨t2, st t2 a1, b1⟩
  · obtain ⟨k1, k2, k3⟩ := vx_keep h0 e1 hS hAX hf hL hF
    obtain ⟨t2, a1, b1⟩ := kx E ce q u t T'.heap (locs ++ L) e1.symm (by rw [← e2]; exact X'.warmed.alike) hp hb k1 k2 k3 (by rw [e1]; exact hce) hcv hcl T' rfl X'
    exact ⟨t2, st.trans a1, b1⟩
/-- caught by the row x of this method's table; the rows ahead don't take it -/
theorem vx_catch {own name : String} {E : String} {ce : Cell} {q : Addr} (hown : s.vm.findClass own = some m.cls) (pre : List ExceptionTableEntry) (x : ExceptionTableEntry) (suf : List ExceptionTableEntry) (hsplit : c.exceptionTable.toList = pre ++ x :: suf)
    (hpass : ∀ z ∈ pre, covers z pc = false ∨ (z.catchType ≠ 0 ∧ ∃ nm : String, (Cond.classLink own z.catchType nm).before args s = true ∧ va_Nc E nm s)) (hx : covers x pc = true) (h0 : x.catchType ≠ 0)
    (hlink : (Cond.classLink own x.catchType name).before args s = true) (hcast : (Cond.castable E name).before args s = true) (hcell : H[q]? = some ce) (hv : ce.vm = .none) (hcl : s.vm.findClass E = some ce.cls)
    (kk : W p l e R s m args below meth c H locs cells slots Q (F0 m x.handlerPc ls [.ref q])) : vx_W p l e R s m args below meth c H locs cells slots Q (F0 m pc ls rest) q := by
  intro T hT X
  have hpl : e.platform.magicAccessors = ({} : Platform).magicAccessors := by rw [X.admits.platform]
  obtain ⟨c3, c4, hc3, hc4, hasg⟩ := Cond.castable_spec hcast
  cases Option.some.inj (hc3.symm.trans hcl)
  obtain ⟨c5, hc5, hcl5⟩ := Cond.classLink_spec hown hlink e.platform hpl
  cases Option.some.inj (hc4.symm.trans hc5)
  obtain ⟨vm', X', st⟩ := X.thenCaughtThrough q (g := F0 m pc ls rest) rfl (Steps.refl _) (by rw [hT]; exact hcell) (by rw [hv]; rfl) (by obtain ⟨k9, h9, -⟩ := Vm.findClass_spec hcl; exact ⟨k9, h9⟩) pre x suf hsplit
    (fun z hz => by
      rcases hpass z hz with h | ⟨hz0, nm, hl1, hn1⟩
      · exact Or.inl h
      · obtain ⟨c6, hc6, hcl6⟩ := Cond.classLink_spec hown hl1 e.platform hpl
        obtain ⟨a8, b8, h1, h2, h3⟩ := hn1
        cases Option.some.inj (h1.symm.trans hcl)
        cases Option.some.inj (h2.symm.trans hc6)
        exact Or.inr ⟨hz0, _, hcl6, h3⟩) hx (Or.inr ⟨h0, c4, hcl5, hasg⟩)
  obtain ⟨t, a1, b1⟩ := kk (T.setVm vm') hT X'
  exact ⟨t, st.trans a1, b1⟩
end Rows
section Ends
variable {p : Program} {l : Launch} {e : Env} {R : Room} {s : State} {m : MethodId} {args : Array Value} {below : List Frame} {meth : Method} {c : Code} {H : Heap} {locs : List Loc} {cells slots : Nat} {Q : State → Prop}
variable {mc ms : Nat} {free : Addr → Prop} {A0 A1 : Nat → Prop} {H0 : Heap} {a : Array Value} {ls : Array Slot} {st0 rest : List Value}
variable {Qc : Array Value → State → Outcome → State → Prop} {XC : String → State → State → Prop}
/-- what a body that may throw owes at its end -/
def vx_MQ (below : List Frame) (Qc : Array Value → State → Outcome → State → Prop) (XC : String → State → State → Prop) (a : Array Value) (s : State) (mc ms : Nat) (free : Addr → Prop) : State → Prop := fun t =>
  ∃ o, t.status = .running ∧ Ended t below o ∧ vx_Q Qc XC mc ms free a s o t
theorem vx_ret {g : JFrame} {mc ms : Nat} (k : W p l e R s m args below meth c H locs cells slots (MQ below Qc args s mc ms free) g) : W p l e R s m args below meth c H locs cells slots (vx_MQ below Qc XC args s mc ms free) g := by
  intro T hT X
  obtain ⟨t, a1, o, b1, b2, b3, b4⟩ := k T hT X
  exact ⟨t, a1, o, b1, b2, Or.inl ⟨b3, b4⟩⟩
/-- not caught here: it goes on to the caller -/
theorem vx_widen {g : JFrame} {q : Addr} {k n : Nat} (h1 : cells ≤ k) (h2 : slots ≤ n) (kk : vx_W p l e R s m args below meth c H locs k n Q g q) : vx_W p l e R s m args below meth c H locs cells slots Q g q := fun T hT X => kk T hT (stand_widen X h1 h2)
theorem vx_out {pc : Nat} {E : String} {ce : Cell} {q : Addr} {mc ms : Nat} (hout : ∀ x ∈ c.exceptionTable.toList, covers x pc = false) (hlocks : meth.locks = false) (hcell : H[q]? = some ce) (hv : ce.vm = .none) (hcl : s.vm.findClass E = some ce.cls)
    (hx : ∀ t : State, t.heap = H → s.vm.Alike t.vm → XC E s t) (hf : ∀ z ∈ locs, free z.base) (hc : cells ≤ mc) (hs : slots ≤ ms) :
    vx_W p l e R s m args below meth c H locs cells slots (vx_MQ below Qc XC args s mc ms free) (F0 m pc ls rest) q := by
  intro T hT X
  obtain ⟨st1, hrun, hend, hW, hsm⟩ := X.leaveThrown q (g := F0 m pc ls rest) rfl rfl rfl hout hlocks
  have hcell9 : (T.setFrames (.throwing q :: below)).heap[q]? = some ce := by
    show T.heap[q]? = some ce
    rw [hT]; exact hcell
  exact ⟨_, st1, .threw q, hrun, hend, Or.inr ⟨q, rfl, E, ce, locs, hx _ hT hW.alike, hcell9, hv, hcl, hW, hsm.mono hc hs, hf⟩⟩
theorem vx_frame {U : State} {k n : Nat} (h : s.sameButNew ({ U with vm := s.vm } : State) locs k n) : s.heap.size ≤ U.heap.size ∧ ∀ q : Nat, q < s.heap.size → (∀ z ∈ locs, z.base ≠ q) → U.heap[q]? = s.heap[q]? := by
  obtain ⟨-, h2, -, -, -, h6⟩ := h
  refine ⟨h2, fun q hq hz => ?_⟩
  obtain ⟨c9, e1, e2, e3, e4⟩ := h6 q _ (Array.getElem?_eq_getElem hq)
  have hs : c9.slots = (s.heap[q]).slots := Array.ext_getElem? fun i => e4 i fun hm => hz _ hm rfl
  have h9 : c9 = s.heap[q] := by
    rw [hs] at e2
    exact e2
  have e5 : U.heap[q]? = some c9 := e1
  rw [e5, h9, Array.getElem?_eq_getElem hq]
/-- the words of a throw but the four that speak of the heap -/
def vx_no (w : Cond) : Bool := decide (w ≠ .isRef (.static Bundle.tN "UNASSIGNED_STACK" Bundle.steD)) && decide (w ≠ .isRef (.static Bundle.tN "SUPPRESSED_SENTINEL" Bundle.listD)) && decide (w ≠ .laysStatic Bundle.tN "UNASSIGNED_STACK" Bundle.steD) && decide (w ≠ .laysStatic Bundle.tN "SUPPRESSED_SENTINEL" Bundle.listD)
def vx_at0 (own : String) (ic : Nat) (X : String) (names : List String) : List Cond := (Bundle.ownAtoms0 own ic X names).filter vx_no
def vx_atS (own : String) (ic : Nat) (X : String) (names : List String) : List Cond := (Bundle.ownAtoms own ic X names).filter vx_no
/-- a word that the tables alone decide, or a good one -/
def vx_ot (w : Cond) : Bool := w.onTables || goodWord w
theorem vx_ot_at {args a' : Array Value} {s U : State} {w : Cond} (hW : s.WarmedH U.vm) (hvm : s.vm = U.vm) (hg : vx_ot w = true) (h : w.before args s = true) : w.before a' U = true := by
  simp only [vx_ot, Bool.or_eq_true] at hg
  rcases hg with hg | hg
  · exact va_tabs hg hvm h
  · exact word_at hW (good_of_word hg) h
/-- a list's words: the good ones out of the method's own list, the others by premises of their own -/
theorem vx_hat {args : Array Value} {s : State} {L B : List Cond} (h1 : ∀ w ∈ L.filter goodWord, w.before args s = true) (h2 : ∀ w ∈ L.filter (fun w => !goodWord w), w ∈ B) (h3 : ∀ w ∈ B, w.before args s = true) : ∀ w ∈ L, w.before args s = true := by
  intro w hw
  by_cases g : goodWord w = true
  · exact h1 w (List.mem_filter.mpr ⟨hw, g⟩)
  · refine h3 w (h2 w (List.mem_filter.mpr ⟨hw, ?_⟩))
    show (!goodWord w) = true
    cases hgw : goodWord w
    · rfl
    · exact absurd hgw g
theorem vx_c {args : Array Value} {s : State} {w : Cond} {B : List Cond} (h : w.before args s = true) (t : ∀ w ∈ B, w.before args s = true) : ∀ w' ∈ w :: B, w'.before args s = true := fun w' h' => (List.mem_cons.mp h').elim (fun e => by rw [e]; exact h) (t w')
theorem vx_n {args : Array Value} {s : State} : ∀ w ∈ ([] : List Cond), w.before args s = true := fun _ h => nomatch h
theorem vx_own {args : Array Value} {s : State} {L : List Cond} (h1 : ∀ w ∈ L.filter vx_no, w.before args s = true)
    (hU : (Cond.isRef (.static Bundle.tN "UNASSIGNED_STACK" Bundle.steD)).before args s = true) (hN : (Cond.isRef (.static Bundle.tN "SUPPRESSED_SENTINEL" Bundle.listD)).before args s = true)
    (lU : (Cond.laysStatic Bundle.tN "UNASSIGNED_STACK" Bundle.steD).before args s = true) (lN : (Cond.laysStatic Bundle.tN "SUPPRESSED_SENTINEL" Bundle.listD).before args s = true) : ∀ w ∈ L, w.before args s = true := by
  intro w hw
  by_cases e1 : w = .isRef (.static Bundle.tN "UNASSIGNED_STACK" Bundle.steD)
  · rw [e1]; exact hU
  · by_cases e2 : w = .isRef (.static Bundle.tN "SUPPRESSED_SENTINEL" Bundle.listD)
    · rw [e2]; exact hN
    · by_cases e3 : w = .laysStatic Bundle.tN "UNASSIGNED_STACK" Bundle.steD
      · rw [e3]; exact lU
      · by_cases e4 : w = .laysStatic Bundle.tN "SUPPRESSED_SENTINEL" Bundle.listD
        · rw [e4]; exact lN
        · exact h1 w (List.mem_filter.mpr ⟨hw, by unfold vx_no; rw [decide_eq_true e1, decide_eq_true e2, decide_eq_true e3, decide_eq_true e4]; rfl⟩)
/-- where a static field lies, its class's statics cell in H -/
def vx_L (C n d : String) (A : Nat → Prop) (U : State) (H : Heap) : Prop := ∃ (c : ClassId) (k : Class) (i : Nat) (f : Field) (a : Nat) (cell : Cell), U.vm.findClass C = some c ∧ U.fieldFound? C n d = some (c, k, i, f) ∧ f.isStatic = true ∧ k.statics = some a ∧ H[a]? = some cell ∧ cell.vm.isStatics = true ∧ cell.cls = c ∧ f.slot < cell.slots.size ∧ k.staticTypes[f.slot]? = some f.type ∧ ¬ A a
theorem vx_L.moved {C n d : String} {A : Nat → Prop} {u U : State} {H : Heap} (hvm : u.vm.Alike U.vm) (h : vx_L C n d A u H) : vx_L C n d A U H := by
  obtain ⟨c, k, i, f, a, cell, h1, h2, h3, h4, h5, h6, h7, h8, h9, h10⟩ := h
  obtain ⟨k', hi', he⟩ := State.fieldFound?_setVm hvm h2
  exact ⟨c, k', i, f, a, cell, by rw [hvm.findClass]; exact h1, hi', h3, by rw [he]; exact h4, h5, h6, h7, h8, by rw [he]; exact h9, h10⟩
theorem vx_L.kept {C n d : String} {A : Nat → Prop} {U : State} {H H1 : Heap} (h : vx_L C n d A U H) (hq : ∀ a : Nat, a < H.size → ¬ A a → H1[a]? = H[a]?) : vx_L C n d A U H1 := by
  obtain ⟨c, k, i, f, a, cell, h1, h2, h3, h4, h5, h6, h7, h8, h9, h10⟩ := h
  exact ⟨c, k, i, f, a, cell, h1, h2, h3, h4, by rw [hq a (Array.getElem?_eq_some_iff.mp h5).1 h10]; exact h5, h6, h7, h8, h9, h10⟩
theorem vx_L.narrow {C n d : String} {A B : Nat → Prop} {U : State} {H : Heap} (h : vx_L C n d A U H) (hAB : ∀ q, B q → A q) : vx_L C n d B U H := by
  obtain ⟨c, k, i, f, a, cell, h1, h2, h3, h4, h5, h6, h7, h8, h9, h10⟩ := h
  exact ⟨c, k, i, f, a, cell, h1, h2, h3, h4, h5, h6, h7, h8, h9, fun z => h10 (hAB _ z)⟩
theorem vx_L.word {C n d : String} {A : Nat → Prop} {s : State} {args : Array Value} (h : vx_L C n d A s s.heap) : (Cond.laysStatic C n d).before args s = true := by
  obtain ⟨c, k, i, f, a, cell, h1, h2, h3, h4, h5, h6, h7, h8, h9, -⟩ := h
  show (Cond.laysStatic C n d).holds args s none s [] = true
  exact Cond.laysStatic_of h1 h2 h3 h4 h5 h6 h7 h8 h9
/-- .. and what it holds: null or some reference -/
def vx_Zq (C n d : String) (A : Nat → Prop) (U : State) (H : Heap) : Prop := va_Zq C n d A U H ∧ vx_L C n d A U H
theorem vx_Zq.moved {C n d : String} {A : Nat → Prop} {u U : State} {H : Heap} (hvm : u.vm.Alike U.vm) (h : vx_Zq C n d A u H) : vx_Zq C n d A U H := ⟨va_Zq.moved hvm h.1, vx_L.moved hvm h.2⟩
theorem vx_Zq.kept {C n d : String} {A : Nat → Prop} {U : State} {H H1 : Heap} (h : vx_Zq C n d A U H) (hq : ∀ a : Nat, a < H.size → ¬ A a → H1[a]? = H[a]?) : vx_Zq C n d A U H1 := ⟨va_Zq.kept h.1 hq, vx_L.kept h.2 hq⟩
theorem vx_Zq.narrow {C n d : String} {A B : Nat → Prop} {U : State} {H : Heap} (h : vx_Zq C n d A U H) (hAB : ∀ q, B q → A q) : vx_Zq C n d B U H := ⟨va_Zq.narrow h.1 hAB, vx_L.narrow h.2 hAB⟩
theorem vx_Zqof {args : Array Value} {s : State} {C n d : String} {A : Nat → Prop} (hl : (Cond.laysStatic C n d).before args s = true) (hini : (Cond.initialized C).before args s = true) (h : (Cond.isRef (.static C n d)).before args s = true) (hA : ∀ a : Nat, a < s.heap.size → ¬ A a) : vx_Zq C n d A s s.heap := by
  refine ⟨va_Zqof hl hini h hA, ?_⟩
  obtain ⟨c, k, i, f, a, cell, h1, h2, h3, h4, h5, h6, h7, h8, h9⟩ := Cond.laysStatic_spec hl
  exact ⟨c, k, i, f, a, cell, h1, h2, h3, h4, h5, h6, h7, h8, h9, hA a (Array.getElem?_eq_some_iff.mp h5).1⟩
theorem vx_isRef {C n d : String} {v : Value} {A : Nat → Prop} {s : State} {args : Array Value} (h : va_Z C n d v A s s.heap) (hv : v.isRef = true) : (Cond.isRef (.static C n d)).before args s = true := by
  obtain ⟨cf, kf, fi, f, a, cell, h1, h2, h3, h4, h5, h6, h7, -⟩ := h
  have he : (Term.static C n d).eval args s none [] s = some v := by
    simp [Term.eval, State.fieldNamed?, h1, h2, h4, h5, h6, h7]
  simp only [Cond.before, Cond.holds, Cond.value, he]
  cases v <;> simp_all [Value.isRef]
theorem vx_isRefq {C n d : String} {A : Nat → Prop} {s : State} {args : Array Value} (h : va_Zq C n d A s s.heap) : (Cond.isRef (.static C n d)).before args s = true := by
  rcases h with h | ⟨t, h⟩
  · exact vx_isRef h rfl
  · exact vx_isRef h rfl
/-- the same frame, seen from here: as if the method were called anew in this heap -/
theorem vx_rebase {T : State} (X : Stand p l e R s m args below meth c T locs cells slots) {R' : Room} (hf : R'.frames ≤ R.frames) (hl : R'.locals ≤ R.locals) (hc : cells + R'.cells ≤ R.cells) (hs : slots + R'.slots ≤ R.slots) :
    Stand p l e R' ((T.setVm s.vm).setFrames (.invoking m args :: below)) m args below meth c T [] 0 0 := by
  have htop : (T.setVm s.vm).topJava?.isSome := X.here.top
  have hF : ((T.setVm s.vm).setFrames (.invoking m args :: below)).frames = .invoking m args :: below := State.frames_setFrames _ (State.cur_lt_of_top htop)
  obtain ⟨g₀, hg0⟩ := Option.isSome_iff_exists.mp htop
  obtain ⟨r, hr⟩ := State.topJava?_eq_some.mp hg0
  have hl9 : e.platform.stackLimits (T.setVm s.vm).me = e.platform.stackLimits s.me := X.limits
  have hb9 : (T.setVm s.vm).me.stackBytes = s.me.stackBytes := X.bytes
  refine ⟨X.admits, X.cas, X.clock, hF, ?_, X.hears, X.method, X.code, X.here, X.tail, X.warmed, ?_, ?_, ?_⟩
  · have h := X.room
    have hU : ((T.setVm s.vm).setFrames (.invoking m args :: below)).localsInUse = s.localsInUse := by
      rw [State.localsInUse_invoking hF (meth := meth) (c := c) X.method X.code, State.localsInUse_invoking X.frames X.method X.code]
    simp only [State.hasRoom, Bool.and_eq_true, decide_eq_true_eq] at h ⊢
    obtain ⟨⟨⟨⟨h1, h2, h3, h4, h5, h6⟩, h7⟩, h8⟩, h9⟩ := h
    rw [X.frames, List.length_cons] at h2 h3
    have q1 := X.heapSize
    have q2 := X.used
    simp only [hF, hU, List.length_cons, State.stackLimits_setFrames, State.stackBytes_setFrames, hl9, hb9]
    refine ⟨⟨⟨⟨by omega, by omega, by omega, by omega, by omega, h6⟩, ?_⟩, ?_⟩, X.book⟩
    · show T.heap.size + R'.cells ≤ e.platform.maxCells
      omega
    · show T.slotsUsed + R'.slots ≤ e.platform.maxSlots
      omega
  · rw [State.stackLimits_setFrames]; rfl
  · rw [State.stackBytes_setFrames]; rfl
  · refine ⟨?_, Nat.le_refl _, Nat.le_refl _, ?_, ?_, fun a c9 h9 => ⟨c9, h9, rfl, rfl, fun _ _ => rfl⟩⟩
    · obtain ⟨t, ht, -⟩ := State.frames_cons hr
      show T.setVm s.vm = { ((T.setVm s.vm).setFrames (.invoking m args :: below)).setFrames (T.setVm s.vm).frames with heap := T.heap, slotsUsed := T.slotsUsed }
      rw [State.setFrames_setFrames, State.setFrames_self ht]
      rfl
    · show T.slotsUsed = T.slotsUsed + ((T.heap.toList.drop T.heap.size).map (·.slots.size)).sum
      rw [List.drop_eq_nil_of_le (Nat.le_of_eq Array.length_toList)]
      rfl
    · show ((T.heap.toList.drop T.heap.size).map (·.slots.size)).sum ≤ 0
      rw [List.drop_eq_nil_of_le (Nat.le_of_eq Array.length_toList)]
      exact Nat.le_refl _
/-- 'throw new E()': new; dup; invokespecial; athrow -/
theorem vx_throw0 {cc : ByteArray} {pc : Nat} (hexec : p.tables.exec = Jvm.exec) (hb : c.code = cc) (hl : l.stackTraces = false) {own cls : String} {names : List String} {ik ic mc ms : Nat} {A : Nat → Prop}
    (hown : s.vm.findClass own = some m.cls) (hcls : Bundle.fit cls = true) (hnames : ∀ n ∈ names, Bundle.fit n = true)
    (hk : (Cond.classLink own ik cls).before args s = true) (hini : (Cond.initialized cls).before args s = true) (hat : ∀ w ∈ vx_at0 own ic cls names, w.before args s = true)
    (hgood : ∀ w ∈ Cond.classLink own ik cls :: Cond.initialized cls :: vx_at0 own ic cls names, vx_ot w = true)
    (hU : vx_Zq Bundle.tN "UNASSIGNED_STACK" Bundle.steD A s s.heap) (hN : vx_Zq Bundle.tN "SUPPRESSED_SENTINEL" Bundle.listD A s s.heap) (hS : va_S A s.heap H locs) (hsize : ls.size = c.maxLocals)
    (d0 : decode cc pc = .ok (.new ik, 3)) (d3 : decode cc (pc + 3) = .ok (.dup, 1)) (d4 : decode cc (pc + 4) = .ok (.invokespecial ic, 3)) (d7 : decode cc (pc + 7) = .ok (.athrow, 1))
    (hout : ∀ x ∈ c.exceptionTable.toList, covers x (pc + 7) = false)
    (hRframes : names.length + 3 < R.frames) (hRlocals : (rest.map fun v => v.category).sum + (13 * (names.length + 1) + 42) ≤ R.locals) (hRcells : cells + 1 ≤ R.cells) (hRslots : slots + 6 ≤ R.slots) (hlocks : meth.locks = false)
    (hx : ∀ t : State, s.vm.Alike t.vm → H.size ≤ t.heap.size → (∀ q : Nat, q < H.size → t.heap[q]? = H[q]?) → XC cls s t)
    (hf : ∀ z ∈ locs, free z.base) (hc : cells + 1 ≤ mc) (hs : slots + 6 ≤ ms) :
    W p l e R s m args below meth c H locs cells slots (vx_MQ below Qc XC args s mc ms free) (F0 m pc ls rest) := by
  intro T hT X
  have htr : e.platform.stackTraces = false := (show e.platform.stackTraces = l.stackTraces by rw [X.admits.platform]).trans hl
  have Y := vx_rebase X (R' := { frames := R.frames, locals := R.locals, cells := 1, slots := 6 }) (Nat.le_refl _) (Nat.le_refl _) hRcells hRslots
  obtain ⟨s', hA⟩ : ∃ z, z = (T.setVm s.vm).setFrames (.invoking m args :: below) := ⟨_, rfl⟩
  rw [← hA] at Y
  have hvm : s'.vm = s.vm := by rw [hA]; rfl
  have hhp : s'.heap = H := by rw [hA]; exact hT
  have hW0 : s.WarmedH s'.vm := by rw [hvm]; exact State.WarmedH.refl s
  have hat' : ∀ w ∈ vx_at0 own ic cls names, w.before args s' = true := fun w hw => vx_ot_at hW0 hvm.symm (hgood w (List.mem_cons_of_mem _ (List.mem_cons_of_mem _ hw))) (hat w hw)
  have hk' : (Cond.classLink own ik cls).before args s' = true := vx_ot_at hW0 hvm.symm (hgood _ List.mem_cons_self) hk
  have hini' : (Cond.initialized cls).before args s' = true := vx_ot_at hW0 hvm.symm (hgood _ (List.mem_cons_of_mem _ List.mem_cons_self)) hini
  have hU' : vx_Zq Bundle.tN "UNASSIGNED_STACK" Bundle.steD A s' s'.heap := by rw [hhp]; exact vx_Zq.moved hW0.alike (hU.kept hS.2.1)
  have hN' : vx_Zq Bundle.tN "SUPPRESSED_SENTINEL" Bundle.listD A s' s'.heap := by rw [hhp]; exact vx_Zq.moved hW0.alike (hN.kept hS.2.1)
  have h : ∀ w ∈ Bundle.ownAtoms0 own ic cls names, w.before args s' = true := vx_own hat' (vx_isRefq hU'.1) (vx_isRefq hN'.1) hU'.2.word hN'.2.word
  have hown' : s'.vm.findClass own = some m.cls := by rw [hvm]; exact hown
  have hins : (Cond.instantiable cls 6).before args s' = true := h _ (by simp [Bundle.ownAtoms0])
  obtain ⟨vm₁, cX, kX, hfX, hkX, -, -, X₁, st1⟩ := Y.newCold hexec (own := own) (C := cls) (index := ik) (n := 6) hown' hk' hins hini'
    (g := F0 m pc ls rest) rfl (by rw [hb]; exact d0) (Nat.le_refl _) (Nat.le_refl _)
  generalize hT1 : (T.setVm vm₁).pushCell { cls := cX, slots := kX.instanceTypes.map defaultValue, vm := .none } = T1 at X₁ st1
  have hcat : (Value.ref T.heap.size).category = 1 := rfl
  have hcellA : T1.heap[T.heap.size]? = some (freshCell cX kX) := by rw [← hT1]; exact State.heap_pushCell_size _ _
  have d3' : decode c.code (pc + 3) = .ok (.dup, 1) := by rw [hb]; exact d3
  obtain ⟨U, hsteps, hrun, hend, hW, hsame, ce, hce, hO⟩ := X₁.ctorThrow0 hexec htr (own := own) (cls := cls) (names := names) (ic := ic) hown' hcls hnames h (fun x hx => nomatch hx) hfX hkX hcellA (by rw [hhp, hT]; exact Nat.le_refl _)
    (g := { method := m, pc := pc + 4, locals := ls, stack := .ref T.heap.size :: .ref T.heap.size :: rest, locked := none }) rfl hsize rfl rfl (rest := rest) rfl
    (by rw [hb]; exact d4) (by rw [hb]; exact d7) hout hRframes (by simp only [List.map_cons, List.sum_cons, hcat]; omega) hlocks
  obtain ⟨f1, f2⟩ := vx_frame hsame
  rw [hhp] at f1 f2
  have hWs : s.WarmedH U.vm := State.WarmedH.trans hW0 hW
  have hcl : s.vm.findClass cls = some ce.cls := by
    have h9 := hO.cls
    rw [hvm] at h9
    exact h9
  have hall : s.sameButNew ({ U with vm := s.vm } : State) locs mc ms := by
    subst hA
    obtain ⟨e1, e2⟩ := hsame
    rw [State.setFrames_setFrames] at e1
    have h2 : (T.setVm s.vm).sameButNew ({ U with vm := s.vm } : State) [] (0 + 1) (0 + 6) := ⟨e1, e2⟩
    have h3 := X.same.trans h2
    rw [List.append_nil] at h3
    exact h3.mono hc hs
  refine ⟨U, ?_, .threw T.heap.size, hrun, hend, Or.inr ⟨T.heap.size, rfl, cls, ce, locs, hx U hWs.alike f1 (fun q hq => f2 q hq (fun z hz => nomatch hz)), hce, hO.vm, hcl, hWs, hall, hf⟩⟩
  refine st1 _ ?_
  show Steps p.tables e below (T1.setTop { method := m, pc := pc + 3, locals := ls, stack := .ref T.heap.size :: rest, locked := none }) _
  jvm_step X₁.here [X₁.here.top, hexec, d3', Value.category]
  exact hsteps
/-- 'throw new E("text")': new; dup; ldc; invokespecial; athrow -/
theorem vx_throwS {cc : ByteArray} {pc : Nat} (hexec : p.tables.exec = Jvm.exec) (hb : c.code = cc) (hl : l.stackTraces = false) {own cls text : String} {names : List String} {ik is ic mc ms sa : Nat} {A : Nat → Prop}
    (hown : s.vm.findClass own = some m.cls) (hcls : Bundle.fit cls = true) (hnames : ∀ n ∈ names, Bundle.fit n = true)
    (hk : (Cond.classLink own ik cls).before args s = true) (hini : (Cond.initialized cls).before args s = true) (hstr : vk_R own is text sa s) (hat : ∀ w ∈ vx_atS own ic cls names, w.before args s = true)
    (hgood : ∀ w ∈ Cond.classLink own ik cls :: Cond.initialized cls :: vx_atS own ic cls names, vx_ot w = true)
    (hU : vx_Zq Bundle.tN "UNASSIGNED_STACK" Bundle.steD A s s.heap) (hN : vx_Zq Bundle.tN "SUPPRESSED_SENTINEL" Bundle.listD A s s.heap) (hS : va_S A s.heap H locs) (hsize : ls.size = c.maxLocals)
    (d0 : decode cc pc = .ok (.new ik, 3)) (d3 : decode cc (pc + 3) = .ok (.dup, 1)) (d4 : decode cc (pc + 4) = .ok (.ldc is, 2)) (d6 : decode cc (pc + 6) = .ok (.invokespecial ic, 3)) (d9 : decode cc (pc + 9) = .ok (.athrow, 1))
    (hout : ∀ x ∈ c.exceptionTable.toList, covers x (pc + 9) = false)
    (hRframes : names.length + 3 < R.frames) (hRlocals : (rest.map fun v => v.category).sum + (13 * (names.length + 1) + 43) ≤ R.locals) (hRcells : cells + 1 ≤ R.cells) (hRslots : slots + 6 ≤ R.slots) (hlocks : meth.locks = false)
    (hx : ∀ t : State, s.vm.Alike t.vm → H.size ≤ t.heap.size → (∀ q : Nat, q < H.size → t.heap[q]? = H[q]?) → XC cls s t)
    (hf : ∀ z ∈ locs, free z.base) (hc : cells + 1 ≤ mc) (hs : slots + 6 ≤ ms) :
    W p l e R s m args below meth c H locs cells slots (vx_MQ below Qc XC args s mc ms free) (F0 m pc ls rest) := by
  intro T hT X
  have htr : e.platform.stackTraces = false := (show e.platform.stackTraces = l.stackTraces by rw [X.admits.platform]).trans hl
  have Y := vx_rebase X (R' := { frames := R.frames, locals := R.locals, cells := 1, slots := 6 }) (Nat.le_refl _) (Nat.le_refl _) hRcells hRslots
  obtain ⟨s', hA⟩ : ∃ z, z = (T.setVm s.vm).setFrames (.invoking m args :: below) := ⟨_, rfl⟩
  rw [← hA] at Y
  have hvm : s'.vm = s.vm := by rw [hA]; rfl
  have hhp : s'.heap = H := by rw [hA]; exact hT
  have hW0 : s.WarmedH s'.vm := by rw [hvm]; exact State.WarmedH.refl s
  have hat' : ∀ w ∈ vx_atS own ic cls names, w.before args s' = true := fun w hw => vx_ot_at hW0 hvm.symm (hgood w (List.mem_cons_of_mem _ (List.mem_cons_of_mem _ hw))) (hat w hw)
  have hk' : (Cond.classLink own ik cls).before args s' = true := vx_ot_at hW0 hvm.symm (hgood _ List.mem_cons_self) hk
  have hini' : (Cond.initialized cls).before args s' = true := vx_ot_at hW0 hvm.symm (hgood _ (List.mem_cons_of_mem _ List.mem_cons_self)) hini
  have hU' : vx_Zq Bundle.tN "UNASSIGNED_STACK" Bundle.steD A s' s'.heap := by rw [hhp]; exact vx_Zq.moved hW0.alike (hU.kept hS.2.1)
  have hN' : vx_Zq Bundle.tN "SUPPRESSED_SENTINEL" Bundle.listD A s' s'.heap := by rw [hhp]; exact vx_Zq.moved hW0.alike (hN.kept hS.2.1)
  have h : ∀ w ∈ Bundle.ownAtoms own ic cls names, w.before args s' = true := vx_own hat' (vx_isRefq hU'.1) (vx_isRefq hN'.1) hU'.2.word hN'.2.word
  have hown' : s'.vm.findClass own = some m.cls := by rw [hvm]; exact hown
  have hins : (Cond.instantiable cls 6).before args s' = true := h _ (by simp [Bundle.ownAtoms])
  obtain ⟨vm₁, cX, kX, hfX, hkX, -, -, X₁, st1⟩ := Y.newCold hexec (own := own) (C := cls) (index := ik) (n := 6) hown' hk' hins hini'
    (g := F0 m pc ls rest) rfl (by rw [hb]; exact d0) (Nat.le_refl _) (Nat.le_refl _)
  generalize hT1 : (T.setVm vm₁).pushCell { cls := cX, slots := kX.instanceTypes.map defaultValue, vm := .none } = T1 at X₁ st1
  have hcat : (Value.ref T.heap.size).category = 1 := rfl
  have hcellA : T1.heap[T.heap.size]? = some (freshCell cX kX) := by rw [← hT1]; exact State.heap_pushCell_size _ _
  have d3' : decode c.code (pc + 3) = .ok (.dup, 1) := by rw [hb]; exact d3
  have d4' : decode c.code (pc + 4) = .ok (.ldc is, 2) := by rw [hb]; exact d4
  have hstr' : vk_R own is text sa s' := vk_R.warm hW0 hstr
  obtain ⟨U, hsteps, hrun, hend, hW, hsame, ce, hce, hO⟩ := X₁.ctorThrowS hexec htr (own := own) (cls := cls) (names := names) (ic := ic) hown' hcls hnames h (fun x hx => nomatch hx) hfX hkX hcellA (by rw [hhp, hT]; exact Nat.le_refl _) (msg := .ref sa) rfl
    (g := { method := m, pc := pc + 6, locals := ls, stack := .ref sa :: .ref T.heap.size :: .ref T.heap.size :: rest, locked := none }) rfl hsize rfl rfl (rest := rest) rfl
    (by rw [hb]; exact d6) (by rw [hb]; exact d9) hout hRframes (by simp only [List.map_cons, List.sum_cons, hcat]; omega) hlocks
  obtain ⟨f1, f2⟩ := vx_frame hsame
  rw [hhp] at f1 f2
  have hWs : s.WarmedH U.vm := State.WarmedH.trans hW0 hW
  have hcl : s.vm.findClass cls = some ce.cls := by
    have h9 := hO.cls
    rw [hvm] at h9
    exact h9
  have hall : s.sameButNew ({ U with vm := s.vm } : State) locs mc ms := by
    subst hA
    obtain ⟨e1, e2⟩ := hsame
    rw [State.setFrames_setFrames] at e1
    have h2 : (T.setVm s.vm).sameButNew ({ U with vm := s.vm } : State) [] (0 + 1) (0 + 6) := ⟨e1, e2⟩
    have h3 := X.same.trans h2
    rw [List.append_nil] at h3
    exact h3.mono hc hs
  refine ⟨U, ?_, .threw T.heap.size, hrun, hend, Or.inr ⟨T.heap.size, rfl, cls, ce, locs, hx U hWs.alike f1 (fun q hq => f2 q hq (fun z hz => nomatch hz)), hce, hO.vm, hcl, hWs, hall, hf⟩⟩
  refine st1 _ ?_
  show Steps p.tables e below (T1.setTop { method := m, pc := pc + 3, locals := ls, stack := .ref T.heap.size :: rest, locked := none }) _
  jvm_step X₁.here [X₁.here.top, hexec, d3', Value.category]
  exact X₁.ldcString hexec (own := own) (text := text) (index := is) (a := sa) hown' hstr'.1 hstr'.2
    (g := { method := m, pc := pc + 4, locals := ls, stack := .ref T.heap.size :: .ref T.heap.size :: rest, locked := none }) rfl d4' _ hsteps
/-- 'throw new E("text")', the text by a wide index -/
theorem vx_throwSW {cc : ByteArray} {pc : Nat} (hexec : p.tables.exec = Jvm.exec) (hb : c.code = cc) (hl : l.stackTraces = false) {own cls text : String} {names : List String} {ik is ic mc ms sa : Nat} {A : Nat → Prop}
    (hown : s.vm.findClass own = some m.cls) (hcls : Bundle.fit cls = true) (hnames : ∀ n ∈ names, Bundle.fit n = true)
    (hk : (Cond.classLink own ik cls).before args s = true) (hini : (Cond.initialized cls).before args s = true) (hstr : vk_R own is text sa s) (hat : ∀ w ∈ vx_atS own ic cls names, w.before args s = true)
    (hgood : ∀ w ∈ Cond.classLink own ik cls :: Cond.initialized cls :: vx_atS own ic cls names, vx_ot w = true)
    (hU : vx_Zq Bundle.tN "UNASSIGNED_STACK" Bundle.steD A s s.heap) (hN : vx_Zq Bundle.tN "SUPPRESSED_SENTINEL" Bundle.listD A s s.heap) (hS : va_S A s.heap H locs) (hsize : ls.size = c.maxLocals)
    (d0 : decode cc pc = .ok (.new ik, 3)) (d3 : decode cc (pc + 3) = .ok (.dup, 1)) (d4 : decode cc (pc + 4) = .ok (.ldc_w is, 3)) (d7 : decode cc (pc + 7) = .ok (.invokespecial ic, 3)) (d10 : decode cc (pc + 10) = .ok (.athrow, 1))
    (hout : ∀ x ∈ c.exceptionTable.toList, covers x (pc + 10) = false)
    (hRframes : names.length + 3 < R.frames) (hRlocals : (rest.map fun v => v.category).sum + (13 * (names.length + 1) + 43) ≤ R.locals) (hRcells : cells + 1 ≤ R.cells) (hRslots : slots + 6 ≤ R.slots) (hlocks : meth.locks = false)
    (hx : ∀ t : State, s.vm.Alike t.vm → H.size ≤ t.heap.size → (∀ q : Nat, q < H.size → t.heap[q]? = H[q]?) → XC cls s t)
    (hf : ∀ z ∈ locs, free z.base) (hc : cells + 1 ≤ mc) (hs : slots + 6 ≤ ms) :
    W p l e R s m args below meth c H locs cells slots (vx_MQ below Qc XC args s mc ms free) (F0 m pc ls rest) := by
  intro T hT X
  have htr : e.platform.stackTraces = false := (show e.platform.stackTraces = l.stackTraces by rw [X.admits.platform]).trans hl
  have Y := vx_rebase X (R' := { frames := R.frames, locals := R.locals, cells := 1, slots := 6 }) (Nat.le_refl _) (Nat.le_refl _) hRcells hRslots
  obtain ⟨s', hA⟩ : ∃ z, z = (T.setVm s.vm).setFrames (.invoking m args :: below) := ⟨_, rfl⟩
  rw [← hA] at Y
  have hvm : s'.vm = s.vm := by rw [hA]; rfl
  have hhp : s'.heap = H := by rw [hA]; exact hT
  have hW0 : s.WarmedH s'.vm := by rw [hvm]; exact State.WarmedH.refl s
  have hat' : ∀ w ∈ vx_atS own ic cls names, w.before args s' = true := fun w hw => vx_ot_at hW0 hvm.symm (hgood w (List.mem_cons_of_mem _ (List.mem_cons_of_mem _ hw))) (hat w hw)
  have hk' : (Cond.classLink own ik cls).before args s' = true := vx_ot_at hW0 hvm.symm (hgood _ List.mem_cons_self) hk
  have hini' : (Cond.initialized cls).before args s' = true := vx_ot_at hW0 hvm.symm (hgood _ (List.mem_cons_of_mem _ List.mem_cons_self)) hini
  have hU' : vx_Zq Bundle.tN "UNASSIGNED_STACK" Bundle.steD A s' s'.heap := by rw [hhp]; exact vx_Zq.moved hW0.alike (hU.kept hS.2.1)
  have hN' : vx_Zq Bundle.tN "SUPPRESSED_SENTINEL" Bundle.listD A s' s'.heap := by rw [hhp]; exact vx_Zq.moved hW0.alike (hN.kept hS.2.1)
  have h : ∀ w ∈ Bundle.ownAtoms own ic cls names, w.before args s' = true := vx_own hat' (vx_isRefq hU'.1) (vx_isRefq hN'.1) hU'.2.word hN'.2.word
  have hown' : s'.vm.findClass own = some m.cls := by rw [hvm]; exact hown
  have hins : (Cond.instantiable cls 6).before args s' = true := h _ (by simp [Bundle.ownAtoms])
  obtain ⟨vm₁, cX, kX, hfX, hkX, -, -, X₁, st1⟩ := Y.newCold hexec (own := own) (C := cls) (index := ik) (n := 6) hown' hk' hins hini'
    (g := F0 m pc ls rest) rfl (by rw [hb]; exact d0) (Nat.le_refl _) (Nat.le_refl _)
  generalize hT1 : (T.setVm vm₁).pushCell { cls := cX, slots := kX.instanceTypes.map defaultValue, vm := .none } = T1 at X₁ st1
  have hcat : (Value.ref T.heap.size).category = 1 := rfl
  have hcellA : T1.heap[T.heap.size]? = some (freshCell cX kX) := by rw [← hT1]; exact State.heap_pushCell_size _ _
  have d3' : decode c.code (pc + 3) = .ok (.dup, 1) := by rw [hb]; exact d3
  have d4' : decode c.code (pc + 4) = .ok (.ldc_w is, 3) := by rw [hb]; exact d4
  have hstr' : vk_R own is text sa s' := vk_R.warm hW0 hstr
  obtain ⟨U, hsteps, hrun, hend, hW, hsame, ce, hce, hO⟩ := X₁.ctorThrowS hexec htr (own := own) (cls := cls) (names := names) (ic := ic) hown' hcls hnames h (fun x hx => nomatch hx) hfX hkX hcellA (by rw [hhp, hT]; exact Nat.le_refl _) (msg := .ref sa) rfl
    (g := { method := m, pc := pc + 7, locals := ls, stack := .ref sa :: .ref T.heap.size :: .ref T.heap.size :: rest, locked := none }) rfl hsize rfl rfl (rest := rest) rfl
    (by rw [hb]; exact d7) (by rw [hb]; exact d10) hout hRframes (by simp only [List.map_cons, List.sum_cons, hcat]; omega) hlocks
  obtain ⟨f1, f2⟩ := vx_frame hsame
  rw [hhp] at f1 f2
  have hWs : s.WarmedH U.vm := State.WarmedH.trans hW0 hW
  have hcl : s.vm.findClass cls = some ce.cls := by
    have h9 := hO.cls
    rw [hvm] at h9
    exact h9
  have hall : s.sameButNew ({ U with vm := s.vm } : State) locs mc ms := by
    subst hA
    obtain ⟨e1, e2⟩ := hsame
    rw [State.setFrames_setFrames] at e1
    have h2 : (T.setVm s.vm).sameButNew ({ U with vm := s.vm } : State) [] (0 + 1) (0 + 6) := ⟨e1, e2⟩
    have h3 := X.same.trans h2
    rw [List.append_nil] at h3
    exact h3.mono hc hs
  refine ⟨U, ?_, .threw T.heap.size, hrun, hend, Or.inr ⟨T.heap.size, rfl, cls, ce, locs, hx U hWs.alike f1 (fun q hq => f2 q hq (fun z hz => nomatch hz)), hce, hO.vm, hcl, hWs, hall, hf⟩⟩
  refine st1 _ ?_
  show Steps p.tables e below (T1.setTop { method := m, pc := pc + 3, locals := ls, stack := .ref T.heap.size :: rest, locked := none }) _
  jvm_step X₁.here [X₁.here.top, hexec, d3', Value.category]
  exact X₁.ldcStringW hexec (own := own) (text := text) (index := is) (a := sa) hown' hstr'.1 hstr'.2
    (g := { method := m, pc := pc + 4, locals := ls, stack := .ref T.heap.size :: .ref T.heap.size :: rest, locked := none }) rfl d4' _ hsteps
end Ends
section Bodies
variable {l : Launch}
theorem vx_ofW {y : MethodName} {ws ws' : List Cond} {rm : Room} {Pc : Array Value → State → Prop} {Qc : Array Value → State → Outcome → State → Prop} {XC : String → State → State → Prop} {mc ms : Nat} {free : Addr → Prop} {cc : ByteArray} {maxL : Nat} {ret : Option FieldType}
    (hy : plainName y.cls = true) (hw : ws = Cond.code y cc maxL ret :: ws')
    (body : ∀ p e s m args below meth c s₁, BodyLoose p l y (headSpec ws rm) cc maxL ret e s m args below meth c s₁ → c.maxLocals = maxL → (∀ x ∈ c.exceptionTable.toList, False) → Pc args s →
      W p l e (headSpec ws rm).room s m args below meth c s.heap [] 0 0 (vx_MQ below Qc XC args s mc ms free) (entryFrame m args maxL)) : vx_Met l y ws rm Pc Qc XC mc ms free := by
  refine MetFree.of_bodyS (code := cc) (maxLocals := maxL) (ret := ret) hy ?_ ?_
  · intro args s m h hn
    obtain ⟨meth, c, h1, h2, h3, h4, h5, h6, -, -⟩ := Cond.code_spec hn (atoms_spec (ws := ws) h _ (by rw [hw]; exact List.mem_cons_self))
    exact ⟨meth, c, h1, h2, h3, h4, h5, h6⟩
  · intro p e s m args below meth c s₁ B hml hP _
    have hh0 : s₁.heap = s.heap := by rw [B.state]; rfl
    have ht : ∀ x ∈ c.exceptionTable.toList, False := by
      obtain ⟨meth9, c9, h1, h2, -, -, -, -, h7, -⟩ := Cond.code_spec B.named (atoms_spec (ws := ws) B.pre _ (by rw [hw]; exact List.mem_cons_self))
      cases Option.some.inj (h1.symm.trans B.method)
      cases Option.some.inj (h2.symm.trans (Stand.of_body B).code)
      intro x hx
      rw [Array.isEmpty_iff.mp h7] at hx
      cases hx
    obtain ⟨t, a1, o, b1, b2, b3⟩ := body p e s m args below meth c s₁ B hml ht hP s₁ hh0 (Stand.of_body B)
    exact ⟨t, o, a1, b1, b2, b3⟩
/-- the table of a body with handlers -/
theorem vx_table {p : Program} {x y : MethodName} {S : Spec} {cc bytes : ByteArray} {maxL maxL' : Nat} {ret ret' : Option FieldType} {e : Env} {s s₁ : State} {m : MethodId} {args : Array Value} {below : List Frame} {meth : Method} {c : Code} {hh : List (Nat × Nat × Nat × Nat)}
    (B : BodyLoose p l y S cc maxL ret e s m args below meth c s₁) (h : (Cond.codeWith y bytes maxL' ret' hh).before args s = true) : c.exceptionTable.toList = tableOf hh := by
  obtain ⟨m9, meth9, c9, hn9, h1, h2, -, -, h6, -⟩ := Cond.codeWith_spec h
  cases Option.some.inj (hn9.symm.trans B.named)
  cases Option.some.inj (h1.symm.trans B.method)
  cases Option.some.inj (h2.symm.trans (Stand.of_body B).code)
  rw [← h6, table_eq]
end Bodies
end VXA
/-! ===== END ===== -/
/-! ===== BEGIN a static call of a method with an exception table ===== -/
section VXS
variable {p : Program} {l : Launch} {e : Env} {R : Room} {s : State} {m : MethodId} {args : Array Value} {below : List Frame} {meth : Method} {c : Code} {T : State} {H : Heap} {locs : List Loc} {cells slots : Nat}
abbrev vx_CSW (R : Room) (s : State) (args : Array Value) (own : String) (index : Nat) (y : MethodName) (bytes : ByteArray) (maxL : Nat) (ret : Option FieldType) (hh : List (Nat × Nat × Nat × Nat)) (ws : List Cond) (rm : Room) (mc ms n : Nat) : Prop :=
  (rm.cells = mc ∧ rm.slots = ms ∧ rm.frames + 1 ≤ R.frames ∧ 8 + (maxL + 11) + rm.locals ≤ R.locals ∧ (∀ w ∈ ws, ∀ (a' : Array Value) (U : State), s.WarmedH U.vm → w.before a' U = true) ∧ Cond.codeWith y bytes maxL ret hh ∈ ws) ∧
  (Cond.codeWith y bytes maxL ret hh).before args s = true ∧ (Cond.initialized y.cls).before args s = true ∧ (y.cls ≠ "java/lang/invoke/MethodHandle" ∧ y.cls ≠ "java/lang/invoke/VarHandle") ∧
  (∀ sig, parseMethodDescriptor y.desc = some sig → n = sig.parameters.length) ∧ (Cond.methodLink own index y).before args s = true ∧ (Cond.static y).before args s = true
theorem vx_cwSW {own : String} {index maxL mc ms : Nat} {y : MethodName} {bytes : ByteArray} {ret : Option FieldType} {hh : List (Nat × Nat × Nat × Nat)} {Ts ws ws' : List Cond} {rm : Room} (n : Nat) (ht : ∀ w ∈ Ts, w.before args s = true) (hT : GoodIn Ts (va_wsS own index y ws)) (hw : ws = Cond.codeWith y bytes maxL ret hh :: ws') (hrc : rm.cells = mc) (hrs : rm.slots = ms)
    (hd : y.cls ≠ "java/lang/invoke/MethodHandle" ∧ y.cls ≠ "java/lang/invoke/VarHandle" ∧ (parseMethodDescriptor y.desc).map (fun d => d.parameters.length) = some n) (hR : rm.frames + 1 ≤ R.frames ∧ 8 + (maxL + 11) + rm.locals ≤ R.locals) :
    vx_CSW R s args own index y bytes maxL ret hh ws rm mc ms n := by
  have ok : ∀ w ∈ va_wsS own index y ws, w.before args s = true := fun w h => ht w (hT w h).1
  have hG : GoodIn Ts ws := fun w h => hT w (by unfold va_wsS; exact List.mem_append_right _ h)
  have hc : Cond.codeWith y bytes maxL ret hh ∈ ws := by rw [hw]; exact List.mem_cons_self
  refine ⟨⟨hrc, hrs, hR.1, hR.2, pay_in ht hG, hc⟩, ht _ (hG _ hc).1, ok _ (by simp [va_wsS]), ⟨hd.1, hd.2.1⟩, fun sig h => ?_, ok _ (by simp [va_wsS]), ok _ (by simp [va_wsS])⟩
  have h2 := hd.2.2
  rw [h] at h2
  exact (Option.some.inj h2).symm
theorem vx_callSW (X : Stand p l e R s m args below meth c T locs cells slots) (hexec : p.tables.exec = Jvm.exec) {own : String} {index : Nat} {y : MethodName} {bytes : ByteArray} {maxL : Nat} {ret : Option FieldType} {hh : List (Nat × Nat × Nat × Nat)}
    (hown : s.vm.findClass own = some m.cls) (hlink : (Cond.methodLink own index y).before args s = true) (hstat : (Cond.static y).before args s = true) (hinit : (Cond.initialized y.cls).before args s = true)
    (hcode : (Cond.codeWith y bytes maxL ret hh).before args s = true) (hy : y.cls ≠ "java/lang/invoke/MethodHandle" ∧ y.cls ≠ "java/lang/invoke/VarHandle")
    {W9 : Nat} {Pre : Pt → Array Value → Prop} {Post : Pt → Array Value → Option Value → Pt → Prop} (hK : Back l R p e below s args y 3 W9 Pre Post)
    {g : JFrame} (hg : g.method = m) (hsize : g.locals.size = c.maxLocals) {argsL rest : List Value} (hlen : ∀ sig, parseMethodDescriptor y.desc = some sig → argsL.length = sig.parameters.length)
    (hstack : g.stack = argsL.reverse ++ rest) (hW : 2 * g.monitorRoom + (rest.map fun v => v.category).sum ≤ W9) (hdg : decode c.code g.pc = .ok (.invokestatic index, 3))
    (hpre : ∀ vm₁, s.WarmedH vm₁ → Pre ⟨T.setVm vm₁, locs, cells, slots⟩ argsL.toArray) :
    ∃ (v : Option Value) (vm₁ : Vm) (B : Pt), s.WarmedH vm₁ ∧ Stand p l e R s m args below meth c B.U B.locs B.cells B.slots ∧ Post ⟨T.setVm vm₁, locs, cells, slots⟩ argsL.toArray v B ∧
      ∀ target, Steps p.tables e below (B.U.setTop { g with pc := g.pc + 3, stack := v.toList ++ rest }) target → Steps p.tables e below (T.setTop g) target := by
  obtain ⟨mk, methM, cM, hnamed, hmethM, -, -, -, -, -, -, hsigM⟩ := Cond.codeWith_spec hcode
  have hstatic : methM.isStatic = true := Cond.static_spec hnamed hmethM hstat
  obtain ⟨kP, hkP, -⟩ := className_of_methodNamed hnamed
  have hinitP : kP.init = .initialized := Cond.initialized_spec (findClass_of_methodNamed hnamed) hkP hinit
  obtain ⟨vm₁, X₁, hstep₁⟩ := X.invokestatic hexec hown hlink hnamed hmethM hstatic hkP hinitP hy (g := g) hg (argsL := argsL) (rest := rest) (hlen _ hsigM) hstack hdg
  obtain ⟨v, B, X', hpost, hsteps⟩ := hK m meth c ⟨T.setVm vm₁, locs, cells, slots⟩ { g with stack := rest } (.invokestatic index) mk argsL.toArray X₁ hg hsize hdg hW (X₁.named hnamed) (hpre vm₁ X₁.warmed)
  exact ⟨v, vm₁, B, X₁.warmed, X', hpost, fun target h => hstep₁ _ fun acts => by rw [doInvoke_state]; exact hsteps.trans h⟩
theorem vx_runSW {y : MethodName} {bytes cc : ByteArray} {maxL nL mc ms n index : Nat} {ret : Option FieldType} {hh : List (Nat × Nat × Nat × Nat)} {ws : List Cond} {rm : Room} {Pc : Array Value → State → Prop} {Qc : Array Value → State → Outcome → State → Prop} {free : Addr → Prop} {Ts : List Cond} {own : String} {As rest : List Value} {g : JFrame}
    (S : CallFix p m c cc nL s args Ts own) (hM : Met l y ws rm Pc Qc mc ms free) (cw : vx_CSW R s args own index y bytes maxL ret hh ws rm mc ms n) (hp : PreS s H Pc As)
    (hg : g.method = m) (hn : As.length = n) (hsize : g.locals.size = nL) (hstack : g.stack = As.reverse ++ rest) (hW : 2 * g.monitorRoom + (rest.map fun v => v.category).sum ≤ 8) (hdg : decode cc g.pc = .ok (.invokestatic index, 3)) (hf : cells + mc ≤ R.cells ∧ slots + ms ≤ R.slots) :
    va_Run p l e R s m args below meth c H locs cells slots mc ms g rest (Qc As.toArray) (free) := by
  obtain ⟨⟨hrc, hrs, hfr, hlo, hws, hcw⟩, hcode, hini, hy, hlen, hl, hstt⟩ := cw
  have hK : Back l R p e below s args y 3 8 (PreOf R mc ms Pc) (PostOf Qc mc ms free) := va_backW (hh := hh) (bytes := bytes) (maxL := maxL) (ret := ret) hM hp.1 hrc hrs hfr hlo hws hcw (fun a' U hW => word_at hW (Or.inl (by first | rfl | simp [Cond.onTables, Cond.keeps, Cond.steady])) hini)
  obtain ⟨hx, hb, hml, ho, -⟩ := S
  intro T hT X
  obtain ⟨v, vm₁, ⟨U', l2, c2, s2⟩, hW₁, X', ⟨g', mk, t, L, e1, e2, hq, h1, hL, h2, h3⟩, st⟩ := vx_callSW X hx (hh := hh) (bytes := bytes) (maxL := maxL) (ret := ret) ho hl hstt hini hcode hy hK hg (hsize.trans hml.symm) (argsL := As) (rest := rest) (fun sig h => hn.trans (hlen sig h)) hstack hW (by rw [hb]; exact hdg)
    (fun vm₁ hW₁ => ⟨hf.1, hf.2, hp.2 (T.setVm vm₁) hT hW₁⟩)
  dsimp only [Pt.U, Pt.locs, Pt.cells, Pt.slots] at X' e1 e2 h1 h2 h3 st
  subst h1; subst h2; subst h3
  exact ⟨v, (T.setVm vm₁).calling g' mk As.toArray, t, U', L, hT, X', hL, e1, e2, hq, st⟩
/-- not caught here, past rows that name other classes: it goes on to the caller -/
theorem vx_outP {p : Program} {l : Launch} {e : Env} {R : Room} {s : State} {m : MethodId} {args : Array Value} {below : List Frame} {meth : Method} {c : Code} {H : Heap} {locs : List Loc} {cells slots : Nat} {free : Addr → Prop} {ls : Array Slot} {rest : List Value} {Qc : Array Value → State → Outcome → State → Prop} {XC : String → State → State → Prop}
    {pc : Nat} {own E : String} {ce : Cell} {q : Addr} {mc ms : Nat} (hown : s.vm.findClass own = some m.cls) (hlocks : meth.locks = false)
    (hpass : ∀ z ∈ c.exceptionTable.toList, covers z pc = false ∨ (z.catchType ≠ 0 ∧ ∃ nm : String, (Cond.classLink own z.catchType nm).before args s = true ∧ va_Nc E nm s)) (hcell : H[q]? = some ce) (hv : ce.vm = .none) (hcl : s.vm.findClass E = some ce.cls)
    (hx : ∀ t : State, t.heap = H → s.vm.Alike t.vm → XC E s t) (hf : ∀ z ∈ locs, free z.base) (hc : cells ≤ mc) (hs : slots ≤ ms) :
    vx_W p l e R s m args below meth c H locs cells slots (vx_MQ below Qc XC args s mc ms free) (F0 m pc ls rest) q := by
  intro T hT X
  have hpl : e.platform.magicAccessors = ({} : Platform).magicAccessors := by rw [X.admits.platform]
  obtain ⟨vm', hW', X', st⟩ := X.outThrough hlocks q (g := F0 m pc ls rest) rfl rfl rfl (cell := ce) (by rw [hT]; exact hcell) (by rw [hv]; rfl)
    (by obtain ⟨k9, h9, -⟩ := Vm.findClass_spec hcl; exact ⟨k9, h9⟩) (fun z hz => by
      rcases hpass z hz with h | ⟨hz0, nm, hl1, hn1⟩
      · exact Or.inl h
      · obtain ⟨c6, hc6, hcl6⟩ := Cond.classLink_spec hown hl1 e.platform hpl
        obtain ⟨a8, b8, h1, h2, h3⟩ := hn1
        cases Option.some.inj (h1.symm.trans hcl)
        cases Option.some.inj (h2.symm.trans hc6)
        exact Or.inr ⟨hz0, _, hcl6, h3⟩)
  obtain ⟨g₀, hfr⟩ := X'.frames_eq
  have hcell9 : ((T.setVm vm').setFrames (.throwing q :: below)).heap[q]? = some ce := by
    show T.heap[q]? = some ce
    rw [hT]; exact hcell
  have hend : Ended ((T.setVm vm').setFrames (.throwing q :: below)) below (.threw q) := State.frames_setFrames _ (State.cur_lt_of_frames hfr)
  refine ⟨(T.setVm vm').setFrames (.throwing q :: below), ?_, .threw q, X'.here.running, hend, Or.inr ⟨q, rfl, E, ce, locs, hx _ hT (X'.ends _).1.alike, hcell9, hv, hcl, (X'.ends _).1, (X'.ends _).2.mono hc hs, hf⟩⟩
  rw [X.pushThrowing_eq]
  exact st
/-- a thing of a world lies in the heap -/
theorem vx_lt {D : va_G} {cl : List vw_C} {ws : va_W} {H1 : Heap} (h : va_P D cl ws H1) {k : Nat} {q : Nat × va_E} (hk : ws[k]? = some q) : q.1 < H1.size := (h k q hk).lt
end VXS
/-! ===== END ===== -/
/-! ===== BEGIN methods with a table of their own: called by a name, returning or throwing ===== -/
section VXH
/-! vx_backW, vx_callVX, vx_callSX, vx_callVW, vx_runVW, vx_runVX, vx_runSX, vx_ofWH follow the same proofs as their sisters above (Free/Laws.lean, Shelf42/LK1.lean); vx_outP calls Shelf42/NT130.lean (outThrough). -/
section
variable {l : Launch} {R : Room} {p : Program} {e : Env} {below : List Frame} {s : State} {sargs : Array Value} {y : MethodName} {len W9 : Nat}
theorem vx_backW {ws : List Cond} {rm : Room} {Pc : Array Value → State → Prop} {Qc : Array Value → State → Outcome → State → Prop} {XC : String → State → State → Prop} {mc ms : Nat} {free : Addr → Prop} {bytes : ByteArray} {maxL : Nat} {ret : Option FieldType} {hh : List (Nat × Nat × Nat × Nat)}
    (hM : vx_Met l y ws rm Pc Qc XC mc ms free) (hblind : FrameBlind Pc) (hrc : rm.cells = mc) (hrs : rm.slots = ms)
    (hframes : rm.frames + 1 ≤ R.frames) (hlocals : W9 + (maxL + 11) + rm.locals ≤ R.locals)
    (hws : ∀ w ∈ ws, ∀ a' U, s.WarmedH U.vm → w.before a' U = true) (hcode : Cond.codeWith y bytes maxL ret hh ∈ ws) (hinit : ∀ a' U, s.WarmedH U.vm → (Cond.initialized y.cls).before a' U = true) :
    vx_Back l R p e below s sargs y len W9 (PreOf R mc ms Pc) (PostOf Qc mc ms free) (vx_Post XC mc ms free) := by
  intro m meth c A g ig mk a X hg hsize hdg hW hn hp
  have h1 : (headSpec ws rm).pre.before a A.U = true := atoms_intro fun w hw => hws w hw _ _ X.warmed
  have h2 : (Cond.codeWith y bytes maxL ret hh).before a A.U = true := hws _ hcode _ _ X.warmed
  have h3 : (Cond.initialized y.cls).before a A.U = true := hinit _ _ X.warmed
  have h4 : A.cells + (headSpec ws rm).room.cells ≤ R.cells := by rw [show (headSpec ws rm).room.cells = mc from hrc]; exact hp.1
  have h5 : A.slots + (headSpec ws rm).room.slots ≤ R.slots := by rw [show (headSpec ws rm).room.slots = ms from hrs]; exact hp.2.1
  have hPc : Pc a (A.U.calling g mk a) := hblind _ _ _ _ hp.2.2
  obtain ⟨U, Ls, c0, s0⟩ := A
  dsimp only [Pt.U, Pt.locs, Pt.cells, Pt.slots] at h1 h2 h3 h4 h5 X hn hPc ⊢
  obtain ⟨m9, methY, cY, hn9, hmY, hcY, -, hlY, -⟩ := Cond.codeWith_spec h2
  cases Option.some.inj (hn9.symm.trans hn)
  obtain ⟨kY, hkY, -⟩ := className_of_methodNamed hn
  have hinitY : kY.init = .initialized := Cond.initialized_spec (findClass_of_methodNamed hn) hkY h3
  have h : At U g.method c below := by rw [hg]; exact X.here
  have hlocals9 : W9 + (maxL + 11) + (headSpec ws rm).room.locals ≤ R.locals := hlocals
  have happ : (headSpec ws rm).appliesLoose y e.platform (U.calling g mk a) = true :=
    Spec.appliesLoose_calling (g := g) h hdg hn hkY hinitY
      (X.room_calling (g := g) (R' := (headSpec ws rm).room) hsize hmY hcY hframes (by rw [hlY]; omega) h4 h5) h1
  obtain ⟨mid, hmid⟩ := h.above
  have hfr : (U.setTop g).frames = (.java g :: mid) ++ below := by rw [State.frames_setTop' g h.top, hmid]; rfl
  obtain ⟨o, s₂, hsteps, -, hend, hq⟩ := Steps.callFree hM p X.admits X.cas X.clock (acts := []) hfr happ hPc trivial
  have hq' : vx_Q Qc XC mc ms free a (U.calling g mk a) o s₂ := hq
  rw [State.frames_setTop' g h.top] at hend
  obtain ⟨g₀, hg0⟩ := Option.isSome_iff_exists.mp h.top
  obtain ⟨r, hr⟩ := State.topJava?_eq_some.mp hg0
  have hr' : (({ U with heap := s₂.heap, slotsUsed := s₂.slotsUsed } : State).setVm s₂.vm).frames = .java g₀ :: r := hr
  rcases hq' with ⟨hqc, L, hfe, hL⟩ | ⟨q, rfl, E, ce, L, hx, hce, hcv, hcl, hW₂, hsm, hL⟩
  · obtain ⟨⟨v, rfl⟩, hW₂, e2, q2, q3, q4, q5, q6⟩ := id hfe
    have e3 : s₂ = ({ (U.calling g mk a).setFrames s₂.frames with heap := s₂.heap, slotsUsed := s₂.slotsUsed } : State).setVm s₂.vm := by
      have : s₂ = ({ s₂ with vm := (U.calling g mk a).vm } : State).setVm s₂.vm := rfl
      rw [e2] at this
      exact this
    obtain ⟨c₂, i₂, len₂, hc₂, hd₂, hf₂⟩ := hend
    have hW' : U.WarmedH s₂.vm := hW₂
    have hcc : c₂ = c := by
      have h1 : s₂.code? g.method = U.code? g.method := by
        rw [State.code?_eq, State.code?_eq, hW'.alike.method?]
      exact Option.some.inj (hc₂.symm.trans (h1.trans h.code))
    subst hcc
    have hlen : len₂ = len := by rw [hdg] at hd₂; cases hd₂; rfl
    subst hlen
    have hs₂ : s₂ = (({ U with heap := s₂.heap, slotsUsed := s₂.slotsUsed } : State).setVm s₂.vm).setTop { g with pc := g.pc + len₂, stack := v.toList ++ g.stack } := by
      refine e3.trans ?_
      rw [hf₂, State.calling_eq h.top, State.setFrames_setFrames, State.setTop_of_frames _ hr', hr]
      rfl
    have hsame : U.sameButNew ({ U with heap := s₂.heap, slotsUsed := s₂.slotsUsed } : State) L mc ms := by
      refine ⟨?_, q2, q3, q4, q5, q6⟩
      obtain ⟨t, ht, -⟩ := State.frames_cons hr
      show ({ U with heap := s₂.heap, slotsUsed := s₂.slotsUsed } : State) = { U.setFrames U.frames with heap := s₂.heap, slotsUsed := s₂.slotsUsed }
      rw [State.setFrames_self ht]
    subst hg
    refine Or.inl ⟨v, ⟨(({ U with heap := s₂.heap, slotsUsed := s₂.slotsUsed } : State).setVm s₂.vm), Ls ++ L, c0 + mc, s0 + ms⟩,
      ⟨X.admits, X.cas, X.clock, X.frames, X.room, X.hears, X.method, X.code, (X.here.setHeapUsed s₂.heap s₂.slotsUsed).setVm hW'.alike, X.tail, State.WarmedH.trans X.warmed hW', X.limits, X.bytes, X.same.trans (hsame.setVm s.vm)⟩,
      ⟨g, mk, s₂, L, rfl, rfl, hqc, rfl, hL, rfl, rfl⟩, ?_⟩
    show Steps p.tables e below _ ((({ U with heap := s₂.heap, slotsUsed := s₂.slotsUsed } : State).setVm s₂.vm).setTop { g with pc := g.pc + len₂, stack := v.toList ++ g.stack })
    rw [← hs₂]
    exact hsteps
  · obtain ⟨e2, q2, q3, q4, q5, q6⟩ := id hsm
    have e3 : s₂ = ({ (U.calling g mk a).setFrames s₂.frames with heap := s₂.heap, slotsUsed := s₂.slotsUsed } : State).setVm s₂.vm := by
      have : s₂ = ({ s₂ with vm := (U.calling g mk a).vm } : State).setVm s₂.vm := rfl
      rw [e2] at this
      exact this
    have hf₂ : s₂.frames = .throwing q :: .java g :: U.frames.tail := hend
    have hW' : U.WarmedH s₂.vm := hW₂
    have hs₂ : s₂ = ((({ U with heap := s₂.heap, slotsUsed := s₂.slotsUsed } : State).setVm s₂.vm).setTop g).pushFrame (.throwing q) := by
      refine e3.trans ?_
      rw [hf₂, State.calling_eq h.top, State.setFrames_setFrames, State.pushFrame, State.frames_setTop _ hr', State.setTop_of_frames _ hr', State.setFrames_setFrames, hr]
      rfl
    have hsame : U.sameButNew ({ U with heap := s₂.heap, slotsUsed := s₂.slotsUsed } : State) L mc ms := by
      refine ⟨?_, q2, q3, q4, q5, q6⟩
      obtain ⟨t, ht, -⟩ := State.frames_cons hr
      show ({ U with heap := s₂.heap, slotsUsed := s₂.slotsUsed } : State) = { U.setFrames U.frames with heap := s₂.heap, slotsUsed := s₂.slotsUsed }
      rw [State.setFrames_self ht]
    subst hg
    refine Or.inr ⟨q, ⟨(({ U with heap := s₂.heap, slotsUsed := s₂.slotsUsed } : State).setVm s₂.vm), Ls ++ L, c0 + mc, s0 + ms⟩,
      ⟨X.admits, X.cas, X.clock, X.frames, X.room, X.hears, X.method, X.code, (X.here.setHeapUsed s₂.heap s₂.slotsUsed).setVm hW'.alike, X.tail, State.WarmedH.trans X.warmed hW', X.limits, X.bytes, X.same.trans (hsame.setVm s.vm)⟩,
      ⟨g, mk, s₂, L, E, ce, rfl, rfl, hx, hce, hcv, hcl, rfl, hL, rfl, rfl⟩, ?_⟩
    show Steps p.tables e below _ (((({ U with heap := s₂.heap, slotsUsed := s₂.slotsUsed } : State).setVm s₂.vm).setTop g).pushFrame (.throwing q))
    rw [← hs₂]
    exact hsteps
end
variable {p : Program} {l : Launch} {e : Env} {R : Room} {s : State} {m : MethodId} {args : Array Value} {below : List Frame} {meth : Method} {c : Code} {T : State} {H : Heap} {locs : List Loc} {cells slots : Nat}
theorem vx_callVX (X : Stand p l e R s m args below meth c T locs cells slots) (hexec : p.tables.exec = Jvm.exec) {own C : String} {index : Nat} {y : MethodName} {bytes : ByteArray} {maxL : Nat} {ret : Option FieldType} {hh : List (Nat × Nat × Nat × Nat)}
    (hown : s.vm.findClass own = some m.cls) (hlink : (Cond.methodLink own index y).before args s = true) (hinst : (Cond.instanceMethod y).before args s = true) (hsel : (Cond.selects C y y).before args s = true)
    (hcode : (Cond.codeWith y bytes maxL ret hh).before args s = true) (hy : y.cls ≠ "java/lang/invoke/MethodHandle" ∧ y.cls ≠ "java/lang/invoke/VarHandle")
    {W9 : Nat} {Pre : Pt → Array Value → Prop} {Post : Pt → Array Value → Option Value → Pt → Prop} {PostX : Pt → Array Value → Addr → Pt → Prop} (hK : vx_Back l R p e below s args y 3 W9 Pre Post PostX)
    {b : Addr} {cellB : Cell} (hcell : T.heap[b]? = some cellB) (hobj : cellB.vm.isStatics = false) (hcls : s.vm.findClass C = some cellB.cls)
    {g : JFrame} (hg : g.method = m) (hsize : g.locals.size = c.maxLocals) {argsL rest : List Value} (hlen : ∀ sig, parseMethodDescriptor y.desc = some sig → argsL.length = sig.parameters.length)
    (hstack : g.stack = argsL.reverse ++ .ref b :: rest) (hW : 2 * g.monitorRoom + (rest.map fun v => v.category).sum ≤ W9) (hdg : decode c.code g.pc = .ok (.invokevirtual index, 3))
    (hpre : ∀ vm₁, s.WarmedH vm₁ → Pre ⟨T.setVm vm₁, locs, cells, slots⟩ (Value.ref b :: argsL).toArray) :
    (∃ (v : Option Value) (vm₁ : Vm) (B : Pt), s.WarmedH vm₁ ∧ Stand p l e R s m args below meth c B.U B.locs B.cells B.slots ∧ Post ⟨T.setVm vm₁, locs, cells, slots⟩ (Value.ref b :: argsL).toArray v B ∧
      ∀ target, Steps p.tables e below (B.U.setTop { g with pc := g.pc + 3, stack := v.toList ++ rest }) target → Steps p.tables e below (T.setTop g) target) ∨
    (∃ (q : Addr) (vm₁ : Vm) (B : Pt), s.WarmedH vm₁ ∧ Stand p l e R s m args below meth c B.U B.locs B.cells B.slots ∧ PostX ⟨T.setVm vm₁, locs, cells, slots⟩ (Value.ref b :: argsL).toArray q B ∧
      Steps p.tables e below (T.setTop g) ((B.U.setTop { g with stack := rest }).pushFrame (.throwing q))) := by
  obtain ⟨mk, methM, hnamed, hmethM, hstM, habM⟩ := Cond.instanceMethod_spec hinst
  obtain ⟨m8, methM', cM, hn8, hmethM', -, -, -, -, -, -, hsigM⟩ := Cond.codeWith_spec hcode
  cases Option.some.inj (hn8.symm.trans hnamed)
  cases hmethM.symm.trans hmethM'
  obtain ⟨c2, r2, m2, q1, q2, q3, q4, kP, hkP, hkPi⟩ := Cond.selects_spec hsel
  cases hcls.symm.trans q1
  cases (State.methodFound?_of_named hnamed hy).symm.trans q2
  cases hnamed.symm.trans q3
  have hselP : selectMethod e.platform s.vm cellB.cls mk = .method mk := by rw [Launch.admits_selectMethod X.admits]; exact q4
  obtain ⟨vm₁, X₁, hstep₁⟩ := X.invokevirtual hexec hown hlink hnamed hmethM hstM hkP hkPi hy (a := b) (cell := cellB) hcell
    (fun z h => by rw [h] at hobj; cases hobj) hselP hmethM habM hkP hkPi (g := g) hg (argsL := argsL) (rest := rest) (hlen _ hsigM) hstack hdg
  rcases hK m meth c ⟨T.setVm vm₁, locs, cells, slots⟩ { g with stack := rest } (.invokevirtual index) mk (Value.ref b :: argsL).toArray X₁ hg hsize hdg hW (X₁.named hnamed) (hpre vm₁ X₁.warmed) with ⟨v, B, X', hpost, hsteps⟩ | ⟨q, B, X', hpost, hsteps⟩
  · exact Or.inl ⟨v, vm₁, B, X₁.warmed, X', hpost, fun target h => hstep₁ _ fun acts => by rw [doInvoke_state]; exact hsteps.trans h⟩
  · exact Or.inr ⟨q, vm₁, B, X₁.warmed, X', hpost, hstep₁ _ fun acts => by rw [doInvoke_state]; exact hsteps⟩
theorem vx_callSX (X : Stand p l e R s m args below meth c T locs cells slots) (hexec : p.tables.exec = Jvm.exec) {own : String} {index : Nat} {y : MethodName} {bytes : ByteArray} {maxL : Nat} {ret : Option FieldType} {hh : List (Nat × Nat × Nat × Nat)}
    (hown : s.vm.findClass own = some m.cls) (hlink : (Cond.methodLink own index y).before args s = true) (hstat : (Cond.static y).before args s = true) (hinit : (Cond.initialized y.cls).before args s = true)
    (hcode : (Cond.codeWith y bytes maxL ret hh).before args s = true) (hy : y.cls ≠ "java/lang/invoke/MethodHandle" ∧ y.cls ≠ "java/lang/invoke/VarHandle")
    {W9 : Nat} {Pre : Pt → Array Value → Prop} {Post : Pt → Array Value → Option Value → Pt → Prop} {PostX : Pt → Array Value → Addr → Pt → Prop} (hK : vx_Back l R p e below s args y 3 W9 Pre Post PostX)
    {g : JFrame} (hg : g.method = m) (hsize : g.locals.size = c.maxLocals) {argsL rest : List Value} (hlen : ∀ sig, parseMethodDescriptor y.desc = some sig → argsL.length = sig.parameters.length)
    (hstack : g.stack = argsL.reverse ++ rest) (hW : 2 * g.monitorRoom + (rest.map fun v => v.category).sum ≤ W9) (hdg : decode c.code g.pc = .ok (.invokestatic index, 3))
    (hpre : ∀ vm₁, s.WarmedH vm₁ → Pre ⟨T.setVm vm₁, locs, cells, slots⟩ argsL.toArray) :
    (∃ (v : Option Value) (vm₁ : Vm) (B : Pt), s.WarmedH vm₁ ∧ Stand p l e R s m args below meth c B.U B.locs B.cells B.slots ∧ Post ⟨T.setVm vm₁, locs, cells, slots⟩ argsL.toArray v B ∧
      ∀ target, Steps p.tables e below (B.U.setTop { g with pc := g.pc + 3, stack := v.toList ++ rest }) target → Steps p.tables e below (T.setTop g) target) ∨
    (∃ (q : Addr) (vm₁ : Vm) (B : Pt), s.WarmedH vm₁ ∧ Stand p l e R s m args below meth c B.U B.locs B.cells B.slots ∧ PostX ⟨T.setVm vm₁, locs, cells, slots⟩ argsL.toArray q B ∧
      Steps p.tables e below (T.setTop g) ((B.U.setTop { g with stack := rest }).pushFrame (.throwing q))) := by
  obtain ⟨mk, methM, cM, hnamed, hmethM, -, -, -, -, -, -, hsigM⟩ := Cond.codeWith_spec hcode
  have hstatic : methM.isStatic = true := Cond.static_spec hnamed hmethM hstat
  obtain ⟨kP, hkP, -⟩ := className_of_methodNamed hnamed
  have hinitP : kP.init = .initialized := Cond.initialized_spec (findClass_of_methodNamed hnamed) hkP hinit
  obtain ⟨vm₁, X₁, hstep₁⟩ := X.invokestatic hexec hown hlink hnamed hmethM hstatic hkP hinitP hy (g := g) hg (argsL := argsL) (rest := rest) (hlen _ hsigM) hstack hdg
  rcases hK m meth c ⟨T.setVm vm₁, locs, cells, slots⟩ { g with stack := rest } (.invokestatic index) mk argsL.toArray X₁ hg hsize hdg hW (X₁.named hnamed) (hpre vm₁ X₁.warmed) with ⟨v, B, X', hpost, hsteps⟩ | ⟨q, B, X', hpost, hsteps⟩
  · exact Or.inl ⟨v, vm₁, B, X₁.warmed, X', hpost, fun target h => hstep₁ _ fun acts => by rw [doInvoke_state]; exact hsteps.trans h⟩
  · exact Or.inr ⟨q, vm₁, B, X₁.warmed, X', hpost, hstep₁ _ fun acts => by rw [doInvoke_state]; exact hsteps⟩
theorem vx_callVW (X : Stand p l e R s m args below meth c T locs cells slots) (hexec : p.tables.exec = Jvm.exec) {own C : String} {index : Nat} {y : MethodName} {bytes : ByteArray} {maxL : Nat} {ret : Option FieldType} {hh : List (Nat × Nat × Nat × Nat)}
    (hown : s.vm.findClass own = some m.cls) (hlink : (Cond.methodLink own index y).before args s = true) (hinst : (Cond.instanceMethod y).before args s = true) (hsel : (Cond.selects C y y).before args s = true)
    (hcode : (Cond.codeWith y bytes maxL ret hh).before args s = true) (hy : y.cls ≠ "java/lang/invoke/MethodHandle" ∧ y.cls ≠ "java/lang/invoke/VarHandle")
    {W9 : Nat} {Pre : Pt → Array Value → Prop} {Post : Pt → Array Value → Option Value → Pt → Prop} (hK : Back l R p e below s args y 3 W9 Pre Post)
    {b : Addr} {cellB : Cell} (hcell : T.heap[b]? = some cellB) (hobj : cellB.vm.isStatics = false) (hcls : s.vm.findClass C = some cellB.cls)
    {g : JFrame} (hg : g.method = m) (hsize : g.locals.size = c.maxLocals) {argsL rest : List Value} (hlen : ∀ sig, parseMethodDescriptor y.desc = some sig → argsL.length = sig.parameters.length)
    (hstack : g.stack = argsL.reverse ++ .ref b :: rest) (hW : 2 * g.monitorRoom + (rest.map fun v => v.category).sum ≤ W9) (hdg : decode c.code g.pc = .ok (.invokevirtual index, 3))
    (hpre : ∀ vm₁, s.WarmedH vm₁ → Pre ⟨T.setVm vm₁, locs, cells, slots⟩ (Value.ref b :: argsL).toArray) :
    ∃ (v : Option Value) (vm₁ : Vm) (B : Pt), s.WarmedH vm₁ ∧ Stand p l e R s m args below meth c B.U B.locs B.cells B.slots ∧ Post ⟨T.setVm vm₁, locs, cells, slots⟩ (Value.ref b :: argsL).toArray v B ∧
      ∀ target, Steps p.tables e below (B.U.setTop { g with pc := g.pc + 3, stack := v.toList ++ rest }) target → Steps p.tables e below (T.setTop g) target := by
  obtain ⟨mk, methM, hnamed, hmethM, hstM, habM⟩ := Cond.instanceMethod_spec hinst
  obtain ⟨m8, methM', cM, hn8, hmethM', -, -, -, -, -, -, hsigM⟩ := Cond.codeWith_spec hcode
  cases Option.some.inj (hn8.symm.trans hnamed)
  cases hmethM.symm.trans hmethM'
  obtain ⟨c2, r2, m2, q1, q2, q3, q4, kP, hkP, hkPi⟩ := Cond.selects_spec hsel
  cases hcls.symm.trans q1
  cases (State.methodFound?_of_named hnamed hy).symm.trans q2
  cases hnamed.symm.trans q3
  have hselP : selectMethod e.platform s.vm cellB.cls mk = .method mk := by rw [Launch.admits_selectMethod X.admits]; exact q4
  obtain ⟨vm₁, X₁, hstep₁⟩ := X.invokevirtual hexec hown hlink hnamed hmethM hstM hkP hkPi hy (a := b) (cell := cellB) hcell
    (fun z h => by rw [h] at hobj; cases hobj) hselP hmethM habM hkP hkPi (g := g) hg (argsL := argsL) (rest := rest) (hlen _ hsigM) hstack hdg
  obtain ⟨v, B, X', hpost, hsteps⟩ := hK m meth c ⟨T.setVm vm₁, locs, cells, slots⟩ { g with stack := rest } (.invokevirtual index) mk (Value.ref b :: argsL).toArray X₁ hg hsize hdg hW (X₁.named hnamed) (hpre vm₁ X₁.warmed)
  exact ⟨v, vm₁, B, X₁.warmed, X', hpost, fun target h => hstep₁ _ fun acts => by rw [doInvoke_state]; exact hsteps.trans h⟩
abbrev vx_CVW (R : Room) (s : State) (args : Array Value) (own C : String) (index : Nat) (y : MethodName) (bytes : ByteArray) (maxL : Nat) (ret : Option FieldType) (hh : List (Nat × Nat × Nat × Nat)) (ws : List Cond) (rm : Room) (mc ms n : Nat) : Prop :=
  (rm.cells = mc ∧ rm.slots = ms ∧ rm.frames + 1 ≤ R.frames ∧ 8 + (maxL + 11) + rm.locals ≤ R.locals ∧ (∀ w ∈ ws, ∀ (a' : Array Value) (U : State), s.WarmedH U.vm → w.before a' U = true) ∧ Cond.codeWith y bytes maxL ret hh ∈ ws) ∧
  (Cond.codeWith y bytes maxL ret hh).before args s = true ∧ (Cond.initialized y.cls).before args s = true ∧ (y.cls ≠ "java/lang/invoke/MethodHandle" ∧ y.cls ≠ "java/lang/invoke/VarHandle") ∧
  (∀ sig, parseMethodDescriptor y.desc = some sig → n = sig.parameters.length) ∧ (Cond.methodLink own index y).before args s = true ∧ (Cond.instanceMethod y).before args s = true ∧ (Cond.selects C y y).before args s = true
theorem vx_cwVW {own C : String} {index maxL mc ms : Nat} {y : MethodName} {bytes : ByteArray} {ret : Option FieldType} {hh : List (Nat × Nat × Nat × Nat)} {Ts ws ws' : List Cond} {rm : Room} (n : Nat) (ht : ∀ w ∈ Ts, w.before args s = true) (hT : GoodIn Ts (wsV own index C y ws)) (hw : ws = Cond.codeWith y bytes maxL ret hh :: ws') (hrc : rm.cells = mc) (hrs : rm.slots = ms)
    (hd : y.cls = C ∧ y.cls ≠ "java/lang/invoke/MethodHandle" ∧ y.cls ≠ "java/lang/invoke/VarHandle" ∧ (parseMethodDescriptor y.desc).map (fun d => d.parameters.length) = some n) (hR : rm.frames + 1 ≤ R.frames ∧ 8 + (maxL + 11) + rm.locals ≤ R.locals) :
    vx_CVW R s args own C index y bytes maxL ret hh ws rm mc ms n := by
  obtain ⟨hC, hd⟩ := hd
  subst hC
  have ok : ∀ w ∈ wsV own index y.cls y ws, w.before args s = true := fun w h => ht w (hT w h).1
  have hG : GoodIn Ts ws := fun w h => hT w (by unfold wsV; exact List.mem_append_right _ h)
  have hc : Cond.codeWith y bytes maxL ret hh ∈ ws := by rw [hw]; exact List.mem_cons_self
  refine ⟨⟨hrc, hrs, hR.1, hR.2, pay_in ht hG, hc⟩, ht _ (hG _ hc).1, ok _ (by simp [wsV]), ⟨hd.1, hd.2.1⟩, fun sig h => ?_, ok _ (by simp [wsV]), ok _ (by simp [wsV]), ok _ (by simp [wsV])⟩
  have h2 := hd.2.2
  rw [h] at h2
  exact (Option.some.inj h2).symm
theorem vx_runVW {y : MethodName} {bytes cc : ByteArray} {maxL nL mc ms n index : Nat} {ret : Option FieldType} {hh : List (Nat × Nat × Nat × Nat)} {ws : List Cond} {rm : Room} {Pc : Array Value → State → Prop} {Qc : Array Value → State → Outcome → State → Prop} {free : Addr → Prop} {Ts : List Cond} {own C : String} {b : Addr} {As rest : List Value} {g : JFrame}
    (S : CallFix p m c cc nL s args Ts own) (hM : Met l y ws rm Pc Qc mc ms free) (cw : vx_CVW R s args own C index y bytes maxL ret hh ws rm mc ms n) (hp : PreV s H C b Pc As)
    (hg : g.method = m) (hn : As.length = n) (hsize : g.locals.size = nL) (hstack : g.stack = As.reverse ++ .ref b :: rest) (hW : 2 * g.monitorRoom + (rest.map fun v => v.category).sum ≤ 8) (hdg : decode cc g.pc = .ok (.invokevirtual index, 3)) (hf : cells + mc ≤ R.cells ∧ slots + ms ≤ R.slots) :
    va_Run p l e R s m args below meth c H locs cells slots mc ms g rest (Qc (Value.ref b :: As).toArray) free := by
  obtain ⟨⟨hrc, hrs, hfr, hlo, hws, hcw⟩, hcode, hini, hy, hlen, hl, hin, hse⟩ := cw
  have hK : Back l R p e below s args y 3 8 (PreOf R mc ms Pc) (PostOf Qc mc ms free) := va_backW (hh := hh) (bytes := bytes) (maxL := maxL) (ret := ret) hM hp.1 hrc hrs hfr hlo hws hcw (fun a' U hW => word_at hW (Or.inl (by first | rfl | simp [Cond.onTables, Cond.keeps, Cond.steady])) hini)
  obtain ⟨hx, hb, hml, ho, -⟩ := S
  obtain ⟨-, ⟨cellB, hcB, hoB, hclB⟩, hPc⟩ := hp
  intro T hT X
  obtain ⟨v, vm₁, ⟨U', l2, c2, s2⟩, hW₁, X', ⟨g', mk, t, L, e1, e2, hq, h1, hL, h2, h3⟩, st⟩ := vx_callVW X hx (C := C) (hh := hh) (bytes := bytes) (maxL := maxL) (ret := ret) ho hl hin hse hcode hy hK (by rw [hT]; exact hcB) hoB hclB hg (hsize.trans hml.symm) (argsL := As) (rest := rest) (fun sig h => hn.trans (hlen sig h)) hstack hW (by rw [hb]; exact hdg)
    (fun vm₁ hW₁ => ⟨hf.1, hf.2, hPc (T.setVm vm₁) hT hW₁⟩)
  dsimp only [Pt.U, Pt.locs, Pt.cells, Pt.slots] at X' e1 e2 h1 h2 h3 st
  subst h1; subst h2; subst h3
  exact ⟨v, (T.setVm vm₁).calling g' mk (Value.ref b :: As).toArray, t, U', L, hT, X', hL, e1, e2, hq, st⟩
section
variable {y : MethodName} {bytes cc : ByteArray} {maxL nL mc ms n index : Nat} {ret : Option FieldType} {ws : List Cond} {rm : Room} {Pc : Array Value → State → Prop} {Qc : Array Value → State → Outcome → State → Prop} {XC : String → State → State → Prop} {free : Addr → Prop} {Ts : List Cond} {own C : String} {b : Addr} {As rest : List Value} {g : JFrame}
theorem vx_runVX {hh : List (Nat × Nat × Nat × Nat)} (S : CallFix p m c cc nL s args Ts own) (hM : vx_Met l y ws rm Pc Qc XC mc ms free) (cw : vx_CVW R s args own C index y bytes maxL ret hh ws rm mc ms n) (hp : PreV s H C b Pc As)
    (hg : g.method = m) (hn : As.length = n) (hsize : g.locals.size = nL) (hstack : g.stack = As.reverse ++ .ref b :: rest) (hW : 2 * g.monitorRoom + (rest.map fun v => v.category).sum ≤ 8) (hdg : decode cc g.pc = .ok (.invokevirtual index, 3)) (hf : cells + mc ≤ R.cells ∧ slots + ms ≤ R.slots) :
    vx_Run p l e R s m args below meth c H locs cells slots mc ms g rest (Qc (Value.ref b :: As).toArray) XC free := by
  obtain ⟨⟨hrc, hrs, hfr, hlo, hws, hcw⟩, hcode, hini, hy, hlen, hl, hin, hse⟩ := cw
  have hK : vx_Back l R p e below s args y 3 8 (PreOf R mc ms Pc) (PostOf Qc mc ms free) (vx_Post XC mc ms free) := vx_backW (hh := hh) (bytes := bytes) (maxL := maxL) (ret := ret) hM hp.1 hrc hrs hfr hlo hws hcw (fun a' U hW => word_at hW (Or.inl (by first | rfl | simp [Cond.onTables, Cond.keeps, Cond.steady])) hini)
  obtain ⟨hx, hb, hml, ho, -⟩ := S
  obtain ⟨-, ⟨cellB, hcB, hoB, hclB⟩, hPc⟩ := hp
  intro T hT X
  rcases vx_callVX X hx (C := C) (hh := hh) (bytes := bytes) (maxL := maxL) (ret := ret) ho hl hin hse hcode hy hK (by rw [hT]; exact hcB) hoB hclB hg (hsize.trans hml.symm) (argsL := As) (rest := rest) (fun sig h => hn.trans (hlen sig h)) hstack hW (by rw [hb]; exact hdg)
    (fun vm₁ hW₁ => ⟨hf.1, hf.2, hPc (T.setVm vm₁) hT hW₁⟩) with ⟨v, vm₁, ⟨U', l2, c2, s2⟩, hW₁, X', ⟨g', mk, t, L, e1, e2, hq, h1, hL, h2, h3⟩, st⟩ | ⟨q, vm₁, ⟨U', l2, c2, s2⟩, hW₁, X', ⟨g', mk, t, L, E, ce, e1, e2, hq, hce, hcv, hcl, h1, hL, h2, h3⟩, st⟩
  · dsimp only [Pt.U, Pt.locs, Pt.cells, Pt.slots] at X' e1 e2 h1 h2 h3 st
    subst h1; subst h2; subst h3
    exact Or.inl ⟨v, (T.setVm vm₁).calling g' mk (Value.ref b :: As).toArray, t, U', L, hT, X', hL, e1, e2, hq, st⟩
  · dsimp only [Pt.U, Pt.locs, Pt.cells, Pt.slots] at X' e1 e2 h1 h2 h3 st hcl
    subst h1; subst h2; subst h3
    exact Or.inr ⟨q, (T.setVm vm₁).calling g' mk (Value.ref b :: As).toArray, t, U', L, E, ce, hT, X', hL, e1, e2, hq, hce, hcv, vx_cls hW₁ hcl, st⟩
theorem vx_runSX {hh : List (Nat × Nat × Nat × Nat)} (S : CallFix p m c cc nL s args Ts own) (hM : vx_Met l y ws rm Pc Qc XC mc ms free) (cw : vx_CSW R s args own index y bytes maxL ret hh ws rm mc ms n) (hp : PreS s H Pc As)
    (hg : g.method = m) (hn : As.length = n) (hsize : g.locals.size = nL) (hstack : g.stack = As.reverse ++ rest) (hW : 2 * g.monitorRoom + (rest.map fun v => v.category).sum ≤ 8) (hdg : decode cc g.pc = .ok (.invokestatic index, 3)) (hf : cells + mc ≤ R.cells ∧ slots + ms ≤ R.slots) :
    vx_Run p l e R s m args below meth c H locs cells slots mc ms g rest (Qc As.toArray) XC free := by
  obtain ⟨⟨hrc, hrs, hfr, hlo, hws, hcw⟩, hcode, hini, hy, hlen, hl, hstt⟩ := cw
  have hK : vx_Back l R p e below s args y 3 8 (PreOf R mc ms Pc) (PostOf Qc mc ms free) (vx_Post XC mc ms free) := vx_backW (hh := hh) (bytes := bytes) (maxL := maxL) (ret := ret) hM hp.1 hrc hrs hfr hlo hws hcw (fun a' U hW => word_at hW (Or.inl (by first | rfl | simp [Cond.onTables, Cond.keeps, Cond.steady])) hini)
  obtain ⟨hx, hb, hml, ho, -⟩ := S
  intro T hT X
  rcases vx_callSX X hx (hh := hh) (bytes := bytes) (maxL := maxL) (ret := ret) ho hl hstt hini hcode hy hK hg (hsize.trans hml.symm) (argsL := As) (rest := rest) (fun sig h => hn.trans (hlen sig h)) hstack hW (by rw [hb]; exact hdg)
    (fun vm₁ hW₁ => ⟨hf.1, hf.2, hp.2 (T.setVm vm₁) hT hW₁⟩) with ⟨v, vm₁, ⟨U', l2, c2, s2⟩, hW₁, X', ⟨g', mk, t, L, e1, e2, hq, h1, hL, h2, h3⟩, st⟩ | ⟨q, vm₁, ⟨U', l2, c2, s2⟩, hW₁, X', ⟨g', mk, t, L, E, ce, e1, e2, hq, hce, hcv, hcl, h1, hL, h2, h3⟩, st⟩
  · dsimp only [Pt.U, Pt.locs, Pt.cells, Pt.slots] at X' e1 e2 h1 h2 h3 st
    subst h1; subst h2; subst h3
    exact Or.inl ⟨v, (T.setVm vm₁).calling g' mk As.toArray, t, U', L, hT, X', hL, e1, e2, hq, st⟩
  · dsimp only [Pt.U, Pt.locs, Pt.cells, Pt.slots] at X' e1 e2 h1 h2 h3 st hcl
    subst h1; subst h2; subst h3
    exact Or.inr ⟨q, (T.setVm vm₁).calling g' mk As.toArray, t, U', L, E, ce, hT, X', hL, e1, e2, hq, hce, hcv, vx_cls hW₁ hcl, st⟩
end
end VXH
theorem vx_ofWH {l : Launch} {y : MethodName} {ws ws' : List Cond} {rm : Room} {Pc : Array Value → State → Prop} {Qc : Array Value → State → Outcome → State → Prop} {XC : String → State → State → Prop} {mc ms : Nat} {free : Addr → Prop} {cc : ByteArray} {maxL : Nat} {ret : Option FieldType} {hh : List (Nat × Nat × Nat × Nat)}
    (hy : plainName y.cls = true) (hw : ws = Cond.codeWith y cc maxL ret hh :: ws')
    (body : ∀ p e s m args below meth c s₁, BodyLoose p l y (headSpec ws rm) cc maxL ret e s m args below meth c s₁ → c.maxLocals = maxL → Pc args s →
      W p l e (headSpec ws rm).room s m args below meth c s.heap [] 0 0 (vx_MQ below Qc XC args s mc ms free) (entryFrame m args maxL)) : vx_Met l y ws rm Pc Qc XC mc ms free := by
  refine MetFree.of_bodyS (code := cc) (maxLocals := maxL) (ret := ret) hy ?_ ?_
  · intro args s m h hn
    obtain ⟨m9, meth, c, hn9, h1, h2, h3, h4, -, h5, h6, -⟩ := Cond.codeWith_spec (atoms_spec (ws := ws) h _ (by rw [hw]; exact List.mem_cons_self))
    cases hn.symm.trans hn9
    exact ⟨meth, c, h1, h2, h3, h4, h5, h6⟩
  · intro p e s m args below meth c s₁ B hml hP _
    have hh0 : s₁.heap = s.heap := by rw [B.state]; rfl
    obtain ⟨t, a1, o, b1, b2, b3⟩ := body p e s m args below meth c s₁ B hml hP s₁ hh0 (Stand.of_body B)
    exact ⟨t, o, a1, b1, b2, b3⟩
/-! ===== END ===== -/
end
section
def RX0 : String := "QuorumBakery$Agreement"
def TX0 : u_T := fun k => match k with
  | 0 => ("QuorumBakery$Agreement", "group", "I", false)
  | 1 => ("QuorumBakery$Agreement", "terms", "[I", true)
  | 2 => ("QuorumBakery$Agreement", "roles", "[I", true)
  | 3 => ("QuorumBakery$Agreement", "votes", "[I", true)
  | 4 => ("QuorumBakery$Agreement", "supporters", "[I", true)
  | 5 => ("QuorumBakery$Agreement", "logs", "[[I", true)
  | 6 => ("QuorumBakery$Agreement", "lengths", "[I", true)
  | 7 => ("QuorumBakery$Agreement", "versionCount", "I", false)
  | 8 => ("QuorumBakery$Agreement", "versionTerms", "[I", true)
  | 9 => ("QuorumBakery$Agreement", "holderSets", "[I", true)
  | 10 => ("QuorumBakery$Agreement", "held", "J", false)
  | _ => ("QuorumBakery$Agreement", "everHeld", "J", false)
def tyX0 : Nat → FieldType := fun k => match k with
  | 0 => .int
  | 1 => .array .int
  | 2 => .array .int
  | 3 => .array .int
  | 4 => .array .int
  | 5 => .array (.array .int)
  | 6 => .array .int
  | 7 => .int
  | 8 => .array .int
  | 9 => .array .int
  | 10 => .long
  | _ => .long
abbrev wsX00 : List Cond := u_ws RX0 TX0 12
theorem nmX0 : ∀ a, a < 12 → ∀ b, b < 12 → a ≠ b → (TX0 a).2.1 ≠ (TX0 b).2.1 := by decide +kernel
theorem tyX0_ok : ∀ k, k < 12 → parseFieldDescriptor (TX0 k).2.2.1 = some (tyX0 k) := by decide +kernel
abbrev cX0_init : ByteArray := prog_2_method_1_code
def yX0_init : MethodName := ⟨RX0, "<init>", "()V"⟩
abbrev cX0_begin : ByteArray := prog_2_method_2_code
def yX0_begin : MethodName := ⟨RX0, "begin", "()V"⟩
abbrev cX0_areTogether : ByteArray := prog_2_method_3_code
def yX0_areTogether : MethodName := ⟨RX0, "areTogether", "(II)Z"⟩
abbrev cX0_becomeCandidate : ByteArray := prog_2_method_4_code
def yX0_becomeCandidate : MethodName := ⟨RX0, "becomeCandidate", "(I)V"⟩
abbrev cX0_takeTerm : ByteArray := prog_2_method_5_code
def yX0_takeTerm : MethodName := ⟨RX0, "takeTerm", "(II)V"⟩
abbrev cX0_askForVote : ByteArray := prog_2_method_6_code
def yX0_askForVote : MethodName := ⟨RX0, "askForVote", "(II)Z"⟩
abbrev cX0_giveVote : ByteArray := prog_2_method_7_code
def yX0_giveVote : MethodName := ⟨RX0, "giveVote", "(II)V"⟩
abbrev cX0_hasBetterLog : ByteArray := prog_2_method_8_code
def yX0_hasBetterLog : MethodName := ⟨RX0, "hasBetterLog", "(II)Z"⟩
abbrev cX0_lastTerm : ByteArray := prog_2_method_9_code
def yX0_lastTerm : MethodName := ⟨RX0, "lastTerm", "(I)I"⟩
abbrev cX0_addVersion : ByteArray := prog_2_method_10_code
def yX0_addVersion : MethodName := ⟨RX0, "addVersion", "(I)I"⟩
abbrev cX0_sendLog : ByteArray := prog_2_method_11_code
def yX0_sendLog : MethodName := ⟨RX0, "sendLog", "(II)I"⟩
abbrev cX0_commonLength : ByteArray := prog_2_method_12_code
def yX0_commonLength : MethodName := ⟨RX0, "commonLength", "(II)I"⟩
abbrev cX0_cutAt : ByteArray := prog_2_method_13_code
def yX0_cutAt : MethodName := ⟨RX0, "cutAt", "(II)V"⟩
abbrev cX0_copyRest : ByteArray := prog_2_method_14_code
def yX0_copyRest : MethodName := ⟨RX0, "copyRest", "(II)I"⟩
abbrev cX0_append : ByteArray := prog_2_method_15_code
def yX0_append : MethodName := ⟨RX0, "append", "(II)V"⟩
abbrev cX0_judgeHeld : ByteArray := prog_2_method_16_code
def yX0_judgeHeld : MethodName := ⟨RX0, "judgeHeld", "(I)V"⟩
def RX1 : String := "QuorumBakery$Batches"
def TX1 : u_T := fun k => match k with
  | 0 => ("QuorumBakery$Batches", "count", "I", false)
  | 1 => ("QuorumBakery$Batches", "versionRow", "[I", true)
  | 2 => ("QuorumBakery$Batches", "lotSets", "[I", true)
  | 3 => ("QuorumBakery$Batches", "leftRow", "[I", true)
  | _ => ("QuorumBakery$Batches", "soldRow", "[I", true)
def tyX1 : Nat → FieldType := fun k => match k with
  | 0 => .int
  | 1 => .array .int
  | 2 => .array .int
  | 3 => .array .int
  | _ => .array .int
abbrev wsX10 : List Cond := u_ws RX1 TX1 5
theorem nmX1 : ∀ a, a < 5 → ∀ b, b < 5 → a ≠ b → (TX1 a).2.1 ≠ (TX1 b).2.1 := by decide +kernel
theorem tyX1_ok : ∀ k, k < 5 → parseFieldDescriptor (TX1 k).2.2.1 = some (tyX1 k) := by decide +kernel
abbrev cX1_init : ByteArray := prog_3_method_1_code
def yX1_init : MethodName := ⟨RX1, "<init>", "()V"⟩
abbrev cX1_add : ByteArray := prog_3_method_2_code
def yX1_add : MethodName := ⟨RX1, "add", "(III)V"⟩
def RX2 : String := "QuorumBakery$Flour"
def TX2 : u_T := fun k => match k with
  | 0 => ("QuorumBakery$Flour", "lotCount", "I", false)
  | 1 => ("QuorumBakery$Flour", "condemned", "I", false)
  | 2 => ("QuorumBakery$Flour", "stores", "[[I", true)
  | _ => ("QuorumBakery$Flour", "bagCounts", "[I", true)
def tyX2 : Nat → FieldType := fun k => match k with
  | 0 => .int
  | 1 => .int
  | 2 => .array (.array .int)
  | _ => .array .int
abbrev wsX20 : List Cond := u_ws RX2 TX2 4
theorem nmX2 : ∀ a, a < 4 → ∀ b, b < 4 → a ≠ b → (TX2 a).2.1 ≠ (TX2 b).2.1 := by decide +kernel
theorem tyX2_ok : ∀ k, k < 4 → parseFieldDescriptor (TX2 k).2.2.1 = some (tyX2 k) := by decide +kernel
abbrev cX2_init : ByteArray := prog_4_method_1_code
def yX2_init : MethodName := ⟨RX2, "<init>", "()V"⟩
abbrev cX2_bring : ByteArray := prog_4_method_2_code
def yX2_bring : MethodName := ⟨RX2, "bring", "(III)V"⟩
abbrev cX2_takeFirst : ByteArray := prog_4_method_3_code
def yX2_takeFirst : MethodName := ⟨RX2, "takeFirst", "(II)I"⟩
abbrev cX2_throwOut : ByteArray := prog_4_method_4_code
def yX2_throwOut : MethodName := ⟨RX2, "throwOut", "(I)V"⟩
abbrev cX2_throwOutOf : ByteArray := prog_4_method_5_code
def yX2_throwOutOf : MethodName := ⟨RX2, "throwOutOf", "(II)V"⟩
def RX3 : String := "QuorumBakery$History"
def TX3 : u_T := fun k => match k with
  | 0 => ("QuorumBakery$History", "count", "I", false)
  | 1 => ("QuorumBakery$History", "kinds", "[I", true)
  | 2 => ("QuorumBakery$History", "firsts", "[I", true)
  | _ => ("QuorumBakery$History", "seconds", "[I", true)
def tyX3 : Nat → FieldType := fun k => match k with
  | 0 => .int
  | 1 => .array .int
  | 2 => .array .int
  | _ => .array .int
abbrev wsX30 : List Cond := u_ws RX3 TX3 4
theorem nmX3 : ∀ a, a < 4 → ∀ b, b < 4 → a ≠ b → (TX3 a).2.1 ≠ (TX3 b).2.1 := by decide +kernel
theorem tyX3_ok : ∀ k, k < 4 → parseFieldDescriptor (TX3 k).2.2.1 = some (tyX3 k) := by decide +kernel
abbrev cX3_init : ByteArray := prog_5_method_1_code
def yX3_init : MethodName := ⟨RX3, "<init>", "()V"⟩
abbrev cX3_add : ByteArray := prog_5_method_2_code
def yX3_add : MethodName := ⟨RX3, "add", "(III)V"⟩
def RX4 : String := "QuorumBakery$Ovens"
def TX4 : u_T := fun k => match k with
  | 0 => ("QuorumBakery$Ovens", "now", "I", false)
  | 1 => ("QuorumBakery$Ovens", "slots", "[[I", true)
  | _ => ("QuorumBakery$Ovens", "missedCounts", "[I", true)
def tyX4 : Nat → FieldType := fun k => match k with
  | 0 => .int
  | 1 => .array (.array .int)
  | _ => .array .int
abbrev wsX40 : List Cond := u_ws RX4 TX4 3
theorem nmX4 : ∀ a, a < 3 → ∀ b, b < 3 → a ≠ b → (TX4 a).2.1 ≠ (TX4 b).2.1 := by decide +kernel
theorem tyX4_ok : ∀ k, k < 3 → parseFieldDescriptor (TX4 k).2.2.1 = some (tyX4 k) := by decide +kernel
abbrev cX4_init : ByteArray := prog_6_method_1_code
def yX4_init : MethodName := ⟨RX4, "<init>", "()V"⟩
abbrev cX4_slotAt : ByteArray := prog_6_method_2_code
def yX4_slotAt : MethodName := ⟨RX4, "slotAt", "(II)I"⟩
abbrev cX4_setSlot : ByteArray := prog_6_method_3_code
def yX4_setSlot : MethodName := ⟨RX4, "setSlot", "(III)V"⟩
def RX5 : String := "QuorumBakery$Recalls"
def TX5 : u_T := fun k => match k with
  | 0 => ("QuorumBakery$Recalls", "count", "I", false)
  | 1 => ("QuorumBakery$Recalls", "batchRow", "[I", true)
  | 2 => ("QuorumBakery$Recalls", "loafRow", "[I", true)
  | _ => ("QuorumBakery$Recalls", "reasonRow", "[I", true)
def tyX5 : Nat → FieldType := fun k => match k with
  | 0 => .int
  | 1 => .array .int
  | 2 => .array .int
  | _ => .array .int
abbrev wsX50 : List Cond := u_ws RX5 TX5 4
theorem nmX5 : ∀ a, a < 4 → ∀ b, b < 4 → a ≠ b → (TX5 a).2.1 ≠ (TX5 b).2.1 := by decide +kernel
theorem tyX5_ok : ∀ k, k < 4 → parseFieldDescriptor (TX5 k).2.2.1 = some (tyX5 k) := by decide +kernel
abbrev cX5_init : ByteArray := prog_7_method_1_code
def yX5_init : MethodName := ⟨RX5, "<init>", "()V"⟩
abbrev cX5_write : ByteArray := prog_7_method_2_code
def yX5_write : MethodName := ⟨RX5, "write", "(III)V"⟩
def RX6 : String := "QuorumBakery$Recipes"
def TX6 : u_T := fun k => match k with
  | 0 => ("QuorumBakery$Recipes", "recipeOf", "[I", true)
  | 1 => ("QuorumBakery$Recipes", "bagsOf", "[I", true)
  | _ => ("QuorumBakery$Recipes", "loavesOf", "[I", true)
def tyX6 : Nat → FieldType := fun k => match k with
  | 0 => .array .int
  | 1 => .array .int
  | _ => .array .int
abbrev wsX60 : List Cond := u_ws RX6 TX6 3
theorem nmX6 : ∀ a, a < 3 → ∀ b, b < 3 → a ≠ b → (TX6 a).2.1 ≠ (TX6 b).2.1 := by decide +kernel
theorem tyX6_ok : ∀ k, k < 3 → parseFieldDescriptor (TX6 k).2.2.1 = some (tyX6 k) := by decide +kernel
abbrev cX6_init : ByteArray := prog_8_method_1_code
def yX6_init : MethodName := ⟨RX6, "<init>", "()V"⟩
abbrev cX6_note : ByteArray := prog_8_method_2_code
def yX6_note : MethodName := ⟨RX6, "note", "(IIII)V"⟩
def RX7 : String := "QuorumBakery"
def TX7 : u_T := fun k => match k with
  | 0 => ("QuorumBakery", "agreement", "LQuorumBakery$Agreement;", true)
  | 1 => ("QuorumBakery", "anew", "LQuorumBakery$Agreement;", true)
  | 2 => ("QuorumBakery", "history", "LQuorumBakery$History;", true)
  | 3 => ("QuorumBakery", "recipes", "LQuorumBakery$Recipes;", true)
  | 4 => ("QuorumBakery", "flour", "LQuorumBakery$Flour;", true)
  | 5 => ("QuorumBakery", "ovens", "LQuorumBakery$Ovens;", true)
  | 6 => ("QuorumBakery", "batches", "LQuorumBakery$Batches;", true)
  | _ => ("QuorumBakery", "recalls", "LQuorumBakery$Recalls;", true)
def tyX7 : Nat → FieldType := fun k => match k with
  | 0 => .object "QuorumBakery$Agreement"
  | 1 => .object "QuorumBakery$Agreement"
  | 2 => .object "QuorumBakery$History"
  | 3 => .object "QuorumBakery$Recipes"
  | 4 => .object "QuorumBakery$Flour"
  | 5 => .object "QuorumBakery$Ovens"
  | 6 => .object "QuorumBakery$Batches"
  | _ => .object "QuorumBakery$Recalls"
abbrev wsX70 : List Cond := u_ws RX7 TX7 8
theorem nmX7 : ∀ a, a < 8 → ∀ b, b < 8 → a ≠ b → (TX7 a).2.1 ≠ (TX7 b).2.1 := by decide +kernel
theorem tyX7_ok : ∀ k, k < 8 → parseFieldDescriptor (TX7 k).2.2.1 = some (tyX7 k) := by decide +kernel
abbrev cX7_init : ByteArray := prog_1_method_1_code
def yX7_init : MethodName := ⟨RX7, "<init>", "()V"⟩
abbrev cX7_part : ByteArray := prog_1_method_2_code
def yX7_part : MethodName := ⟨RX7, "part", "(I)I"⟩
abbrev cX7_stand : ByteArray := prog_1_method_3_code
def yX7_stand : MethodName := ⟨RX7, "stand", "(I)I"⟩
abbrev cX7_vote : ByteArray := prog_1_method_4_code
def yX7_vote : MethodName := ⟨RX7, "vote", "(II)Z"⟩
abbrev cX7_propose : ByteArray := prog_1_method_5_code
def yX7_propose : MethodName := ⟨RX7, "propose", "(IIII)I"⟩
abbrev cX7_tell : ByteArray := prog_1_method_6_code
def yX7_tell : MethodName := ⟨RX7, "tell", "(II)I"⟩
abbrev cX7_role : ByteArray := prog_1_method_7_code
def yX7_role : MethodName := ⟨RX7, "role", "(I)I"⟩
abbrev cX7_term : ByteArray := prog_1_method_8_code
def yX7_term : MethodName := ⟨RX7, "term", "(I)I"⟩
abbrev cX7_votedFor : ByteArray := prog_1_method_9_code
def yX7_votedFor : MethodName := ⟨RX7, "votedFor", "(I)I"⟩
abbrev cX7_reach : ByteArray := prog_1_method_10_code
def yX7_reach : MethodName := ⟨RX7, "reach", "(II)Z"⟩
abbrev cX7_entries : ByteArray := prog_1_method_11_code
def yX7_entries : MethodName := ⟨RX7, "entries", "(I)I"⟩
abbrev cX7_versionAt : ByteArray := prog_1_method_12_code
def yX7_versionAt : MethodName := ⟨RX7, "versionAt", "(II)I"⟩
abbrev cX7_versions : ByteArray := prog_1_method_13_code
def yX7_versions : MethodName := ⟨RX7, "versions", "()I"⟩
abbrev cX7_termOf : ByteArray := prog_1_method_14_code
def yX7_termOf : MethodName := ⟨RX7, "termOf", "(I)I"⟩
abbrev cX7_holders : ByteArray := prog_1_method_15_code
def yX7_holders : MethodName := ⟨RX7, "holders", "(I)I"⟩
abbrev cX7_isHeld : ByteArray := prog_1_method_16_code
def yX7_isHeld : MethodName := ⟨RX7, "isHeld", "(I)Z"⟩
abbrev cX7_wasHeld : ByteArray := prog_1_method_17_code
def yX7_wasHeld : MethodName := ⟨RX7, "wasHeld", "(I)Z"⟩
abbrev cX7_current : ByteArray := prog_1_method_18_code
def yX7_current : MethodName := ⟨RX7, "current", "(II)I"⟩
abbrev cX7_addLot : ByteArray := prog_1_method_19_code
def yX7_addLot : MethodName := ⟨RX7, "addLot", "()I"⟩
abbrev cX7_deliver : ByteArray := prog_1_method_20_code
def yX7_deliver : MethodName := ⟨RX7, "deliver", "(III)I"⟩
abbrev cX7_condemn : ByteArray := prog_1_method_21_code
def yX7_condemn : MethodName := ⟨RX7, "condemn", "(I)I"⟩
abbrev cX7_store : ByteArray := prog_1_method_22_code
def yX7_store : MethodName := ⟨RX7, "store", "(I)I"⟩
abbrev cX7_book : ByteArray := prog_1_method_23_code
def yX7_book : MethodName := ⟨RX7, "book", "(III)I"⟩
abbrev cX7_renew : ByteArray := prog_1_method_24_code
def yX7_renew : MethodName := ⟨RX7, "renew", "(II)I"⟩
abbrev cX7_free : ByteArray := prog_1_method_25_code
def yX7_free : MethodName := ⟨RX7, "free", "(II)I"⟩
abbrev cX7_booked : ByteArray := prog_1_method_26_code
def yX7_booked : MethodName := ⟨RX7, "booked", "(II)I"⟩
abbrev cX7_stopped : ByteArray := prog_1_method_27_code
def yX7_stopped : MethodName := ⟨RX7, "stopped", "()I"⟩
abbrev cX7_pass : ByteArray := prog_1_method_28_code
def yX7_pass : MethodName := ⟨RX7, "pass", "(I)I"⟩
abbrev cX7_time : ByteArray := prog_1_method_29_code
def yX7_time : MethodName := ⟨RX7, "time", "()I"⟩
abbrev cX7_missed : ByteArray := prog_1_method_30_code
def yX7_missed : MethodName := ⟨RX7, "missed", "(I)I"⟩
abbrev cX7_batches : ByteArray := prog_1_method_31_code
def yX7_batches : MethodName := ⟨RX7, "batches", "()I"⟩
abbrev cX7_versionOf : ByteArray := prog_1_method_32_code
def yX7_versionOf : MethodName := ⟨RX7, "versionOf", "(I)I"⟩
abbrev cX7_lotsOf : ByteArray := prog_1_method_33_code
def yX7_lotsOf : MethodName := ⟨RX7, "lotsOf", "(I)I"⟩
abbrev cX7_left : ByteArray := prog_1_method_34_code
def yX7_left : MethodName := ⟨RX7, "left", "(I)I"⟩
abbrev cX7_barred : ByteArray := prog_1_method_35_code
def yX7_barred : MethodName := ⟨RX7, "barred", "(I)I"⟩
abbrev cX7_barredAnew : ByteArray := prog_1_method_36_code
def yX7_barredAnew : MethodName := ⟨RX7, "barredAnew", "(I)I"⟩
abbrev cX7_sell : ByteArray := prog_1_method_37_code
def yX7_sell : MethodName := ⟨RX7, "sell", "(II)I"⟩
abbrev cX7_onSale : ByteArray := prog_1_method_38_code
def yX7_onSale : MethodName := ⟨RX7, "onSale", "()I"⟩
abbrev cX7_traced : ByteArray := prog_1_method_39_code
def yX7_traced : MethodName := ⟨RX7, "traced", "(I)I"⟩
abbrev cX7_tracedAt : ByteArray := prog_1_method_40_code
def yX7_tracedAt : MethodName := ⟨RX7, "tracedAt", "(II)I"⟩
abbrev cX7_recalls : ByteArray := prog_1_method_41_code
def yX7_recalls : MethodName := ⟨RX7, "recalls", "()I"⟩
abbrev cX7_recallOf : ByteArray := prog_1_method_42_code
def yX7_recallOf : MethodName := ⟨RX7, "recallOf", "(I)I"⟩
abbrev cX7_calledBack : ByteArray := prog_1_method_43_code
def yX7_calledBack : MethodName := ⟨RX7, "calledBack", "(I)I"⟩
abbrev cX7_why : ByteArray := prog_1_method_44_code
def yX7_why : MethodName := ⟨RX7, "why", "(I)I"⟩
abbrev cX7_checkBakery : ByteArray := prog_1_method_45_code
def yX7_checkBakery : MethodName := ⟨RX7, "checkBakery", "(I)V"⟩
abbrev cX7_checkPair : ByteArray := prog_1_method_46_code
def yX7_checkPair : MethodName := ⟨RX7, "checkPair", "(II)V"⟩
abbrev cX7_checkReach : ByteArray := prog_1_method_47_code
def yX7_checkReach : MethodName := ⟨RX7, "checkReach", "(II)V"⟩
abbrev cX7_checkLeader : ByteArray := prog_1_method_48_code
def yX7_checkLeader : MethodName := ⟨RX7, "checkLeader", "(I)V"⟩
abbrev cX7_checkRecipe : ByteArray := prog_1_method_49_code
def yX7_checkRecipe : MethodName := ⟨RX7, "checkRecipe", "(I)V"⟩
abbrev cX7_checkVersion : ByteArray := prog_1_method_50_code
def yX7_checkVersion : MethodName := ⟨RX7, "checkVersion", "(I)V"⟩
abbrev cX7_checkLot : ByteArray := prog_1_method_51_code
def yX7_checkLot : MethodName := ⟨RX7, "checkLot", "(I)V"⟩
abbrev cX7_checkGood : ByteArray := prog_1_method_52_code
def yX7_checkGood : MethodName := ⟨RX7, "checkGood", "(I)V"⟩
abbrev cX7_checkHour : ByteArray := prog_1_method_53_code
def yX7_checkHour : MethodName := ⟨RX7, "checkHour", "(I)V"⟩
abbrev cX7_checkBooked : ByteArray := prog_1_method_54_code
def yX7_checkBooked : MethodName := ⟨RX7, "checkBooked", "(I)V"⟩
abbrev cX7_checkBatch : ByteArray := prog_1_method_55_code
def yX7_checkBatch : MethodName := ⟨RX7, "checkBatch", "(I)V"⟩
abbrev cX7_checkRecall : ByteArray := prog_1_method_56_code
def yX7_checkRecall : MethodName := ⟨RX7, "checkRecall", "(I)V"⟩
abbrev cX7_contains : ByteArray := prog_1_method_57_code
def yX7_contains : MethodName := ⟨RX7, "contains", "(JI)Z"⟩
abbrev cX7_findCurrent : ByteArray := prog_1_method_58_code
def yX7_findCurrent : MethodName := ⟨RX7, "findCurrent", "(II)I"⟩
abbrev cX7_putCurrent : ByteArray := prog_1_method_59_code
def yX7_putCurrent : MethodName := ⟨RX7, "putCurrent", "(III)I"⟩
abbrev cX7_passHour : ByteArray := prog_1_method_60_code
def yX7_passHour : MethodName := ⟨RX7, "passHour", "()I"⟩
abbrev cX7_canBake : ByteArray := prog_1_method_61_code
def yX7_canBake : MethodName := ⟨RX7, "canBake", "(II)Z"⟩
abbrev cX7_bake : ByteArray := prog_1_method_62_code
def yX7_bake : MethodName := ⟨RX7, "bake", "(II)V"⟩
abbrev cX7_barredUnder : ByteArray := prog_1_method_63_code
def yX7_barredUnder : MethodName := ⟨RX7, "barredUnder", "(LQuorumBakery$Agreement;I)I"⟩
abbrev cX7_callBackUnheld : ByteArray := prog_1_method_64_code
def yX7_callBackUnheld : MethodName := ⟨RX7, "callBackUnheld", "(J)V"⟩
abbrev cX7_callBackVersion : ByteArray := prog_1_method_65_code
def yX7_callBackVersion : MethodName := ⟨RX7, "callBackVersion", "(I)V"⟩
abbrev cX7_callBackLot : ByteArray := prog_1_method_66_code
def yX7_callBackLot : MethodName := ⟨RX7, "callBackLot", "(I)I"⟩
abbrev cX7_callBackBatch : ByteArray := prog_1_method_67_code
def yX7_callBackBatch : MethodName := ⟨RX7, "callBackBatch", "(II)I"⟩
abbrev cX7_repeatHistory : ByteArray := prog_1_method_68_code
def yX7_repeatHistory : MethodName := ⟨RX7, "repeatHistory", "()V"⟩
abbrev cX7_repeatCall : ByteArray := prog_1_method_69_code
def yX7_repeatCall : MethodName := ⟨RX7, "repeatCall", "(III)V"⟩
def RX8 : String := "QuorumBakeryModel"
def TX8 : u_T := fun k => match k with
  | 0 => ("QuorumBakeryModel", "group", "I", false)
  | 1 => ("QuorumBakeryModel", "terms", "[I", true)
  | 2 => ("QuorumBakeryModel", "roles", "[I", true)
  | 3 => ("QuorumBakeryModel", "voted", "[I", true)
  | 4 => ("QuorumBakeryModel", "ballots", "[I", true)
  | 5 => ("QuorumBakeryModel", "logs", "[I", true)
  | 6 => ("QuorumBakeryModel", "sizes", "[I", true)
  | 7 => ("QuorumBakeryModel", "versions", "I", false)
  | 8 => ("QuorumBakeryModel", "versionTerms", "[I", true)
  | 9 => ("QuorumBakeryModel", "recipes", "[I", true)
  | 10 => ("QuorumBakeryModel", "bags", "[I", true)
  | 11 => ("QuorumBakeryModel", "loaves", "[I", true)
  | 12 => ("QuorumBakeryModel", "were", "[I", true)
  | 13 => ("QuorumBakeryModel", "before", "[I", true)
  | 14 => ("QuorumBakeryModel", "time", "I", false)
  | 15 => ("QuorumBakeryModel", "slots", "[I", true)
  | 16 => ("QuorumBakeryModel", "lots", "I", false)
  | 17 => ("QuorumBakeryModel", "condemned", "[I", true)
  | 18 => ("QuorumBakeryModel", "stores", "[I", true)
  | 19 => ("QuorumBakeryModel", "stored", "[I", true)
  | 20 => ("QuorumBakeryModel", "missed", "[I", true)
  | 21 => ("QuorumBakeryModel", "batches", "I", false)
  | 22 => ("QuorumBakeryModel", "batchVersions", "[I", true)
  | 23 => ("QuorumBakeryModel", "batchLots", "[I", true)
  | 24 => ("QuorumBakeryModel", "left", "[I", true)
  | 25 => ("QuorumBakeryModel", "out", "[I", true)
  | 26 => ("QuorumBakeryModel", "recalls", "I", false)
  | 27 => ("QuorumBakeryModel", "recallBatches", "[I", true)
  | 28 => ("QuorumBakeryModel", "recallLoaves", "[I", true)
  | 29 => ("QuorumBakeryModel", "reasons", "[I", true)
  | _ => ("QuorumBakeryModel", "thrown", "I", false)
def tyX8 : Nat → FieldType := fun k => match k with
  | 0 => .int
  | 1 => .array .int
  | 2 => .array .int
  | 3 => .array .int
  | 4 => .array .int
  | 5 => .array .int
  | 6 => .array .int
  | 7 => .int
  | 8 => .array .int
  | 9 => .array .int
  | 10 => .array .int
  | 11 => .array .int
  | 12 => .array .int
  | 13 => .array .int
  | 14 => .int
  | 15 => .array .int
  | 16 => .int
  | 17 => .array .int
  | 18 => .array .int
  | 19 => .array .int
  | 20 => .array .int
  | 21 => .int
  | 22 => .array .int
  | 23 => .array .int
  | 24 => .array .int
  | 25 => .array .int
  | 26 => .int
  | 27 => .array .int
  | 28 => .array .int
  | 29 => .array .int
  | _ => .int
abbrev wsX80 : List Cond := u_ws RX8 TX8 31
theorem nmX8 : ∀ a, a < 31 → ∀ b, b < 31 → a ≠ b → (TX8 a).2.1 ≠ (TX8 b).2.1 := by decide +kernel
theorem tyX8_ok : ∀ k, k < 31 → parseFieldDescriptor (TX8 k).2.2.1 = some (tyX8 k) := by decide +kernel
abbrev cX8_init : ByteArray := prog_10_method_1_code
def yX8_init : MethodName := ⟨RX8, "<init>", "()V"⟩
abbrev cX8_thrown : ByteArray := prog_10_method_2_code
def yX8_thrown : MethodName := ⟨RX8, "thrown", "()I"⟩
abbrev cX8_fails : ByteArray := prog_10_method_3_code
def yX8_fails : MethodName := ⟨RX8, "fails", "(I)I"⟩
abbrev cX8_in : ByteArray := prog_10_method_4_code
def yX8_in : MethodName := ⟨RX8, "in", "(III)Z"⟩
abbrev cX8_isBakery : ByteArray := prog_10_method_5_code
def yX8_isBakery : MethodName := ⟨RX8, "isBakery", "(I)Z"⟩
abbrev cX8_areTogether : ByteArray := prog_10_method_6_code
def yX8_areTogether : MethodName := ⟨RX8, "areTogether", "(II)Z"⟩
abbrev cX8_part : ByteArray := prog_10_method_7_code
def yX8_part : MethodName := ⟨RX8, "part", "(I)I"⟩
abbrev cX8_takes : ByteArray := prog_10_method_8_code
def yX8_takes : MethodName := ⟨RX8, "takes", "(II)V"⟩
abbrev cX8_stand : ByteArray := prog_10_method_9_code
def yX8_stand : MethodName := ⟨RX8, "stand", "(I)I"⟩
abbrev cX8_lastTerm : ByteArray := prog_10_method_10_code
def yX8_lastTerm : MethodName := ⟨RX8, "lastTerm", "(I)I"⟩
abbrev cX8_isBetter : ByteArray := prog_10_method_11_code
def yX8_isBetter : MethodName := ⟨RX8, "isBetter", "(II)Z"⟩
abbrev cX8_reachCheck : ByteArray := prog_10_method_12_code
def yX8_reachCheck : MethodName := ⟨RX8, "reachCheck", "(III)I"⟩
abbrev cX8_vote : ByteArray := prog_10_method_13_code
def yX8_vote : MethodName := ⟨RX8, "vote", "(II)Z"⟩
abbrev cX8_propose : ByteArray := prog_10_method_14_code
def yX8_propose : MethodName := ⟨RX8, "propose", "(IIII)I"⟩
abbrev cX8_holdersOf : ByteArray := prog_10_method_15_code
def yX8_holdersOf : MethodName := ⟨RX8, "holdersOf", "(I)I"⟩
abbrev cX8_isHeldNow : ByteArray := prog_10_method_16_code
def yX8_isHeldNow : MethodName := ⟨RX8, "isHeldNow", "(I)Z"⟩
abbrev cX8_callsBack : ByteArray := prog_10_method_17_code
def yX8_callsBack : MethodName := ⟨RX8, "callsBack", "(II)I"⟩
abbrev cX8_callsBackVersions : ByteArray := prog_10_method_18_code
def yX8_callsBackVersions : MethodName := ⟨RX8, "callsBackVersions", "()V"⟩
abbrev cX8_tell : ByteArray := prog_10_method_19_code
def yX8_tell : MethodName := ⟨RX8, "tell", "(II)I"⟩
abbrev cX8_isTold : ByteArray := prog_10_method_20_code
def yX8_isTold : MethodName := ⟨RX8, "isTold", "(I)Z"⟩
abbrev cX8_role : ByteArray := prog_10_method_21_code
def yX8_role : MethodName := ⟨RX8, "role", "(I)I"⟩
abbrev cX8_term : ByteArray := prog_10_method_22_code
def yX8_term : MethodName := ⟨RX8, "term", "(I)I"⟩
abbrev cX8_votedFor : ByteArray := prog_10_method_23_code
def yX8_votedFor : MethodName := ⟨RX8, "votedFor", "(I)I"⟩
abbrev cX8_reach : ByteArray := prog_10_method_24_code
def yX8_reach : MethodName := ⟨RX8, "reach", "(II)Z"⟩
abbrev cX8_entries : ByteArray := prog_10_method_25_code
def yX8_entries : MethodName := ⟨RX8, "entries", "(I)I"⟩
abbrev cX8_versionAt : ByteArray := prog_10_method_26_code
def yX8_versionAt : MethodName := ⟨RX8, "versionAt", "(II)I"⟩
abbrev cX8_versions : ByteArray := prog_10_method_27_code
def yX8_versions : MethodName := ⟨RX8, "versions", "()I"⟩
abbrev cX8_isVersion : ByteArray := prog_10_method_28_code
def yX8_isVersion : MethodName := ⟨RX8, "isVersion", "(I)Z"⟩
abbrev cX8_termOf : ByteArray := prog_10_method_29_code
def yX8_termOf : MethodName := ⟨RX8, "termOf", "(I)I"⟩
abbrev cX8_holders : ByteArray := prog_10_method_30_code
def yX8_holders : MethodName := ⟨RX8, "holders", "(I)I"⟩
abbrev cX8_isHeld : ByteArray := prog_10_method_31_code
def yX8_isHeld : MethodName := ⟨RX8, "isHeld", "(I)Z"⟩
abbrev cX8_wasHeld : ByteArray := prog_10_method_32_code
def yX8_wasHeld : MethodName := ⟨RX8, "wasHeld", "(I)Z"⟩
abbrev cX8_currentOf : ByteArray := prog_10_method_33_code
def yX8_currentOf : MethodName := ⟨RX8, "currentOf", "(II)I"⟩
abbrev cX8_current : ByteArray := prog_10_method_34_code
def yX8_current : MethodName := ⟨RX8, "current", "(II)I"⟩
abbrev cX8_addLot : ByteArray := prog_10_method_35_code
def yX8_addLot : MethodName := ⟨RX8, "addLot", "()I"⟩
abbrev cX8_isLot : ByteArray := prog_10_method_36_code
def yX8_isLot : MethodName := ⟨RX8, "isLot", "(I)Z"⟩
abbrev cX8_deliver : ByteArray := prog_10_method_37_code
def yX8_deliver : MethodName := ⟨RX8, "deliver", "(III)I"⟩
abbrev cX8_throwsOut : ByteArray := prog_10_method_38_code
def yX8_throwsOut : MethodName := ⟨RX8, "throwsOut", "(II)V"⟩
abbrev cX8_condemn : ByteArray := prog_10_method_39_code
def yX8_condemn : MethodName := ⟨RX8, "condemn", "(I)I"⟩
abbrev cX8_store : ByteArray := prog_10_method_40_code
def yX8_store : MethodName := ⟨RX8, "store", "(I)I"⟩
abbrev cX8_isHour : ByteArray := prog_10_method_41_code
def yX8_isHour : MethodName := ⟨RX8, "isHour", "(I)Z"⟩
abbrev cX8_book : ByteArray := prog_10_method_42_code
def yX8_book : MethodName := ⟨RX8, "book", "(III)I"⟩
abbrev cX8_renew : ByteArray := prog_10_method_43_code
def yX8_renew : MethodName := ⟨RX8, "renew", "(II)I"⟩
abbrev cX8_free : ByteArray := prog_10_method_44_code
def yX8_free : MethodName := ⟨RX8, "free", "(II)I"⟩
abbrev cX8_booked : ByteArray := prog_10_method_45_code
def yX8_booked : MethodName := ⟨RX8, "booked", "(II)I"⟩
abbrev cX8_stopped : ByteArray := prog_10_method_46_code
def yX8_stopped : MethodName := ⟨RX8, "stopped", "()I"⟩
abbrev cX8_bakes : ByteArray := prog_10_method_47_code
def yX8_bakes : MethodName := ⟨RX8, "bakes", "(II)Z"⟩
abbrev cX8_pass : ByteArray := prog_10_method_48_code
def yX8_pass : MethodName := ⟨RX8, "pass", "(I)I"⟩
abbrev cX8_time : ByteArray := prog_10_method_49_code
def yX8_time : MethodName := ⟨RX8, "time", "()I"⟩
abbrev cX8_missed : ByteArray := prog_10_method_50_code
def yX8_missed : MethodName := ⟨RX8, "missed", "(I)I"⟩
abbrev cX8_batches : ByteArray := prog_10_method_51_code
def yX8_batches : MethodName := ⟨RX8, "batches", "()I"⟩
abbrev cX8_isBatch : ByteArray := prog_10_method_52_code
def yX8_isBatch : MethodName := ⟨RX8, "isBatch", "(I)Z"⟩
abbrev cX8_versionOf : ByteArray := prog_10_method_53_code
def yX8_versionOf : MethodName := ⟨RX8, "versionOf", "(I)I"⟩
abbrev cX8_lotsOf : ByteArray := prog_10_method_54_code
def yX8_lotsOf : MethodName := ⟨RX8, "lotsOf", "(I)I"⟩
abbrev cX8_left : ByteArray := prog_10_method_55_code
def yX8_left : MethodName := ⟨RX8, "left", "(I)I"⟩
abbrev cX8_barredBy : ByteArray := prog_10_method_56_code
def yX8_barredBy : MethodName := ⟨RX8, "barredBy", "(I)I"⟩
abbrev cX8_barred : ByteArray := prog_10_method_57_code
def yX8_barred : MethodName := ⟨RX8, "barred", "(I)I"⟩
abbrev cX8_barredAnew : ByteArray := prog_10_method_58_code
def yX8_barredAnew : MethodName := ⟨RX8, "barredAnew", "(I)I"⟩
abbrev cX8_sell : ByteArray := prog_10_method_59_code
def yX8_sell : MethodName := ⟨RX8, "sell", "(II)I"⟩
abbrev cX8_onSale : ByteArray := prog_10_method_60_code
def yX8_onSale : MethodName := ⟨RX8, "onSale", "()I"⟩
abbrev cX8_traced : ByteArray := prog_10_method_61_code
def yX8_traced : MethodName := ⟨RX8, "traced", "(I)I"⟩
abbrev cX8_tracedAt : ByteArray := prog_10_method_62_code
def yX8_tracedAt : MethodName := ⟨RX8, "tracedAt", "(II)I"⟩
abbrev cX8_recalls : ByteArray := prog_10_method_63_code
def yX8_recalls : MethodName := ⟨RX8, "recalls", "()I"⟩
abbrev cX8_isRecall : ByteArray := prog_10_method_64_code
def yX8_isRecall : MethodName := ⟨RX8, "isRecall", "(I)Z"⟩
abbrev cX8_recallOf : ByteArray := prog_10_method_65_code
def yX8_recallOf : MethodName := ⟨RX8, "recallOf", "(I)I"⟩
abbrev cX8_calledBack : ByteArray := prog_10_method_66_code
def yX8_calledBack : MethodName := ⟨RX8, "calledBack", "(I)I"⟩
abbrev cX8_why : ByteArray := prog_10_method_67_code
def yX8_why : MethodName := ⟨RX8, "why", "(I)I"⟩
def RJ6 : String := "java/lang/Integer"
def TJ6 : u_T := fun k => match k with
  | _ => ("", "", "", false)
def tyJ6 : Nat → FieldType := fun k => match k with
  | _ => .int
theorem nmJ6 : ∀ a, a < 0 → ∀ b, b < 0 → a ≠ b → (TJ6 a).2.1 ≠ (TJ6 b).2.1 := by decide +kernel
theorem tyJ6_ok : ∀ k, k < 0 → parseFieldDescriptor (TJ6 k).2.2.1 = some (tyJ6 k) := by decide +kernel
abbrev cJ6_bitCount_0f7a4 : ByteArray := prog_15_method_49_code
def yJ6_bitCount_0f7a4 : MethodName := ⟨RJ6, "bitCount", "(I)I"⟩
def RJ9 : String := "java/lang/Math"
def TJ9 : u_T := fun k => match k with
  | _ => ("", "", "", false)
def tyJ9 : Nat → FieldType := fun k => match k with
  | _ => .int
theorem nmJ9 : ∀ a, a < 0 → ∀ b, b < 0 → a ≠ b → (TJ9 a).2.1 ≠ (TJ9 b).2.1 := by decide +kernel
theorem tyJ9_ok : ∀ k, k < 0 → parseFieldDescriptor (TJ9 k).2.2.1 = some (tyJ9 k) := by decide +kernel
abbrev cJ9_min_7cf53 : ByteArray := prog_16_method_69_code
def yJ9_min_7cf53 : MethodName := ⟨RJ9, "min", "(II)I"⟩
def RJ0 : String := "java/lang/String"
def TJ0 : u_T := fun k => match k with
  | _ => ("", "", "", false)
def tyJ0 : Nat → FieldType := fun k => match k with
  | _ => .int
theorem nmJ0 : ∀ a, a < 0 → ∀ b, b < 0 → a ≠ b → (TJ0 a).2.1 ≠ (TJ0 b).2.1 := by decide +kernel
theorem tyJ0_ok : ∀ k, k < 0 → parseFieldDescriptor (TJ0 k).2.2.1 = some (tyJ0 k) := by decide +kernel
def RJ7 : String := "java/util/Arrays"
def TJ7 : u_T := fun k => match k with
  | _ => ("", "", "", false)
def tyJ7 : Nat → FieldType := fun k => match k with
  | _ => .int
theorem nmJ7 : ∀ a, a < 0 → ∀ b, b < 0 → a ≠ b → (TJ7 a).2.1 ≠ (TJ7 b).2.1 := by decide +kernel
theorem tyJ7_ok : ∀ k, k < 0 → parseFieldDescriptor (TJ7 k).2.2.1 = some (tyJ7 k) := by decide +kernel
abbrev cJ7_fill_53178 : ByteArray := prog_20_method_103_code
def yJ7_fill_53178 : MethodName := ⟨RJ7, "fill", "([II)V"⟩
def RL : String := "QuorumBakeryLaw"
abbrev cL_part : ByteArray := method_3_code
def yL_part : MethodName := ⟨RL, "part", "(LQuorumBakery;I[J)I"⟩
abbrev cL_stand : ByteArray := method_4_code
def yL_stand : MethodName := ⟨RL, "stand", "(LQuorumBakery;I[J)I"⟩
abbrev cL_vote : ByteArray := method_5_code
def yL_vote : MethodName := ⟨RL, "vote", "(LQuorumBakery;II[J)I"⟩
abbrev cL_propose : ByteArray := method_6_code
def yL_propose : MethodName := ⟨RL, "propose", "(LQuorumBakery;IIII[J)I"⟩
abbrev cL_tell : ByteArray := method_7_code
def yL_tell : MethodName := ⟨RL, "tell", "(LQuorumBakery;II[J)I"⟩
abbrev cL_role : ByteArray := method_8_code
def yL_role : MethodName := ⟨RL, "role", "(LQuorumBakery;I[J)I"⟩
abbrev cL_term : ByteArray := method_9_code
def yL_term : MethodName := ⟨RL, "term", "(LQuorumBakery;I[J)I"⟩
abbrev cL_votedFor : ByteArray := method_10_code
def yL_votedFor : MethodName := ⟨RL, "votedFor", "(LQuorumBakery;I[J)I"⟩
abbrev cL_reach : ByteArray := method_11_code
def yL_reach : MethodName := ⟨RL, "reach", "(LQuorumBakery;II[J)I"⟩
abbrev cL_entries : ByteArray := method_12_code
def yL_entries : MethodName := ⟨RL, "entries", "(LQuorumBakery;I[J)I"⟩
abbrev cL_versionAt : ByteArray := method_13_code
def yL_versionAt : MethodName := ⟨RL, "versionAt", "(LQuorumBakery;II[J)I"⟩
abbrev cL_termOf : ByteArray := method_14_code
def yL_termOf : MethodName := ⟨RL, "termOf", "(LQuorumBakery;I[J)I"⟩
abbrev cL_holders : ByteArray := method_15_code
def yL_holders : MethodName := ⟨RL, "holders", "(LQuorumBakery;I[J)I"⟩
abbrev cL_isHeld : ByteArray := method_16_code
def yL_isHeld : MethodName := ⟨RL, "isHeld", "(LQuorumBakery;I[J)I"⟩
abbrev cL_wasHeld : ByteArray := method_17_code
def yL_wasHeld : MethodName := ⟨RL, "wasHeld", "(LQuorumBakery;I[J)I"⟩
abbrev cL_current : ByteArray := method_18_code
def yL_current : MethodName := ⟨RL, "current", "(LQuorumBakery;II[J)I"⟩
abbrev cL_addLot : ByteArray := method_19_code
def yL_addLot : MethodName := ⟨RL, "addLot", "(LQuorumBakery;[J)I"⟩
abbrev cL_deliver : ByteArray := method_20_code
def yL_deliver : MethodName := ⟨RL, "deliver", "(LQuorumBakery;III[J)I"⟩
abbrev cL_condemn : ByteArray := method_21_code
def yL_condemn : MethodName := ⟨RL, "condemn", "(LQuorumBakery;I[J)I"⟩
abbrev cL_store : ByteArray := method_22_code
def yL_store : MethodName := ⟨RL, "store", "(LQuorumBakery;I[J)I"⟩
abbrev cL_book : ByteArray := method_23_code
def yL_book : MethodName := ⟨RL, "book", "(LQuorumBakery;III[J)I"⟩
abbrev cL_renew : ByteArray := method_24_code
def yL_renew : MethodName := ⟨RL, "renew", "(LQuorumBakery;II[J)I"⟩
abbrev cL_free : ByteArray := method_25_code
def yL_free : MethodName := ⟨RL, "free", "(LQuorumBakery;II[J)I"⟩
abbrev cL_booked : ByteArray := method_26_code
def yL_booked : MethodName := ⟨RL, "booked", "(LQuorumBakery;II[J)I"⟩
abbrev cL_pass : ByteArray := method_27_code
def yL_pass : MethodName := ⟨RL, "pass", "(LQuorumBakery;I[J)I"⟩
abbrev cL_missed : ByteArray := method_28_code
def yL_missed : MethodName := ⟨RL, "missed", "(LQuorumBakery;I[J)I"⟩
abbrev cL_versionOf : ByteArray := method_29_code
def yL_versionOf : MethodName := ⟨RL, "versionOf", "(LQuorumBakery;I[J)I"⟩
abbrev cL_lotsOf : ByteArray := method_30_code
def yL_lotsOf : MethodName := ⟨RL, "lotsOf", "(LQuorumBakery;I[J)I"⟩
abbrev cL_left : ByteArray := method_31_code
def yL_left : MethodName := ⟨RL, "left", "(LQuorumBakery;I[J)I"⟩
abbrev cL_barred : ByteArray := method_32_code
def yL_barred : MethodName := ⟨RL, "barred", "(LQuorumBakery;I[J)I"⟩
abbrev cL_barredAnew : ByteArray := method_33_code
def yL_barredAnew : MethodName := ⟨RL, "barredAnew", "(LQuorumBakery;I[J)I"⟩
abbrev cL_sell : ByteArray := method_34_code
def yL_sell : MethodName := ⟨RL, "sell", "(LQuorumBakery;II[J)I"⟩
abbrev cL_traced : ByteArray := method_35_code
def yL_traced : MethodName := ⟨RL, "traced", "(LQuorumBakery;I[J)I"⟩
abbrev cL_tracedAt : ByteArray := method_36_code
def yL_tracedAt : MethodName := ⟨RL, "tracedAt", "(LQuorumBakery;II[J)I"⟩
abbrev cL_recallOf : ByteArray := method_37_code
def yL_recallOf : MethodName := ⟨RL, "recallOf", "(LQuorumBakery;I[J)I"⟩
abbrev cL_calledBack : ByteArray := method_38_code
def yL_calledBack : MethodName := ⟨RL, "calledBack", "(LQuorumBakery;I[J)I"⟩
abbrev cL_why : ByteArray := method_39_code
def yL_why : MethodName := ⟨RL, "why", "(LQuorumBakery;I[J)I"⟩
abbrev cL_law : ByteArray := code
def yL_law : MethodName := ⟨RL, "law", "([I)Z"⟩
abbrev vwCl : List vw_C := [(RX0, TX0, 12), (RX1, TX1, 5), (RX2, TX2, 4), (RX3, TX3, 4), (RX4, TX4, 3), (RX5, TX5, 4), (RX6, TX6, 3), (RX7, TX7, 8), (RX8, TX8, 31)]
end
section
theorem dX0_init_0 : decode cX0_init 0 = .ok (.aload_n 0, 1) := by decide +kernel
theorem dX0_init_1 : decode cX0_init 1 = .ok (.invokespecial 3, 3) := by decide +kernel
theorem dX0_init_4 : decode cX0_init 4 = .ok (.aload_n 0, 1) := by decide +kernel
theorem dX0_init_5 : decode cX0_init 5 = .ok (.iconst 5, 1) := by decide +kernel
theorem dX0_init_6 : decode cX0_init 6 = .ok (.newarray .int, 2) := by decide +kernel
theorem dX0_init_8 : decode cX0_init 8 = .ok (.putfield 9, 3) := by decide +kernel
theorem dX0_init_11 : decode cX0_init 11 = .ok (.aload_n 0, 1) := by decide +kernel
theorem dX0_init_12 : decode cX0_init 12 = .ok (.iconst 5, 1) := by decide +kernel
theorem dX0_init_13 : decode cX0_init 13 = .ok (.newarray .int, 2) := by decide +kernel
theorem dX0_init_15 : decode cX0_init 15 = .ok (.putfield 15, 3) := by decide +kernel
theorem dX0_init_18 : decode cX0_init 18 = .ok (.aload_n 0, 1) := by decide +kernel
theorem dX0_init_19 : decode cX0_init 19 = .ok (.iconst 5, 1) := by decide +kernel
theorem dX0_init_20 : decode cX0_init 20 = .ok (.newarray .int, 2) := by decide +kernel
theorem dX0_init_22 : decode cX0_init 22 = .ok (.putfield 18, 3) := by decide +kernel
theorem dX0_init_25 : decode cX0_init 25 = .ok (.aload_n 0, 1) := by decide +kernel
theorem dX0_init_26 : decode cX0_init 26 = .ok (.iconst 5, 1) := by decide +kernel
theorem dX0_init_27 : decode cX0_init 27 = .ok (.newarray .int, 2) := by decide +kernel
theorem dX0_init_29 : decode cX0_init 29 = .ok (.putfield 21, 3) := by decide +kernel
theorem dX0_init_32 : decode cX0_init 32 = .ok (.aload_n 0, 1) := by decide +kernel
theorem dX0_init_33 : decode cX0_init 33 = .ok (.iconst 5, 1) := by decide +kernel
theorem dX0_init_34 : decode cX0_init 34 = .ok (.bipush 20, 2) := by decide +kernel
theorem dX0_init_36 : decode cX0_init 36 = .ok (.multianewarray 24 2, 4) := by decide +kernel
theorem dX0_init_40 : decode cX0_init 40 = .ok (.putfield 26, 3) := by decide +kernel
theorem dX0_init_43 : decode cX0_init 43 = .ok (.aload_n 0, 1) := by decide +kernel
theorem dX0_init_44 : decode cX0_init 44 = .ok (.iconst 5, 1) := by decide +kernel
theorem dX0_init_45 : decode cX0_init 45 = .ok (.newarray .int, 2) := by decide +kernel
theorem dX0_init_47 : decode cX0_init 47 = .ok (.putfield 29, 3) := by decide +kernel
theorem dX0_init_50 : decode cX0_init 50 = .ok (.aload_n 0, 1) := by decide +kernel
theorem dX0_init_51 : decode cX0_init 51 = .ok (.bipush 60, 2) := by decide +kernel
theorem dX0_init_53 : decode cX0_init 53 = .ok (.newarray .int, 2) := by decide +kernel
theorem dX0_init_55 : decode cX0_init 55 = .ok (.putfield 32, 3) := by decide +kernel
theorem dX0_init_58 : decode cX0_init 58 = .ok (.aload_n 0, 1) := by decide +kernel
theorem dX0_init_59 : decode cX0_init 59 = .ok (.bipush 60, 2) := by decide +kernel
theorem dX0_init_61 : decode cX0_init 61 = .ok (.newarray .int, 2) := by decide +kernel
theorem dX0_init_63 : decode cX0_init 63 = .ok (.putfield 35, 3) := by decide +kernel
theorem dX0_init_66 : decode cX0_init 66 = .ok (.aload_n 0, 1) := by decide +kernel
theorem dX0_init_67 : decode cX0_init 67 = .ok (.invokevirtual 38, 3) := by decide +kernel
theorem dX0_init_70 : decode cX0_init 70 = .ok (.return_, 1) := by decide +kernel
theorem dX0_begin_0 : decode cX0_begin 0 = .ok (.aload_n 0, 1) := by decide +kernel
theorem dX0_begin_1 : decode cX0_begin 1 = .ok (.iconst 0, 1) := by decide +kernel
theorem dX0_begin_2 : decode cX0_begin 2 = .ok (.putfield 41, 3) := by decide +kernel
theorem dX0_begin_5 : decode cX0_begin 5 = .ok (.aload_n 0, 1) := by decide +kernel
theorem dX0_begin_6 : decode cX0_begin 6 = .ok (.getfield 9, 3) := by decide +kernel
theorem dX0_begin_9 : decode cX0_begin 9 = .ok (.iconst 0, 1) := by decide +kernel
theorem dX0_begin_10 : decode cX0_begin 10 = .ok (.invokestatic 45, 3) := by decide +kernel
theorem dX0_begin_13 : decode cX0_begin 13 = .ok (.aload_n 0, 1) := by decide +kernel
theorem dX0_begin_14 : decode cX0_begin 14 = .ok (.getfield 15, 3) := by decide +kernel
theorem dX0_begin_17 : decode cX0_begin 17 = .ok (.iconst 0, 1) := by decide +kernel
theorem dX0_begin_18 : decode cX0_begin 18 = .ok (.invokestatic 45, 3) := by decide +kernel
theorem dX0_begin_21 : decode cX0_begin 21 = .ok (.aload_n 0, 1) := by decide +kernel
theorem dX0_begin_22 : decode cX0_begin 22 = .ok (.getfield 18, 3) := by decide +kernel
theorem dX0_begin_25 : decode cX0_begin 25 = .ok (.iconst (-1), 1) := by decide +kernel
theorem dX0_begin_26 : decode cX0_begin 26 = .ok (.invokestatic 45, 3) := by decide +kernel
theorem dX0_begin_29 : decode cX0_begin 29 = .ok (.aload_n 0, 1) := by decide +kernel
theorem dX0_begin_30 : decode cX0_begin 30 = .ok (.getfield 21, 3) := by decide +kernel
theorem dX0_begin_33 : decode cX0_begin 33 = .ok (.iconst 0, 1) := by decide +kernel
theorem dX0_begin_34 : decode cX0_begin 34 = .ok (.invokestatic 45, 3) := by decide +kernel
theorem dX0_begin_37 : decode cX0_begin 37 = .ok (.aload_n 0, 1) := by decide +kernel
theorem dX0_begin_38 : decode cX0_begin 38 = .ok (.getfield 29, 3) := by decide +kernel
theorem dX0_begin_41 : decode cX0_begin 41 = .ok (.iconst 0, 1) := by decide +kernel
theorem dX0_begin_42 : decode cX0_begin 42 = .ok (.invokestatic 45, 3) := by decide +kernel
theorem dX0_begin_45 : decode cX0_begin 45 = .ok (.aload_n 0, 1) := by decide +kernel
theorem dX0_begin_46 : decode cX0_begin 46 = .ok (.iconst 0, 1) := by decide +kernel
theorem dX0_begin_47 : decode cX0_begin 47 = .ok (.putfield 51, 3) := by decide +kernel
theorem dX0_begin_50 : decode cX0_begin 50 = .ok (.aload_n 0, 1) := by decide +kernel
theorem dX0_begin_51 : decode cX0_begin 51 = .ok (.lconst 0, 1) := by decide +kernel
theorem dX0_begin_52 : decode cX0_begin 52 = .ok (.putfield 54, 3) := by decide +kernel
theorem dX0_begin_55 : decode cX0_begin 55 = .ok (.aload_n 0, 1) := by decide +kernel
theorem dX0_begin_56 : decode cX0_begin 56 = .ok (.lconst 0, 1) := by decide +kernel
theorem dX0_begin_57 : decode cX0_begin 57 = .ok (.putfield 58, 3) := by decide +kernel
theorem dX0_begin_60 : decode cX0_begin 60 = .ok (.return_, 1) := by decide +kernel
theorem dX0_areTogether_0 : decode cX0_areTogether 0 = .ok (.aload_n 0, 1) := by decide +kernel
theorem dX0_areTogether_1 : decode cX0_areTogether 1 = .ok (.getfield 41, 3) := by decide +kernel
theorem dX0_areTogether_4 : decode cX0_areTogether 4 = .ok (.i2l, 1) := by decide +kernel
theorem dX0_areTogether_5 : decode cX0_areTogether 5 = .ok (.iload_n 1, 1) := by decide +kernel
theorem dX0_areTogether_6 : decode cX0_areTogether 6 = .ok (.invokestatic 61, 3) := by decide +kernel
theorem dX0_areTogether_9 : decode cX0_areTogether 9 = .ok (.aload_n 0, 1) := by decide +kernel
theorem dX0_areTogether_10 : decode cX0_areTogether 10 = .ok (.getfield 41, 3) := by decide +kernel
theorem dX0_areTogether_13 : decode cX0_areTogether 13 = .ok (.i2l, 1) := by decide +kernel
theorem dX0_areTogether_14 : decode cX0_areTogether 14 = .ok (.iload_n 2, 1) := by decide +kernel
theorem dX0_areTogether_15 : decode cX0_areTogether 15 = .ok (.invokestatic 61, 3) := by decide +kernel
theorem dX0_areTogether_18 : decode cX0_areTogether 18 = .ok (.if_icmp .ne 7, 3) := by decide +kernel
theorem dX0_areTogether_21 : decode cX0_areTogether 21 = .ok (.iconst 1, 1) := by decide +kernel
theorem dX0_areTogether_22 : decode cX0_areTogether 22 = .ok (.goto 4, 3) := by decide +kernel
theorem dX0_areTogether_25 : decode cX0_areTogether 25 = .ok (.iconst 0, 1) := by decide +kernel
theorem dX0_areTogether_26 : decode cX0_areTogether 26 = .ok (.ireturn, 1) := by decide +kernel
theorem dX0_becomeCandidate_0 : decode cX0_becomeCandidate 0 = .ok (.aload_n 0, 1) := by decide +kernel
theorem dX0_becomeCandidate_1 : decode cX0_becomeCandidate 1 = .ok (.getfield 9, 3) := by decide +kernel
theorem dX0_becomeCandidate_4 : decode cX0_becomeCandidate 4 = .ok (.iload_n 1, 1) := by decide +kernel
theorem dX0_becomeCandidate_5 : decode cX0_becomeCandidate 5 = .ok (.dup2, 1) := by decide +kernel
theorem dX0_becomeCandidate_6 : decode cX0_becomeCandidate 6 = .ok (.iaload, 1) := by decide +kernel
theorem dX0_becomeCandidate_7 : decode cX0_becomeCandidate 7 = .ok (.iconst 1, 1) := by decide +kernel
theorem dX0_becomeCandidate_8 : decode cX0_becomeCandidate 8 = .ok (.iadd, 1) := by decide +kernel
theorem dX0_becomeCandidate_9 : decode cX0_becomeCandidate 9 = .ok (.iastore, 1) := by decide +kernel
theorem dX0_becomeCandidate_10 : decode cX0_becomeCandidate 10 = .ok (.aload_n 0, 1) := by decide +kernel
theorem dX0_becomeCandidate_11 : decode cX0_becomeCandidate 11 = .ok (.getfield 15, 3) := by decide +kernel
theorem dX0_becomeCandidate_14 : decode cX0_becomeCandidate 14 = .ok (.iload_n 1, 1) := by decide +kernel
theorem dX0_becomeCandidate_15 : decode cX0_becomeCandidate 15 = .ok (.iconst 1, 1) := by decide +kernel
theorem dX0_becomeCandidate_16 : decode cX0_becomeCandidate 16 = .ok (.iastore, 1) := by decide +kernel
theorem dX0_becomeCandidate_17 : decode cX0_becomeCandidate 17 = .ok (.aload_n 0, 1) := by decide +kernel
theorem dX0_becomeCandidate_18 : decode cX0_becomeCandidate 18 = .ok (.getfield 18, 3) := by decide +kernel
theorem dX0_becomeCandidate_21 : decode cX0_becomeCandidate 21 = .ok (.iload_n 1, 1) := by decide +kernel
theorem dX0_becomeCandidate_22 : decode cX0_becomeCandidate 22 = .ok (.iload_n 1, 1) := by decide +kernel
theorem dX0_becomeCandidate_23 : decode cX0_becomeCandidate 23 = .ok (.iastore, 1) := by decide +kernel
theorem dX0_becomeCandidate_24 : decode cX0_becomeCandidate 24 = .ok (.aload_n 0, 1) := by decide +kernel
theorem dX0_becomeCandidate_25 : decode cX0_becomeCandidate 25 = .ok (.getfield 21, 3) := by decide +kernel
theorem dX0_becomeCandidate_28 : decode cX0_becomeCandidate 28 = .ok (.iload_n 1, 1) := by decide +kernel
theorem dX0_becomeCandidate_29 : decode cX0_becomeCandidate 29 = .ok (.iconst 1, 1) := by decide +kernel
theorem dX0_becomeCandidate_30 : decode cX0_becomeCandidate 30 = .ok (.iload_n 1, 1) := by decide +kernel
theorem dX0_becomeCandidate_31 : decode cX0_becomeCandidate 31 = .ok (.ishl, 1) := by decide +kernel
theorem dX0_becomeCandidate_32 : decode cX0_becomeCandidate 32 = .ok (.iastore, 1) := by decide +kernel
theorem dX0_becomeCandidate_33 : decode cX0_becomeCandidate 33 = .ok (.return_, 1) := by decide +kernel
theorem dX0_takeTerm_0 : decode cX0_takeTerm 0 = .ok (.aload_n 0, 1) := by decide +kernel
theorem dX0_takeTerm_1 : decode cX0_takeTerm 1 = .ok (.getfield 9, 3) := by decide +kernel
theorem dX0_takeTerm_4 : decode cX0_takeTerm 4 = .ok (.iload_n 1, 1) := by decide +kernel
theorem dX0_takeTerm_5 : decode cX0_takeTerm 5 = .ok (.iload_n 2, 1) := by decide +kernel
theorem dX0_takeTerm_6 : decode cX0_takeTerm 6 = .ok (.iastore, 1) := by decide +kernel
theorem dX0_takeTerm_7 : decode cX0_takeTerm 7 = .ok (.aload_n 0, 1) := by decide +kernel
theorem dX0_takeTerm_8 : decode cX0_takeTerm 8 = .ok (.getfield 15, 3) := by decide +kernel
theorem dX0_takeTerm_11 : decode cX0_takeTerm 11 = .ok (.iload_n 1, 1) := by decide +kernel
theorem dX0_takeTerm_12 : decode cX0_takeTerm 12 = .ok (.iconst 0, 1) := by decide +kernel
theorem dX0_takeTerm_13 : decode cX0_takeTerm 13 = .ok (.iastore, 1) := by decide +kernel
theorem dX0_takeTerm_14 : decode cX0_takeTerm 14 = .ok (.aload_n 0, 1) := by decide +kernel
theorem dX0_takeTerm_15 : decode cX0_takeTerm 15 = .ok (.getfield 18, 3) := by decide +kernel
theorem dX0_takeTerm_18 : decode cX0_takeTerm 18 = .ok (.iload_n 1, 1) := by decide +kernel
theorem dX0_takeTerm_19 : decode cX0_takeTerm 19 = .ok (.iconst (-1), 1) := by decide +kernel
theorem dX0_takeTerm_20 : decode cX0_takeTerm 20 = .ok (.iastore, 1) := by decide +kernel
theorem dX0_takeTerm_21 : decode cX0_takeTerm 21 = .ok (.return_, 1) := by decide +kernel
theorem dX0_askForVote_0 : decode cX0_askForVote 0 = .ok (.aload_n 0, 1) := by decide +kernel
theorem dX0_askForVote_1 : decode cX0_askForVote 1 = .ok (.getfield 9, 3) := by decide +kernel
theorem dX0_askForVote_4 : decode cX0_askForVote 4 = .ok (.iload_n 1, 1) := by decide +kernel
theorem dX0_askForVote_5 : decode cX0_askForVote 5 = .ok (.iaload, 1) := by decide +kernel
theorem dX0_askForVote_6 : decode cX0_askForVote 6 = .ok (.aload_n 0, 1) := by decide +kernel
theorem dX0_askForVote_7 : decode cX0_askForVote 7 = .ok (.getfield 9, 3) := by decide +kernel
theorem dX0_askForVote_10 : decode cX0_askForVote 10 = .ok (.iload_n 2, 1) := by decide +kernel
theorem dX0_askForVote_11 : decode cX0_askForVote 11 = .ok (.iaload, 1) := by decide +kernel
theorem dX0_askForVote_12 : decode cX0_askForVote 12 = .ok (.if_icmp .le 16, 3) := by decide +kernel
theorem dX0_askForVote_15 : decode cX0_askForVote 15 = .ok (.aload_n 0, 1) := by decide +kernel
theorem dX0_askForVote_16 : decode cX0_askForVote 16 = .ok (.iload_n 2, 1) := by decide +kernel
theorem dX0_askForVote_17 : decode cX0_askForVote 17 = .ok (.aload_n 0, 1) := by decide +kernel
theorem dX0_askForVote_18 : decode cX0_askForVote 18 = .ok (.getfield 9, 3) := by decide +kernel
theorem dX0_askForVote_21 : decode cX0_askForVote 21 = .ok (.iload_n 1, 1) := by decide +kernel
theorem dX0_askForVote_22 : decode cX0_askForVote 22 = .ok (.iaload, 1) := by decide +kernel
theorem dX0_askForVote_23 : decode cX0_askForVote 23 = .ok (.invokevirtual 65, 3) := by decide +kernel
theorem dX0_askForVote_26 : decode cX0_askForVote 26 = .ok (.iconst 0, 1) := by decide +kernel
theorem dX0_askForVote_27 : decode cX0_askForVote 27 = .ok (.ireturn, 1) := by decide +kernel
theorem dX0_askForVote_28 : decode cX0_askForVote 28 = .ok (.aload_n 0, 1) := by decide +kernel
theorem dX0_askForVote_29 : decode cX0_askForVote 29 = .ok (.getfield 9, 3) := by decide +kernel
theorem dX0_askForVote_32 : decode cX0_askForVote 32 = .ok (.iload_n 1, 1) := by decide +kernel
theorem dX0_askForVote_33 : decode cX0_askForVote 33 = .ok (.iaload, 1) := by decide +kernel
theorem dX0_askForVote_34 : decode cX0_askForVote 34 = .ok (.aload_n 0, 1) := by decide +kernel
theorem dX0_askForVote_35 : decode cX0_askForVote 35 = .ok (.getfield 9, 3) := by decide +kernel
theorem dX0_askForVote_38 : decode cX0_askForVote 38 = .ok (.iload_n 2, 1) := by decide +kernel
theorem dX0_askForVote_39 : decode cX0_askForVote 39 = .ok (.iaload, 1) := by decide +kernel
theorem dX0_askForVote_40 : decode cX0_askForVote 40 = .ok (.if_icmp .ge 14, 3) := by decide +kernel
theorem dX0_askForVote_43 : decode cX0_askForVote 43 = .ok (.aload_n 0, 1) := by decide +kernel
theorem dX0_askForVote_44 : decode cX0_askForVote 44 = .ok (.iload_n 1, 1) := by decide +kernel
theorem dX0_askForVote_45 : decode cX0_askForVote 45 = .ok (.aload_n 0, 1) := by decide +kernel
theorem dX0_askForVote_46 : decode cX0_askForVote 46 = .ok (.getfield 9, 3) := by decide +kernel
theorem dX0_askForVote_49 : decode cX0_askForVote 49 = .ok (.iload_n 2, 1) := by decide +kernel
theorem dX0_askForVote_50 : decode cX0_askForVote 50 = .ok (.iaload, 1) := by decide +kernel
theorem dX0_askForVote_51 : decode cX0_askForVote 51 = .ok (.invokevirtual 65, 3) := by decide +kernel
theorem dX0_askForVote_54 : decode cX0_askForVote 54 = .ok (.aload_n 0, 1) := by decide +kernel
theorem dX0_askForVote_55 : decode cX0_askForVote 55 = .ok (.getfield 18, 3) := by decide +kernel
theorem dX0_askForVote_58 : decode cX0_askForVote 58 = .ok (.iload_n 1, 1) := by decide +kernel
theorem dX0_askForVote_59 : decode cX0_askForVote 59 = .ok (.iaload, 1) := by decide +kernel
theorem dX0_askForVote_60 : decode cX0_askForVote 60 = .ok (.iload_n 2, 1) := by decide +kernel
theorem dX0_askForVote_61 : decode cX0_askForVote 61 = .ok (.if_icmp .ne 5, 3) := by decide +kernel
theorem dX0_askForVote_64 : decode cX0_askForVote 64 = .ok (.iconst 1, 1) := by decide +kernel
theorem dX0_askForVote_65 : decode cX0_askForVote 65 = .ok (.ireturn, 1) := by decide +kernel
theorem dX0_askForVote_66 : decode cX0_askForVote 66 = .ok (.aload_n 0, 1) := by decide +kernel
theorem dX0_askForVote_67 : decode cX0_askForVote 67 = .ok (.getfield 18, 3) := by decide +kernel
theorem dX0_askForVote_70 : decode cX0_askForVote 70 = .ok (.iload_n 1, 1) := by decide +kernel
theorem dX0_askForVote_71 : decode cX0_askForVote 71 = .ok (.iaload, 1) := by decide +kernel
theorem dX0_askForVote_72 : decode cX0_askForVote 72 = .ok (.iconst (-1), 1) := by decide +kernel
theorem dX0_askForVote_73 : decode cX0_askForVote 73 = .ok (.if_icmp .ne 12, 3) := by decide +kernel
theorem dX0_askForVote_76 : decode cX0_askForVote 76 = .ok (.aload_n 0, 1) := by decide +kernel
theorem dX0_askForVote_77 : decode cX0_askForVote 77 = .ok (.iload_n 1, 1) := by decide +kernel
theorem dX0_askForVote_78 : decode cX0_askForVote 78 = .ok (.iload_n 2, 1) := by decide +kernel
theorem dX0_askForVote_79 : decode cX0_askForVote 79 = .ok (.invokevirtual 69, 3) := by decide +kernel
theorem dX0_askForVote_82 : decode cX0_askForVote 82 = .ok (.ifCond .eq 5, 3) := by decide +kernel
theorem dX0_askForVote_85 : decode cX0_askForVote 85 = .ok (.iconst 0, 1) := by decide +kernel
theorem dX0_askForVote_86 : decode cX0_askForVote 86 = .ok (.ireturn, 1) := by decide +kernel
theorem dX0_askForVote_87 : decode cX0_askForVote 87 = .ok (.aload_n 0, 1) := by decide +kernel
theorem dX0_askForVote_88 : decode cX0_askForVote 88 = .ok (.iload_n 1, 1) := by decide +kernel
theorem dX0_askForVote_89 : decode cX0_askForVote 89 = .ok (.iload_n 2, 1) := by decide +kernel
theorem dX0_askForVote_90 : decode cX0_askForVote 90 = .ok (.invokevirtual 73, 3) := by decide +kernel
theorem dX0_askForVote_93 : decode cX0_askForVote 93 = .ok (.iconst 1, 1) := by decide +kernel
theorem dX0_askForVote_94 : decode cX0_askForVote 94 = .ok (.ireturn, 1) := by decide +kernel
theorem dX0_giveVote_0 : decode cX0_giveVote 0 = .ok (.aload_n 0, 1) := by decide +kernel
theorem dX0_giveVote_1 : decode cX0_giveVote 1 = .ok (.getfield 18, 3) := by decide +kernel
theorem dX0_giveVote_4 : decode cX0_giveVote 4 = .ok (.iload_n 1, 1) := by decide +kernel
theorem dX0_giveVote_5 : decode cX0_giveVote 5 = .ok (.iload_n 2, 1) := by decide +kernel
theorem dX0_giveVote_6 : decode cX0_giveVote 6 = .ok (.iastore, 1) := by decide +kernel
theorem dX0_giveVote_7 : decode cX0_giveVote 7 = .ok (.aload_n 0, 1) := by decide +kernel
theorem dX0_giveVote_8 : decode cX0_giveVote 8 = .ok (.getfield 21, 3) := by decide +kernel
theorem dX0_giveVote_11 : decode cX0_giveVote 11 = .ok (.iload_n 2, 1) := by decide +kernel
theorem dX0_giveVote_12 : decode cX0_giveVote 12 = .ok (.dup2, 1) := by decide +kernel
theorem dX0_giveVote_13 : decode cX0_giveVote 13 = .ok (.iaload, 1) := by decide +kernel
theorem dX0_giveVote_14 : decode cX0_giveVote 14 = .ok (.iconst 1, 1) := by decide +kernel
theorem dX0_giveVote_15 : decode cX0_giveVote 15 = .ok (.iload_n 1, 1) := by decide +kernel
theorem dX0_giveVote_16 : decode cX0_giveVote 16 = .ok (.ishl, 1) := by decide +kernel
theorem dX0_giveVote_17 : decode cX0_giveVote 17 = .ok (.ior, 1) := by decide +kernel
theorem dX0_giveVote_18 : decode cX0_giveVote 18 = .ok (.iastore, 1) := by decide +kernel
theorem dX0_giveVote_19 : decode cX0_giveVote 19 = .ok (.aload_n 0, 1) := by decide +kernel
theorem dX0_giveVote_20 : decode cX0_giveVote 20 = .ok (.getfield 21, 3) := by decide +kernel
theorem dX0_giveVote_23 : decode cX0_giveVote 23 = .ok (.iload_n 2, 1) := by decide +kernel
theorem dX0_giveVote_24 : decode cX0_giveVote 24 = .ok (.iaload, 1) := by decide +kernel
theorem dX0_giveVote_25 : decode cX0_giveVote 25 = .ok (.invokestatic 76, 3) := by decide +kernel
theorem dX0_giveVote_28 : decode cX0_giveVote 28 = .ok (.iconst 3, 1) := by decide +kernel
theorem dX0_giveVote_29 : decode cX0_giveVote 29 = .ok (.if_icmp .lt 10, 3) := by decide +kernel
theorem dX0_giveVote_32 : decode cX0_giveVote 32 = .ok (.aload_n 0, 1) := by decide +kernel
theorem dX0_giveVote_33 : decode cX0_giveVote 33 = .ok (.getfield 15, 3) := by decide +kernel
theorem dX0_giveVote_36 : decode cX0_giveVote 36 = .ok (.iload_n 2, 1) := by decide +kernel
theorem dX0_giveVote_37 : decode cX0_giveVote 37 = .ok (.iconst 2, 1) := by decide +kernel
theorem dX0_giveVote_38 : decode cX0_giveVote 38 = .ok (.iastore, 1) := by decide +kernel
theorem dX0_giveVote_39 : decode cX0_giveVote 39 = .ok (.return_, 1) := by decide +kernel
theorem dX0_hasBetterLog_0 : decode cX0_hasBetterLog 0 = .ok (.aload_n 0, 1) := by decide +kernel
theorem dX0_hasBetterLog_1 : decode cX0_hasBetterLog 1 = .ok (.iload_n 1, 1) := by decide +kernel
theorem dX0_hasBetterLog_2 : decode cX0_hasBetterLog 2 = .ok (.invokevirtual 82, 3) := by decide +kernel
theorem dX0_hasBetterLog_5 : decode cX0_hasBetterLog 5 = .ok (.istore_n 3, 1) := by decide +kernel
theorem dX0_hasBetterLog_6 : decode cX0_hasBetterLog 6 = .ok (.aload_n 0, 1) := by decide +kernel
theorem dX0_hasBetterLog_7 : decode cX0_hasBetterLog 7 = .ok (.iload_n 2, 1) := by decide +kernel
theorem dX0_hasBetterLog_8 : decode cX0_hasBetterLog 8 = .ok (.invokevirtual 82, 3) := by decide +kernel
theorem dX0_hasBetterLog_11 : decode cX0_hasBetterLog 11 = .ok (.istore 4, 2) := by decide +kernel
theorem dX0_hasBetterLog_13 : decode cX0_hasBetterLog 13 = .ok (.iload_n 3, 1) := by decide +kernel
theorem dX0_hasBetterLog_14 : decode cX0_hasBetterLog 14 = .ok (.iload 4, 2) := by decide +kernel
theorem dX0_hasBetterLog_16 : decode cX0_hasBetterLog 16 = .ok (.if_icmp .gt 24, 3) := by decide +kernel
theorem dX0_hasBetterLog_19 : decode cX0_hasBetterLog 19 = .ok (.iload_n 3, 1) := by decide +kernel
theorem dX0_hasBetterLog_20 : decode cX0_hasBetterLog 20 = .ok (.iload 4, 2) := by decide +kernel
theorem dX0_hasBetterLog_22 : decode cX0_hasBetterLog 22 = .ok (.if_icmp .ne 22, 3) := by decide +kernel
theorem dX0_hasBetterLog_25 : decode cX0_hasBetterLog 25 = .ok (.aload_n 0, 1) := by decide +kernel
theorem dX0_hasBetterLog_26 : decode cX0_hasBetterLog 26 = .ok (.getfield 29, 3) := by decide +kernel
theorem dX0_hasBetterLog_29 : decode cX0_hasBetterLog 29 = .ok (.iload_n 1, 1) := by decide +kernel
theorem dX0_hasBetterLog_30 : decode cX0_hasBetterLog 30 = .ok (.iaload, 1) := by decide +kernel
theorem dX0_hasBetterLog_31 : decode cX0_hasBetterLog 31 = .ok (.aload_n 0, 1) := by decide +kernel
theorem dX0_hasBetterLog_32 : decode cX0_hasBetterLog 32 = .ok (.getfield 29, 3) := by decide +kernel
theorem dX0_hasBetterLog_35 : decode cX0_hasBetterLog 35 = .ok (.iload_n 2, 1) := by decide +kernel
theorem dX0_hasBetterLog_36 : decode cX0_hasBetterLog 36 = .ok (.iaload, 1) := by decide +kernel
theorem dX0_hasBetterLog_37 : decode cX0_hasBetterLog 37 = .ok (.if_icmp .le 7, 3) := by decide +kernel
theorem dX0_hasBetterLog_40 : decode cX0_hasBetterLog 40 = .ok (.iconst 1, 1) := by decide +kernel
theorem dX0_hasBetterLog_41 : decode cX0_hasBetterLog 41 = .ok (.goto 4, 3) := by decide +kernel
theorem dX0_hasBetterLog_44 : decode cX0_hasBetterLog 44 = .ok (.iconst 0, 1) := by decide +kernel
theorem dX0_hasBetterLog_45 : decode cX0_hasBetterLog 45 = .ok (.ireturn, 1) := by decide +kernel
theorem dX0_lastTerm_0 : decode cX0_lastTerm 0 = .ok (.aload_n 0, 1) := by decide +kernel
theorem dX0_lastTerm_1 : decode cX0_lastTerm 1 = .ok (.getfield 29, 3) := by decide +kernel
theorem dX0_lastTerm_4 : decode cX0_lastTerm 4 = .ok (.iload_n 1, 1) := by decide +kernel
theorem dX0_lastTerm_5 : decode cX0_lastTerm 5 = .ok (.iaload, 1) := by decide +kernel
theorem dX0_lastTerm_6 : decode cX0_lastTerm 6 = .ok (.ifCond .ne 7, 3) := by decide +kernel
theorem dX0_lastTerm_9 : decode cX0_lastTerm 9 = .ok (.iconst 0, 1) := by decide +kernel
theorem dX0_lastTerm_10 : decode cX0_lastTerm 10 = .ok (.goto 23, 3) := by decide +kernel
theorem dX0_lastTerm_13 : decode cX0_lastTerm 13 = .ok (.aload_n 0, 1) := by decide +kernel
theorem dX0_lastTerm_14 : decode cX0_lastTerm 14 = .ok (.getfield 32, 3) := by decide +kernel
theorem dX0_lastTerm_17 : decode cX0_lastTerm 17 = .ok (.aload_n 0, 1) := by decide +kernel
theorem dX0_lastTerm_18 : decode cX0_lastTerm 18 = .ok (.getfield 26, 3) := by decide +kernel
theorem dX0_lastTerm_21 : decode cX0_lastTerm 21 = .ok (.iload_n 1, 1) := by decide +kernel
theorem dX0_lastTerm_22 : decode cX0_lastTerm 22 = .ok (.aaload, 1) := by decide +kernel
theorem dX0_lastTerm_23 : decode cX0_lastTerm 23 = .ok (.aload_n 0, 1) := by decide +kernel
theorem dX0_lastTerm_24 : decode cX0_lastTerm 24 = .ok (.getfield 29, 3) := by decide +kernel
theorem dX0_lastTerm_27 : decode cX0_lastTerm 27 = .ok (.iload_n 1, 1) := by decide +kernel
theorem dX0_lastTerm_28 : decode cX0_lastTerm 28 = .ok (.iaload, 1) := by decide +kernel
theorem dX0_lastTerm_29 : decode cX0_lastTerm 29 = .ok (.iconst 1, 1) := by decide +kernel
theorem dX0_lastTerm_30 : decode cX0_lastTerm 30 = .ok (.isub, 1) := by decide +kernel
theorem dX0_lastTerm_31 : decode cX0_lastTerm 31 = .ok (.iaload, 1) := by decide +kernel
theorem dX0_lastTerm_32 : decode cX0_lastTerm 32 = .ok (.iaload, 1) := by decide +kernel
theorem dX0_lastTerm_33 : decode cX0_lastTerm 33 = .ok (.ireturn, 1) := by decide +kernel
theorem dX0_addVersion_0 : decode cX0_addVersion 0 = .ok (.aload_n 0, 1) := by decide +kernel
theorem dX0_addVersion_1 : decode cX0_addVersion 1 = .ok (.getfield 51, 3) := by decide +kernel
theorem dX0_addVersion_4 : decode cX0_addVersion 4 = .ok (.istore_n 2, 1) := by decide +kernel
theorem dX0_addVersion_5 : decode cX0_addVersion 5 = .ok (.aload_n 0, 1) := by decide +kernel
theorem dX0_addVersion_6 : decode cX0_addVersion 6 = .ok (.dup, 1) := by decide +kernel
theorem dX0_addVersion_7 : decode cX0_addVersion 7 = .ok (.getfield 51, 3) := by decide +kernel
theorem dX0_addVersion_10 : decode cX0_addVersion 10 = .ok (.iconst 1, 1) := by decide +kernel
theorem dX0_addVersion_11 : decode cX0_addVersion 11 = .ok (.iadd, 1) := by decide +kernel
theorem dX0_addVersion_12 : decode cX0_addVersion 12 = .ok (.putfield 51, 3) := by decide +kernel
theorem dX0_addVersion_15 : decode cX0_addVersion 15 = .ok (.aload_n 0, 1) := by decide +kernel
theorem dX0_addVersion_16 : decode cX0_addVersion 16 = .ok (.getfield 32, 3) := by decide +kernel
theorem dX0_addVersion_19 : decode cX0_addVersion 19 = .ok (.iload_n 2, 1) := by decide +kernel
theorem dX0_addVersion_20 : decode cX0_addVersion 20 = .ok (.aload_n 0, 1) := by decide +kernel
theorem dX0_addVersion_21 : decode cX0_addVersion 21 = .ok (.getfield 9, 3) := by decide +kernel
theorem dX0_addVersion_24 : decode cX0_addVersion 24 = .ok (.iload_n 1, 1) := by decide +kernel
theorem dX0_addVersion_25 : decode cX0_addVersion 25 = .ok (.iaload, 1) := by decide +kernel
theorem dX0_addVersion_26 : decode cX0_addVersion 26 = .ok (.iastore, 1) := by decide +kernel
theorem dX0_addVersion_27 : decode cX0_addVersion 27 = .ok (.aload_n 0, 1) := by decide +kernel
theorem dX0_addVersion_28 : decode cX0_addVersion 28 = .ok (.getfield 35, 3) := by decide +kernel
theorem dX0_addVersion_31 : decode cX0_addVersion 31 = .ok (.iload_n 2, 1) := by decide +kernel
theorem dX0_addVersion_32 : decode cX0_addVersion 32 = .ok (.iconst 0, 1) := by decide +kernel
theorem dX0_addVersion_33 : decode cX0_addVersion 33 = .ok (.iastore, 1) := by decide +kernel
theorem dX0_addVersion_34 : decode cX0_addVersion 34 = .ok (.aload_n 0, 1) := by decide +kernel
theorem dX0_addVersion_35 : decode cX0_addVersion 35 = .ok (.iload_n 1, 1) := by decide +kernel
theorem dX0_addVersion_36 : decode cX0_addVersion 36 = .ok (.iload_n 2, 1) := by decide +kernel
theorem dX0_addVersion_37 : decode cX0_addVersion 37 = .ok (.invokevirtual 85, 3) := by decide +kernel
theorem dX0_addVersion_40 : decode cX0_addVersion 40 = .ok (.iload_n 2, 1) := by decide +kernel
theorem dX0_addVersion_41 : decode cX0_addVersion 41 = .ok (.ireturn, 1) := by decide +kernel
theorem dX0_sendLog_0 : decode cX0_sendLog 0 = .ok (.aload_n 0, 1) := by decide +kernel
theorem dX0_sendLog_1 : decode cX0_sendLog 1 = .ok (.getfield 9, 3) := by decide +kernel
theorem dX0_sendLog_4 : decode cX0_sendLog 4 = .ok (.iload_n 2, 1) := by decide +kernel
theorem dX0_sendLog_5 : decode cX0_sendLog 5 = .ok (.iaload, 1) := by decide +kernel
theorem dX0_sendLog_6 : decode cX0_sendLog 6 = .ok (.aload_n 0, 1) := by decide +kernel
theorem dX0_sendLog_7 : decode cX0_sendLog 7 = .ok (.getfield 9, 3) := by decide +kernel
theorem dX0_sendLog_10 : decode cX0_sendLog 10 = .ok (.iload_n 1, 1) := by decide +kernel
theorem dX0_sendLog_11 : decode cX0_sendLog 11 = .ok (.iaload, 1) := by decide +kernel
theorem dX0_sendLog_12 : decode cX0_sendLog 12 = .ok (.if_icmp .le 16, 3) := by decide +kernel
theorem dX0_sendLog_15 : decode cX0_sendLog 15 = .ok (.aload_n 0, 1) := by decide +kernel
theorem dX0_sendLog_16 : decode cX0_sendLog 16 = .ok (.iload_n 1, 1) := by decide +kernel
theorem dX0_sendLog_17 : decode cX0_sendLog 17 = .ok (.aload_n 0, 1) := by decide +kernel
theorem dX0_sendLog_18 : decode cX0_sendLog 18 = .ok (.getfield 9, 3) := by decide +kernel
theorem dX0_sendLog_21 : decode cX0_sendLog 21 = .ok (.iload_n 2, 1) := by decide +kernel
theorem dX0_sendLog_22 : decode cX0_sendLog 22 = .ok (.iaload, 1) := by decide +kernel
theorem dX0_sendLog_23 : decode cX0_sendLog 23 = .ok (.invokevirtual 65, 3) := by decide +kernel
theorem dX0_sendLog_26 : decode cX0_sendLog 26 = .ok (.iconst (-1), 1) := by decide +kernel
theorem dX0_sendLog_27 : decode cX0_sendLog 27 = .ok (.ireturn, 1) := by decide +kernel
theorem dX0_sendLog_28 : decode cX0_sendLog 28 = .ok (.aload_n 0, 1) := by decide +kernel
theorem dX0_sendLog_29 : decode cX0_sendLog 29 = .ok (.getfield 9, 3) := by decide +kernel
theorem dX0_sendLog_32 : decode cX0_sendLog 32 = .ok (.iload_n 2, 1) := by decide +kernel
theorem dX0_sendLog_33 : decode cX0_sendLog 33 = .ok (.iaload, 1) := by decide +kernel
theorem dX0_sendLog_34 : decode cX0_sendLog 34 = .ok (.aload_n 0, 1) := by decide +kernel
theorem dX0_sendLog_35 : decode cX0_sendLog 35 = .ok (.getfield 9, 3) := by decide +kernel
theorem dX0_sendLog_38 : decode cX0_sendLog 38 = .ok (.iload_n 1, 1) := by decide +kernel
theorem dX0_sendLog_39 : decode cX0_sendLog 39 = .ok (.iaload, 1) := by decide +kernel
theorem dX0_sendLog_40 : decode cX0_sendLog 40 = .ok (.if_icmp .ge 17, 3) := by decide +kernel
theorem dX0_sendLog_43 : decode cX0_sendLog 43 = .ok (.aload_n 0, 1) := by decide +kernel
theorem dX0_sendLog_44 : decode cX0_sendLog 44 = .ok (.iload_n 2, 1) := by decide +kernel
theorem dX0_sendLog_45 : decode cX0_sendLog 45 = .ok (.aload_n 0, 1) := by decide +kernel
theorem dX0_sendLog_46 : decode cX0_sendLog 46 = .ok (.getfield 9, 3) := by decide +kernel
theorem dX0_sendLog_49 : decode cX0_sendLog 49 = .ok (.iload_n 1, 1) := by decide +kernel
theorem dX0_sendLog_50 : decode cX0_sendLog 50 = .ok (.iaload, 1) := by decide +kernel
theorem dX0_sendLog_51 : decode cX0_sendLog 51 = .ok (.invokevirtual 65, 3) := by decide +kernel
theorem dX0_sendLog_54 : decode cX0_sendLog 54 = .ok (.goto 20, 3) := by decide +kernel
theorem dX0_sendLog_57 : decode cX0_sendLog 57 = .ok (.aload_n 0, 1) := by decide +kernel
theorem dX0_sendLog_58 : decode cX0_sendLog 58 = .ok (.getfield 15, 3) := by decide +kernel
theorem dX0_sendLog_61 : decode cX0_sendLog 61 = .ok (.iload_n 2, 1) := by decide +kernel
theorem dX0_sendLog_62 : decode cX0_sendLog 62 = .ok (.iaload, 1) := by decide +kernel
theorem dX0_sendLog_63 : decode cX0_sendLog 63 = .ok (.iconst 1, 1) := by decide +kernel
theorem dX0_sendLog_64 : decode cX0_sendLog 64 = .ok (.if_icmp .ne 10, 3) := by decide +kernel
theorem dX0_sendLog_67 : decode cX0_sendLog 67 = .ok (.aload_n 0, 1) := by decide +kernel
theorem dX0_sendLog_68 : decode cX0_sendLog 68 = .ok (.getfield 15, 3) := by decide +kernel
theorem dX0_sendLog_71 : decode cX0_sendLog 71 = .ok (.iload_n 2, 1) := by decide +kernel
theorem dX0_sendLog_72 : decode cX0_sendLog 72 = .ok (.iconst 0, 1) := by decide +kernel
theorem dX0_sendLog_73 : decode cX0_sendLog 73 = .ok (.iastore, 1) := by decide +kernel
theorem dX0_sendLog_74 : decode cX0_sendLog 74 = .ok (.aload_n 0, 1) := by decide +kernel
theorem dX0_sendLog_75 : decode cX0_sendLog 75 = .ok (.iload_n 2, 1) := by decide +kernel
theorem dX0_sendLog_76 : decode cX0_sendLog 76 = .ok (.aload_n 0, 1) := by decide +kernel
theorem dX0_sendLog_77 : decode cX0_sendLog 77 = .ok (.iload_n 1, 1) := by decide +kernel
theorem dX0_sendLog_78 : decode cX0_sendLog 78 = .ok (.iload_n 2, 1) := by decide +kernel
theorem dX0_sendLog_79 : decode cX0_sendLog 79 = .ok (.invokevirtual 88, 3) := by decide +kernel
theorem dX0_sendLog_82 : decode cX0_sendLog 82 = .ok (.invokevirtual 92, 3) := by decide +kernel
theorem dX0_sendLog_85 : decode cX0_sendLog 85 = .ok (.aload_n 0, 1) := by decide +kernel
theorem dX0_sendLog_86 : decode cX0_sendLog 86 = .ok (.iload_n 1, 1) := by decide +kernel
theorem dX0_sendLog_87 : decode cX0_sendLog 87 = .ok (.iload_n 2, 1) := by decide +kernel
theorem dX0_sendLog_88 : decode cX0_sendLog 88 = .ok (.invokevirtual 95, 3) := by decide +kernel
theorem dX0_sendLog_91 : decode cX0_sendLog 91 = .ok (.ireturn, 1) := by decide +kernel
theorem dX0_commonLength_0 : decode cX0_commonLength 0 = .ok (.aload_n 0, 1) := by decide +kernel
theorem dX0_commonLength_1 : decode cX0_commonLength 1 = .ok (.getfield 29, 3) := by decide +kernel
theorem dX0_commonLength_4 : decode cX0_commonLength 4 = .ok (.iload_n 1, 1) := by decide +kernel
theorem dX0_commonLength_5 : decode cX0_commonLength 5 = .ok (.iaload, 1) := by decide +kernel
theorem dX0_commonLength_6 : decode cX0_commonLength 6 = .ok (.aload_n 0, 1) := by decide +kernel
theorem dX0_commonLength_7 : decode cX0_commonLength 7 = .ok (.getfield 29, 3) := by decide +kernel
theorem dX0_commonLength_10 : decode cX0_commonLength 10 = .ok (.iload_n 2, 1) := by decide +kernel
theorem dX0_commonLength_11 : decode cX0_commonLength 11 = .ok (.iaload, 1) := by decide +kernel
theorem dX0_commonLength_12 : decode cX0_commonLength 12 = .ok (.invokestatic 98, 3) := by decide +kernel
theorem dX0_commonLength_15 : decode cX0_commonLength 15 = .ok (.istore_n 3, 1) := by decide +kernel
theorem dX0_commonLength_16 : decode cX0_commonLength 16 = .ok (.iconst 0, 1) := by decide +kernel
theorem dX0_commonLength_17 : decode cX0_commonLength 17 = .ok (.istore 4, 2) := by decide +kernel
theorem dX0_commonLength_19 : decode cX0_commonLength 19 = .ok (.iload 4, 2) := by decide +kernel
theorem dX0_commonLength_21 : decode cX0_commonLength 21 = .ok (.iload_n 3, 1) := by decide +kernel
theorem dX0_commonLength_22 : decode cX0_commonLength 22 = .ok (.if_icmp .ge 33, 3) := by decide +kernel
theorem dX0_commonLength_25 : decode cX0_commonLength 25 = .ok (.aload_n 0, 1) := by decide +kernel
theorem dX0_commonLength_26 : decode cX0_commonLength 26 = .ok (.getfield 26, 3) := by decide +kernel
theorem dX0_commonLength_29 : decode cX0_commonLength 29 = .ok (.iload_n 1, 1) := by decide +kernel
theorem dX0_commonLength_30 : decode cX0_commonLength 30 = .ok (.aaload, 1) := by decide +kernel
theorem dX0_commonLength_31 : decode cX0_commonLength 31 = .ok (.iload 4, 2) := by decide +kernel
theorem dX0_commonLength_33 : decode cX0_commonLength 33 = .ok (.iaload, 1) := by decide +kernel
theorem dX0_commonLength_34 : decode cX0_commonLength 34 = .ok (.aload_n 0, 1) := by decide +kernel
theorem dX0_commonLength_35 : decode cX0_commonLength 35 = .ok (.getfield 26, 3) := by decide +kernel
theorem dX0_commonLength_38 : decode cX0_commonLength 38 = .ok (.iload_n 2, 1) := by decide +kernel
theorem dX0_commonLength_39 : decode cX0_commonLength 39 = .ok (.aaload, 1) := by decide +kernel
theorem dX0_commonLength_40 : decode cX0_commonLength 40 = .ok (.iload 4, 2) := by decide +kernel
theorem dX0_commonLength_42 : decode cX0_commonLength 42 = .ok (.iaload, 1) := by decide +kernel
theorem dX0_commonLength_43 : decode cX0_commonLength 43 = .ok (.if_icmp .eq 6, 3) := by decide +kernel
theorem dX0_commonLength_46 : decode cX0_commonLength 46 = .ok (.iload 4, 2) := by decide +kernel
theorem dX0_commonLength_48 : decode cX0_commonLength 48 = .ok (.ireturn, 1) := by decide +kernel
theorem dX0_commonLength_49 : decode cX0_commonLength 49 = .ok (.iinc 4 1, 3) := by decide +kernel
theorem dX0_commonLength_52 : decode cX0_commonLength 52 = .ok (.goto (-33), 3) := by decide +kernel
theorem dX0_commonLength_55 : decode cX0_commonLength 55 = .ok (.aload_n 0, 1) := by decide +kernel
theorem dX0_commonLength_56 : decode cX0_commonLength 56 = .ok (.getfield 29, 3) := by decide +kernel
theorem dX0_commonLength_59 : decode cX0_commonLength 59 = .ok (.iload_n 2, 1) := by decide +kernel
theorem dX0_commonLength_60 : decode cX0_commonLength 60 = .ok (.iaload, 1) := by decide +kernel
theorem dX0_commonLength_61 : decode cX0_commonLength 61 = .ok (.ireturn, 1) := by decide +kernel
theorem dX0_cutAt_0 : decode cX0_cutAt 0 = .ok (.iload_n 2, 1) := by decide +kernel
theorem dX0_cutAt_1 : decode cX0_cutAt 1 = .ok (.istore_n 3, 1) := by decide +kernel
theorem dX0_cutAt_2 : decode cX0_cutAt 2 = .ok (.iload_n 3, 1) := by decide +kernel
theorem dX0_cutAt_3 : decode cX0_cutAt 3 = .ok (.aload_n 0, 1) := by decide +kernel
theorem dX0_cutAt_4 : decode cX0_cutAt 4 = .ok (.getfield 29, 3) := by decide +kernel
theorem dX0_cutAt_7 : decode cX0_cutAt 7 = .ok (.iload_n 1, 1) := by decide +kernel
theorem dX0_cutAt_8 : decode cX0_cutAt 8 = .ok (.iaload, 1) := by decide +kernel
theorem dX0_cutAt_9 : decode cX0_cutAt 9 = .ok (.if_icmp .ge 40, 3) := by decide +kernel
theorem dX0_cutAt_12 : decode cX0_cutAt 12 = .ok (.aload_n 0, 1) := by decide +kernel
theorem dX0_cutAt_13 : decode cX0_cutAt 13 = .ok (.getfield 26, 3) := by decide +kernel
theorem dX0_cutAt_16 : decode cX0_cutAt 16 = .ok (.iload_n 1, 1) := by decide +kernel
theorem dX0_cutAt_17 : decode cX0_cutAt 17 = .ok (.aaload, 1) := by decide +kernel
theorem dX0_cutAt_18 : decode cX0_cutAt 18 = .ok (.iload_n 3, 1) := by decide +kernel
theorem dX0_cutAt_19 : decode cX0_cutAt 19 = .ok (.iaload, 1) := by decide +kernel
theorem dX0_cutAt_20 : decode cX0_cutAt 20 = .ok (.istore 4, 2) := by decide +kernel
theorem dX0_cutAt_22 : decode cX0_cutAt 22 = .ok (.aload_n 0, 1) := by decide +kernel
theorem dX0_cutAt_23 : decode cX0_cutAt 23 = .ok (.getfield 35, 3) := by decide +kernel
theorem dX0_cutAt_26 : decode cX0_cutAt 26 = .ok (.iload 4, 2) := by decide +kernel
theorem dX0_cutAt_28 : decode cX0_cutAt 28 = .ok (.dup2, 1) := by decide +kernel
theorem dX0_cutAt_29 : decode cX0_cutAt 29 = .ok (.iaload, 1) := by decide +kernel
theorem dX0_cutAt_30 : decode cX0_cutAt 30 = .ok (.iconst 1, 1) := by decide +kernel
theorem dX0_cutAt_31 : decode cX0_cutAt 31 = .ok (.iload_n 1, 1) := by decide +kernel
theorem dX0_cutAt_32 : decode cX0_cutAt 32 = .ok (.ishl, 1) := by decide +kernel
theorem dX0_cutAt_33 : decode cX0_cutAt 33 = .ok (.iconst (-1), 1) := by decide +kernel
theorem dX0_cutAt_34 : decode cX0_cutAt 34 = .ok (.ixor, 1) := by decide +kernel
theorem dX0_cutAt_35 : decode cX0_cutAt 35 = .ok (.iand, 1) := by decide +kernel
theorem dX0_cutAt_36 : decode cX0_cutAt 36 = .ok (.iastore, 1) := by decide +kernel
theorem dX0_cutAt_37 : decode cX0_cutAt 37 = .ok (.aload_n 0, 1) := by decide +kernel
theorem dX0_cutAt_38 : decode cX0_cutAt 38 = .ok (.iload 4, 2) := by decide +kernel
theorem dX0_cutAt_40 : decode cX0_cutAt 40 = .ok (.invokevirtual 103, 3) := by decide +kernel
theorem dX0_cutAt_43 : decode cX0_cutAt 43 = .ok (.iinc 3 1, 3) := by decide +kernel
theorem dX0_cutAt_46 : decode cX0_cutAt 46 = .ok (.goto (-44), 3) := by decide +kernel
theorem dX0_cutAt_49 : decode cX0_cutAt 49 = .ok (.aload_n 0, 1) := by decide +kernel
theorem dX0_cutAt_50 : decode cX0_cutAt 50 = .ok (.getfield 29, 3) := by decide +kernel
theorem dX0_cutAt_53 : decode cX0_cutAt 53 = .ok (.iload_n 1, 1) := by decide +kernel
theorem dX0_cutAt_54 : decode cX0_cutAt 54 = .ok (.iload_n 2, 1) := by decide +kernel
theorem dX0_cutAt_55 : decode cX0_cutAt 55 = .ok (.iastore, 1) := by decide +kernel
theorem dX0_cutAt_56 : decode cX0_cutAt 56 = .ok (.return_, 1) := by decide +kernel
theorem dX0_copyRest_0 : decode cX0_copyRest 0 = .ok (.iconst 0, 1) := by decide +kernel
theorem dX0_copyRest_1 : decode cX0_copyRest 1 = .ok (.istore_n 3, 1) := by decide +kernel
theorem dX0_copyRest_2 : decode cX0_copyRest 2 = .ok (.aload_n 0, 1) := by decide +kernel
theorem dX0_copyRest_3 : decode cX0_copyRest 3 = .ok (.getfield 29, 3) := by decide +kernel
theorem dX0_copyRest_6 : decode cX0_copyRest 6 = .ok (.iload_n 2, 1) := by decide +kernel
theorem dX0_copyRest_7 : decode cX0_copyRest 7 = .ok (.iaload, 1) := by decide +kernel
theorem dX0_copyRest_8 : decode cX0_copyRest 8 = .ok (.istore 4, 2) := by decide +kernel
theorem dX0_copyRest_10 : decode cX0_copyRest 10 = .ok (.iload 4, 2) := by decide +kernel
theorem dX0_copyRest_12 : decode cX0_copyRest 12 = .ok (.aload_n 0, 1) := by decide +kernel
theorem dX0_copyRest_13 : decode cX0_copyRest 13 = .ok (.getfield 29, 3) := by decide +kernel
theorem dX0_copyRest_16 : decode cX0_copyRest 16 = .ok (.iload_n 1, 1) := by decide +kernel
theorem dX0_copyRest_17 : decode cX0_copyRest 17 = .ok (.iaload, 1) := by decide +kernel
theorem dX0_copyRest_18 : decode cX0_copyRest 18 = .ok (.if_icmp .ge 26, 3) := by decide +kernel
theorem dX0_copyRest_21 : decode cX0_copyRest 21 = .ok (.aload_n 0, 1) := by decide +kernel
theorem dX0_copyRest_22 : decode cX0_copyRest 22 = .ok (.iload_n 2, 1) := by decide +kernel
theorem dX0_copyRest_23 : decode cX0_copyRest 23 = .ok (.aload_n 0, 1) := by decide +kernel
theorem dX0_copyRest_24 : decode cX0_copyRest 24 = .ok (.getfield 26, 3) := by decide +kernel
theorem dX0_copyRest_27 : decode cX0_copyRest 27 = .ok (.iload_n 1, 1) := by decide +kernel
theorem dX0_copyRest_28 : decode cX0_copyRest 28 = .ok (.aaload, 1) := by decide +kernel
theorem dX0_copyRest_29 : decode cX0_copyRest 29 = .ok (.iload 4, 2) := by decide +kernel
theorem dX0_copyRest_31 : decode cX0_copyRest 31 = .ok (.iaload, 1) := by decide +kernel
theorem dX0_copyRest_32 : decode cX0_copyRest 32 = .ok (.invokevirtual 85, 3) := by decide +kernel
theorem dX0_copyRest_35 : decode cX0_copyRest 35 = .ok (.iinc 3 1, 3) := by decide +kernel
theorem dX0_copyRest_38 : decode cX0_copyRest 38 = .ok (.iinc 4 1, 3) := by decide +kernel
theorem dX0_copyRest_41 : decode cX0_copyRest 41 = .ok (.goto (-31), 3) := by decide +kernel
theorem dX0_copyRest_44 : decode cX0_copyRest 44 = .ok (.iload_n 3, 1) := by decide +kernel
theorem dX0_copyRest_45 : decode cX0_copyRest 45 = .ok (.ireturn, 1) := by decide +kernel
theorem dX0_append_0 : decode cX0_append 0 = .ok (.aload_n 0, 1) := by decide +kernel
theorem dX0_append_1 : decode cX0_append 1 = .ok (.getfield 26, 3) := by decide +kernel
theorem dX0_append_4 : decode cX0_append 4 = .ok (.iload_n 1, 1) := by decide +kernel
theorem dX0_append_5 : decode cX0_append 5 = .ok (.aaload, 1) := by decide +kernel
theorem dX0_append_6 : decode cX0_append 6 = .ok (.aload_n 0, 1) := by decide +kernel
theorem dX0_append_7 : decode cX0_append 7 = .ok (.getfield 29, 3) := by decide +kernel
theorem dX0_append_10 : decode cX0_append 10 = .ok (.iload_n 1, 1) := by decide +kernel
theorem dX0_append_11 : decode cX0_append 11 = .ok (.iaload, 1) := by decide +kernel
theorem dX0_append_12 : decode cX0_append 12 = .ok (.iload_n 2, 1) := by decide +kernel
theorem dX0_append_13 : decode cX0_append 13 = .ok (.iastore, 1) := by decide +kernel
theorem dX0_append_14 : decode cX0_append 14 = .ok (.aload_n 0, 1) := by decide +kernel
theorem dX0_append_15 : decode cX0_append 15 = .ok (.getfield 29, 3) := by decide +kernel
theorem dX0_append_18 : decode cX0_append 18 = .ok (.iload_n 1, 1) := by decide +kernel
theorem dX0_append_19 : decode cX0_append 19 = .ok (.dup2, 1) := by decide +kernel
theorem dX0_append_20 : decode cX0_append 20 = .ok (.iaload, 1) := by decide +kernel
theorem dX0_append_21 : decode cX0_append 21 = .ok (.iconst 1, 1) := by decide +kernel
theorem dX0_append_22 : decode cX0_append 22 = .ok (.iadd, 1) := by decide +kernel
theorem dX0_append_23 : decode cX0_append 23 = .ok (.iastore, 1) := by decide +kernel
theorem dX0_append_24 : decode cX0_append 24 = .ok (.aload_n 0, 1) := by decide +kernel
theorem dX0_append_25 : decode cX0_append 25 = .ok (.getfield 35, 3) := by decide +kernel
theorem dX0_append_28 : decode cX0_append 28 = .ok (.iload_n 2, 1) := by decide +kernel
theorem dX0_append_29 : decode cX0_append 29 = .ok (.dup2, 1) := by decide +kernel
theorem dX0_append_30 : decode cX0_append 30 = .ok (.iaload, 1) := by decide +kernel
theorem dX0_append_31 : decode cX0_append 31 = .ok (.iconst 1, 1) := by decide +kernel
theorem dX0_append_32 : decode cX0_append 32 = .ok (.iload_n 1, 1) := by decide +kernel
theorem dX0_append_33 : decode cX0_append 33 = .ok (.ishl, 1) := by decide +kernel
theorem dX0_append_34 : decode cX0_append 34 = .ok (.ior, 1) := by decide +kernel
theorem dX0_append_35 : decode cX0_append 35 = .ok (.iastore, 1) := by decide +kernel
theorem dX0_append_36 : decode cX0_append 36 = .ok (.aload_n 0, 1) := by decide +kernel
theorem dX0_append_37 : decode cX0_append 37 = .ok (.iload_n 2, 1) := by decide +kernel
theorem dX0_append_38 : decode cX0_append 38 = .ok (.invokevirtual 103, 3) := by decide +kernel
theorem dX0_append_41 : decode cX0_append 41 = .ok (.return_, 1) := by decide +kernel
theorem dX0_judgeHeld_0 : decode cX0_judgeHeld 0 = .ok (.lconst 1, 1) := by decide +kernel
theorem dX0_judgeHeld_1 : decode cX0_judgeHeld 1 = .ok (.iload_n 1, 1) := by decide +kernel
theorem dX0_judgeHeld_2 : decode cX0_judgeHeld 2 = .ok (.lshl, 1) := by decide +kernel
theorem dX0_judgeHeld_3 : decode cX0_judgeHeld 3 = .ok (.lstore_n 2, 1) := by decide +kernel
theorem dX0_judgeHeld_4 : decode cX0_judgeHeld 4 = .ok (.aload_n 0, 1) := by decide +kernel
theorem dX0_judgeHeld_5 : decode cX0_judgeHeld 5 = .ok (.getfield 35, 3) := by decide +kernel
theorem dX0_judgeHeld_8 : decode cX0_judgeHeld 8 = .ok (.iload_n 1, 1) := by decide +kernel
theorem dX0_judgeHeld_9 : decode cX0_judgeHeld 9 = .ok (.iaload, 1) := by decide +kernel
theorem dX0_judgeHeld_10 : decode cX0_judgeHeld 10 = .ok (.invokestatic 76, 3) := by decide +kernel
theorem dX0_judgeHeld_13 : decode cX0_judgeHeld 13 = .ok (.iconst 3, 1) := by decide +kernel
theorem dX0_judgeHeld_14 : decode cX0_judgeHeld 14 = .ok (.if_icmp .lt 26, 3) := by decide +kernel
theorem dX0_judgeHeld_17 : decode cX0_judgeHeld 17 = .ok (.aload_n 0, 1) := by decide +kernel
theorem dX0_judgeHeld_18 : decode cX0_judgeHeld 18 = .ok (.dup, 1) := by decide +kernel
theorem dX0_judgeHeld_19 : decode cX0_judgeHeld 19 = .ok (.getfield 54, 3) := by decide +kernel
theorem dX0_judgeHeld_22 : decode cX0_judgeHeld 22 = .ok (.lload_n 2, 1) := by decide +kernel
theorem dX0_judgeHeld_23 : decode cX0_judgeHeld 23 = .ok (.lor, 1) := by decide +kernel
theorem dX0_judgeHeld_24 : decode cX0_judgeHeld 24 = .ok (.putfield 54, 3) := by decide +kernel
theorem dX0_judgeHeld_27 : decode cX0_judgeHeld 27 = .ok (.aload_n 0, 1) := by decide +kernel
theorem dX0_judgeHeld_28 : decode cX0_judgeHeld 28 = .ok (.dup, 1) := by decide +kernel
theorem dX0_judgeHeld_29 : decode cX0_judgeHeld 29 = .ok (.getfield 58, 3) := by decide +kernel
theorem dX0_judgeHeld_32 : decode cX0_judgeHeld 32 = .ok (.lload_n 2, 1) := by decide +kernel
theorem dX0_judgeHeld_33 : decode cX0_judgeHeld 33 = .ok (.lor, 1) := by decide +kernel
theorem dX0_judgeHeld_34 : decode cX0_judgeHeld 34 = .ok (.putfield 58, 3) := by decide +kernel
theorem dX0_judgeHeld_37 : decode cX0_judgeHeld 37 = .ok (.goto 17, 3) := by decide +kernel
theorem dX0_judgeHeld_40 : decode cX0_judgeHeld 40 = .ok (.aload_n 0, 1) := by decide +kernel
theorem dX0_judgeHeld_41 : decode cX0_judgeHeld 41 = .ok (.dup, 1) := by decide +kernel
theorem dX0_judgeHeld_42 : decode cX0_judgeHeld 42 = .ok (.getfield 54, 3) := by decide +kernel
theorem dX0_judgeHeld_45 : decode cX0_judgeHeld 45 = .ok (.lload_n 2, 1) := by decide +kernel
theorem dX0_judgeHeld_46 : decode cX0_judgeHeld 46 = .ok (.ldc2_w 107, 3) := by decide +kernel
theorem dX0_judgeHeld_49 : decode cX0_judgeHeld 49 = .ok (.lxor, 1) := by decide +kernel
theorem dX0_judgeHeld_50 : decode cX0_judgeHeld 50 = .ok (.land, 1) := by decide +kernel
theorem dX0_judgeHeld_51 : decode cX0_judgeHeld 51 = .ok (.putfield 54, 3) := by decide +kernel
theorem dX0_judgeHeld_54 : decode cX0_judgeHeld 54 = .ok (.return_, 1) := by decide +kernel
theorem dX1_init_0 : decode cX1_init 0 = .ok (.aload_n 0, 1) := by decide +kernel
theorem dX1_init_1 : decode cX1_init 1 = .ok (.invokespecial 3, 3) := by decide +kernel
theorem dX1_init_4 : decode cX1_init 4 = .ok (.aload_n 0, 1) := by decide +kernel
theorem dX1_init_5 : decode cX1_init 5 = .ok (.bipush 60, 2) := by decide +kernel
theorem dX1_init_7 : decode cX1_init 7 = .ok (.newarray .int, 2) := by decide +kernel
theorem dX1_init_9 : decode cX1_init 9 = .ok (.putfield 9, 3) := by decide +kernel
theorem dX1_init_12 : decode cX1_init 12 = .ok (.aload_n 0, 1) := by decide +kernel
theorem dX1_init_13 : decode cX1_init 13 = .ok (.bipush 60, 2) := by decide +kernel
theorem dX1_init_15 : decode cX1_init 15 = .ok (.newarray .int, 2) := by decide +kernel
theorem dX1_init_17 : decode cX1_init 17 = .ok (.putfield 15, 3) := by decide +kernel
theorem dX1_init_20 : decode cX1_init 20 = .ok (.aload_n 0, 1) := by decide +kernel
theorem dX1_init_21 : decode cX1_init 21 = .ok (.bipush 60, 2) := by decide +kernel
theorem dX1_init_23 : decode cX1_init 23 = .ok (.newarray .int, 2) := by decide +kernel
theorem dX1_init_25 : decode cX1_init 25 = .ok (.putfield 18, 3) := by decide +kernel
theorem dX1_init_28 : decode cX1_init 28 = .ok (.aload_n 0, 1) := by decide +kernel
theorem dX1_init_29 : decode cX1_init 29 = .ok (.bipush 60, 2) := by decide +kernel
theorem dX1_init_31 : decode cX1_init 31 = .ok (.newarray .int, 2) := by decide +kernel
theorem dX1_init_33 : decode cX1_init 33 = .ok (.putfield 21, 3) := by decide +kernel
theorem dX1_init_36 : decode cX1_init 36 = .ok (.return_, 1) := by decide +kernel
theorem dX1_add_0 : decode cX1_add 0 = .ok (.aload_n 0, 1) := by decide +kernel
theorem dX1_add_1 : decode cX1_add 1 = .ok (.getfield 9, 3) := by decide +kernel
theorem dX1_add_4 : decode cX1_add 4 = .ok (.aload_n 0, 1) := by decide +kernel
theorem dX1_add_5 : decode cX1_add 5 = .ok (.getfield 24, 3) := by decide +kernel
theorem dX1_add_8 : decode cX1_add 8 = .ok (.iload_n 1, 1) := by decide +kernel
theorem dX1_add_9 : decode cX1_add 9 = .ok (.iastore, 1) := by decide +kernel
theorem dX1_add_10 : decode cX1_add 10 = .ok (.aload_n 0, 1) := by decide +kernel
theorem dX1_add_11 : decode cX1_add 11 = .ok (.getfield 15, 3) := by decide +kernel
theorem dX1_add_14 : decode cX1_add 14 = .ok (.aload_n 0, 1) := by decide +kernel
theorem dX1_add_15 : decode cX1_add 15 = .ok (.getfield 24, 3) := by decide +kernel
theorem dX1_add_18 : decode cX1_add 18 = .ok (.iload_n 2, 1) := by decide +kernel
theorem dX1_add_19 : decode cX1_add 19 = .ok (.iastore, 1) := by decide +kernel
theorem dX1_add_20 : decode cX1_add 20 = .ok (.aload_n 0, 1) := by decide +kernel
theorem dX1_add_21 : decode cX1_add 21 = .ok (.getfield 18, 3) := by decide +kernel
theorem dX1_add_24 : decode cX1_add 24 = .ok (.aload_n 0, 1) := by decide +kernel
theorem dX1_add_25 : decode cX1_add 25 = .ok (.getfield 24, 3) := by decide +kernel
theorem dX1_add_28 : decode cX1_add 28 = .ok (.iload_n 3, 1) := by decide +kernel
theorem dX1_add_29 : decode cX1_add 29 = .ok (.iastore, 1) := by decide +kernel
theorem dX1_add_30 : decode cX1_add 30 = .ok (.aload_n 0, 1) := by decide +kernel
theorem dX1_add_31 : decode cX1_add 31 = .ok (.getfield 21, 3) := by decide +kernel
theorem dX1_add_34 : decode cX1_add 34 = .ok (.aload_n 0, 1) := by decide +kernel
theorem dX1_add_35 : decode cX1_add 35 = .ok (.getfield 24, 3) := by decide +kernel
theorem dX1_add_38 : decode cX1_add 38 = .ok (.iconst 0, 1) := by decide +kernel
theorem dX1_add_39 : decode cX1_add 39 = .ok (.iastore, 1) := by decide +kernel
theorem dX1_add_40 : decode cX1_add 40 = .ok (.aload_n 0, 1) := by decide +kernel
theorem dX1_add_41 : decode cX1_add 41 = .ok (.dup, 1) := by decide +kernel
theorem dX1_add_42 : decode cX1_add 42 = .ok (.getfield 24, 3) := by decide +kernel
theorem dX1_add_45 : decode cX1_add 45 = .ok (.iconst 1, 1) := by decide +kernel
theorem dX1_add_46 : decode cX1_add 46 = .ok (.iadd, 1) := by decide +kernel
theorem dX1_add_47 : decode cX1_add 47 = .ok (.putfield 24, 3) := by decide +kernel
theorem dX1_add_50 : decode cX1_add 50 = .ok (.return_, 1) := by decide +kernel
theorem dX2_init_0 : decode cX2_init 0 = .ok (.aload_n 0, 1) := by decide +kernel
theorem dX2_init_1 : decode cX2_init 1 = .ok (.invokespecial 3, 3) := by decide +kernel
theorem dX2_init_4 : decode cX2_init 4 = .ok (.aload_n 0, 1) := by decide +kernel
theorem dX2_init_5 : decode cX2_init 5 = .ok (.iconst 5, 1) := by decide +kernel
theorem dX2_init_6 : decode cX2_init 6 = .ok (.sipush 200, 3) := by decide +kernel
theorem dX2_init_9 : decode cX2_init 9 = .ok (.multianewarray 9 2, 4) := by decide +kernel
theorem dX2_init_13 : decode cX2_init 13 = .ok (.putfield 11, 3) := by decide +kernel
theorem dX2_init_16 : decode cX2_init 16 = .ok (.aload_n 0, 1) := by decide +kernel
theorem dX2_init_17 : decode cX2_init 17 = .ok (.iconst 5, 1) := by decide +kernel
theorem dX2_init_18 : decode cX2_init 18 = .ok (.newarray .int, 2) := by decide +kernel
theorem dX2_init_20 : decode cX2_init 20 = .ok (.putfield 16, 3) := by decide +kernel
theorem dX2_init_23 : decode cX2_init 23 = .ok (.return_, 1) := by decide +kernel
theorem dX2_bring_0 : decode cX2_bring 0 = .ok (.aload_n 0, 1) := by decide +kernel
theorem dX2_bring_1 : decode cX2_bring 1 = .ok (.getfield 16, 3) := by decide +kernel
theorem dX2_bring_4 : decode cX2_bring 4 = .ok (.iload_n 1, 1) := by decide +kernel
theorem dX2_bring_5 : decode cX2_bring 5 = .ok (.iaload, 1) := by decide +kernel
theorem dX2_bring_6 : decode cX2_bring 6 = .ok (.iload_n 3, 1) := by decide +kernel
theorem dX2_bring_7 : decode cX2_bring 7 = .ok (.iadd, 1) := by decide +kernel
theorem dX2_bring_8 : decode cX2_bring 8 = .ok (.istore 4, 2) := by decide +kernel
theorem dX2_bring_10 : decode cX2_bring 10 = .ok (.aload_n 0, 1) := by decide +kernel
theorem dX2_bring_11 : decode cX2_bring 11 = .ok (.getfield 16, 3) := by decide +kernel
theorem dX2_bring_14 : decode cX2_bring 14 = .ok (.iload_n 1, 1) := by decide +kernel
theorem dX2_bring_15 : decode cX2_bring 15 = .ok (.iaload, 1) := by decide +kernel
theorem dX2_bring_16 : decode cX2_bring 16 = .ok (.istore 5, 2) := by decide +kernel
theorem dX2_bring_18 : decode cX2_bring 18 = .ok (.iload 5, 2) := by decide +kernel
theorem dX2_bring_20 : decode cX2_bring 20 = .ok (.iload 4, 2) := by decide +kernel
theorem dX2_bring_22 : decode cX2_bring 22 = .ok (.if_icmp .ge 19, 3) := by decide +kernel
theorem dX2_bring_25 : decode cX2_bring 25 = .ok (.aload_n 0, 1) := by decide +kernel
theorem dX2_bring_26 : decode cX2_bring 26 = .ok (.getfield 11, 3) := by decide +kernel
theorem dX2_bring_29 : decode cX2_bring 29 = .ok (.iload_n 1, 1) := by decide +kernel
theorem dX2_bring_30 : decode cX2_bring 30 = .ok (.aaload, 1) := by decide +kernel
theorem dX2_bring_31 : decode cX2_bring 31 = .ok (.iload 5, 2) := by decide +kernel
theorem dX2_bring_33 : decode cX2_bring 33 = .ok (.iload_n 2, 1) := by decide +kernel
theorem dX2_bring_34 : decode cX2_bring 34 = .ok (.iastore, 1) := by decide +kernel
theorem dX2_bring_35 : decode cX2_bring 35 = .ok (.iinc 5 1, 3) := by decide +kernel
theorem dX2_bring_38 : decode cX2_bring 38 = .ok (.goto (-20), 3) := by decide +kernel
theorem dX2_bring_41 : decode cX2_bring 41 = .ok (.aload_n 0, 1) := by decide +kernel
theorem dX2_bring_42 : decode cX2_bring 42 = .ok (.getfield 16, 3) := by decide +kernel
theorem dX2_bring_45 : decode cX2_bring 45 = .ok (.iload_n 1, 1) := by decide +kernel
theorem dX2_bring_46 : decode cX2_bring 46 = .ok (.iload 4, 2) := by decide +kernel
theorem dX2_bring_48 : decode cX2_bring 48 = .ok (.iastore, 1) := by decide +kernel
theorem dX2_bring_49 : decode cX2_bring 49 = .ok (.return_, 1) := by decide +kernel
theorem dX2_takeFirst_0 : decode cX2_takeFirst 0 = .ok (.iconst 0, 1) := by decide +kernel
theorem dX2_takeFirst_1 : decode cX2_takeFirst 1 = .ok (.istore_n 3, 1) := by decide +kernel
theorem dX2_takeFirst_2 : decode cX2_takeFirst 2 = .ok (.iconst 0, 1) := by decide +kernel
theorem dX2_takeFirst_3 : decode cX2_takeFirst 3 = .ok (.istore 4, 2) := by decide +kernel
theorem dX2_takeFirst_5 : decode cX2_takeFirst 5 = .ok (.iload 4, 2) := by decide +kernel
theorem dX2_takeFirst_7 : decode cX2_takeFirst 7 = .ok (.iload_n 2, 1) := by decide +kernel
theorem dX2_takeFirst_8 : decode cX2_takeFirst 8 = .ok (.if_icmp .ge 23, 3) := by decide +kernel
theorem dX2_takeFirst_11 : decode cX2_takeFirst 11 = .ok (.iload_n 3, 1) := by decide +kernel
theorem dX2_takeFirst_12 : decode cX2_takeFirst 12 = .ok (.iconst 1, 1) := by decide +kernel
theorem dX2_takeFirst_13 : decode cX2_takeFirst 13 = .ok (.aload_n 0, 1) := by decide +kernel
theorem dX2_takeFirst_14 : decode cX2_takeFirst 14 = .ok (.getfield 11, 3) := by decide +kernel
theorem dX2_takeFirst_17 : decode cX2_takeFirst 17 = .ok (.iload_n 1, 1) := by decide +kernel
theorem dX2_takeFirst_18 : decode cX2_takeFirst 18 = .ok (.aaload, 1) := by decide +kernel
theorem dX2_takeFirst_19 : decode cX2_takeFirst 19 = .ok (.iload 4, 2) := by decide +kernel
theorem dX2_takeFirst_21 : decode cX2_takeFirst 21 = .ok (.iaload, 1) := by decide +kernel
theorem dX2_takeFirst_22 : decode cX2_takeFirst 22 = .ok (.ishl, 1) := by decide +kernel
theorem dX2_takeFirst_23 : decode cX2_takeFirst 23 = .ok (.ior, 1) := by decide +kernel
theorem dX2_takeFirst_24 : decode cX2_takeFirst 24 = .ok (.istore_n 3, 1) := by decide +kernel
theorem dX2_takeFirst_25 : decode cX2_takeFirst 25 = .ok (.iinc 4 1, 3) := by decide +kernel
theorem dX2_takeFirst_28 : decode cX2_takeFirst 28 = .ok (.goto (-23), 3) := by decide +kernel
theorem dX2_takeFirst_31 : decode cX2_takeFirst 31 = .ok (.iload_n 2, 1) := by decide +kernel
theorem dX2_takeFirst_32 : decode cX2_takeFirst 32 = .ok (.istore 4, 2) := by decide +kernel
theorem dX2_takeFirst_34 : decode cX2_takeFirst 34 = .ok (.iload 4, 2) := by decide +kernel
theorem dX2_takeFirst_36 : decode cX2_takeFirst 36 = .ok (.aload_n 0, 1) := by decide +kernel
theorem dX2_takeFirst_37 : decode cX2_takeFirst 37 = .ok (.getfield 16, 3) := by decide +kernel
theorem dX2_takeFirst_40 : decode cX2_takeFirst 40 = .ok (.iload_n 1, 1) := by decide +kernel
theorem dX2_takeFirst_41 : decode cX2_takeFirst 41 = .ok (.iaload, 1) := by decide +kernel
theorem dX2_takeFirst_42 : decode cX2_takeFirst 42 = .ok (.if_icmp .ge 29, 3) := by decide +kernel
theorem dX2_takeFirst_45 : decode cX2_takeFirst 45 = .ok (.aload_n 0, 1) := by decide +kernel
theorem dX2_takeFirst_46 : decode cX2_takeFirst 46 = .ok (.getfield 11, 3) := by decide +kernel
theorem dX2_takeFirst_49 : decode cX2_takeFirst 49 = .ok (.iload_n 1, 1) := by decide +kernel
theorem dX2_takeFirst_50 : decode cX2_takeFirst 50 = .ok (.aaload, 1) := by decide +kernel
theorem dX2_takeFirst_51 : decode cX2_takeFirst 51 = .ok (.iload 4, 2) := by decide +kernel
theorem dX2_takeFirst_53 : decode cX2_takeFirst 53 = .ok (.iload_n 2, 1) := by decide +kernel
theorem dX2_takeFirst_54 : decode cX2_takeFirst 54 = .ok (.isub, 1) := by decide +kernel
theorem dX2_takeFirst_55 : decode cX2_takeFirst 55 = .ok (.aload_n 0, 1) := by decide +kernel
theorem dX2_takeFirst_56 : decode cX2_takeFirst 56 = .ok (.getfield 11, 3) := by decide +kernel
theorem dX2_takeFirst_59 : decode cX2_takeFirst 59 = .ok (.iload_n 1, 1) := by decide +kernel
theorem dX2_takeFirst_60 : decode cX2_takeFirst 60 = .ok (.aaload, 1) := by decide +kernel
theorem dX2_takeFirst_61 : decode cX2_takeFirst 61 = .ok (.iload 4, 2) := by decide +kernel
theorem dX2_takeFirst_63 : decode cX2_takeFirst 63 = .ok (.iaload, 1) := by decide +kernel
theorem dX2_takeFirst_64 : decode cX2_takeFirst 64 = .ok (.iastore, 1) := by decide +kernel
theorem dX2_takeFirst_65 : decode cX2_takeFirst 65 = .ok (.iinc 4 1, 3) := by decide +kernel
theorem dX2_takeFirst_68 : decode cX2_takeFirst 68 = .ok (.goto (-34), 3) := by decide +kernel
theorem dX2_takeFirst_71 : decode cX2_takeFirst 71 = .ok (.aload_n 0, 1) := by decide +kernel
theorem dX2_takeFirst_72 : decode cX2_takeFirst 72 = .ok (.getfield 16, 3) := by decide +kernel
theorem dX2_takeFirst_75 : decode cX2_takeFirst 75 = .ok (.iload_n 1, 1) := by decide +kernel
theorem dX2_takeFirst_76 : decode cX2_takeFirst 76 = .ok (.dup2, 1) := by decide +kernel
theorem dX2_takeFirst_77 : decode cX2_takeFirst 77 = .ok (.iaload, 1) := by decide +kernel
theorem dX2_takeFirst_78 : decode cX2_takeFirst 78 = .ok (.iload_n 2, 1) := by decide +kernel
theorem dX2_takeFirst_79 : decode cX2_takeFirst 79 = .ok (.isub, 1) := by decide +kernel
theorem dX2_takeFirst_80 : decode cX2_takeFirst 80 = .ok (.iastore, 1) := by decide +kernel
theorem dX2_takeFirst_81 : decode cX2_takeFirst 81 = .ok (.iload_n 3, 1) := by decide +kernel
theorem dX2_takeFirst_82 : decode cX2_takeFirst 82 = .ok (.ireturn, 1) := by decide +kernel
theorem dX2_throwOut_0 : decode cX2_throwOut 0 = .ok (.aload_n 0, 1) := by decide +kernel
theorem dX2_throwOut_1 : decode cX2_throwOut 1 = .ok (.dup, 1) := by decide +kernel
theorem dX2_throwOut_2 : decode cX2_throwOut 2 = .ok (.getfield 20, 3) := by decide +kernel
theorem dX2_throwOut_5 : decode cX2_throwOut 5 = .ok (.iconst 1, 1) := by decide +kernel
theorem dX2_throwOut_6 : decode cX2_throwOut 6 = .ok (.iload_n 1, 1) := by decide +kernel
theorem dX2_throwOut_7 : decode cX2_throwOut 7 = .ok (.ishl, 1) := by decide +kernel
theorem dX2_throwOut_8 : decode cX2_throwOut 8 = .ok (.ior, 1) := by decide +kernel
theorem dX2_throwOut_9 : decode cX2_throwOut 9 = .ok (.putfield 20, 3) := by decide +kernel
theorem dX2_throwOut_12 : decode cX2_throwOut 12 = .ok (.iconst 0, 1) := by decide +kernel
theorem dX2_throwOut_13 : decode cX2_throwOut 13 = .ok (.istore_n 2, 1) := by decide +kernel
theorem dX2_throwOut_14 : decode cX2_throwOut 14 = .ok (.iload_n 2, 1) := by decide +kernel
theorem dX2_throwOut_15 : decode cX2_throwOut 15 = .ok (.iconst 5, 1) := by decide +kernel
theorem dX2_throwOut_16 : decode cX2_throwOut 16 = .ok (.if_icmp .ge 15, 3) := by decide +kernel
theorem dX2_throwOut_19 : decode cX2_throwOut 19 = .ok (.aload_n 0, 1) := by decide +kernel
theorem dX2_throwOut_20 : decode cX2_throwOut 20 = .ok (.iload_n 2, 1) := by decide +kernel
theorem dX2_throwOut_21 : decode cX2_throwOut 21 = .ok (.iload_n 1, 1) := by decide +kernel
theorem dX2_throwOut_22 : decode cX2_throwOut 22 = .ok (.invokevirtual 24, 3) := by decide +kernel
theorem dX2_throwOut_25 : decode cX2_throwOut 25 = .ok (.iinc 2 1, 3) := by decide +kernel
theorem dX2_throwOut_28 : decode cX2_throwOut 28 = .ok (.goto (-14), 3) := by decide +kernel
theorem dX2_throwOut_31 : decode cX2_throwOut 31 = .ok (.return_, 1) := by decide +kernel
theorem dX2_throwOutOf_0 : decode cX2_throwOutOf 0 = .ok (.iconst 0, 1) := by decide +kernel
theorem dX2_throwOutOf_1 : decode cX2_throwOutOf 1 = .ok (.istore_n 3, 1) := by decide +kernel
theorem dX2_throwOutOf_2 : decode cX2_throwOutOf 2 = .ok (.iconst 0, 1) := by decide +kernel
theorem dX2_throwOutOf_3 : decode cX2_throwOutOf 3 = .ok (.istore 4, 2) := by decide +kernel
theorem dX2_throwOutOf_5 : decode cX2_throwOutOf 5 = .ok (.iload 4, 2) := by decide +kernel
theorem dX2_throwOutOf_7 : decode cX2_throwOutOf 7 = .ok (.aload_n 0, 1) := by decide +kernel
theorem dX2_throwOutOf_8 : decode cX2_throwOutOf 8 = .ok (.getfield 16, 3) := by decide +kernel
theorem dX2_throwOutOf_11 : decode cX2_throwOutOf 11 = .ok (.iload_n 1, 1) := by decide +kernel
theorem dX2_throwOutOf_12 : decode cX2_throwOutOf 12 = .ok (.iaload, 1) := by decide +kernel
theorem dX2_throwOutOf_13 : decode cX2_throwOutOf 13 = .ok (.if_icmp .ge 42, 3) := by decide +kernel
theorem dX2_throwOutOf_16 : decode cX2_throwOutOf 16 = .ok (.aload_n 0, 1) := by decide +kernel
theorem dX2_throwOutOf_17 : decode cX2_throwOutOf 17 = .ok (.getfield 11, 3) := by decide +kernel
theorem dX2_throwOutOf_20 : decode cX2_throwOutOf 20 = .ok (.iload_n 1, 1) := by decide +kernel
theorem dX2_throwOutOf_21 : decode cX2_throwOutOf 21 = .ok (.aaload, 1) := by decide +kernel
theorem dX2_throwOutOf_22 : decode cX2_throwOutOf 22 = .ok (.iload 4, 2) := by decide +kernel
theorem dX2_throwOutOf_24 : decode cX2_throwOutOf 24 = .ok (.iaload, 1) := by decide +kernel
theorem dX2_throwOutOf_25 : decode cX2_throwOutOf 25 = .ok (.iload_n 2, 1) := by decide +kernel
theorem dX2_throwOutOf_26 : decode cX2_throwOutOf 26 = .ok (.if_icmp .eq 23, 3) := by decide +kernel
theorem dX2_throwOutOf_29 : decode cX2_throwOutOf 29 = .ok (.aload_n 0, 1) := by decide +kernel
theorem dX2_throwOutOf_30 : decode cX2_throwOutOf 30 = .ok (.getfield 11, 3) := by decide +kernel
theorem dX2_throwOutOf_33 : decode cX2_throwOutOf 33 = .ok (.iload_n 1, 1) := by decide +kernel
theorem dX2_throwOutOf_34 : decode cX2_throwOutOf 34 = .ok (.aaload, 1) := by decide +kernel
theorem dX2_throwOutOf_35 : decode cX2_throwOutOf 35 = .ok (.iload_n 3, 1) := by decide +kernel
theorem dX2_throwOutOf_36 : decode cX2_throwOutOf 36 = .ok (.aload_n 0, 1) := by decide +kernel
theorem dX2_throwOutOf_37 : decode cX2_throwOutOf 37 = .ok (.getfield 11, 3) := by decide +kernel
theorem dX2_throwOutOf_40 : decode cX2_throwOutOf 40 = .ok (.iload_n 1, 1) := by decide +kernel
theorem dX2_throwOutOf_41 : decode cX2_throwOutOf 41 = .ok (.aaload, 1) := by decide +kernel
theorem dX2_throwOutOf_42 : decode cX2_throwOutOf 42 = .ok (.iload 4, 2) := by decide +kernel
theorem dX2_throwOutOf_44 : decode cX2_throwOutOf 44 = .ok (.iaload, 1) := by decide +kernel
theorem dX2_throwOutOf_45 : decode cX2_throwOutOf 45 = .ok (.iastore, 1) := by decide +kernel
theorem dX2_throwOutOf_46 : decode cX2_throwOutOf 46 = .ok (.iinc 3 1, 3) := by decide +kernel
theorem dX2_throwOutOf_49 : decode cX2_throwOutOf 49 = .ok (.iinc 4 1, 3) := by decide +kernel
theorem dX2_throwOutOf_52 : decode cX2_throwOutOf 52 = .ok (.goto (-47), 3) := by decide +kernel
theorem dX2_throwOutOf_55 : decode cX2_throwOutOf 55 = .ok (.aload_n 0, 1) := by decide +kernel
theorem dX2_throwOutOf_56 : decode cX2_throwOutOf 56 = .ok (.getfield 16, 3) := by decide +kernel
theorem dX2_throwOutOf_59 : decode cX2_throwOutOf 59 = .ok (.iload_n 1, 1) := by decide +kernel
theorem dX2_throwOutOf_60 : decode cX2_throwOutOf 60 = .ok (.iload_n 3, 1) := by decide +kernel
theorem dX2_throwOutOf_61 : decode cX2_throwOutOf 61 = .ok (.iastore, 1) := by decide +kernel
theorem dX2_throwOutOf_62 : decode cX2_throwOutOf 62 = .ok (.return_, 1) := by decide +kernel
theorem dX3_init_0 : decode cX3_init 0 = .ok (.aload_n 0, 1) := by decide +kernel
theorem dX3_init_1 : decode cX3_init 1 = .ok (.invokespecial 3, 3) := by decide +kernel
theorem dX3_init_4 : decode cX3_init 4 = .ok (.aload_n 0, 1) := by decide +kernel
theorem dX3_init_5 : decode cX3_init 5 = .ok (.sipush 512, 3) := by decide +kernel
theorem dX3_init_8 : decode cX3_init 8 = .ok (.newarray .int, 2) := by decide +kernel
theorem dX3_init_10 : decode cX3_init 10 = .ok (.putfield 9, 3) := by decide +kernel
theorem dX3_init_13 : decode cX3_init 13 = .ok (.aload_n 0, 1) := by decide +kernel
theorem dX3_init_14 : decode cX3_init 14 = .ok (.sipush 512, 3) := by decide +kernel
theorem dX3_init_17 : decode cX3_init 17 = .ok (.newarray .int, 2) := by decide +kernel
theorem dX3_init_19 : decode cX3_init 19 = .ok (.putfield 15, 3) := by decide +kernel
theorem dX3_init_22 : decode cX3_init 22 = .ok (.aload_n 0, 1) := by decide +kernel
theorem dX3_init_23 : decode cX3_init 23 = .ok (.sipush 512, 3) := by decide +kernel
theorem dX3_init_26 : decode cX3_init 26 = .ok (.newarray .int, 2) := by decide +kernel
theorem dX3_init_28 : decode cX3_init 28 = .ok (.putfield 18, 3) := by decide +kernel
theorem dX3_init_31 : decode cX3_init 31 = .ok (.return_, 1) := by decide +kernel
theorem dX3_add_0 : decode cX3_add 0 = .ok (.aload_n 0, 1) := by decide +kernel
theorem dX3_add_1 : decode cX3_add 1 = .ok (.getfield 21, 3) := by decide +kernel
theorem dX3_add_4 : decode cX3_add 4 = .ok (.sipush 512, 3) := by decide +kernel
theorem dX3_add_7 : decode cX3_add 7 = .ok (.if_icmp .ge 43, 3) := by decide +kernel
theorem dX3_add_10 : decode cX3_add 10 = .ok (.aload_n 0, 1) := by decide +kernel
theorem dX3_add_11 : decode cX3_add 11 = .ok (.getfield 9, 3) := by decide +kernel
theorem dX3_add_14 : decode cX3_add 14 = .ok (.aload_n 0, 1) := by decide +kernel
theorem dX3_add_15 : decode cX3_add 15 = .ok (.getfield 21, 3) := by decide +kernel
theorem dX3_add_18 : decode cX3_add 18 = .ok (.iload_n 1, 1) := by decide +kernel
theorem dX3_add_19 : decode cX3_add 19 = .ok (.iastore, 1) := by decide +kernel
theorem dX3_add_20 : decode cX3_add 20 = .ok (.aload_n 0, 1) := by decide +kernel
theorem dX3_add_21 : decode cX3_add 21 = .ok (.getfield 15, 3) := by decide +kernel
theorem dX3_add_24 : decode cX3_add 24 = .ok (.aload_n 0, 1) := by decide +kernel
theorem dX3_add_25 : decode cX3_add 25 = .ok (.getfield 21, 3) := by decide +kernel
theorem dX3_add_28 : decode cX3_add 28 = .ok (.iload_n 2, 1) := by decide +kernel
theorem dX3_add_29 : decode cX3_add 29 = .ok (.iastore, 1) := by decide +kernel
theorem dX3_add_30 : decode cX3_add 30 = .ok (.aload_n 0, 1) := by decide +kernel
theorem dX3_add_31 : decode cX3_add 31 = .ok (.getfield 18, 3) := by decide +kernel
theorem dX3_add_34 : decode cX3_add 34 = .ok (.aload_n 0, 1) := by decide +kernel
theorem dX3_add_35 : decode cX3_add 35 = .ok (.getfield 21, 3) := by decide +kernel
theorem dX3_add_38 : decode cX3_add 38 = .ok (.iload_n 3, 1) := by decide +kernel
theorem dX3_add_39 : decode cX3_add 39 = .ok (.iastore, 1) := by decide +kernel
theorem dX3_add_40 : decode cX3_add 40 = .ok (.aload_n 0, 1) := by decide +kernel
theorem dX3_add_41 : decode cX3_add 41 = .ok (.dup, 1) := by decide +kernel
theorem dX3_add_42 : decode cX3_add 42 = .ok (.getfield 21, 3) := by decide +kernel
theorem dX3_add_45 : decode cX3_add 45 = .ok (.iconst 1, 1) := by decide +kernel
theorem dX3_add_46 : decode cX3_add 46 = .ok (.iadd, 1) := by decide +kernel
theorem dX3_add_47 : decode cX3_add 47 = .ok (.putfield 21, 3) := by decide +kernel
theorem dX3_add_50 : decode cX3_add 50 = .ok (.return_, 1) := by decide +kernel
theorem dX4_init_0 : decode cX4_init 0 = .ok (.aload_n 0, 1) := by decide +kernel
theorem dX4_init_1 : decode cX4_init 1 = .ok (.invokespecial 3, 3) := by decide +kernel
theorem dX4_init_4 : decode cX4_init 4 = .ok (.aload_n 0, 1) := by decide +kernel
theorem dX4_init_5 : decode cX4_init 5 = .ok (.iconst 5, 1) := by decide +kernel
theorem dX4_init_6 : decode cX4_init 6 = .ok (.bipush 51, 2) := by decide +kernel
theorem dX4_init_8 : decode cX4_init 8 = .ok (.multianewarray 9 2, 4) := by decide +kernel
theorem dX4_init_12 : decode cX4_init 12 = .ok (.putfield 11, 3) := by decide +kernel
theorem dX4_init_15 : decode cX4_init 15 = .ok (.aload_n 0, 1) := by decide +kernel
theorem dX4_init_16 : decode cX4_init 16 = .ok (.iconst 5, 1) := by decide +kernel
theorem dX4_init_17 : decode cX4_init 17 = .ok (.newarray .int, 2) := by decide +kernel
theorem dX4_init_19 : decode cX4_init 19 = .ok (.putfield 16, 3) := by decide +kernel
theorem dX4_init_22 : decode cX4_init 22 = .ok (.iconst 0, 1) := by decide +kernel
theorem dX4_init_23 : decode cX4_init 23 = .ok (.istore_n 1, 1) := by decide +kernel
theorem dX4_init_24 : decode cX4_init 24 = .ok (.iload_n 1, 1) := by decide +kernel
theorem dX4_init_25 : decode cX4_init 25 = .ok (.iconst 5, 1) := by decide +kernel
theorem dX4_init_26 : decode cX4_init 26 = .ok (.if_icmp .ge 19, 3) := by decide +kernel
theorem dX4_init_29 : decode cX4_init 29 = .ok (.aload_n 0, 1) := by decide +kernel
theorem dX4_init_30 : decode cX4_init 30 = .ok (.getfield 11, 3) := by decide +kernel
theorem dX4_init_33 : decode cX4_init 33 = .ok (.iload_n 1, 1) := by decide +kernel
theorem dX4_init_34 : decode cX4_init 34 = .ok (.aaload, 1) := by decide +kernel
theorem dX4_init_35 : decode cX4_init 35 = .ok (.iconst (-1), 1) := by decide +kernel
theorem dX4_init_36 : decode cX4_init 36 = .ok (.invokestatic 20, 3) := by decide +kernel
theorem dX4_init_39 : decode cX4_init 39 = .ok (.iinc 1 1, 3) := by decide +kernel
theorem dX4_init_42 : decode cX4_init 42 = .ok (.goto (-18), 3) := by decide +kernel
theorem dX4_init_45 : decode cX4_init 45 = .ok (.return_, 1) := by decide +kernel
theorem dX4_slotAt_0 : decode cX4_slotAt 0 = .ok (.aload_n 0, 1) := by decide +kernel
theorem dX4_slotAt_1 : decode cX4_slotAt 1 = .ok (.getfield 11, 3) := by decide +kernel
theorem dX4_slotAt_4 : decode cX4_slotAt 4 = .ok (.iload_n 1, 1) := by decide +kernel
theorem dX4_slotAt_5 : decode cX4_slotAt 5 = .ok (.aaload, 1) := by decide +kernel
theorem dX4_slotAt_6 : decode cX4_slotAt 6 = .ok (.iload_n 2, 1) := by decide +kernel
theorem dX4_slotAt_7 : decode cX4_slotAt 7 = .ok (.bipush 51, 2) := by decide +kernel
theorem dX4_slotAt_9 : decode cX4_slotAt 9 = .ok (.irem, 1) := by decide +kernel
theorem dX4_slotAt_10 : decode cX4_slotAt 10 = .ok (.iaload, 1) := by decide +kernel
theorem dX4_slotAt_11 : decode cX4_slotAt 11 = .ok (.ireturn, 1) := by decide +kernel
theorem dX4_setSlot_0 : decode cX4_setSlot 0 = .ok (.aload_n 0, 1) := by decide +kernel
theorem dX4_setSlot_1 : decode cX4_setSlot 1 = .ok (.getfield 11, 3) := by decide +kernel
theorem dX4_setSlot_4 : decode cX4_setSlot 4 = .ok (.iload_n 1, 1) := by decide +kernel
theorem dX4_setSlot_5 : decode cX4_setSlot 5 = .ok (.aaload, 1) := by decide +kernel
theorem dX4_setSlot_6 : decode cX4_setSlot 6 = .ok (.iload_n 2, 1) := by decide +kernel
theorem dX4_setSlot_7 : decode cX4_setSlot 7 = .ok (.bipush 51, 2) := by decide +kernel
theorem dX4_setSlot_9 : decode cX4_setSlot 9 = .ok (.irem, 1) := by decide +kernel
theorem dX4_setSlot_10 : decode cX4_setSlot 10 = .ok (.iload_n 3, 1) := by decide +kernel
theorem dX4_setSlot_11 : decode cX4_setSlot 11 = .ok (.iastore, 1) := by decide +kernel
theorem dX4_setSlot_12 : decode cX4_setSlot 12 = .ok (.return_, 1) := by decide +kernel
theorem dX5_init_0 : decode cX5_init 0 = .ok (.aload_n 0, 1) := by decide +kernel
theorem dX5_init_1 : decode cX5_init 1 = .ok (.invokespecial 3, 3) := by decide +kernel
theorem dX5_init_4 : decode cX5_init 4 = .ok (.aload_n 0, 1) := by decide +kernel
theorem dX5_init_5 : decode cX5_init 5 = .ok (.sipush 512, 3) := by decide +kernel
theorem dX5_init_8 : decode cX5_init 8 = .ok (.newarray .int, 2) := by decide +kernel
theorem dX5_init_10 : decode cX5_init 10 = .ok (.putfield 9, 3) := by decide +kernel
theorem dX5_init_13 : decode cX5_init 13 = .ok (.aload_n 0, 1) := by decide +kernel
theorem dX5_init_14 : decode cX5_init 14 = .ok (.sipush 512, 3) := by decide +kernel
theorem dX5_init_17 : decode cX5_init 17 = .ok (.newarray .int, 2) := by decide +kernel
theorem dX5_init_19 : decode cX5_init 19 = .ok (.putfield 15, 3) := by decide +kernel
theorem dX5_init_22 : decode cX5_init 22 = .ok (.aload_n 0, 1) := by decide +kernel
theorem dX5_init_23 : decode cX5_init 23 = .ok (.sipush 512, 3) := by decide +kernel
theorem dX5_init_26 : decode cX5_init 26 = .ok (.newarray .int, 2) := by decide +kernel
theorem dX5_init_28 : decode cX5_init 28 = .ok (.putfield 18, 3) := by decide +kernel
theorem dX5_init_31 : decode cX5_init 31 = .ok (.return_, 1) := by decide +kernel
theorem dX5_write_0 : decode cX5_write 0 = .ok (.aload_n 0, 1) := by decide +kernel
theorem dX5_write_1 : decode cX5_write 1 = .ok (.getfield 21, 3) := by decide +kernel
theorem dX5_write_4 : decode cX5_write 4 = .ok (.sipush 512, 3) := by decide +kernel
theorem dX5_write_7 : decode cX5_write 7 = .ok (.if_icmp .ge 43, 3) := by decide +kernel
theorem dX5_write_10 : decode cX5_write 10 = .ok (.aload_n 0, 1) := by decide +kernel
theorem dX5_write_11 : decode cX5_write 11 = .ok (.getfield 9, 3) := by decide +kernel
theorem dX5_write_14 : decode cX5_write 14 = .ok (.aload_n 0, 1) := by decide +kernel
theorem dX5_write_15 : decode cX5_write 15 = .ok (.getfield 21, 3) := by decide +kernel
theorem dX5_write_18 : decode cX5_write 18 = .ok (.iload_n 1, 1) := by decide +kernel
theorem dX5_write_19 : decode cX5_write 19 = .ok (.iastore, 1) := by decide +kernel
theorem dX5_write_20 : decode cX5_write 20 = .ok (.aload_n 0, 1) := by decide +kernel
theorem dX5_write_21 : decode cX5_write 21 = .ok (.getfield 15, 3) := by decide +kernel
theorem dX5_write_24 : decode cX5_write 24 = .ok (.aload_n 0, 1) := by decide +kernel
theorem dX5_write_25 : decode cX5_write 25 = .ok (.getfield 21, 3) := by decide +kernel
theorem dX5_write_28 : decode cX5_write 28 = .ok (.iload_n 2, 1) := by decide +kernel
theorem dX5_write_29 : decode cX5_write 29 = .ok (.iastore, 1) := by decide +kernel
theorem dX5_write_30 : decode cX5_write 30 = .ok (.aload_n 0, 1) := by decide +kernel
theorem dX5_write_31 : decode cX5_write 31 = .ok (.getfield 18, 3) := by decide +kernel
theorem dX5_write_34 : decode cX5_write 34 = .ok (.aload_n 0, 1) := by decide +kernel
theorem dX5_write_35 : decode cX5_write 35 = .ok (.getfield 21, 3) := by decide +kernel
theorem dX5_write_38 : decode cX5_write 38 = .ok (.iload_n 3, 1) := by decide +kernel
theorem dX5_write_39 : decode cX5_write 39 = .ok (.iastore, 1) := by decide +kernel
theorem dX5_write_40 : decode cX5_write 40 = .ok (.aload_n 0, 1) := by decide +kernel
theorem dX5_write_41 : decode cX5_write 41 = .ok (.dup, 1) := by decide +kernel
theorem dX5_write_42 : decode cX5_write 42 = .ok (.getfield 21, 3) := by decide +kernel
theorem dX5_write_45 : decode cX5_write 45 = .ok (.iconst 1, 1) := by decide +kernel
theorem dX5_write_46 : decode cX5_write 46 = .ok (.iadd, 1) := by decide +kernel
theorem dX5_write_47 : decode cX5_write 47 = .ok (.putfield 21, 3) := by decide +kernel
theorem dX5_write_50 : decode cX5_write 50 = .ok (.return_, 1) := by decide +kernel
theorem dX6_init_0 : decode cX6_init 0 = .ok (.aload_n 0, 1) := by decide +kernel
theorem dX6_init_1 : decode cX6_init 1 = .ok (.invokespecial 3, 3) := by decide +kernel
theorem dX6_init_4 : decode cX6_init 4 = .ok (.aload_n 0, 1) := by decide +kernel
theorem dX6_init_5 : decode cX6_init 5 = .ok (.bipush 60, 2) := by decide +kernel
theorem dX6_init_7 : decode cX6_init 7 = .ok (.newarray .int, 2) := by decide +kernel
theorem dX6_init_9 : decode cX6_init 9 = .ok (.putfield 9, 3) := by decide +kernel
theorem dX6_init_12 : decode cX6_init 12 = .ok (.aload_n 0, 1) := by decide +kernel
theorem dX6_init_13 : decode cX6_init 13 = .ok (.bipush 60, 2) := by decide +kernel
theorem dX6_init_15 : decode cX6_init 15 = .ok (.newarray .int, 2) := by decide +kernel
theorem dX6_init_17 : decode cX6_init 17 = .ok (.putfield 15, 3) := by decide +kernel
theorem dX6_init_20 : decode cX6_init 20 = .ok (.aload_n 0, 1) := by decide +kernel
theorem dX6_init_21 : decode cX6_init 21 = .ok (.bipush 60, 2) := by decide +kernel
theorem dX6_init_23 : decode cX6_init 23 = .ok (.newarray .int, 2) := by decide +kernel
theorem dX6_init_25 : decode cX6_init 25 = .ok (.putfield 18, 3) := by decide +kernel
theorem dX6_init_28 : decode cX6_init 28 = .ok (.return_, 1) := by decide +kernel
theorem dX6_note_0 : decode cX6_note 0 = .ok (.aload_n 0, 1) := by decide +kernel
theorem dX6_note_1 : decode cX6_note 1 = .ok (.getfield 9, 3) := by decide +kernel
theorem dX6_note_4 : decode cX6_note 4 = .ok (.iload_n 1, 1) := by decide +kernel
theorem dX6_note_5 : decode cX6_note 5 = .ok (.iload_n 2, 1) := by decide +kernel
theorem dX6_note_6 : decode cX6_note 6 = .ok (.iastore, 1) := by decide +kernel
theorem dX6_note_7 : decode cX6_note 7 = .ok (.aload_n 0, 1) := by decide +kernel
theorem dX6_note_8 : decode cX6_note 8 = .ok (.getfield 15, 3) := by decide +kernel
theorem dX6_note_11 : decode cX6_note 11 = .ok (.iload_n 1, 1) := by decide +kernel
theorem dX6_note_12 : decode cX6_note 12 = .ok (.iload_n 3, 1) := by decide +kernel
theorem dX6_note_13 : decode cX6_note 13 = .ok (.iastore, 1) := by decide +kernel
theorem dX6_note_14 : decode cX6_note 14 = .ok (.aload_n 0, 1) := by decide +kernel
theorem dX6_note_15 : decode cX6_note 15 = .ok (.getfield 18, 3) := by decide +kernel
theorem dX6_note_18 : decode cX6_note 18 = .ok (.iload_n 1, 1) := by decide +kernel
theorem dX6_note_19 : decode cX6_note 19 = .ok (.iload 4, 2) := by decide +kernel
theorem dX6_note_21 : decode cX6_note 21 = .ok (.iastore, 1) := by decide +kernel
theorem dX6_note_22 : decode cX6_note 22 = .ok (.return_, 1) := by decide +kernel
theorem dJ6_bitCount_0f7a4_0 : decode cJ6_bitCount_0f7a4 0 = .ok (.iload_n 0, 1) := by decide +kernel
theorem dJ6_bitCount_0f7a4_1 : decode cJ6_bitCount_0f7a4 1 = .ok (.iload_n 0, 1) := by decide +kernel
theorem dJ6_bitCount_0f7a4_2 : decode cJ6_bitCount_0f7a4 2 = .ok (.iconst 1, 1) := by decide +kernel
theorem dJ6_bitCount_0f7a4_3 : decode cJ6_bitCount_0f7a4 3 = .ok (.iushr, 1) := by decide +kernel
theorem dJ6_bitCount_0f7a4_4 : decode cJ6_bitCount_0f7a4 4 = .ok (.ldc_w 265, 3) := by decide +kernel
theorem dJ6_bitCount_0f7a4_7 : decode cJ6_bitCount_0f7a4 7 = .ok (.iand, 1) := by decide +kernel
theorem dJ6_bitCount_0f7a4_8 : decode cJ6_bitCount_0f7a4 8 = .ok (.isub, 1) := by decide +kernel
theorem dJ6_bitCount_0f7a4_9 : decode cJ6_bitCount_0f7a4 9 = .ok (.istore_n 0, 1) := by decide +kernel
theorem dJ6_bitCount_0f7a4_10 : decode cJ6_bitCount_0f7a4 10 = .ok (.iload_n 0, 1) := by decide +kernel
theorem dJ6_bitCount_0f7a4_11 : decode cJ6_bitCount_0f7a4 11 = .ok (.ldc_w 266, 3) := by decide +kernel
theorem dJ6_bitCount_0f7a4_14 : decode cJ6_bitCount_0f7a4 14 = .ok (.iand, 1) := by decide +kernel
theorem dJ6_bitCount_0f7a4_15 : decode cJ6_bitCount_0f7a4 15 = .ok (.iload_n 0, 1) := by decide +kernel
theorem dJ6_bitCount_0f7a4_16 : decode cJ6_bitCount_0f7a4 16 = .ok (.iconst 2, 1) := by decide +kernel
theorem dJ6_bitCount_0f7a4_17 : decode cJ6_bitCount_0f7a4 17 = .ok (.iushr, 1) := by decide +kernel
theorem dJ6_bitCount_0f7a4_18 : decode cJ6_bitCount_0f7a4 18 = .ok (.ldc_w 266, 3) := by decide +kernel
theorem dJ6_bitCount_0f7a4_21 : decode cJ6_bitCount_0f7a4 21 = .ok (.iand, 1) := by decide +kernel
theorem dJ6_bitCount_0f7a4_22 : decode cJ6_bitCount_0f7a4 22 = .ok (.iadd, 1) := by decide +kernel
theorem dJ6_bitCount_0f7a4_23 : decode cJ6_bitCount_0f7a4 23 = .ok (.istore_n 0, 1) := by decide +kernel
theorem dJ6_bitCount_0f7a4_24 : decode cJ6_bitCount_0f7a4 24 = .ok (.iload_n 0, 1) := by decide +kernel
theorem dJ6_bitCount_0f7a4_25 : decode cJ6_bitCount_0f7a4 25 = .ok (.iload_n 0, 1) := by decide +kernel
theorem dJ6_bitCount_0f7a4_26 : decode cJ6_bitCount_0f7a4 26 = .ok (.iconst 4, 1) := by decide +kernel
theorem dJ6_bitCount_0f7a4_27 : decode cJ6_bitCount_0f7a4 27 = .ok (.iushr, 1) := by decide +kernel
theorem dJ6_bitCount_0f7a4_28 : decode cJ6_bitCount_0f7a4 28 = .ok (.iadd, 1) := by decide +kernel
theorem dJ6_bitCount_0f7a4_29 : decode cJ6_bitCount_0f7a4 29 = .ok (.ldc_w 267, 3) := by decide +kernel
theorem dJ6_bitCount_0f7a4_32 : decode cJ6_bitCount_0f7a4 32 = .ok (.iand, 1) := by decide +kernel
theorem dJ6_bitCount_0f7a4_33 : decode cJ6_bitCount_0f7a4 33 = .ok (.istore_n 0, 1) := by decide +kernel
theorem dJ6_bitCount_0f7a4_34 : decode cJ6_bitCount_0f7a4 34 = .ok (.iload_n 0, 1) := by decide +kernel
theorem dJ6_bitCount_0f7a4_35 : decode cJ6_bitCount_0f7a4 35 = .ok (.iload_n 0, 1) := by decide +kernel
theorem dJ6_bitCount_0f7a4_36 : decode cJ6_bitCount_0f7a4 36 = .ok (.bipush 8, 2) := by decide +kernel
theorem dJ6_bitCount_0f7a4_38 : decode cJ6_bitCount_0f7a4 38 = .ok (.iushr, 1) := by decide +kernel
theorem dJ6_bitCount_0f7a4_39 : decode cJ6_bitCount_0f7a4 39 = .ok (.iadd, 1) := by decide +kernel
theorem dJ6_bitCount_0f7a4_40 : decode cJ6_bitCount_0f7a4 40 = .ok (.istore_n 0, 1) := by decide +kernel
theorem dJ6_bitCount_0f7a4_41 : decode cJ6_bitCount_0f7a4 41 = .ok (.iload_n 0, 1) := by decide +kernel
theorem dJ6_bitCount_0f7a4_42 : decode cJ6_bitCount_0f7a4 42 = .ok (.iload_n 0, 1) := by decide +kernel
theorem dJ6_bitCount_0f7a4_43 : decode cJ6_bitCount_0f7a4 43 = .ok (.bipush 16, 2) := by decide +kernel
theorem dJ6_bitCount_0f7a4_45 : decode cJ6_bitCount_0f7a4 45 = .ok (.iushr, 1) := by decide +kernel
theorem dJ6_bitCount_0f7a4_46 : decode cJ6_bitCount_0f7a4 46 = .ok (.iadd, 1) := by decide +kernel
theorem dJ6_bitCount_0f7a4_47 : decode cJ6_bitCount_0f7a4 47 = .ok (.istore_n 0, 1) := by decide +kernel
theorem dJ6_bitCount_0f7a4_48 : decode cJ6_bitCount_0f7a4 48 = .ok (.iload_n 0, 1) := by decide +kernel
theorem dJ6_bitCount_0f7a4_49 : decode cJ6_bitCount_0f7a4 49 = .ok (.bipush 63, 2) := by decide +kernel
theorem dJ6_bitCount_0f7a4_51 : decode cJ6_bitCount_0f7a4 51 = .ok (.iand, 1) := by decide +kernel
theorem dJ6_bitCount_0f7a4_52 : decode cJ6_bitCount_0f7a4 52 = .ok (.ireturn, 1) := by decide +kernel
theorem dJ9_min_7cf53_0 : decode cJ9_min_7cf53 0 = .ok (.iload_n 0, 1) := by decide +kernel
theorem dJ9_min_7cf53_1 : decode cJ9_min_7cf53 1 = .ok (.iload_n 1, 1) := by decide +kernel
theorem dJ9_min_7cf53_2 : decode cJ9_min_7cf53 2 = .ok (.if_icmp .gt 7, 3) := by decide +kernel
theorem dJ9_min_7cf53_5 : decode cJ9_min_7cf53 5 = .ok (.iload_n 0, 1) := by decide +kernel
theorem dJ9_min_7cf53_6 : decode cJ9_min_7cf53 6 = .ok (.goto 4, 3) := by decide +kernel
theorem dJ9_min_7cf53_9 : decode cJ9_min_7cf53 9 = .ok (.iload_n 1, 1) := by decide +kernel
theorem dJ9_min_7cf53_10 : decode cJ9_min_7cf53 10 = .ok (.ireturn, 1) := by decide +kernel
theorem dJ7_fill_53178_0 : decode cJ7_fill_53178 0 = .ok (.iconst 0, 1) := by decide +kernel
theorem dJ7_fill_53178_1 : decode cJ7_fill_53178 1 = .ok (.istore_n 2, 1) := by decide +kernel
theorem dJ7_fill_53178_2 : decode cJ7_fill_53178 2 = .ok (.aload_n 0, 1) := by decide +kernel
theorem dJ7_fill_53178_3 : decode cJ7_fill_53178 3 = .ok (.arraylength, 1) := by decide +kernel
theorem dJ7_fill_53178_4 : decode cJ7_fill_53178 4 = .ok (.istore_n 3, 1) := by decide +kernel
theorem dJ7_fill_53178_5 : decode cJ7_fill_53178 5 = .ok (.iload_n 2, 1) := by decide +kernel
theorem dJ7_fill_53178_6 : decode cJ7_fill_53178 6 = .ok (.iload_n 3, 1) := by decide +kernel
theorem dJ7_fill_53178_7 : decode cJ7_fill_53178 7 = .ok (.if_icmp .ge 13, 3) := by decide +kernel
theorem dJ7_fill_53178_10 : decode cJ7_fill_53178 10 = .ok (.aload_n 0, 1) := by decide +kernel
theorem dJ7_fill_53178_11 : decode cJ7_fill_53178 11 = .ok (.iload_n 2, 1) := by decide +kernel
theorem dJ7_fill_53178_12 : decode cJ7_fill_53178 12 = .ok (.iload_n 1, 1) := by decide +kernel
theorem dJ7_fill_53178_13 : decode cJ7_fill_53178 13 = .ok (.iastore, 1) := by decide +kernel
theorem dJ7_fill_53178_14 : decode cJ7_fill_53178 14 = .ok (.iinc 2 1, 3) := by decide +kernel
theorem dJ7_fill_53178_17 : decode cJ7_fill_53178 17 = .ok (.goto (-12), 3) := by decide +kernel
theorem dJ7_fill_53178_20 : decode cJ7_fill_53178 20 = .ok (.return_, 1) := by decide +kernel
end
section
theorem dX7_init_0 : decode cX7_init 0 = .ok (.aload_n 0, 1) := by decide +kernel
theorem dX7_init_1 : decode cX7_init 1 = .ok (.invokespecial 1, 3) := by decide +kernel
theorem dX7_init_4 : decode cX7_init 4 = .ok (.aload_n 0, 1) := by decide +kernel
theorem dX7_init_5 : decode cX7_init 5 = .ok (.new 7, 3) := by decide +kernel
theorem dX7_init_8 : decode cX7_init 8 = .ok (.dup, 1) := by decide +kernel
theorem dX7_init_9 : decode cX7_init 9 = .ok (.invokespecial 9, 3) := by decide +kernel
theorem dX7_init_12 : decode cX7_init 12 = .ok (.putfield 10, 3) := by decide +kernel
theorem dX7_init_15 : decode cX7_init 15 = .ok (.aload_n 0, 1) := by decide +kernel
theorem dX7_init_16 : decode cX7_init 16 = .ok (.new 7, 3) := by decide +kernel
theorem dX7_init_19 : decode cX7_init 19 = .ok (.dup, 1) := by decide +kernel
theorem dX7_init_20 : decode cX7_init 20 = .ok (.invokespecial 9, 3) := by decide +kernel
theorem dX7_init_23 : decode cX7_init 23 = .ok (.putfield 16, 3) := by decide +kernel
theorem dX7_init_26 : decode cX7_init 26 = .ok (.aload_n 0, 1) := by decide +kernel
theorem dX7_init_27 : decode cX7_init 27 = .ok (.new 19, 3) := by decide +kernel
theorem dX7_init_30 : decode cX7_init 30 = .ok (.dup, 1) := by decide +kernel
theorem dX7_init_31 : decode cX7_init 31 = .ok (.invokespecial 21, 3) := by decide +kernel
theorem dX7_init_34 : decode cX7_init 34 = .ok (.putfield 22, 3) := by decide +kernel
theorem dX7_init_37 : decode cX7_init 37 = .ok (.aload_n 0, 1) := by decide +kernel
theorem dX7_init_38 : decode cX7_init 38 = .ok (.new 26, 3) := by decide +kernel
theorem dX7_init_41 : decode cX7_init 41 = .ok (.dup, 1) := by decide +kernel
theorem dX7_init_42 : decode cX7_init 42 = .ok (.invokespecial 28, 3) := by decide +kernel
theorem dX7_init_45 : decode cX7_init 45 = .ok (.putfield 29, 3) := by decide +kernel
theorem dX7_init_48 : decode cX7_init 48 = .ok (.aload_n 0, 1) := by decide +kernel
theorem dX7_init_49 : decode cX7_init 49 = .ok (.new 33, 3) := by decide +kernel
theorem dX7_init_52 : decode cX7_init 52 = .ok (.dup, 1) := by decide +kernel
theorem dX7_init_53 : decode cX7_init 53 = .ok (.invokespecial 35, 3) := by decide +kernel
theorem dX7_init_56 : decode cX7_init 56 = .ok (.putfield 36, 3) := by decide +kernel
theorem dX7_init_59 : decode cX7_init 59 = .ok (.aload_n 0, 1) := by decide +kernel
theorem dX7_init_60 : decode cX7_init 60 = .ok (.new 40, 3) := by decide +kernel
theorem dX7_init_63 : decode cX7_init 63 = .ok (.dup, 1) := by decide +kernel
theorem dX7_init_64 : decode cX7_init 64 = .ok (.invokespecial 42, 3) := by decide +kernel
theorem dX7_init_67 : decode cX7_init 67 = .ok (.putfield 43, 3) := by decide +kernel
theorem dX7_init_70 : decode cX7_init 70 = .ok (.aload_n 0, 1) := by decide +kernel
theorem dX7_init_71 : decode cX7_init 71 = .ok (.new 47, 3) := by decide +kernel
theorem dX7_init_74 : decode cX7_init 74 = .ok (.dup, 1) := by decide +kernel
theorem dX7_init_75 : decode cX7_init 75 = .ok (.invokespecial 49, 3) := by decide +kernel
theorem dX7_init_78 : decode cX7_init 78 = .ok (.putfield 50, 3) := by decide +kernel
theorem dX7_init_81 : decode cX7_init 81 = .ok (.aload_n 0, 1) := by decide +kernel
theorem dX7_init_82 : decode cX7_init 82 = .ok (.new 54, 3) := by decide +kernel
theorem dX7_init_85 : decode cX7_init 85 = .ok (.dup, 1) := by decide +kernel
theorem dX7_init_86 : decode cX7_init 86 = .ok (.invokespecial 56, 3) := by decide +kernel
theorem dX7_init_89 : decode cX7_init 89 = .ok (.putfield 57, 3) := by decide +kernel
theorem dX7_init_92 : decode cX7_init 92 = .ok (.return_, 1) := by decide +kernel
theorem dX7_part_0 : decode cX7_part 0 = .ok (.iload_n 1, 1) := by decide +kernel
theorem dX7_part_1 : decode cX7_part 1 = .ok (.ifCond .lt 9, 3) := by decide +kernel
theorem dX7_part_4 : decode cX7_part 4 = .ok (.iload_n 1, 1) := by decide +kernel
theorem dX7_part_5 : decode cX7_part 5 = .ok (.bipush 32, 2) := by decide +kernel
theorem dX7_part_7 : decode cX7_part 7 = .ok (.if_icmp .lt 13, 3) := by decide +kernel
theorem dX7_part_10 : decode cX7_part 10 = .ok (.new 61, 3) := by decide +kernel
theorem dX7_part_13 : decode cX7_part 13 = .ok (.dup, 1) := by decide +kernel
theorem dX7_part_14 : decode cX7_part 14 = .ok (.ldc 63, 2) := by decide +kernel
theorem dX7_part_16 : decode cX7_part 16 = .ok (.invokespecial 65, 3) := by decide +kernel
theorem dX7_part_19 : decode cX7_part 19 = .ok (.athrow, 1) := by decide +kernel
theorem dX7_part_20 : decode cX7_part 20 = .ok (.aload_n 0, 1) := by decide +kernel
theorem dX7_part_21 : decode cX7_part 21 = .ok (.getfield 10, 3) := by decide +kernel
theorem dX7_part_24 : decode cX7_part 24 = .ok (.iload_n 1, 1) := by decide +kernel
theorem dX7_part_25 : decode cX7_part 25 = .ok (.putfield 68, 3) := by decide +kernel
theorem dX7_part_28 : decode cX7_part 28 = .ok (.aload_n 0, 1) := by decide +kernel
theorem dX7_part_29 : decode cX7_part 29 = .ok (.getfield 22, 3) := by decide +kernel
theorem dX7_part_32 : decode cX7_part 32 = .ok (.iconst 0, 1) := by decide +kernel
theorem dX7_part_33 : decode cX7_part 33 = .ok (.iload_n 1, 1) := by decide +kernel
theorem dX7_part_34 : decode cX7_part 34 = .ok (.iconst 0, 1) := by decide +kernel
theorem dX7_part_35 : decode cX7_part 35 = .ok (.invokevirtual 72, 3) := by decide +kernel
theorem dX7_part_38 : decode cX7_part 38 = .ok (.iload_n 1, 1) := by decide +kernel
theorem dX7_part_39 : decode cX7_part 39 = .ok (.invokestatic 76, 3) := by decide +kernel
theorem dX7_part_42 : decode cX7_part 42 = .ok (.istore_n 2, 1) := by decide +kernel
theorem dX7_part_43 : decode cX7_part 43 = .ok (.iload_n 2, 1) := by decide +kernel
theorem dX7_part_44 : decode cX7_part 44 = .ok (.iconst 5, 1) := by decide +kernel
theorem dX7_part_45 : decode cX7_part 45 = .ok (.iload_n 2, 1) := by decide +kernel
theorem dX7_part_46 : decode cX7_part 46 = .ok (.isub, 1) := by decide +kernel
theorem dX7_part_47 : decode cX7_part 47 = .ok (.imul, 1) := by decide +kernel
theorem dX7_part_48 : decode cX7_part 48 = .ok (.ireturn, 1) := by decide +kernel
theorem dX7_stand_0 : decode cX7_stand 0 = .ok (.iload_n 1, 1) := by decide +kernel
theorem dX7_stand_1 : decode cX7_stand 1 = .ok (.invokestatic 82, 3) := by decide +kernel
theorem dX7_stand_4 : decode cX7_stand 4 = .ok (.aload_n 0, 1) := by decide +kernel
theorem dX7_stand_5 : decode cX7_stand 5 = .ok (.getfield 10, 3) := by decide +kernel
theorem dX7_stand_8 : decode cX7_stand 8 = .ok (.getfield 86, 3) := by decide +kernel
theorem dX7_stand_11 : decode cX7_stand 11 = .ok (.iload_n 1, 1) := by decide +kernel
theorem dX7_stand_12 : decode cX7_stand 12 = .ok (.iaload, 1) := by decide +kernel
theorem dX7_stand_13 : decode cX7_stand 13 = .ok (.bipush 100, 2) := by decide +kernel
theorem dX7_stand_15 : decode cX7_stand 15 = .ok (.if_icmp .lt 13, 3) := by decide +kernel
theorem dX7_stand_18 : decode cX7_stand 18 = .ok (.new 90, 3) := by decide +kernel
theorem dX7_stand_21 : decode cX7_stand 21 = .ok (.dup, 1) := by decide +kernel
theorem dX7_stand_22 : decode cX7_stand 22 = .ok (.ldc 92, 2) := by decide +kernel
theorem dX7_stand_24 : decode cX7_stand 24 = .ok (.invokespecial 94, 3) := by decide +kernel
theorem dX7_stand_27 : decode cX7_stand 27 = .ok (.athrow, 1) := by decide +kernel
theorem dX7_stand_28 : decode cX7_stand 28 = .ok (.aload_n 0, 1) := by decide +kernel
theorem dX7_stand_29 : decode cX7_stand 29 = .ok (.getfield 10, 3) := by decide +kernel
theorem dX7_stand_32 : decode cX7_stand 32 = .ok (.iload_n 1, 1) := by decide +kernel
theorem dX7_stand_33 : decode cX7_stand 33 = .ok (.invokevirtual 95, 3) := by decide +kernel
theorem dX7_stand_36 : decode cX7_stand 36 = .ok (.aload_n 0, 1) := by decide +kernel
theorem dX7_stand_37 : decode cX7_stand 37 = .ok (.getfield 22, 3) := by decide +kernel
theorem dX7_stand_40 : decode cX7_stand 40 = .ok (.iconst 1, 1) := by decide +kernel
theorem dX7_stand_41 : decode cX7_stand 41 = .ok (.iload_n 1, 1) := by decide +kernel
theorem dX7_stand_42 : decode cX7_stand 42 = .ok (.iconst 0, 1) := by decide +kernel
theorem dX7_stand_43 : decode cX7_stand 43 = .ok (.invokevirtual 72, 3) := by decide +kernel
theorem dX7_stand_46 : decode cX7_stand 46 = .ok (.aload_n 0, 1) := by decide +kernel
theorem dX7_stand_47 : decode cX7_stand 47 = .ok (.getfield 10, 3) := by decide +kernel
theorem dX7_stand_50 : decode cX7_stand 50 = .ok (.getfield 86, 3) := by decide +kernel
theorem dX7_stand_53 : decode cX7_stand 53 = .ok (.iload_n 1, 1) := by decide +kernel
theorem dX7_stand_54 : decode cX7_stand 54 = .ok (.iaload, 1) := by decide +kernel
theorem dX7_stand_55 : decode cX7_stand 55 = .ok (.ireturn, 1) := by decide +kernel
theorem dX7_vote_0 : decode cX7_vote 0 = .ok (.iload_n 1, 1) := by decide +kernel
theorem dX7_vote_1 : decode cX7_vote 1 = .ok (.iload_n 2, 1) := by decide +kernel
theorem dX7_vote_2 : decode cX7_vote 2 = .ok (.invokestatic 98, 3) := by decide +kernel
theorem dX7_vote_5 : decode cX7_vote 5 = .ok (.aload_n 0, 1) := by decide +kernel
theorem dX7_vote_6 : decode cX7_vote 6 = .ok (.getfield 10, 3) := by decide +kernel
theorem dX7_vote_9 : decode cX7_vote 9 = .ok (.getfield 102, 3) := by decide +kernel
theorem dX7_vote_12 : decode cX7_vote 12 = .ok (.iload_n 2, 1) := by decide +kernel
theorem dX7_vote_13 : decode cX7_vote 13 = .ok (.iaload, 1) := by decide +kernel
theorem dX7_vote_14 : decode cX7_vote 14 = .ok (.iconst 1, 1) := by decide +kernel
theorem dX7_vote_15 : decode cX7_vote 15 = .ok (.if_icmp .eq 13, 3) := by decide +kernel
theorem dX7_vote_18 : decode cX7_vote 18 = .ok (.new 90, 3) := by decide +kernel
theorem dX7_vote_21 : decode cX7_vote 21 = .ok (.dup, 1) := by decide +kernel
theorem dX7_vote_22 : decode cX7_vote 22 = .ok (.ldc 105, 2) := by decide +kernel
theorem dX7_vote_24 : decode cX7_vote 24 = .ok (.invokespecial 94, 3) := by decide +kernel
theorem dX7_vote_27 : decode cX7_vote 27 = .ok (.athrow, 1) := by decide +kernel
theorem dX7_vote_28 : decode cX7_vote 28 = .ok (.aload_n 0, 1) := by decide +kernel
theorem dX7_vote_29 : decode cX7_vote 29 = .ok (.iload_n 1, 1) := by decide +kernel
theorem dX7_vote_30 : decode cX7_vote 30 = .ok (.iload_n 2, 1) := by decide +kernel
theorem dX7_vote_31 : decode cX7_vote 31 = .ok (.invokevirtual 107, 3) := by decide +kernel
theorem dX7_vote_34 : decode cX7_vote 34 = .ok (.aload_n 0, 1) := by decide +kernel
theorem dX7_vote_35 : decode cX7_vote 35 = .ok (.getfield 22, 3) := by decide +kernel
theorem dX7_vote_38 : decode cX7_vote 38 = .ok (.iconst 2, 1) := by decide +kernel
theorem dX7_vote_39 : decode cX7_vote 39 = .ok (.iload_n 1, 1) := by decide +kernel
theorem dX7_vote_40 : decode cX7_vote 40 = .ok (.iload_n 2, 1) := by decide +kernel
theorem dX7_vote_41 : decode cX7_vote 41 = .ok (.invokevirtual 72, 3) := by decide +kernel
theorem dX7_vote_44 : decode cX7_vote 44 = .ok (.aload_n 0, 1) := by decide +kernel
theorem dX7_vote_45 : decode cX7_vote 45 = .ok (.getfield 10, 3) := by decide +kernel
theorem dX7_vote_48 : decode cX7_vote 48 = .ok (.iload_n 1, 1) := by decide +kernel
theorem dX7_vote_49 : decode cX7_vote 49 = .ok (.iload_n 2, 1) := by decide +kernel
theorem dX7_vote_50 : decode cX7_vote 50 = .ok (.invokevirtual 110, 3) := by decide +kernel
theorem dX7_vote_53 : decode cX7_vote 53 = .ok (.ireturn, 1) := by decide +kernel
theorem dX7_propose_0 : decode cX7_propose 0 = .ok (.iload_n 1, 1) := by decide +kernel
theorem dX7_propose_1 : decode cX7_propose 1 = .ok (.invokestatic 82, 3) := by decide +kernel
theorem dX7_propose_4 : decode cX7_propose 4 = .ok (.iload_n 2, 1) := by decide +kernel
theorem dX7_propose_5 : decode cX7_propose 5 = .ok (.invokestatic 114, 3) := by decide +kernel
theorem dX7_propose_8 : decode cX7_propose 8 = .ok (.iload_n 3, 1) := by decide +kernel
theorem dX7_propose_9 : decode cX7_propose 9 = .ok (.iconst 1, 1) := by decide +kernel
theorem dX7_propose_10 : decode cX7_propose 10 = .ok (.if_icmp .lt 22, 3) := by decide +kernel
theorem dX7_propose_13 : decode cX7_propose 13 = .ok (.iload_n 3, 1) := by decide +kernel
theorem dX7_propose_14 : decode cX7_propose 14 = .ok (.bipush 9, 2) := by decide +kernel
theorem dX7_propose_16 : decode cX7_propose 16 = .ok (.if_icmp .gt 16, 3) := by decide +kernel
theorem dX7_propose_19 : decode cX7_propose 19 = .ok (.iload 4, 2) := by decide +kernel
theorem dX7_propose_21 : decode cX7_propose 21 = .ok (.iconst 1, 1) := by decide +kernel
theorem dX7_propose_22 : decode cX7_propose 22 = .ok (.if_icmp .lt 10, 3) := by decide +kernel
theorem dX7_propose_25 : decode cX7_propose 25 = .ok (.iload 4, 2) := by decide +kernel
theorem dX7_propose_27 : decode cX7_propose 27 = .ok (.bipush 40, 2) := by decide +kernel
theorem dX7_propose_29 : decode cX7_propose 29 = .ok (.if_icmp .le 13, 3) := by decide +kernel
theorem dX7_propose_32 : decode cX7_propose 32 = .ok (.new 61, 3) := by decide +kernel
theorem dX7_propose_35 : decode cX7_propose 35 = .ok (.dup, 1) := by decide +kernel
theorem dX7_propose_36 : decode cX7_propose 36 = .ok (.ldc 117, 2) := by decide +kernel
theorem dX7_propose_38 : decode cX7_propose 38 = .ok (.invokespecial 65, 3) := by decide +kernel
theorem dX7_propose_41 : decode cX7_propose 41 = .ok (.athrow, 1) := by decide +kernel
theorem dX7_propose_42 : decode cX7_propose 42 = .ok (.aload_n 0, 1) := by decide +kernel
theorem dX7_propose_43 : decode cX7_propose 43 = .ok (.iload_n 1, 1) := by decide +kernel
theorem dX7_propose_44 : decode cX7_propose 44 = .ok (.invokevirtual 119, 3) := by decide +kernel
theorem dX7_propose_47 : decode cX7_propose 47 = .ok (.aload_n 0, 1) := by decide +kernel
theorem dX7_propose_48 : decode cX7_propose 48 = .ok (.getfield 10, 3) := by decide +kernel
theorem dX7_propose_51 : decode cX7_propose 51 = .ok (.getfield 122, 3) := by decide +kernel
theorem dX7_propose_54 : decode cX7_propose 54 = .ok (.iload_n 1, 1) := by decide +kernel
theorem dX7_propose_55 : decode cX7_propose 55 = .ok (.iaload, 1) := by decide +kernel
theorem dX7_propose_56 : decode cX7_propose 56 = .ok (.bipush 20, 2) := by decide +kernel
theorem dX7_propose_58 : decode cX7_propose 58 = .ok (.if_icmp .ge 15, 3) := by decide +kernel
theorem dX7_propose_61 : decode cX7_propose 61 = .ok (.aload_n 0, 1) := by decide +kernel
theorem dX7_propose_62 : decode cX7_propose 62 = .ok (.getfield 10, 3) := by decide +kernel
theorem dX7_propose_65 : decode cX7_propose 65 = .ok (.getfield 125, 3) := by decide +kernel
theorem dX7_propose_68 : decode cX7_propose 68 = .ok (.bipush 60, 2) := by decide +kernel
theorem dX7_propose_70 : decode cX7_propose 70 = .ok (.if_icmp .lt 13, 3) := by decide +kernel
theorem dX7_propose_73 : decode cX7_propose 73 = .ok (.new 90, 3) := by decide +kernel
theorem dX7_propose_76 : decode cX7_propose 76 = .ok (.dup, 1) := by decide +kernel
theorem dX7_propose_77 : decode cX7_propose 77 = .ok (.ldc 128, 2) := by decide +kernel
theorem dX7_propose_79 : decode cX7_propose 79 = .ok (.invokespecial 94, 3) := by decide +kernel
theorem dX7_propose_82 : decode cX7_propose 82 = .ok (.athrow, 1) := by decide +kernel
theorem dX7_propose_83 : decode cX7_propose 83 = .ok (.aload_n 0, 1) := by decide +kernel
theorem dX7_propose_84 : decode cX7_propose 84 = .ok (.getfield 10, 3) := by decide +kernel
theorem dX7_propose_87 : decode cX7_propose 87 = .ok (.iload_n 1, 1) := by decide +kernel
theorem dX7_propose_88 : decode cX7_propose 88 = .ok (.invokevirtual 130, 3) := by decide +kernel
theorem dX7_propose_91 : decode cX7_propose 91 = .ok (.istore 5, 2) := by decide +kernel
theorem dX7_propose_93 : decode cX7_propose 93 = .ok (.aload_n 0, 1) := by decide +kernel
theorem dX7_propose_94 : decode cX7_propose 94 = .ok (.getfield 29, 3) := by decide +kernel
theorem dX7_propose_97 : decode cX7_propose 97 = .ok (.iload 5, 2) := by decide +kernel
theorem dX7_propose_99 : decode cX7_propose 99 = .ok (.iload_n 2, 1) := by decide +kernel
theorem dX7_propose_100 : decode cX7_propose 100 = .ok (.iload_n 3, 1) := by decide +kernel
theorem dX7_propose_101 : decode cX7_propose 101 = .ok (.iload 4, 2) := by decide +kernel
theorem dX7_propose_103 : decode cX7_propose 103 = .ok (.invokevirtual 133, 3) := by decide +kernel
theorem dX7_propose_106 : decode cX7_propose 106 = .ok (.aload_n 0, 1) := by decide +kernel
theorem dX7_propose_107 : decode cX7_propose 107 = .ok (.getfield 22, 3) := by decide +kernel
theorem dX7_propose_110 : decode cX7_propose 110 = .ok (.iconst 3, 1) := by decide +kernel
theorem dX7_propose_111 : decode cX7_propose 111 = .ok (.iload_n 1, 1) := by decide +kernel
theorem dX7_propose_112 : decode cX7_propose 112 = .ok (.iconst 0, 1) := by decide +kernel
theorem dX7_propose_113 : decode cX7_propose 113 = .ok (.invokevirtual 72, 3) := by decide +kernel
theorem dX7_propose_116 : decode cX7_propose 116 = .ok (.iload 5, 2) := by decide +kernel
theorem dX7_propose_118 : decode cX7_propose 118 = .ok (.ireturn, 1) := by decide +kernel
theorem dX7_tell_0 : decode cX7_tell 0 = .ok (.iload_n 1, 1) := by decide +kernel
theorem dX7_tell_1 : decode cX7_tell 1 = .ok (.iload_n 2, 1) := by decide +kernel
theorem dX7_tell_2 : decode cX7_tell 2 = .ok (.invokestatic 98, 3) := by decide +kernel
theorem dX7_tell_5 : decode cX7_tell 5 = .ok (.aload_n 0, 1) := by decide +kernel
theorem dX7_tell_6 : decode cX7_tell 6 = .ok (.iload_n 1, 1) := by decide +kernel
theorem dX7_tell_7 : decode cX7_tell 7 = .ok (.invokevirtual 119, 3) := by decide +kernel
theorem dX7_tell_10 : decode cX7_tell 10 = .ok (.aload_n 0, 1) := by decide +kernel
theorem dX7_tell_11 : decode cX7_tell 11 = .ok (.iload_n 1, 1) := by decide +kernel
theorem dX7_tell_12 : decode cX7_tell 12 = .ok (.iload_n 2, 1) := by decide +kernel
theorem dX7_tell_13 : decode cX7_tell 13 = .ok (.invokevirtual 107, 3) := by decide +kernel
theorem dX7_tell_16 : decode cX7_tell 16 = .ok (.aload_n 0, 1) := by decide +kernel
theorem dX7_tell_17 : decode cX7_tell 17 = .ok (.getfield 10, 3) := by decide +kernel
theorem dX7_tell_20 : decode cX7_tell 20 = .ok (.getfield 137, 3) := by decide +kernel
theorem dX7_tell_23 : decode cX7_tell 23 = .ok (.lstore_n 3, 1) := by decide +kernel
theorem dX7_tell_24 : decode cX7_tell 24 = .ok (.aload_n 0, 1) := by decide +kernel
theorem dX7_tell_25 : decode cX7_tell 25 = .ok (.getfield 10, 3) := by decide +kernel
theorem dX7_tell_28 : decode cX7_tell 28 = .ok (.iload_n 1, 1) := by decide +kernel
theorem dX7_tell_29 : decode cX7_tell 29 = .ok (.iload_n 2, 1) := by decide +kernel
theorem dX7_tell_30 : decode cX7_tell 30 = .ok (.invokevirtual 141, 3) := by decide +kernel
theorem dX7_tell_33 : decode cX7_tell 33 = .ok (.istore 5, 2) := by decide +kernel
theorem dX7_tell_35 : decode cX7_tell 35 = .ok (.aload_n 0, 1) := by decide +kernel
theorem dX7_tell_36 : decode cX7_tell 36 = .ok (.getfield 22, 3) := by decide +kernel
theorem dX7_tell_39 : decode cX7_tell 39 = .ok (.iconst 4, 1) := by decide +kernel
theorem dX7_tell_40 : decode cX7_tell 40 = .ok (.iload_n 1, 1) := by decide +kernel
theorem dX7_tell_41 : decode cX7_tell 41 = .ok (.iload_n 2, 1) := by decide +kernel
theorem dX7_tell_42 : decode cX7_tell 42 = .ok (.invokevirtual 72, 3) := by decide +kernel
theorem dX7_tell_45 : decode cX7_tell 45 = .ok (.aload_n 0, 1) := by decide +kernel
theorem dX7_tell_46 : decode cX7_tell 46 = .ok (.lload_n 3, 1) := by decide +kernel
theorem dX7_tell_47 : decode cX7_tell 47 = .ok (.aload_n 0, 1) := by decide +kernel
theorem dX7_tell_48 : decode cX7_tell 48 = .ok (.getfield 10, 3) := by decide +kernel
theorem dX7_tell_51 : decode cX7_tell 51 = .ok (.getfield 137, 3) := by decide +kernel
theorem dX7_tell_54 : decode cX7_tell 54 = .ok (.ldc2_w 145, 3) := by decide +kernel
theorem dX7_tell_57 : decode cX7_tell 57 = .ok (.lxor, 1) := by decide +kernel
theorem dX7_tell_58 : decode cX7_tell 58 = .ok (.land, 1) := by decide +kernel
theorem dX7_tell_59 : decode cX7_tell 59 = .ok (.invokevirtual 147, 3) := by decide +kernel
theorem dX7_tell_62 : decode cX7_tell 62 = .ok (.iload 5, 2) := by decide +kernel
theorem dX7_tell_64 : decode cX7_tell 64 = .ok (.ireturn, 1) := by decide +kernel
theorem dX7_role_0 : decode cX7_role 0 = .ok (.iload_n 1, 1) := by decide +kernel
theorem dX7_role_1 : decode cX7_role 1 = .ok (.invokestatic 82, 3) := by decide +kernel
theorem dX7_role_4 : decode cX7_role 4 = .ok (.aload_n 0, 1) := by decide +kernel
theorem dX7_role_5 : decode cX7_role 5 = .ok (.getfield 10, 3) := by decide +kernel
theorem dX7_role_8 : decode cX7_role 8 = .ok (.getfield 102, 3) := by decide +kernel
theorem dX7_role_11 : decode cX7_role 11 = .ok (.iload_n 1, 1) := by decide +kernel
theorem dX7_role_12 : decode cX7_role 12 = .ok (.iaload, 1) := by decide +kernel
theorem dX7_role_13 : decode cX7_role 13 = .ok (.ireturn, 1) := by decide +kernel
theorem dX7_term_0 : decode cX7_term 0 = .ok (.iload_n 1, 1) := by decide +kernel
theorem dX7_term_1 : decode cX7_term 1 = .ok (.invokestatic 82, 3) := by decide +kernel
theorem dX7_term_4 : decode cX7_term 4 = .ok (.aload_n 0, 1) := by decide +kernel
theorem dX7_term_5 : decode cX7_term 5 = .ok (.getfield 10, 3) := by decide +kernel
theorem dX7_term_8 : decode cX7_term 8 = .ok (.getfield 86, 3) := by decide +kernel
theorem dX7_term_11 : decode cX7_term 11 = .ok (.iload_n 1, 1) := by decide +kernel
theorem dX7_term_12 : decode cX7_term 12 = .ok (.iaload, 1) := by decide +kernel
theorem dX7_term_13 : decode cX7_term 13 = .ok (.ireturn, 1) := by decide +kernel
theorem dX7_votedFor_0 : decode cX7_votedFor 0 = .ok (.iload_n 1, 1) := by decide +kernel
theorem dX7_votedFor_1 : decode cX7_votedFor 1 = .ok (.invokestatic 82, 3) := by decide +kernel
theorem dX7_votedFor_4 : decode cX7_votedFor 4 = .ok (.aload_n 0, 1) := by decide +kernel
theorem dX7_votedFor_5 : decode cX7_votedFor 5 = .ok (.getfield 10, 3) := by decide +kernel
theorem dX7_votedFor_8 : decode cX7_votedFor 8 = .ok (.getfield 151, 3) := by decide +kernel
theorem dX7_votedFor_11 : decode cX7_votedFor 11 = .ok (.iload_n 1, 1) := by decide +kernel
theorem dX7_votedFor_12 : decode cX7_votedFor 12 = .ok (.iaload, 1) := by decide +kernel
theorem dX7_votedFor_13 : decode cX7_votedFor 13 = .ok (.ireturn, 1) := by decide +kernel
theorem dX7_reach_0 : decode cX7_reach 0 = .ok (.iload_n 1, 1) := by decide +kernel
theorem dX7_reach_1 : decode cX7_reach 1 = .ok (.invokestatic 82, 3) := by decide +kernel
theorem dX7_reach_4 : decode cX7_reach 4 = .ok (.iload_n 2, 1) := by decide +kernel
theorem dX7_reach_5 : decode cX7_reach 5 = .ok (.invokestatic 82, 3) := by decide +kernel
theorem dX7_reach_8 : decode cX7_reach 8 = .ok (.aload_n 0, 1) := by decide +kernel
theorem dX7_reach_9 : decode cX7_reach 9 = .ok (.getfield 10, 3) := by decide +kernel
theorem dX7_reach_12 : decode cX7_reach 12 = .ok (.iload_n 1, 1) := by decide +kernel
theorem dX7_reach_13 : decode cX7_reach 13 = .ok (.iload_n 2, 1) := by decide +kernel
theorem dX7_reach_14 : decode cX7_reach 14 = .ok (.invokevirtual 154, 3) := by decide +kernel
theorem dX7_reach_17 : decode cX7_reach 17 = .ok (.ireturn, 1) := by decide +kernel
theorem dX7_entries_0 : decode cX7_entries 0 = .ok (.iload_n 1, 1) := by decide +kernel
theorem dX7_entries_1 : decode cX7_entries 1 = .ok (.invokestatic 82, 3) := by decide +kernel
theorem dX7_entries_4 : decode cX7_entries 4 = .ok (.aload_n 0, 1) := by decide +kernel
theorem dX7_entries_5 : decode cX7_entries 5 = .ok (.getfield 10, 3) := by decide +kernel
theorem dX7_entries_8 : decode cX7_entries 8 = .ok (.getfield 122, 3) := by decide +kernel
theorem dX7_entries_11 : decode cX7_entries 11 = .ok (.iload_n 1, 1) := by decide +kernel
theorem dX7_entries_12 : decode cX7_entries 12 = .ok (.iaload, 1) := by decide +kernel
theorem dX7_entries_13 : decode cX7_entries 13 = .ok (.ireturn, 1) := by decide +kernel
theorem dX7_versionAt_0 : decode cX7_versionAt 0 = .ok (.iload_n 1, 1) := by decide +kernel
theorem dX7_versionAt_1 : decode cX7_versionAt 1 = .ok (.invokestatic 82, 3) := by decide +kernel
theorem dX7_versionAt_4 : decode cX7_versionAt 4 = .ok (.iload_n 2, 1) := by decide +kernel
theorem dX7_versionAt_5 : decode cX7_versionAt 5 = .ok (.ifCond .lt 16, 3) := by decide +kernel
theorem dX7_versionAt_8 : decode cX7_versionAt 8 = .ok (.iload_n 2, 1) := by decide +kernel
theorem dX7_versionAt_9 : decode cX7_versionAt 9 = .ok (.aload_n 0, 1) := by decide +kernel
theorem dX7_versionAt_10 : decode cX7_versionAt 10 = .ok (.getfield 10, 3) := by decide +kernel
theorem dX7_versionAt_13 : decode cX7_versionAt 13 = .ok (.getfield 122, 3) := by decide +kernel
theorem dX7_versionAt_16 : decode cX7_versionAt 16 = .ok (.iload_n 1, 1) := by decide +kernel
theorem dX7_versionAt_17 : decode cX7_versionAt 17 = .ok (.iaload, 1) := by decide +kernel
theorem dX7_versionAt_18 : decode cX7_versionAt 18 = .ok (.if_icmp .lt 13, 3) := by decide +kernel
theorem dX7_versionAt_21 : decode cX7_versionAt 21 = .ok (.new 157, 3) := by decide +kernel
theorem dX7_versionAt_24 : decode cX7_versionAt 24 = .ok (.dup, 1) := by decide +kernel
theorem dX7_versionAt_25 : decode cX7_versionAt 25 = .ok (.ldc 159, 2) := by decide +kernel
theorem dX7_versionAt_27 : decode cX7_versionAt 27 = .ok (.invokespecial 161, 3) := by decide +kernel
theorem dX7_versionAt_30 : decode cX7_versionAt 30 = .ok (.athrow, 1) := by decide +kernel
theorem dX7_versionAt_31 : decode cX7_versionAt 31 = .ok (.aload_n 0, 1) := by decide +kernel
theorem dX7_versionAt_32 : decode cX7_versionAt 32 = .ok (.getfield 10, 3) := by decide +kernel
theorem dX7_versionAt_35 : decode cX7_versionAt 35 = .ok (.getfield 162, 3) := by decide +kernel
theorem dX7_versionAt_38 : decode cX7_versionAt 38 = .ok (.iload_n 1, 1) := by decide +kernel
theorem dX7_versionAt_39 : decode cX7_versionAt 39 = .ok (.aaload, 1) := by decide +kernel
theorem dX7_versionAt_40 : decode cX7_versionAt 40 = .ok (.iload_n 2, 1) := by decide +kernel
theorem dX7_versionAt_41 : decode cX7_versionAt 41 = .ok (.iaload, 1) := by decide +kernel
theorem dX7_versionAt_42 : decode cX7_versionAt 42 = .ok (.ireturn, 1) := by decide +kernel
theorem dX7_versions_0 : decode cX7_versions 0 = .ok (.aload_n 0, 1) := by decide +kernel
theorem dX7_versions_1 : decode cX7_versions 1 = .ok (.getfield 10, 3) := by decide +kernel
theorem dX7_versions_4 : decode cX7_versions 4 = .ok (.getfield 125, 3) := by decide +kernel
theorem dX7_versions_7 : decode cX7_versions 7 = .ok (.ireturn, 1) := by decide +kernel
theorem dX7_termOf_0 : decode cX7_termOf 0 = .ok (.aload_n 0, 1) := by decide +kernel
theorem dX7_termOf_1 : decode cX7_termOf 1 = .ok (.iload_n 1, 1) := by decide +kernel
theorem dX7_termOf_2 : decode cX7_termOf 2 = .ok (.invokevirtual 166, 3) := by decide +kernel
theorem dX7_termOf_5 : decode cX7_termOf 5 = .ok (.aload_n 0, 1) := by decide +kernel
theorem dX7_termOf_6 : decode cX7_termOf 6 = .ok (.getfield 10, 3) := by decide +kernel
theorem dX7_termOf_9 : decode cX7_termOf 9 = .ok (.getfield 169, 3) := by decide +kernel
theorem dX7_termOf_12 : decode cX7_termOf 12 = .ok (.iload_n 1, 1) := by decide +kernel
theorem dX7_termOf_13 : decode cX7_termOf 13 = .ok (.iaload, 1) := by decide +kernel
theorem dX7_termOf_14 : decode cX7_termOf 14 = .ok (.ireturn, 1) := by decide +kernel
theorem dX7_holders_0 : decode cX7_holders 0 = .ok (.aload_n 0, 1) := by decide +kernel
theorem dX7_holders_1 : decode cX7_holders 1 = .ok (.iload_n 1, 1) := by decide +kernel
theorem dX7_holders_2 : decode cX7_holders 2 = .ok (.invokevirtual 166, 3) := by decide +kernel
theorem dX7_holders_5 : decode cX7_holders 5 = .ok (.aload_n 0, 1) := by decide +kernel
theorem dX7_holders_6 : decode cX7_holders 6 = .ok (.getfield 10, 3) := by decide +kernel
theorem dX7_holders_9 : decode cX7_holders 9 = .ok (.getfield 172, 3) := by decide +kernel
theorem dX7_holders_12 : decode cX7_holders 12 = .ok (.iload_n 1, 1) := by decide +kernel
theorem dX7_holders_13 : decode cX7_holders 13 = .ok (.iaload, 1) := by decide +kernel
theorem dX7_holders_14 : decode cX7_holders 14 = .ok (.ireturn, 1) := by decide +kernel
theorem dX7_isHeld_0 : decode cX7_isHeld 0 = .ok (.aload_n 0, 1) := by decide +kernel
theorem dX7_isHeld_1 : decode cX7_isHeld 1 = .ok (.iload_n 1, 1) := by decide +kernel
theorem dX7_isHeld_2 : decode cX7_isHeld 2 = .ok (.invokevirtual 166, 3) := by decide +kernel
theorem dX7_isHeld_5 : decode cX7_isHeld 5 = .ok (.aload_n 0, 1) := by decide +kernel
theorem dX7_isHeld_6 : decode cX7_isHeld 6 = .ok (.getfield 10, 3) := by decide +kernel
theorem dX7_isHeld_9 : decode cX7_isHeld 9 = .ok (.getfield 137, 3) := by decide +kernel
theorem dX7_isHeld_12 : decode cX7_isHeld 12 = .ok (.iload_n 1, 1) := by decide +kernel
theorem dX7_isHeld_13 : decode cX7_isHeld 13 = .ok (.invokestatic 175, 3) := by decide +kernel
theorem dX7_isHeld_16 : decode cX7_isHeld 16 = .ok (.ireturn, 1) := by decide +kernel
theorem dX7_wasHeld_0 : decode cX7_wasHeld 0 = .ok (.aload_n 0, 1) := by decide +kernel
theorem dX7_wasHeld_1 : decode cX7_wasHeld 1 = .ok (.iload_n 1, 1) := by decide +kernel
theorem dX7_wasHeld_2 : decode cX7_wasHeld 2 = .ok (.invokevirtual 166, 3) := by decide +kernel
theorem dX7_wasHeld_5 : decode cX7_wasHeld 5 = .ok (.aload_n 0, 1) := by decide +kernel
theorem dX7_wasHeld_6 : decode cX7_wasHeld 6 = .ok (.getfield 10, 3) := by decide +kernel
theorem dX7_wasHeld_9 : decode cX7_wasHeld 9 = .ok (.getfield 179, 3) := by decide +kernel
theorem dX7_wasHeld_12 : decode cX7_wasHeld 12 = .ok (.iload_n 1, 1) := by decide +kernel
theorem dX7_wasHeld_13 : decode cX7_wasHeld 13 = .ok (.invokestatic 175, 3) := by decide +kernel
theorem dX7_wasHeld_16 : decode cX7_wasHeld 16 = .ok (.ireturn, 1) := by decide +kernel
theorem dX7_current_0 : decode cX7_current 0 = .ok (.iload_n 1, 1) := by decide +kernel
theorem dX7_current_1 : decode cX7_current 1 = .ok (.invokestatic 82, 3) := by decide +kernel
theorem dX7_current_4 : decode cX7_current 4 = .ok (.iload_n 2, 1) := by decide +kernel
theorem dX7_current_5 : decode cX7_current 5 = .ok (.invokestatic 114, 3) := by decide +kernel
theorem dX7_current_8 : decode cX7_current 8 = .ok (.aload_n 0, 1) := by decide +kernel
theorem dX7_current_9 : decode cX7_current 9 = .ok (.iload_n 1, 1) := by decide +kernel
theorem dX7_current_10 : decode cX7_current 10 = .ok (.iload_n 2, 1) := by decide +kernel
theorem dX7_current_11 : decode cX7_current 11 = .ok (.invokevirtual 182, 3) := by decide +kernel
theorem dX7_current_14 : decode cX7_current 14 = .ok (.ireturn, 1) := by decide +kernel
theorem dX7_addLot_0 : decode cX7_addLot 0 = .ok (.aload_n 0, 1) := by decide +kernel
theorem dX7_addLot_1 : decode cX7_addLot 1 = .ok (.getfield 36, 3) := by decide +kernel
theorem dX7_addLot_4 : decode cX7_addLot 4 = .ok (.getfield 185, 3) := by decide +kernel
theorem dX7_addLot_7 : decode cX7_addLot 7 = .ok (.bipush 16, 2) := by decide +kernel
theorem dX7_addLot_9 : decode cX7_addLot 9 = .ok (.if_icmp .lt 13, 3) := by decide +kernel
theorem dX7_addLot_12 : decode cX7_addLot 12 = .ok (.new 90, 3) := by decide +kernel
theorem dX7_addLot_15 : decode cX7_addLot 15 = .ok (.dup, 1) := by decide +kernel
theorem dX7_addLot_16 : decode cX7_addLot 16 = .ok (.ldc 188, 2) := by decide +kernel
theorem dX7_addLot_18 : decode cX7_addLot 18 = .ok (.invokespecial 94, 3) := by decide +kernel
theorem dX7_addLot_21 : decode cX7_addLot 21 = .ok (.athrow, 1) := by decide +kernel
theorem dX7_addLot_22 : decode cX7_addLot 22 = .ok (.aload_n 0, 1) := by decide +kernel
theorem dX7_addLot_23 : decode cX7_addLot 23 = .ok (.getfield 36, 3) := by decide +kernel
theorem dX7_addLot_26 : decode cX7_addLot 26 = .ok (.dup, 1) := by decide +kernel
theorem dX7_addLot_27 : decode cX7_addLot 27 = .ok (.getfield 185, 3) := by decide +kernel
theorem dX7_addLot_30 : decode cX7_addLot 30 = .ok (.iconst 1, 1) := by decide +kernel
theorem dX7_addLot_31 : decode cX7_addLot 31 = .ok (.iadd, 1) := by decide +kernel
theorem dX7_addLot_32 : decode cX7_addLot 32 = .ok (.putfield 185, 3) := by decide +kernel
theorem dX7_addLot_35 : decode cX7_addLot 35 = .ok (.aload_n 0, 1) := by decide +kernel
theorem dX7_addLot_36 : decode cX7_addLot 36 = .ok (.getfield 36, 3) := by decide +kernel
theorem dX7_addLot_39 : decode cX7_addLot 39 = .ok (.getfield 185, 3) := by decide +kernel
theorem dX7_addLot_42 : decode cX7_addLot 42 = .ok (.iconst 1, 1) := by decide +kernel
theorem dX7_addLot_43 : decode cX7_addLot 43 = .ok (.isub, 1) := by decide +kernel
theorem dX7_addLot_44 : decode cX7_addLot 44 = .ok (.ireturn, 1) := by decide +kernel
theorem dX7_deliver_0 : decode cX7_deliver 0 = .ok (.iload_n 1, 1) := by decide +kernel
theorem dX7_deliver_1 : decode cX7_deliver 1 = .ok (.invokestatic 82, 3) := by decide +kernel
theorem dX7_deliver_4 : decode cX7_deliver 4 = .ok (.aload_n 0, 1) := by decide +kernel
theorem dX7_deliver_5 : decode cX7_deliver 5 = .ok (.iload_n 2, 1) := by decide +kernel
theorem dX7_deliver_6 : decode cX7_deliver 6 = .ok (.invokevirtual 190, 3) := by decide +kernel
theorem dX7_deliver_9 : decode cX7_deliver 9 = .ok (.iload_n 3, 1) := by decide +kernel
theorem dX7_deliver_10 : decode cX7_deliver 10 = .ok (.iconst 1, 1) := by decide +kernel
theorem dX7_deliver_11 : decode cX7_deliver 11 = .ok (.if_icmp .lt 9, 3) := by decide +kernel
theorem dX7_deliver_14 : decode cX7_deliver 14 = .ok (.iload_n 3, 1) := by decide +kernel
theorem dX7_deliver_15 : decode cX7_deliver 15 = .ok (.bipush 50, 2) := by decide +kernel
theorem dX7_deliver_17 : decode cX7_deliver 17 = .ok (.if_icmp .le 13, 3) := by decide +kernel
theorem dX7_deliver_20 : decode cX7_deliver 20 = .ok (.new 61, 3) := by decide +kernel
theorem dX7_deliver_23 : decode cX7_deliver 23 = .ok (.dup, 1) := by decide +kernel
theorem dX7_deliver_24 : decode cX7_deliver 24 = .ok (.ldc 193, 2) := by decide +kernel
theorem dX7_deliver_26 : decode cX7_deliver 26 = .ok (.invokespecial 65, 3) := by decide +kernel
theorem dX7_deliver_29 : decode cX7_deliver 29 = .ok (.athrow, 1) := by decide +kernel
theorem dX7_deliver_30 : decode cX7_deliver 30 = .ok (.aload_n 0, 1) := by decide +kernel
theorem dX7_deliver_31 : decode cX7_deliver 31 = .ok (.iload_n 2, 1) := by decide +kernel
theorem dX7_deliver_32 : decode cX7_deliver 32 = .ok (.invokevirtual 195, 3) := by decide +kernel
theorem dX7_deliver_35 : decode cX7_deliver 35 = .ok (.aload_n 0, 1) := by decide +kernel
theorem dX7_deliver_36 : decode cX7_deliver 36 = .ok (.getfield 36, 3) := by decide +kernel
theorem dX7_deliver_39 : decode cX7_deliver 39 = .ok (.getfield 198, 3) := by decide +kernel
theorem dX7_deliver_42 : decode cX7_deliver 42 = .ok (.iload_n 1, 1) := by decide +kernel
theorem dX7_deliver_43 : decode cX7_deliver 43 = .ok (.iaload, 1) := by decide +kernel
theorem dX7_deliver_44 : decode cX7_deliver 44 = .ok (.iload_n 3, 1) := by decide +kernel
theorem dX7_deliver_45 : decode cX7_deliver 45 = .ok (.iadd, 1) := by decide +kernel
theorem dX7_deliver_46 : decode cX7_deliver 46 = .ok (.sipush 200, 3) := by decide +kernel
theorem dX7_deliver_49 : decode cX7_deliver 49 = .ok (.if_icmp .le 13, 3) := by decide +kernel
theorem dX7_deliver_52 : decode cX7_deliver 52 = .ok (.new 90, 3) := by decide +kernel
theorem dX7_deliver_55 : decode cX7_deliver 55 = .ok (.dup, 1) := by decide +kernel
theorem dX7_deliver_56 : decode cX7_deliver 56 = .ok (.ldc 201, 2) := by decide +kernel
theorem dX7_deliver_58 : decode cX7_deliver 58 = .ok (.invokespecial 94, 3) := by decide +kernel
theorem dX7_deliver_61 : decode cX7_deliver 61 = .ok (.athrow, 1) := by decide +kernel
theorem dX7_deliver_62 : decode cX7_deliver 62 = .ok (.aload_n 0, 1) := by decide +kernel
theorem dX7_deliver_63 : decode cX7_deliver 63 = .ok (.getfield 36, 3) := by decide +kernel
theorem dX7_deliver_66 : decode cX7_deliver 66 = .ok (.iload_n 1, 1) := by decide +kernel
theorem dX7_deliver_67 : decode cX7_deliver 67 = .ok (.iload_n 2, 1) := by decide +kernel
theorem dX7_deliver_68 : decode cX7_deliver 68 = .ok (.iload_n 3, 1) := by decide +kernel
theorem dX7_deliver_69 : decode cX7_deliver 69 = .ok (.invokevirtual 203, 3) := by decide +kernel
theorem dX7_deliver_72 : decode cX7_deliver 72 = .ok (.aload_n 0, 1) := by decide +kernel
theorem dX7_deliver_73 : decode cX7_deliver 73 = .ok (.getfield 36, 3) := by decide +kernel
theorem dX7_deliver_76 : decode cX7_deliver 76 = .ok (.getfield 198, 3) := by decide +kernel
theorem dX7_deliver_79 : decode cX7_deliver 79 = .ok (.iload_n 1, 1) := by decide +kernel
theorem dX7_deliver_80 : decode cX7_deliver 80 = .ok (.iaload, 1) := by decide +kernel
theorem dX7_deliver_81 : decode cX7_deliver 81 = .ok (.ireturn, 1) := by decide +kernel
theorem dX7_condemn_0 : decode cX7_condemn 0 = .ok (.aload_n 0, 1) := by decide +kernel
theorem dX7_condemn_1 : decode cX7_condemn 1 = .ok (.iload_n 1, 1) := by decide +kernel
theorem dX7_condemn_2 : decode cX7_condemn 2 = .ok (.invokevirtual 190, 3) := by decide +kernel
theorem dX7_condemn_5 : decode cX7_condemn 5 = .ok (.aload_n 0, 1) := by decide +kernel
theorem dX7_condemn_6 : decode cX7_condemn 6 = .ok (.iload_n 1, 1) := by decide +kernel
theorem dX7_condemn_7 : decode cX7_condemn 7 = .ok (.invokevirtual 195, 3) := by decide +kernel
theorem dX7_condemn_10 : decode cX7_condemn 10 = .ok (.aload_n 0, 1) := by decide +kernel
theorem dX7_condemn_11 : decode cX7_condemn 11 = .ok (.getfield 36, 3) := by decide +kernel
theorem dX7_condemn_14 : decode cX7_condemn 14 = .ok (.iload_n 1, 1) := by decide +kernel
theorem dX7_condemn_15 : decode cX7_condemn 15 = .ok (.invokevirtual 206, 3) := by decide +kernel
theorem dX7_condemn_18 : decode cX7_condemn 18 = .ok (.aload_n 0, 1) := by decide +kernel
theorem dX7_condemn_19 : decode cX7_condemn 19 = .ok (.iload_n 1, 1) := by decide +kernel
theorem dX7_condemn_20 : decode cX7_condemn 20 = .ok (.invokevirtual 209, 3) := by decide +kernel
theorem dX7_condemn_23 : decode cX7_condemn 23 = .ok (.ireturn, 1) := by decide +kernel
theorem dX7_store_0 : decode cX7_store 0 = .ok (.iload_n 1, 1) := by decide +kernel
theorem dX7_store_1 : decode cX7_store 1 = .ok (.invokestatic 82, 3) := by decide +kernel
theorem dX7_store_4 : decode cX7_store 4 = .ok (.aload_n 0, 1) := by decide +kernel
theorem dX7_store_5 : decode cX7_store 5 = .ok (.getfield 36, 3) := by decide +kernel
theorem dX7_store_8 : decode cX7_store 8 = .ok (.getfield 198, 3) := by decide +kernel
theorem dX7_store_11 : decode cX7_store 11 = .ok (.iload_n 1, 1) := by decide +kernel
theorem dX7_store_12 : decode cX7_store 12 = .ok (.iaload, 1) := by decide +kernel
theorem dX7_store_13 : decode cX7_store 13 = .ok (.ireturn, 1) := by decide +kernel
theorem dX7_book_0 : decode cX7_book 0 = .ok (.iload_n 1, 1) := by decide +kernel
theorem dX7_book_1 : decode cX7_book 1 = .ok (.invokestatic 82, 3) := by decide +kernel
theorem dX7_book_4 : decode cX7_book 4 = .ok (.iload_n 3, 1) := by decide +kernel
theorem dX7_book_5 : decode cX7_book 5 = .ok (.invokestatic 114, 3) := by decide +kernel
theorem dX7_book_8 : decode cX7_book 8 = .ok (.aload_n 0, 1) := by decide +kernel
theorem dX7_book_9 : decode cX7_book 9 = .ok (.iload_n 2, 1) := by decide +kernel
theorem dX7_book_10 : decode cX7_book 10 = .ok (.invokevirtual 212, 3) := by decide +kernel
theorem dX7_book_13 : decode cX7_book 13 = .ok (.aload_n 0, 1) := by decide +kernel
theorem dX7_book_14 : decode cX7_book 14 = .ok (.getfield 43, 3) := by decide +kernel
theorem dX7_book_17 : decode cX7_book 17 = .ok (.iload_n 1, 1) := by decide +kernel
theorem dX7_book_18 : decode cX7_book 18 = .ok (.iload_n 2, 1) := by decide +kernel
theorem dX7_book_19 : decode cX7_book 19 = .ok (.invokevirtual 215, 3) := by decide +kernel
theorem dX7_book_22 : decode cX7_book 22 = .ok (.iconst (-1), 1) := by decide +kernel
theorem dX7_book_23 : decode cX7_book 23 = .ok (.if_icmp .eq 13, 3) := by decide +kernel
theorem dX7_book_26 : decode cX7_book 26 = .ok (.new 90, 3) := by decide +kernel
theorem dX7_book_29 : decode cX7_book 29 = .ok (.dup, 1) := by decide +kernel
theorem dX7_book_30 : decode cX7_book 30 = .ok (.ldc 218, 2) := by decide +kernel
theorem dX7_book_32 : decode cX7_book 32 = .ok (.invokespecial 94, 3) := by decide +kernel
theorem dX7_book_35 : decode cX7_book 35 = .ok (.athrow, 1) := by decide +kernel
theorem dX7_book_36 : decode cX7_book 36 = .ok (.aload_n 0, 1) := by decide +kernel
theorem dX7_book_37 : decode cX7_book 37 = .ok (.iload_n 1, 1) := by decide +kernel
theorem dX7_book_38 : decode cX7_book 38 = .ok (.iload_n 2, 1) := by decide +kernel
theorem dX7_book_39 : decode cX7_book 39 = .ok (.iload_n 3, 1) := by decide +kernel
theorem dX7_book_40 : decode cX7_book 40 = .ok (.invokevirtual 220, 3) := by decide +kernel
theorem dX7_book_43 : decode cX7_book 43 = .ok (.ireturn, 1) := by decide +kernel
theorem dX7_renew_0 : decode cX7_renew 0 = .ok (.iload_n 1, 1) := by decide +kernel
theorem dX7_renew_1 : decode cX7_renew 1 = .ok (.invokestatic 82, 3) := by decide +kernel
theorem dX7_renew_4 : decode cX7_renew 4 = .ok (.aload_n 0, 1) := by decide +kernel
theorem dX7_renew_5 : decode cX7_renew 5 = .ok (.iload_n 2, 1) := by decide +kernel
theorem dX7_renew_6 : decode cX7_renew 6 = .ok (.invokevirtual 212, 3) := by decide +kernel
theorem dX7_renew_9 : decode cX7_renew 9 = .ok (.aload_n 0, 1) := by decide +kernel
theorem dX7_renew_10 : decode cX7_renew 10 = .ok (.getfield 43, 3) := by decide +kernel
theorem dX7_renew_13 : decode cX7_renew 13 = .ok (.iload_n 1, 1) := by decide +kernel
theorem dX7_renew_14 : decode cX7_renew 14 = .ok (.iload_n 2, 1) := by decide +kernel
theorem dX7_renew_15 : decode cX7_renew 15 = .ok (.invokevirtual 215, 3) := by decide +kernel
theorem dX7_renew_18 : decode cX7_renew 18 = .ok (.istore_n 3, 1) := by decide +kernel
theorem dX7_renew_19 : decode cX7_renew 19 = .ok (.iload_n 3, 1) := by decide +kernel
theorem dX7_renew_20 : decode cX7_renew 20 = .ok (.invokestatic 224, 3) := by decide +kernel
theorem dX7_renew_23 : decode cX7_renew 23 = .ok (.aload_n 0, 1) := by decide +kernel
theorem dX7_renew_24 : decode cX7_renew 24 = .ok (.iload_n 1, 1) := by decide +kernel
theorem dX7_renew_25 : decode cX7_renew 25 = .ok (.iload_n 2, 1) := by decide +kernel
theorem dX7_renew_26 : decode cX7_renew 26 = .ok (.aload_n 0, 1) := by decide +kernel
theorem dX7_renew_27 : decode cX7_renew 27 = .ok (.getfield 29, 3) := by decide +kernel
theorem dX7_renew_30 : decode cX7_renew 30 = .ok (.getfield 227, 3) := by decide +kernel
theorem dX7_renew_33 : decode cX7_renew 33 = .ok (.iload_n 3, 1) := by decide +kernel
theorem dX7_renew_34 : decode cX7_renew 34 = .ok (.iaload, 1) := by decide +kernel
theorem dX7_renew_35 : decode cX7_renew 35 = .ok (.invokevirtual 220, 3) := by decide +kernel
theorem dX7_renew_38 : decode cX7_renew 38 = .ok (.ireturn, 1) := by decide +kernel
theorem dX7_free_0 : decode cX7_free 0 = .ok (.iload_n 1, 1) := by decide +kernel
theorem dX7_free_1 : decode cX7_free 1 = .ok (.invokestatic 82, 3) := by decide +kernel
theorem dX7_free_4 : decode cX7_free 4 = .ok (.aload_n 0, 1) := by decide +kernel
theorem dX7_free_5 : decode cX7_free 5 = .ok (.iload_n 2, 1) := by decide +kernel
theorem dX7_free_6 : decode cX7_free 6 = .ok (.invokevirtual 212, 3) := by decide +kernel
theorem dX7_free_9 : decode cX7_free 9 = .ok (.aload_n 0, 1) := by decide +kernel
theorem dX7_free_10 : decode cX7_free 10 = .ok (.getfield 43, 3) := by decide +kernel
theorem dX7_free_13 : decode cX7_free 13 = .ok (.iload_n 1, 1) := by decide +kernel
theorem dX7_free_14 : decode cX7_free 14 = .ok (.iload_n 2, 1) := by decide +kernel
theorem dX7_free_15 : decode cX7_free 15 = .ok (.invokevirtual 215, 3) := by decide +kernel
theorem dX7_free_18 : decode cX7_free 18 = .ok (.istore_n 3, 1) := by decide +kernel
theorem dX7_free_19 : decode cX7_free 19 = .ok (.iload_n 3, 1) := by decide +kernel
theorem dX7_free_20 : decode cX7_free 20 = .ok (.invokestatic 224, 3) := by decide +kernel
theorem dX7_free_23 : decode cX7_free 23 = .ok (.aload_n 0, 1) := by decide +kernel
theorem dX7_free_24 : decode cX7_free 24 = .ok (.getfield 43, 3) := by decide +kernel
theorem dX7_free_27 : decode cX7_free 27 = .ok (.iload_n 1, 1) := by decide +kernel
theorem dX7_free_28 : decode cX7_free 28 = .ok (.iload_n 2, 1) := by decide +kernel
theorem dX7_free_29 : decode cX7_free 29 = .ok (.iconst (-1), 1) := by decide +kernel
theorem dX7_free_30 : decode cX7_free 30 = .ok (.invokevirtual 230, 3) := by decide +kernel
theorem dX7_free_33 : decode cX7_free 33 = .ok (.iload_n 3, 1) := by decide +kernel
theorem dX7_free_34 : decode cX7_free 34 = .ok (.ireturn, 1) := by decide +kernel
theorem dX7_booked_0 : decode cX7_booked 0 = .ok (.iload_n 1, 1) := by decide +kernel
theorem dX7_booked_1 : decode cX7_booked 1 = .ok (.invokestatic 82, 3) := by decide +kernel
theorem dX7_booked_4 : decode cX7_booked 4 = .ok (.aload_n 0, 1) := by decide +kernel
theorem dX7_booked_5 : decode cX7_booked 5 = .ok (.iload_n 2, 1) := by decide +kernel
theorem dX7_booked_6 : decode cX7_booked 6 = .ok (.invokevirtual 212, 3) := by decide +kernel
theorem dX7_booked_9 : decode cX7_booked 9 = .ok (.aload_n 0, 1) := by decide +kernel
theorem dX7_booked_10 : decode cX7_booked 10 = .ok (.getfield 43, 3) := by decide +kernel
theorem dX7_booked_13 : decode cX7_booked 13 = .ok (.iload_n 1, 1) := by decide +kernel
theorem dX7_booked_14 : decode cX7_booked 14 = .ok (.iload_n 2, 1) := by decide +kernel
theorem dX7_booked_15 : decode cX7_booked 15 = .ok (.invokevirtual 215, 3) := by decide +kernel
theorem dX7_booked_18 : decode cX7_booked 18 = .ok (.ireturn, 1) := by decide +kernel
theorem dX7_stopped_0 : decode cX7_stopped 0 = .ok (.iconst 0, 1) := by decide +kernel
theorem dX7_stopped_1 : decode cX7_stopped 1 = .ok (.istore_n 1, 1) := by decide +kernel
theorem dX7_stopped_2 : decode cX7_stopped 2 = .ok (.iconst 0, 1) := by decide +kernel
theorem dX7_stopped_3 : decode cX7_stopped 3 = .ok (.istore_n 2, 1) := by decide +kernel
theorem dX7_stopped_4 : decode cX7_stopped 4 = .ok (.iload_n 2, 1) := by decide +kernel
theorem dX7_stopped_5 : decode cX7_stopped 5 = .ok (.iconst 5, 1) := by decide +kernel
theorem dX7_stopped_6 : decode cX7_stopped 6 = .ok (.if_icmp .ge 66, 3) := by decide +kernel
theorem dX7_stopped_9 : decode cX7_stopped 9 = .ok (.iconst 0, 1) := by decide +kernel
theorem dX7_stopped_10 : decode cX7_stopped 10 = .ok (.istore_n 3, 1) := by decide +kernel
theorem dX7_stopped_11 : decode cX7_stopped 11 = .ok (.iload_n 3, 1) := by decide +kernel
theorem dX7_stopped_12 : decode cX7_stopped 12 = .ok (.bipush 50, 2) := by decide +kernel
theorem dX7_stopped_14 : decode cX7_stopped 14 = .ok (.if_icmp .gt 52, 3) := by decide +kernel
theorem dX7_stopped_17 : decode cX7_stopped 17 = .ok (.aload_n 0, 1) := by decide +kernel
theorem dX7_stopped_18 : decode cX7_stopped 18 = .ok (.getfield 43, 3) := by decide +kernel
theorem dX7_stopped_21 : decode cX7_stopped 21 = .ok (.iload_n 2, 1) := by decide +kernel
theorem dX7_stopped_22 : decode cX7_stopped 22 = .ok (.aload_n 0, 1) := by decide +kernel
theorem dX7_stopped_23 : decode cX7_stopped 23 = .ok (.getfield 43, 3) := by decide +kernel
theorem dX7_stopped_26 : decode cX7_stopped 26 = .ok (.getfield 233, 3) := by decide +kernel
theorem dX7_stopped_29 : decode cX7_stopped 29 = .ok (.iload_n 3, 1) := by decide +kernel
theorem dX7_stopped_30 : decode cX7_stopped 30 = .ok (.iadd, 1) := by decide +kernel
theorem dX7_stopped_31 : decode cX7_stopped 31 = .ok (.invokevirtual 215, 3) := by decide +kernel
theorem dX7_stopped_34 : decode cX7_stopped 34 = .ok (.istore 4, 2) := by decide +kernel
theorem dX7_stopped_36 : decode cX7_stopped 36 = .ok (.iload 4, 2) := by decide +kernel
theorem dX7_stopped_38 : decode cX7_stopped 38 = .ok (.iconst (-1), 1) := by decide +kernel
theorem dX7_stopped_39 : decode cX7_stopped 39 = .ok (.if_icmp .eq 21, 3) := by decide +kernel
theorem dX7_stopped_42 : decode cX7_stopped 42 = .ok (.aload_n 0, 1) := by decide +kernel
theorem dX7_stopped_43 : decode cX7_stopped 43 = .ok (.getfield 10, 3) := by decide +kernel
theorem dX7_stopped_46 : decode cX7_stopped 46 = .ok (.getfield 137, 3) := by decide +kernel
theorem dX7_stopped_49 : decode cX7_stopped 49 = .ok (.iload 4, 2) := by decide +kernel
theorem dX7_stopped_51 : decode cX7_stopped 51 = .ok (.invokestatic 175, 3) := by decide +kernel
theorem dX7_stopped_54 : decode cX7_stopped 54 = .ok (.ifCond .ne 6, 3) := by decide +kernel
theorem dX7_stopped_57 : decode cX7_stopped 57 = .ok (.iinc 1 1, 3) := by decide +kernel
theorem dX7_stopped_60 : decode cX7_stopped 60 = .ok (.iinc 3 1, 3) := by decide +kernel
theorem dX7_stopped_63 : decode cX7_stopped 63 = .ok (.goto (-52), 3) := by decide +kernel
theorem dX7_stopped_66 : decode cX7_stopped 66 = .ok (.iinc 2 1, 3) := by decide +kernel
theorem dX7_stopped_69 : decode cX7_stopped 69 = .ok (.goto (-65), 3) := by decide +kernel
theorem dX7_stopped_72 : decode cX7_stopped 72 = .ok (.iload_n 1, 1) := by decide +kernel
theorem dX7_stopped_73 : decode cX7_stopped 73 = .ok (.ireturn, 1) := by decide +kernel
theorem dX7_pass_0 : decode cX7_pass 0 = .ok (.iload_n 1, 1) := by decide +kernel
theorem dX7_pass_1 : decode cX7_pass 1 = .ok (.iconst 1, 1) := by decide +kernel
theorem dX7_pass_2 : decode cX7_pass 2 = .ok (.if_icmp .lt 9, 3) := by decide +kernel
theorem dX7_pass_5 : decode cX7_pass 5 = .ok (.iload_n 1, 1) := by decide +kernel
theorem dX7_pass_6 : decode cX7_pass 6 = .ok (.bipush 50, 2) := by decide +kernel
theorem dX7_pass_8 : decode cX7_pass 8 = .ok (.if_icmp .le 13, 3) := by decide +kernel
theorem dX7_pass_11 : decode cX7_pass 11 = .ok (.new 61, 3) := by decide +kernel
theorem dX7_pass_14 : decode cX7_pass 14 = .ok (.dup, 1) := by decide +kernel
theorem dX7_pass_15 : decode cX7_pass 15 = .ok (.ldc 236, 2) := by decide +kernel
theorem dX7_pass_17 : decode cX7_pass 17 = .ok (.invokespecial 65, 3) := by decide +kernel
theorem dX7_pass_20 : decode cX7_pass 20 = .ok (.athrow, 1) := by decide +kernel
theorem dX7_pass_21 : decode cX7_pass 21 = .ok (.aload_n 0, 1) := by decide +kernel
theorem dX7_pass_22 : decode cX7_pass 22 = .ok (.getfield 43, 3) := by decide +kernel
theorem dX7_pass_25 : decode cX7_pass 25 = .ok (.getfield 233, 3) := by decide +kernel
theorem dX7_pass_28 : decode cX7_pass 28 = .ok (.iload_n 1, 1) := by decide +kernel
theorem dX7_pass_29 : decode cX7_pass 29 = .ok (.iadd, 1) := by decide +kernel
theorem dX7_pass_30 : decode cX7_pass 30 = .ok (.sipush 1000, 3) := by decide +kernel
theorem dX7_pass_33 : decode cX7_pass 33 = .ok (.if_icmp .le 13, 3) := by decide +kernel
theorem dX7_pass_36 : decode cX7_pass 36 = .ok (.new 90, 3) := by decide +kernel
theorem dX7_pass_39 : decode cX7_pass 39 = .ok (.dup, 1) := by decide +kernel
theorem dX7_pass_40 : decode cX7_pass 40 = .ok (.ldc 238, 2) := by decide +kernel
theorem dX7_pass_42 : decode cX7_pass 42 = .ok (.invokespecial 94, 3) := by decide +kernel
theorem dX7_pass_45 : decode cX7_pass 45 = .ok (.athrow, 1) := by decide +kernel
theorem dX7_pass_46 : decode cX7_pass 46 = .ok (.iconst 0, 1) := by decide +kernel
theorem dX7_pass_47 : decode cX7_pass 47 = .ok (.istore_n 2, 1) := by decide +kernel
theorem dX7_pass_48 : decode cX7_pass 48 = .ok (.iconst 0, 1) := by decide +kernel
theorem dX7_pass_49 : decode cX7_pass 49 = .ok (.istore_n 3, 1) := by decide +kernel
theorem dX7_pass_50 : decode cX7_pass 50 = .ok (.iload_n 3, 1) := by decide +kernel
theorem dX7_pass_51 : decode cX7_pass 51 = .ok (.iload_n 1, 1) := by decide +kernel
theorem dX7_pass_52 : decode cX7_pass 52 = .ok (.if_icmp .ge 16, 3) := by decide +kernel
theorem dX7_pass_55 : decode cX7_pass 55 = .ok (.iload_n 2, 1) := by decide +kernel
theorem dX7_pass_56 : decode cX7_pass 56 = .ok (.aload_n 0, 1) := by decide +kernel
theorem dX7_pass_57 : decode cX7_pass 57 = .ok (.invokevirtual 240, 3) := by decide +kernel
theorem dX7_pass_60 : decode cX7_pass 60 = .ok (.iadd, 1) := by decide +kernel
theorem dX7_pass_61 : decode cX7_pass 61 = .ok (.istore_n 2, 1) := by decide +kernel
theorem dX7_pass_62 : decode cX7_pass 62 = .ok (.iinc 3 1, 3) := by decide +kernel
theorem dX7_pass_65 : decode cX7_pass 65 = .ok (.goto (-15), 3) := by decide +kernel
theorem dX7_pass_68 : decode cX7_pass 68 = .ok (.iload_n 2, 1) := by decide +kernel
theorem dX7_pass_69 : decode cX7_pass 69 = .ok (.ireturn, 1) := by decide +kernel
theorem dX7_time_0 : decode cX7_time 0 = .ok (.aload_n 0, 1) := by decide +kernel
theorem dX7_time_1 : decode cX7_time 1 = .ok (.getfield 43, 3) := by decide +kernel
theorem dX7_time_4 : decode cX7_time 4 = .ok (.getfield 233, 3) := by decide +kernel
theorem dX7_time_7 : decode cX7_time 7 = .ok (.ireturn, 1) := by decide +kernel
theorem dX7_missed_0 : decode cX7_missed 0 = .ok (.iload_n 1, 1) := by decide +kernel
theorem dX7_missed_1 : decode cX7_missed 1 = .ok (.invokestatic 82, 3) := by decide +kernel
theorem dX7_missed_4 : decode cX7_missed 4 = .ok (.aload_n 0, 1) := by decide +kernel
theorem dX7_missed_5 : decode cX7_missed 5 = .ok (.getfield 43, 3) := by decide +kernel
theorem dX7_missed_8 : decode cX7_missed 8 = .ok (.getfield 244, 3) := by decide +kernel
theorem dX7_missed_11 : decode cX7_missed 11 = .ok (.iload_n 1, 1) := by decide +kernel
theorem dX7_missed_12 : decode cX7_missed 12 = .ok (.iaload, 1) := by decide +kernel
theorem dX7_missed_13 : decode cX7_missed 13 = .ok (.ireturn, 1) := by decide +kernel
theorem dX7_batches_0 : decode cX7_batches 0 = .ok (.aload_n 0, 1) := by decide +kernel
theorem dX7_batches_1 : decode cX7_batches 1 = .ok (.getfield 50, 3) := by decide +kernel
theorem dX7_batches_4 : decode cX7_batches 4 = .ok (.getfield 247, 3) := by decide +kernel
theorem dX7_batches_7 : decode cX7_batches 7 = .ok (.ireturn, 1) := by decide +kernel
theorem dX7_versionOf_0 : decode cX7_versionOf 0 = .ok (.aload_n 0, 1) := by decide +kernel
theorem dX7_versionOf_1 : decode cX7_versionOf 1 = .ok (.iload_n 1, 1) := by decide +kernel
theorem dX7_versionOf_2 : decode cX7_versionOf 2 = .ok (.invokevirtual 250, 3) := by decide +kernel
theorem dX7_versionOf_5 : decode cX7_versionOf 5 = .ok (.aload_n 0, 1) := by decide +kernel
theorem dX7_versionOf_6 : decode cX7_versionOf 6 = .ok (.getfield 50, 3) := by decide +kernel
theorem dX7_versionOf_9 : decode cX7_versionOf 9 = .ok (.getfield 253, 3) := by decide +kernel
theorem dX7_versionOf_12 : decode cX7_versionOf 12 = .ok (.iload_n 1, 1) := by decide +kernel
theorem dX7_versionOf_13 : decode cX7_versionOf 13 = .ok (.iaload, 1) := by decide +kernel
theorem dX7_versionOf_14 : decode cX7_versionOf 14 = .ok (.ireturn, 1) := by decide +kernel
theorem dX7_lotsOf_0 : decode cX7_lotsOf 0 = .ok (.aload_n 0, 1) := by decide +kernel
theorem dX7_lotsOf_1 : decode cX7_lotsOf 1 = .ok (.iload_n 1, 1) := by decide +kernel
theorem dX7_lotsOf_2 : decode cX7_lotsOf 2 = .ok (.invokevirtual 250, 3) := by decide +kernel
theorem dX7_lotsOf_5 : decode cX7_lotsOf 5 = .ok (.aload_n 0, 1) := by decide +kernel
theorem dX7_lotsOf_6 : decode cX7_lotsOf 6 = .ok (.getfield 50, 3) := by decide +kernel
theorem dX7_lotsOf_9 : decode cX7_lotsOf 9 = .ok (.getfield 256, 3) := by decide +kernel
theorem dX7_lotsOf_12 : decode cX7_lotsOf 12 = .ok (.iload_n 1, 1) := by decide +kernel
theorem dX7_lotsOf_13 : decode cX7_lotsOf 13 = .ok (.iaload, 1) := by decide +kernel
theorem dX7_lotsOf_14 : decode cX7_lotsOf 14 = .ok (.ireturn, 1) := by decide +kernel
theorem dX7_left_0 : decode cX7_left 0 = .ok (.aload_n 0, 1) := by decide +kernel
theorem dX7_left_1 : decode cX7_left 1 = .ok (.iload_n 1, 1) := by decide +kernel
theorem dX7_left_2 : decode cX7_left 2 = .ok (.invokevirtual 250, 3) := by decide +kernel
theorem dX7_left_5 : decode cX7_left 5 = .ok (.aload_n 0, 1) := by decide +kernel
theorem dX7_left_6 : decode cX7_left 6 = .ok (.getfield 50, 3) := by decide +kernel
theorem dX7_left_9 : decode cX7_left 9 = .ok (.getfield 259, 3) := by decide +kernel
theorem dX7_left_12 : decode cX7_left 12 = .ok (.iload_n 1, 1) := by decide +kernel
theorem dX7_left_13 : decode cX7_left 13 = .ok (.iaload, 1) := by decide +kernel
theorem dX7_left_14 : decode cX7_left 14 = .ok (.ireturn, 1) := by decide +kernel
theorem dX7_barred_0 : decode cX7_barred 0 = .ok (.aload_n 0, 1) := by decide +kernel
theorem dX7_barred_1 : decode cX7_barred 1 = .ok (.iload_n 1, 1) := by decide +kernel
theorem dX7_barred_2 : decode cX7_barred 2 = .ok (.invokevirtual 250, 3) := by decide +kernel
theorem dX7_barred_5 : decode cX7_barred 5 = .ok (.aload_n 0, 1) := by decide +kernel
theorem dX7_barred_6 : decode cX7_barred 6 = .ok (.aload_n 0, 1) := by decide +kernel
theorem dX7_barred_7 : decode cX7_barred 7 = .ok (.getfield 10, 3) := by decide +kernel
theorem dX7_barred_10 : decode cX7_barred 10 = .ok (.iload_n 1, 1) := by decide +kernel
theorem dX7_barred_11 : decode cX7_barred 11 = .ok (.invokevirtual 262, 3) := by decide +kernel
theorem dX7_barred_14 : decode cX7_barred 14 = .ok (.ireturn, 1) := by decide +kernel
theorem dX7_barredAnew_0 : decode cX7_barredAnew 0 = .ok (.aload_n 0, 1) := by decide +kernel
theorem dX7_barredAnew_1 : decode cX7_barredAnew 1 = .ok (.iload_n 1, 1) := by decide +kernel
theorem dX7_barredAnew_2 : decode cX7_barredAnew 2 = .ok (.invokevirtual 250, 3) := by decide +kernel
theorem dX7_barredAnew_5 : decode cX7_barredAnew 5 = .ok (.aload_n 0, 1) := by decide +kernel
theorem dX7_barredAnew_6 : decode cX7_barredAnew 6 = .ok (.invokevirtual 266, 3) := by decide +kernel
theorem dX7_barredAnew_9 : decode cX7_barredAnew 9 = .ok (.aload_n 0, 1) := by decide +kernel
theorem dX7_barredAnew_10 : decode cX7_barredAnew 10 = .ok (.aload_n 0, 1) := by decide +kernel
theorem dX7_barredAnew_11 : decode cX7_barredAnew 11 = .ok (.getfield 16, 3) := by decide +kernel
theorem dX7_barredAnew_14 : decode cX7_barredAnew 14 = .ok (.iload_n 1, 1) := by decide +kernel
theorem dX7_barredAnew_15 : decode cX7_barredAnew 15 = .ok (.invokevirtual 262, 3) := by decide +kernel
theorem dX7_barredAnew_18 : decode cX7_barredAnew 18 = .ok (.ireturn, 1) := by decide +kernel
theorem dX7_sell_0 : decode cX7_sell 0 = .ok (.aload_n 0, 1) := by decide +kernel
theorem dX7_sell_1 : decode cX7_sell 1 = .ok (.iload_n 1, 1) := by decide +kernel
theorem dX7_sell_2 : decode cX7_sell 2 = .ok (.invokevirtual 250, 3) := by decide +kernel
theorem dX7_sell_5 : decode cX7_sell 5 = .ok (.iload_n 2, 1) := by decide +kernel
theorem dX7_sell_6 : decode cX7_sell 6 = .ok (.iconst 1, 1) := by decide +kernel
theorem dX7_sell_7 : decode cX7_sell 7 = .ok (.if_icmp .lt 9, 3) := by decide +kernel
theorem dX7_sell_10 : decode cX7_sell 10 = .ok (.iload_n 2, 1) := by decide +kernel
theorem dX7_sell_11 : decode cX7_sell 11 = .ok (.bipush 40, 2) := by decide +kernel
theorem dX7_sell_13 : decode cX7_sell 13 = .ok (.if_icmp .le 14, 3) := by decide +kernel
theorem dX7_sell_16 : decode cX7_sell 16 = .ok (.new 61, 3) := by decide +kernel
theorem dX7_sell_19 : decode cX7_sell 19 = .ok (.dup, 1) := by decide +kernel
theorem dX7_sell_20 : decode cX7_sell 20 = .ok (.ldc_w 269, 3) := by decide +kernel
theorem dX7_sell_23 : decode cX7_sell 23 = .ok (.invokespecial 65, 3) := by decide +kernel
theorem dX7_sell_26 : decode cX7_sell 26 = .ok (.athrow, 1) := by decide +kernel
theorem dX7_sell_27 : decode cX7_sell 27 = .ok (.aload_n 0, 1) := by decide +kernel
theorem dX7_sell_28 : decode cX7_sell 28 = .ok (.aload_n 0, 1) := by decide +kernel
theorem dX7_sell_29 : decode cX7_sell 29 = .ok (.getfield 10, 3) := by decide +kernel
theorem dX7_sell_32 : decode cX7_sell 32 = .ok (.iload_n 1, 1) := by decide +kernel
theorem dX7_sell_33 : decode cX7_sell 33 = .ok (.invokevirtual 262, 3) := by decide +kernel
theorem dX7_sell_36 : decode cX7_sell 36 = .ok (.ifCond .ne 16, 3) := by decide +kernel
theorem dX7_sell_39 : decode cX7_sell 39 = .ok (.aload_n 0, 1) := by decide +kernel
theorem dX7_sell_40 : decode cX7_sell 40 = .ok (.getfield 50, 3) := by decide +kernel
theorem dX7_sell_43 : decode cX7_sell 43 = .ok (.getfield 259, 3) := by decide +kernel
theorem dX7_sell_46 : decode cX7_sell 46 = .ok (.iload_n 1, 1) := by decide +kernel
theorem dX7_sell_47 : decode cX7_sell 47 = .ok (.iaload, 1) := by decide +kernel
theorem dX7_sell_48 : decode cX7_sell 48 = .ok (.iload_n 2, 1) := by decide +kernel
theorem dX7_sell_49 : decode cX7_sell 49 = .ok (.if_icmp .ge 14, 3) := by decide +kernel
theorem dX7_sell_52 : decode cX7_sell 52 = .ok (.new 90, 3) := by decide +kernel
theorem dX7_sell_55 : decode cX7_sell 55 = .ok (.dup, 1) := by decide +kernel
theorem dX7_sell_56 : decode cX7_sell 56 = .ok (.ldc_w 271, 3) := by decide +kernel
theorem dX7_sell_59 : decode cX7_sell 59 = .ok (.invokespecial 94, 3) := by decide +kernel
theorem dX7_sell_62 : decode cX7_sell 62 = .ok (.athrow, 1) := by decide +kernel
theorem dX7_sell_63 : decode cX7_sell 63 = .ok (.aload_n 0, 1) := by decide +kernel
theorem dX7_sell_64 : decode cX7_sell 64 = .ok (.getfield 50, 3) := by decide +kernel
theorem dX7_sell_67 : decode cX7_sell 67 = .ok (.getfield 259, 3) := by decide +kernel
theorem dX7_sell_70 : decode cX7_sell 70 = .ok (.iload_n 1, 1) := by decide +kernel
theorem dX7_sell_71 : decode cX7_sell 71 = .ok (.dup2, 1) := by decide +kernel
theorem dX7_sell_72 : decode cX7_sell 72 = .ok (.iaload, 1) := by decide +kernel
theorem dX7_sell_73 : decode cX7_sell 73 = .ok (.iload_n 2, 1) := by decide +kernel
theorem dX7_sell_74 : decode cX7_sell 74 = .ok (.isub, 1) := by decide +kernel
theorem dX7_sell_75 : decode cX7_sell 75 = .ok (.iastore, 1) := by decide +kernel
theorem dX7_sell_76 : decode cX7_sell 76 = .ok (.aload_n 0, 1) := by decide +kernel
theorem dX7_sell_77 : decode cX7_sell 77 = .ok (.getfield 50, 3) := by decide +kernel
theorem dX7_sell_80 : decode cX7_sell 80 = .ok (.getfield 273, 3) := by decide +kernel
theorem dX7_sell_83 : decode cX7_sell 83 = .ok (.iload_n 1, 1) := by decide +kernel
theorem dX7_sell_84 : decode cX7_sell 84 = .ok (.dup2, 1) := by decide +kernel
theorem dX7_sell_85 : decode cX7_sell 85 = .ok (.iaload, 1) := by decide +kernel
theorem dX7_sell_86 : decode cX7_sell 86 = .ok (.iload_n 2, 1) := by decide +kernel
theorem dX7_sell_87 : decode cX7_sell 87 = .ok (.iadd, 1) := by decide +kernel
theorem dX7_sell_88 : decode cX7_sell 88 = .ok (.iastore, 1) := by decide +kernel
theorem dX7_sell_89 : decode cX7_sell 89 = .ok (.aload_n 0, 1) := by decide +kernel
theorem dX7_sell_90 : decode cX7_sell 90 = .ok (.getfield 50, 3) := by decide +kernel
theorem dX7_sell_93 : decode cX7_sell 93 = .ok (.getfield 259, 3) := by decide +kernel
theorem dX7_sell_96 : decode cX7_sell 96 = .ok (.iload_n 1, 1) := by decide +kernel
theorem dX7_sell_97 : decode cX7_sell 97 = .ok (.iaload, 1) := by decide +kernel
theorem dX7_sell_98 : decode cX7_sell 98 = .ok (.ireturn, 1) := by decide +kernel
theorem dX7_onSale_0 : decode cX7_onSale 0 = .ok (.iconst 0, 1) := by decide +kernel
theorem dX7_onSale_1 : decode cX7_onSale 1 = .ok (.istore_n 1, 1) := by decide +kernel
theorem dX7_onSale_2 : decode cX7_onSale 2 = .ok (.iconst 0, 1) := by decide +kernel
theorem dX7_onSale_3 : decode cX7_onSale 3 = .ok (.istore_n 2, 1) := by decide +kernel
theorem dX7_onSale_4 : decode cX7_onSale 4 = .ok (.iload_n 2, 1) := by decide +kernel
theorem dX7_onSale_5 : decode cX7_onSale 5 = .ok (.aload_n 0, 1) := by decide +kernel
theorem dX7_onSale_6 : decode cX7_onSale 6 = .ok (.getfield 50, 3) := by decide +kernel
theorem dX7_onSale_9 : decode cX7_onSale 9 = .ok (.getfield 247, 3) := by decide +kernel
theorem dX7_onSale_12 : decode cX7_onSale 12 = .ok (.if_icmp .ge 33, 3) := by decide +kernel
theorem dX7_onSale_15 : decode cX7_onSale 15 = .ok (.aload_n 0, 1) := by decide +kernel
theorem dX7_onSale_16 : decode cX7_onSale 16 = .ok (.aload_n 0, 1) := by decide +kernel
theorem dX7_onSale_17 : decode cX7_onSale 17 = .ok (.getfield 10, 3) := by decide +kernel
theorem dX7_onSale_20 : decode cX7_onSale 20 = .ok (.iload_n 2, 1) := by decide +kernel
theorem dX7_onSale_21 : decode cX7_onSale 21 = .ok (.invokevirtual 262, 3) := by decide +kernel
theorem dX7_onSale_24 : decode cX7_onSale 24 = .ok (.ifCond .ne 15, 3) := by decide +kernel
theorem dX7_onSale_27 : decode cX7_onSale 27 = .ok (.iload_n 1, 1) := by decide +kernel
theorem dX7_onSale_28 : decode cX7_onSale 28 = .ok (.aload_n 0, 1) := by decide +kernel
theorem dX7_onSale_29 : decode cX7_onSale 29 = .ok (.getfield 50, 3) := by decide +kernel
theorem dX7_onSale_32 : decode cX7_onSale 32 = .ok (.getfield 259, 3) := by decide +kernel
theorem dX7_onSale_35 : decode cX7_onSale 35 = .ok (.iload_n 2, 1) := by decide +kernel
theorem dX7_onSale_36 : decode cX7_onSale 36 = .ok (.iaload, 1) := by decide +kernel
theorem dX7_onSale_37 : decode cX7_onSale 37 = .ok (.iadd, 1) := by decide +kernel
theorem dX7_onSale_38 : decode cX7_onSale 38 = .ok (.istore_n 1, 1) := by decide +kernel
theorem dX7_onSale_39 : decode cX7_onSale 39 = .ok (.iinc 2 1, 3) := by decide +kernel
theorem dX7_onSale_42 : decode cX7_onSale 42 = .ok (.goto (-38), 3) := by decide +kernel
theorem dX7_onSale_45 : decode cX7_onSale 45 = .ok (.iload_n 1, 1) := by decide +kernel
theorem dX7_onSale_46 : decode cX7_onSale 46 = .ok (.ireturn, 1) := by decide +kernel
theorem dX7_traced_0 : decode cX7_traced 0 = .ok (.aload_n 0, 1) := by decide +kernel
theorem dX7_traced_1 : decode cX7_traced 1 = .ok (.iload_n 1, 1) := by decide +kernel
theorem dX7_traced_2 : decode cX7_traced 2 = .ok (.invokevirtual 190, 3) := by decide +kernel
theorem dX7_traced_5 : decode cX7_traced 5 = .ok (.iconst 0, 1) := by decide +kernel
theorem dX7_traced_6 : decode cX7_traced 6 = .ok (.istore_n 2, 1) := by decide +kernel
theorem dX7_traced_7 : decode cX7_traced 7 = .ok (.iconst 0, 1) := by decide +kernel
theorem dX7_traced_8 : decode cX7_traced 8 = .ok (.istore_n 3, 1) := by decide +kernel
theorem dX7_traced_9 : decode cX7_traced 9 = .ok (.iload_n 3, 1) := by decide +kernel
theorem dX7_traced_10 : decode cX7_traced 10 = .ok (.aload_n 0, 1) := by decide +kernel
theorem dX7_traced_11 : decode cX7_traced 11 = .ok (.getfield 50, 3) := by decide +kernel
theorem dX7_traced_14 : decode cX7_traced 14 = .ok (.getfield 247, 3) := by decide +kernel
theorem dX7_traced_17 : decode cX7_traced 17 = .ok (.if_icmp .ge 29, 3) := by decide +kernel
theorem dX7_traced_20 : decode cX7_traced 20 = .ok (.aload_n 0, 1) := by decide +kernel
theorem dX7_traced_21 : decode cX7_traced 21 = .ok (.getfield 50, 3) := by decide +kernel
theorem dX7_traced_24 : decode cX7_traced 24 = .ok (.getfield 256, 3) := by decide +kernel
theorem dX7_traced_27 : decode cX7_traced 27 = .ok (.iload_n 3, 1) := by decide +kernel
theorem dX7_traced_28 : decode cX7_traced 28 = .ok (.iaload, 1) := by decide +kernel
theorem dX7_traced_29 : decode cX7_traced 29 = .ok (.i2l, 1) := by decide +kernel
theorem dX7_traced_30 : decode cX7_traced 30 = .ok (.iload_n 1, 1) := by decide +kernel
theorem dX7_traced_31 : decode cX7_traced 31 = .ok (.invokestatic 175, 3) := by decide +kernel
theorem dX7_traced_34 : decode cX7_traced 34 = .ok (.ifCond .eq 6, 3) := by decide +kernel
theorem dX7_traced_37 : decode cX7_traced 37 = .ok (.iinc 2 1, 3) := by decide +kernel
theorem dX7_traced_40 : decode cX7_traced 40 = .ok (.iinc 3 1, 3) := by decide +kernel
theorem dX7_traced_43 : decode cX7_traced 43 = .ok (.goto (-34), 3) := by decide +kernel
theorem dX7_traced_46 : decode cX7_traced 46 = .ok (.iload_n 2, 1) := by decide +kernel
theorem dX7_traced_47 : decode cX7_traced 47 = .ok (.ireturn, 1) := by decide +kernel
theorem dX7_tracedAt_0 : decode cX7_tracedAt 0 = .ok (.aload_n 0, 1) := by decide +kernel
theorem dX7_tracedAt_1 : decode cX7_tracedAt 1 = .ok (.iload_n 1, 1) := by decide +kernel
theorem dX7_tracedAt_2 : decode cX7_tracedAt 2 = .ok (.invokevirtual 190, 3) := by decide +kernel
theorem dX7_tracedAt_5 : decode cX7_tracedAt 5 = .ok (.iconst 0, 1) := by decide +kernel
theorem dX7_tracedAt_6 : decode cX7_tracedAt 6 = .ok (.istore_n 3, 1) := by decide +kernel
theorem dX7_tracedAt_7 : decode cX7_tracedAt 7 = .ok (.iconst 0, 1) := by decide +kernel
theorem dX7_tracedAt_8 : decode cX7_tracedAt 8 = .ok (.istore 4, 2) := by decide +kernel
theorem dX7_tracedAt_10 : decode cX7_tracedAt 10 = .ok (.iload 4, 2) := by decide +kernel
theorem dX7_tracedAt_12 : decode cX7_tracedAt 12 = .ok (.aload_n 0, 1) := by decide +kernel
theorem dX7_tracedAt_13 : decode cX7_tracedAt 13 = .ok (.getfield 50, 3) := by decide +kernel
theorem dX7_tracedAt_16 : decode cX7_tracedAt 16 = .ok (.getfield 247, 3) := by decide +kernel
theorem dX7_tracedAt_19 : decode cX7_tracedAt 19 = .ok (.if_icmp .ge 38, 3) := by decide +kernel
theorem dX7_tracedAt_22 : decode cX7_tracedAt 22 = .ok (.aload_n 0, 1) := by decide +kernel
theorem dX7_tracedAt_23 : decode cX7_tracedAt 23 = .ok (.getfield 50, 3) := by decide +kernel
theorem dX7_tracedAt_26 : decode cX7_tracedAt 26 = .ok (.getfield 256, 3) := by decide +kernel
theorem dX7_tracedAt_29 : decode cX7_tracedAt 29 = .ok (.iload 4, 2) := by decide +kernel
theorem dX7_tracedAt_31 : decode cX7_tracedAt 31 = .ok (.iaload, 1) := by decide +kernel
theorem dX7_tracedAt_32 : decode cX7_tracedAt 32 = .ok (.i2l, 1) := by decide +kernel
theorem dX7_tracedAt_33 : decode cX7_tracedAt 33 = .ok (.iload_n 1, 1) := by decide +kernel
theorem dX7_tracedAt_34 : decode cX7_tracedAt 34 = .ok (.invokestatic 175, 3) := by decide +kernel
theorem dX7_tracedAt_37 : decode cX7_tracedAt 37 = .ok (.ifCond .eq 14, 3) := by decide +kernel
theorem dX7_tracedAt_40 : decode cX7_tracedAt 40 = .ok (.iload_n 3, 1) := by decide +kernel
theorem dX7_tracedAt_41 : decode cX7_tracedAt 41 = .ok (.iload_n 2, 1) := by decide +kernel
theorem dX7_tracedAt_42 : decode cX7_tracedAt 42 = .ok (.if_icmp .ne 6, 3) := by decide +kernel
theorem dX7_tracedAt_45 : decode cX7_tracedAt 45 = .ok (.iload 4, 2) := by decide +kernel
theorem dX7_tracedAt_47 : decode cX7_tracedAt 47 = .ok (.ireturn, 1) := by decide +kernel
theorem dX7_tracedAt_48 : decode cX7_tracedAt 48 = .ok (.iinc 3 1, 3) := by decide +kernel
theorem dX7_tracedAt_51 : decode cX7_tracedAt 51 = .ok (.iinc 4 1, 3) := by decide +kernel
theorem dX7_tracedAt_54 : decode cX7_tracedAt 54 = .ok (.goto (-44), 3) := by decide +kernel
theorem dX7_tracedAt_57 : decode cX7_tracedAt 57 = .ok (.new 157, 3) := by decide +kernel
theorem dX7_tracedAt_60 : decode cX7_tracedAt 60 = .ok (.dup, 1) := by decide +kernel
theorem dX7_tracedAt_61 : decode cX7_tracedAt 61 = .ok (.ldc 159, 2) := by decide +kernel
theorem dX7_tracedAt_63 : decode cX7_tracedAt 63 = .ok (.invokespecial 161, 3) := by decide +kernel
theorem dX7_tracedAt_66 : decode cX7_tracedAt 66 = .ok (.athrow, 1) := by decide +kernel
theorem dX7_recalls_0 : decode cX7_recalls 0 = .ok (.aload_n 0, 1) := by decide +kernel
theorem dX7_recalls_1 : decode cX7_recalls 1 = .ok (.getfield 57, 3) := by decide +kernel
theorem dX7_recalls_4 : decode cX7_recalls 4 = .ok (.getfield 276, 3) := by decide +kernel
theorem dX7_recalls_7 : decode cX7_recalls 7 = .ok (.ireturn, 1) := by decide +kernel
theorem dX7_recallOf_0 : decode cX7_recallOf 0 = .ok (.aload_n 0, 1) := by decide +kernel
theorem dX7_recallOf_1 : decode cX7_recallOf 1 = .ok (.iload_n 1, 1) := by decide +kernel
theorem dX7_recallOf_2 : decode cX7_recallOf 2 = .ok (.invokevirtual 277, 3) := by decide +kernel
theorem dX7_recallOf_5 : decode cX7_recallOf 5 = .ok (.aload_n 0, 1) := by decide +kernel
theorem dX7_recallOf_6 : decode cX7_recallOf 6 = .ok (.getfield 57, 3) := by decide +kernel
theorem dX7_recallOf_9 : decode cX7_recallOf 9 = .ok (.getfield 280, 3) := by decide +kernel
theorem dX7_recallOf_12 : decode cX7_recallOf 12 = .ok (.iload_n 1, 1) := by decide +kernel
theorem dX7_recallOf_13 : decode cX7_recallOf 13 = .ok (.iaload, 1) := by decide +kernel
theorem dX7_recallOf_14 : decode cX7_recallOf 14 = .ok (.ireturn, 1) := by decide +kernel
theorem dX7_calledBack_0 : decode cX7_calledBack 0 = .ok (.aload_n 0, 1) := by decide +kernel
theorem dX7_calledBack_1 : decode cX7_calledBack 1 = .ok (.iload_n 1, 1) := by decide +kernel
theorem dX7_calledBack_2 : decode cX7_calledBack 2 = .ok (.invokevirtual 277, 3) := by decide +kernel
theorem dX7_calledBack_5 : decode cX7_calledBack 5 = .ok (.aload_n 0, 1) := by decide +kernel
theorem dX7_calledBack_6 : decode cX7_calledBack 6 = .ok (.getfield 57, 3) := by decide +kernel
theorem dX7_calledBack_9 : decode cX7_calledBack 9 = .ok (.getfield 283, 3) := by decide +kernel
theorem dX7_calledBack_12 : decode cX7_calledBack 12 = .ok (.iload_n 1, 1) := by decide +kernel
theorem dX7_calledBack_13 : decode cX7_calledBack 13 = .ok (.iaload, 1) := by decide +kernel
theorem dX7_calledBack_14 : decode cX7_calledBack 14 = .ok (.ireturn, 1) := by decide +kernel
theorem dX7_why_0 : decode cX7_why 0 = .ok (.aload_n 0, 1) := by decide +kernel
theorem dX7_why_1 : decode cX7_why 1 = .ok (.iload_n 1, 1) := by decide +kernel
theorem dX7_why_2 : decode cX7_why 2 = .ok (.invokevirtual 277, 3) := by decide +kernel
theorem dX7_why_5 : decode cX7_why 5 = .ok (.aload_n 0, 1) := by decide +kernel
theorem dX7_why_6 : decode cX7_why 6 = .ok (.getfield 57, 3) := by decide +kernel
theorem dX7_why_9 : decode cX7_why 9 = .ok (.getfield 286, 3) := by decide +kernel
theorem dX7_why_12 : decode cX7_why 12 = .ok (.iload_n 1, 1) := by decide +kernel
theorem dX7_why_13 : decode cX7_why 13 = .ok (.iaload, 1) := by decide +kernel
theorem dX7_why_14 : decode cX7_why 14 = .ok (.ireturn, 1) := by decide +kernel
theorem dX7_checkBakery_0 : decode cX7_checkBakery 0 = .ok (.iload_n 0, 1) := by decide +kernel
theorem dX7_checkBakery_1 : decode cX7_checkBakery 1 = .ok (.ifCond .lt 8, 3) := by decide +kernel
theorem dX7_checkBakery_4 : decode cX7_checkBakery 4 = .ok (.iload_n 0, 1) := by decide +kernel
theorem dX7_checkBakery_5 : decode cX7_checkBakery 5 = .ok (.iconst 5, 1) := by decide +kernel
theorem dX7_checkBakery_6 : decode cX7_checkBakery 6 = .ok (.if_icmp .lt 14, 3) := by decide +kernel
theorem dX7_checkBakery_9 : decode cX7_checkBakery 9 = .ok (.new 157, 3) := by decide +kernel
theorem dX7_checkBakery_12 : decode cX7_checkBakery 12 = .ok (.dup, 1) := by decide +kernel
theorem dX7_checkBakery_13 : decode cX7_checkBakery 13 = .ok (.ldc_w 289, 3) := by decide +kernel
theorem dX7_checkBakery_16 : decode cX7_checkBakery 16 = .ok (.invokespecial 161, 3) := by decide +kernel
theorem dX7_checkBakery_19 : decode cX7_checkBakery 19 = .ok (.athrow, 1) := by decide +kernel
theorem dX7_checkBakery_20 : decode cX7_checkBakery 20 = .ok (.return_, 1) := by decide +kernel
theorem dX7_checkPair_0 : decode cX7_checkPair 0 = .ok (.iload_n 0, 1) := by decide +kernel
theorem dX7_checkPair_1 : decode cX7_checkPair 1 = .ok (.invokestatic 82, 3) := by decide +kernel
theorem dX7_checkPair_4 : decode cX7_checkPair 4 = .ok (.iload_n 1, 1) := by decide +kernel
theorem dX7_checkPair_5 : decode cX7_checkPair 5 = .ok (.invokestatic 82, 3) := by decide +kernel
theorem dX7_checkPair_8 : decode cX7_checkPair 8 = .ok (.iload_n 0, 1) := by decide +kernel
theorem dX7_checkPair_9 : decode cX7_checkPair 9 = .ok (.iload_n 1, 1) := by decide +kernel
theorem dX7_checkPair_10 : decode cX7_checkPair 10 = .ok (.if_icmp .ne 14, 3) := by decide +kernel
theorem dX7_checkPair_13 : decode cX7_checkPair 13 = .ok (.new 61, 3) := by decide +kernel
theorem dX7_checkPair_16 : decode cX7_checkPair 16 = .ok (.dup, 1) := by decide +kernel
theorem dX7_checkPair_17 : decode cX7_checkPair 17 = .ok (.ldc_w 291, 3) := by decide +kernel
theorem dX7_checkPair_20 : decode cX7_checkPair 20 = .ok (.invokespecial 65, 3) := by decide +kernel
theorem dX7_checkPair_23 : decode cX7_checkPair 23 = .ok (.athrow, 1) := by decide +kernel
theorem dX7_checkPair_24 : decode cX7_checkPair 24 = .ok (.return_, 1) := by decide +kernel
theorem dX7_checkReach_0 : decode cX7_checkReach 0 = .ok (.aload_n 0, 1) := by decide +kernel
theorem dX7_checkReach_1 : decode cX7_checkReach 1 = .ok (.getfield 10, 3) := by decide +kernel
theorem dX7_checkReach_4 : decode cX7_checkReach 4 = .ok (.iload_n 1, 1) := by decide +kernel
theorem dX7_checkReach_5 : decode cX7_checkReach 5 = .ok (.iload_n 2, 1) := by decide +kernel
theorem dX7_checkReach_6 : decode cX7_checkReach 6 = .ok (.invokevirtual 154, 3) := by decide +kernel
theorem dX7_checkReach_9 : decode cX7_checkReach 9 = .ok (.ifCond .ne 14, 3) := by decide +kernel
theorem dX7_checkReach_12 : decode cX7_checkReach 12 = .ok (.new 90, 3) := by decide +kernel
theorem dX7_checkReach_15 : decode cX7_checkReach 15 = .ok (.dup, 1) := by decide +kernel
theorem dX7_checkReach_16 : decode cX7_checkReach 16 = .ok (.ldc_w 293, 3) := by decide +kernel
theorem dX7_checkReach_19 : decode cX7_checkReach 19 = .ok (.invokespecial 94, 3) := by decide +kernel
theorem dX7_checkReach_22 : decode cX7_checkReach 22 = .ok (.athrow, 1) := by decide +kernel
theorem dX7_checkReach_23 : decode cX7_checkReach 23 = .ok (.return_, 1) := by decide +kernel
theorem dX7_checkLeader_0 : decode cX7_checkLeader 0 = .ok (.aload_n 0, 1) := by decide +kernel
theorem dX7_checkLeader_1 : decode cX7_checkLeader 1 = .ok (.getfield 10, 3) := by decide +kernel
theorem dX7_checkLeader_4 : decode cX7_checkLeader 4 = .ok (.getfield 102, 3) := by decide +kernel
theorem dX7_checkLeader_7 : decode cX7_checkLeader 7 = .ok (.iload_n 1, 1) := by decide +kernel
theorem dX7_checkLeader_8 : decode cX7_checkLeader 8 = .ok (.iaload, 1) := by decide +kernel
theorem dX7_checkLeader_9 : decode cX7_checkLeader 9 = .ok (.iconst 2, 1) := by decide +kernel
theorem dX7_checkLeader_10 : decode cX7_checkLeader 10 = .ok (.if_icmp .eq 14, 3) := by decide +kernel
theorem dX7_checkLeader_13 : decode cX7_checkLeader 13 = .ok (.new 90, 3) := by decide +kernel
theorem dX7_checkLeader_16 : decode cX7_checkLeader 16 = .ok (.dup, 1) := by decide +kernel
theorem dX7_checkLeader_17 : decode cX7_checkLeader 17 = .ok (.ldc_w 295, 3) := by decide +kernel
theorem dX7_checkLeader_20 : decode cX7_checkLeader 20 = .ok (.invokespecial 94, 3) := by decide +kernel
theorem dX7_checkLeader_23 : decode cX7_checkLeader 23 = .ok (.athrow, 1) := by decide +kernel
theorem dX7_checkLeader_24 : decode cX7_checkLeader 24 = .ok (.return_, 1) := by decide +kernel
theorem dX7_checkRecipe_0 : decode cX7_checkRecipe 0 = .ok (.iload_n 0, 1) := by decide +kernel
theorem dX7_checkRecipe_1 : decode cX7_checkRecipe 1 = .ok (.ifCond .lt 9, 3) := by decide +kernel
theorem dX7_checkRecipe_4 : decode cX7_checkRecipe 4 = .ok (.iload_n 0, 1) := by decide +kernel
theorem dX7_checkRecipe_5 : decode cX7_checkRecipe 5 = .ok (.bipush 6, 2) := by decide +kernel
theorem dX7_checkRecipe_7 : decode cX7_checkRecipe 7 = .ok (.if_icmp .lt 14, 3) := by decide +kernel
theorem dX7_checkRecipe_10 : decode cX7_checkRecipe 10 = .ok (.new 157, 3) := by decide +kernel
theorem dX7_checkRecipe_13 : decode cX7_checkRecipe 13 = .ok (.dup, 1) := by decide +kernel
theorem dX7_checkRecipe_14 : decode cX7_checkRecipe 14 = .ok (.ldc_w 297, 3) := by decide +kernel
theorem dX7_checkRecipe_17 : decode cX7_checkRecipe 17 = .ok (.invokespecial 161, 3) := by decide +kernel
theorem dX7_checkRecipe_20 : decode cX7_checkRecipe 20 = .ok (.athrow, 1) := by decide +kernel
theorem dX7_checkRecipe_21 : decode cX7_checkRecipe 21 = .ok (.return_, 1) := by decide +kernel
theorem dX7_checkVersion_0 : decode cX7_checkVersion 0 = .ok (.iload_n 1, 1) := by decide +kernel
theorem dX7_checkVersion_1 : decode cX7_checkVersion 1 = .ok (.ifCond .lt 14, 3) := by decide +kernel
theorem dX7_checkVersion_4 : decode cX7_checkVersion 4 = .ok (.iload_n 1, 1) := by decide +kernel
theorem dX7_checkVersion_5 : decode cX7_checkVersion 5 = .ok (.aload_n 0, 1) := by decide +kernel
theorem dX7_checkVersion_6 : decode cX7_checkVersion 6 = .ok (.getfield 10, 3) := by decide +kernel
theorem dX7_checkVersion_9 : decode cX7_checkVersion 9 = .ok (.getfield 125, 3) := by decide +kernel
theorem dX7_checkVersion_12 : decode cX7_checkVersion 12 = .ok (.if_icmp .lt 14, 3) := by decide +kernel
theorem dX7_checkVersion_15 : decode cX7_checkVersion 15 = .ok (.new 157, 3) := by decide +kernel
theorem dX7_checkVersion_18 : decode cX7_checkVersion 18 = .ok (.dup, 1) := by decide +kernel
theorem dX7_checkVersion_19 : decode cX7_checkVersion 19 = .ok (.ldc_w 299, 3) := by decide +kernel
theorem dX7_checkVersion_22 : decode cX7_checkVersion 22 = .ok (.invokespecial 161, 3) := by decide +kernel
theorem dX7_checkVersion_25 : decode cX7_checkVersion 25 = .ok (.athrow, 1) := by decide +kernel
theorem dX7_checkVersion_26 : decode cX7_checkVersion 26 = .ok (.return_, 1) := by decide +kernel
theorem dX7_checkLot_0 : decode cX7_checkLot 0 = .ok (.iload_n 1, 1) := by decide +kernel
theorem dX7_checkLot_1 : decode cX7_checkLot 1 = .ok (.ifCond .lt 14, 3) := by decide +kernel
theorem dX7_checkLot_4 : decode cX7_checkLot 4 = .ok (.iload_n 1, 1) := by decide +kernel
theorem dX7_checkLot_5 : decode cX7_checkLot 5 = .ok (.aload_n 0, 1) := by decide +kernel
theorem dX7_checkLot_6 : decode cX7_checkLot 6 = .ok (.getfield 36, 3) := by decide +kernel
theorem dX7_checkLot_9 : decode cX7_checkLot 9 = .ok (.getfield 185, 3) := by decide +kernel
theorem dX7_checkLot_12 : decode cX7_checkLot 12 = .ok (.if_icmp .lt 14, 3) := by decide +kernel
theorem dX7_checkLot_15 : decode cX7_checkLot 15 = .ok (.new 157, 3) := by decide +kernel
theorem dX7_checkLot_18 : decode cX7_checkLot 18 = .ok (.dup, 1) := by decide +kernel
theorem dX7_checkLot_19 : decode cX7_checkLot 19 = .ok (.ldc_w 301, 3) := by decide +kernel
theorem dX7_checkLot_22 : decode cX7_checkLot 22 = .ok (.invokespecial 161, 3) := by decide +kernel
theorem dX7_checkLot_25 : decode cX7_checkLot 25 = .ok (.athrow, 1) := by decide +kernel
theorem dX7_checkLot_26 : decode cX7_checkLot 26 = .ok (.return_, 1) := by decide +kernel
theorem dX7_checkGood_0 : decode cX7_checkGood 0 = .ok (.aload_n 0, 1) := by decide +kernel
theorem dX7_checkGood_1 : decode cX7_checkGood 1 = .ok (.getfield 36, 3) := by decide +kernel
theorem dX7_checkGood_4 : decode cX7_checkGood 4 = .ok (.getfield 303, 3) := by decide +kernel
theorem dX7_checkGood_7 : decode cX7_checkGood 7 = .ok (.i2l, 1) := by decide +kernel
theorem dX7_checkGood_8 : decode cX7_checkGood 8 = .ok (.iload_n 1, 1) := by decide +kernel
theorem dX7_checkGood_9 : decode cX7_checkGood 9 = .ok (.invokestatic 175, 3) := by decide +kernel
theorem dX7_checkGood_12 : decode cX7_checkGood 12 = .ok (.ifCond .eq 14, 3) := by decide +kernel
theorem dX7_checkGood_15 : decode cX7_checkGood 15 = .ok (.new 90, 3) := by decide +kernel
theorem dX7_checkGood_18 : decode cX7_checkGood 18 = .ok (.dup, 1) := by decide +kernel
theorem dX7_checkGood_19 : decode cX7_checkGood 19 = .ok (.ldc_w 306, 3) := by decide +kernel
theorem dX7_checkGood_22 : decode cX7_checkGood 22 = .ok (.invokespecial 94, 3) := by decide +kernel
theorem dX7_checkGood_25 : decode cX7_checkGood 25 = .ok (.athrow, 1) := by decide +kernel
theorem dX7_checkGood_26 : decode cX7_checkGood 26 = .ok (.return_, 1) := by decide +kernel
theorem dX7_checkHour_0 : decode cX7_checkHour 0 = .ok (.iload_n 1, 1) := by decide +kernel
theorem dX7_checkHour_1 : decode cX7_checkHour 1 = .ok (.aload_n 0, 1) := by decide +kernel
theorem dX7_checkHour_2 : decode cX7_checkHour 2 = .ok (.getfield 43, 3) := by decide +kernel
theorem dX7_checkHour_5 : decode cX7_checkHour 5 = .ok (.getfield 233, 3) := by decide +kernel
theorem dX7_checkHour_8 : decode cX7_checkHour 8 = .ok (.if_icmp .lt 17, 3) := by decide +kernel
theorem dX7_checkHour_11 : decode cX7_checkHour 11 = .ok (.iload_n 1, 1) := by decide +kernel
theorem dX7_checkHour_12 : decode cX7_checkHour 12 = .ok (.aload_n 0, 1) := by decide +kernel
theorem dX7_checkHour_13 : decode cX7_checkHour 13 = .ok (.getfield 43, 3) := by decide +kernel
theorem dX7_checkHour_16 : decode cX7_checkHour 16 = .ok (.getfield 233, 3) := by decide +kernel
theorem dX7_checkHour_19 : decode cX7_checkHour 19 = .ok (.bipush 50, 2) := by decide +kernel
theorem dX7_checkHour_21 : decode cX7_checkHour 21 = .ok (.iadd, 1) := by decide +kernel
theorem dX7_checkHour_22 : decode cX7_checkHour 22 = .ok (.if_icmp .le 14, 3) := by decide +kernel
theorem dX7_checkHour_25 : decode cX7_checkHour 25 = .ok (.new 61, 3) := by decide +kernel
theorem dX7_checkHour_28 : decode cX7_checkHour 28 = .ok (.dup, 1) := by decide +kernel
theorem dX7_checkHour_29 : decode cX7_checkHour 29 = .ok (.ldc_w 308, 3) := by decide +kernel
theorem dX7_checkHour_32 : decode cX7_checkHour 32 = .ok (.invokespecial 65, 3) := by decide +kernel
theorem dX7_checkHour_35 : decode cX7_checkHour 35 = .ok (.athrow, 1) := by decide +kernel
theorem dX7_checkHour_36 : decode cX7_checkHour 36 = .ok (.return_, 1) := by decide +kernel
theorem dX7_checkBooked_0 : decode cX7_checkBooked 0 = .ok (.iload_n 0, 1) := by decide +kernel
theorem dX7_checkBooked_1 : decode cX7_checkBooked 1 = .ok (.iconst (-1), 1) := by decide +kernel
theorem dX7_checkBooked_2 : decode cX7_checkBooked 2 = .ok (.if_icmp .ne 14, 3) := by decide +kernel
theorem dX7_checkBooked_5 : decode cX7_checkBooked 5 = .ok (.new 90, 3) := by decide +kernel
theorem dX7_checkBooked_8 : decode cX7_checkBooked 8 = .ok (.dup, 1) := by decide +kernel
theorem dX7_checkBooked_9 : decode cX7_checkBooked 9 = .ok (.ldc_w 310, 3) := by decide +kernel
theorem dX7_checkBooked_12 : decode cX7_checkBooked 12 = .ok (.invokespecial 94, 3) := by decide +kernel
theorem dX7_checkBooked_15 : decode cX7_checkBooked 15 = .ok (.athrow, 1) := by decide +kernel
theorem dX7_checkBooked_16 : decode cX7_checkBooked 16 = .ok (.return_, 1) := by decide +kernel
theorem dX7_checkBatch_0 : decode cX7_checkBatch 0 = .ok (.iload_n 1, 1) := by decide +kernel
theorem dX7_checkBatch_1 : decode cX7_checkBatch 1 = .ok (.ifCond .lt 14, 3) := by decide +kernel
theorem dX7_checkBatch_4 : decode cX7_checkBatch 4 = .ok (.iload_n 1, 1) := by decide +kernel
theorem dX7_checkBatch_5 : decode cX7_checkBatch 5 = .ok (.aload_n 0, 1) := by decide +kernel
theorem dX7_checkBatch_6 : decode cX7_checkBatch 6 = .ok (.getfield 50, 3) := by decide +kernel
theorem dX7_checkBatch_9 : decode cX7_checkBatch 9 = .ok (.getfield 247, 3) := by decide +kernel
theorem dX7_checkBatch_12 : decode cX7_checkBatch 12 = .ok (.if_icmp .lt 14, 3) := by decide +kernel
theorem dX7_checkBatch_15 : decode cX7_checkBatch 15 = .ok (.new 157, 3) := by decide +kernel
theorem dX7_checkBatch_18 : decode cX7_checkBatch 18 = .ok (.dup, 1) := by decide +kernel
theorem dX7_checkBatch_19 : decode cX7_checkBatch 19 = .ok (.ldc_w 312, 3) := by decide +kernel
theorem dX7_checkBatch_22 : decode cX7_checkBatch 22 = .ok (.invokespecial 161, 3) := by decide +kernel
theorem dX7_checkBatch_25 : decode cX7_checkBatch 25 = .ok (.athrow, 1) := by decide +kernel
theorem dX7_checkBatch_26 : decode cX7_checkBatch 26 = .ok (.return_, 1) := by decide +kernel
theorem dX7_checkRecall_0 : decode cX7_checkRecall 0 = .ok (.iload_n 1, 1) := by decide +kernel
theorem dX7_checkRecall_1 : decode cX7_checkRecall 1 = .ok (.ifCond .lt 14, 3) := by decide +kernel
theorem dX7_checkRecall_4 : decode cX7_checkRecall 4 = .ok (.iload_n 1, 1) := by decide +kernel
theorem dX7_checkRecall_5 : decode cX7_checkRecall 5 = .ok (.aload_n 0, 1) := by decide +kernel
theorem dX7_checkRecall_6 : decode cX7_checkRecall 6 = .ok (.getfield 57, 3) := by decide +kernel
theorem dX7_checkRecall_9 : decode cX7_checkRecall 9 = .ok (.getfield 276, 3) := by decide +kernel
theorem dX7_checkRecall_12 : decode cX7_checkRecall 12 = .ok (.if_icmp .lt 14, 3) := by decide +kernel
theorem dX7_checkRecall_15 : decode cX7_checkRecall 15 = .ok (.new 157, 3) := by decide +kernel
theorem dX7_checkRecall_18 : decode cX7_checkRecall 18 = .ok (.dup, 1) := by decide +kernel
theorem dX7_checkRecall_19 : decode cX7_checkRecall 19 = .ok (.ldc_w 314, 3) := by decide +kernel
theorem dX7_checkRecall_22 : decode cX7_checkRecall 22 = .ok (.invokespecial 161, 3) := by decide +kernel
theorem dX7_checkRecall_25 : decode cX7_checkRecall 25 = .ok (.athrow, 1) := by decide +kernel
theorem dX7_checkRecall_26 : decode cX7_checkRecall 26 = .ok (.return_, 1) := by decide +kernel
theorem dX7_contains_0 : decode cX7_contains 0 = .ok (.lload_n 0, 1) := by decide +kernel
theorem dX7_contains_1 : decode cX7_contains 1 = .ok (.iload_n 2, 1) := by decide +kernel
theorem dX7_contains_2 : decode cX7_contains 2 = .ok (.lushr, 1) := by decide +kernel
theorem dX7_contains_3 : decode cX7_contains 3 = .ok (.lconst 1, 1) := by decide +kernel
theorem dX7_contains_4 : decode cX7_contains 4 = .ok (.land, 1) := by decide +kernel
theorem dX7_contains_5 : decode cX7_contains 5 = .ok (.lconst 0, 1) := by decide +kernel
theorem dX7_contains_6 : decode cX7_contains 6 = .ok (.lcmp, 1) := by decide +kernel
theorem dX7_contains_7 : decode cX7_contains 7 = .ok (.ifCond .eq 7, 3) := by decide +kernel
theorem dX7_contains_10 : decode cX7_contains 10 = .ok (.iconst 1, 1) := by decide +kernel
theorem dX7_contains_11 : decode cX7_contains 11 = .ok (.goto 4, 3) := by decide +kernel
theorem dX7_contains_14 : decode cX7_contains 14 = .ok (.iconst 0, 1) := by decide +kernel
theorem dX7_contains_15 : decode cX7_contains 15 = .ok (.ireturn, 1) := by decide +kernel
theorem dX7_findCurrent_0 : decode cX7_findCurrent 0 = .ok (.aload_n 0, 1) := by decide +kernel
theorem dX7_findCurrent_1 : decode cX7_findCurrent 1 = .ok (.getfield 10, 3) := by decide +kernel
theorem dX7_findCurrent_4 : decode cX7_findCurrent 4 = .ok (.getfield 122, 3) := by decide +kernel
theorem dX7_findCurrent_7 : decode cX7_findCurrent 7 = .ok (.iload_n 1, 1) := by decide +kernel
theorem dX7_findCurrent_8 : decode cX7_findCurrent 8 = .ok (.iaload, 1) := by decide +kernel
theorem dX7_findCurrent_9 : decode cX7_findCurrent 9 = .ok (.iconst 1, 1) := by decide +kernel
theorem dX7_findCurrent_10 : decode cX7_findCurrent 10 = .ok (.isub, 1) := by decide +kernel
theorem dX7_findCurrent_11 : decode cX7_findCurrent 11 = .ok (.istore_n 3, 1) := by decide +kernel
theorem dX7_findCurrent_12 : decode cX7_findCurrent 12 = .ok (.iload_n 3, 1) := by decide +kernel
theorem dX7_findCurrent_13 : decode cX7_findCurrent 13 = .ok (.ifCond .lt 54, 3) := by decide +kernel
theorem dX7_findCurrent_16 : decode cX7_findCurrent 16 = .ok (.aload_n 0, 1) := by decide +kernel
theorem dX7_findCurrent_17 : decode cX7_findCurrent 17 = .ok (.getfield 10, 3) := by decide +kernel
theorem dX7_findCurrent_20 : decode cX7_findCurrent 20 = .ok (.getfield 162, 3) := by decide +kernel
theorem dX7_findCurrent_23 : decode cX7_findCurrent 23 = .ok (.iload_n 1, 1) := by decide +kernel
theorem dX7_findCurrent_24 : decode cX7_findCurrent 24 = .ok (.aaload, 1) := by decide +kernel
theorem dX7_findCurrent_25 : decode cX7_findCurrent 25 = .ok (.iload_n 3, 1) := by decide +kernel
theorem dX7_findCurrent_26 : decode cX7_findCurrent 26 = .ok (.iaload, 1) := by decide +kernel
theorem dX7_findCurrent_27 : decode cX7_findCurrent 27 = .ok (.istore 4, 2) := by decide +kernel
theorem dX7_findCurrent_29 : decode cX7_findCurrent 29 = .ok (.aload_n 0, 1) := by decide +kernel
theorem dX7_findCurrent_30 : decode cX7_findCurrent 30 = .ok (.getfield 29, 3) := by decide +kernel
theorem dX7_findCurrent_33 : decode cX7_findCurrent 33 = .ok (.getfield 227, 3) := by decide +kernel
theorem dX7_findCurrent_36 : decode cX7_findCurrent 36 = .ok (.iload 4, 2) := by decide +kernel
theorem dX7_findCurrent_38 : decode cX7_findCurrent 38 = .ok (.iaload, 1) := by decide +kernel
theorem dX7_findCurrent_39 : decode cX7_findCurrent 39 = .ok (.iload_n 2, 1) := by decide +kernel
theorem dX7_findCurrent_40 : decode cX7_findCurrent 40 = .ok (.if_icmp .ne 21, 3) := by decide +kernel
theorem dX7_findCurrent_43 : decode cX7_findCurrent 43 = .ok (.aload_n 0, 1) := by decide +kernel
theorem dX7_findCurrent_44 : decode cX7_findCurrent 44 = .ok (.getfield 10, 3) := by decide +kernel
theorem dX7_findCurrent_47 : decode cX7_findCurrent 47 = .ok (.getfield 137, 3) := by decide +kernel
theorem dX7_findCurrent_50 : decode cX7_findCurrent 50 = .ok (.iload 4, 2) := by decide +kernel
theorem dX7_findCurrent_52 : decode cX7_findCurrent 52 = .ok (.invokestatic 175, 3) := by decide +kernel
theorem dX7_findCurrent_55 : decode cX7_findCurrent 55 = .ok (.ifCond .eq 6, 3) := by decide +kernel
theorem dX7_findCurrent_58 : decode cX7_findCurrent 58 = .ok (.iload 4, 2) := by decide +kernel
theorem dX7_findCurrent_60 : decode cX7_findCurrent 60 = .ok (.ireturn, 1) := by decide +kernel
theorem dX7_findCurrent_61 : decode cX7_findCurrent 61 = .ok (.iinc 3 (-1), 3) := by decide +kernel
theorem dX7_findCurrent_64 : decode cX7_findCurrent 64 = .ok (.goto (-52), 3) := by decide +kernel
theorem dX7_findCurrent_67 : decode cX7_findCurrent 67 = .ok (.iconst (-1), 1) := by decide +kernel
theorem dX7_findCurrent_68 : decode cX7_findCurrent 68 = .ok (.ireturn, 1) := by decide +kernel
theorem dX7_putCurrent_0 : decode cX7_putCurrent 0 = .ok (.aload_n 0, 1) := by decide +kernel
theorem dX7_putCurrent_1 : decode cX7_putCurrent 1 = .ok (.iload_n 1, 1) := by decide +kernel
theorem dX7_putCurrent_2 : decode cX7_putCurrent 2 = .ok (.iload_n 3, 1) := by decide +kernel
theorem dX7_putCurrent_3 : decode cX7_putCurrent 3 = .ok (.invokevirtual 182, 3) := by decide +kernel
theorem dX7_putCurrent_6 : decode cX7_putCurrent 6 = .ok (.istore 4, 2) := by decide +kernel
theorem dX7_putCurrent_8 : decode cX7_putCurrent 8 = .ok (.iload 4, 2) := by decide +kernel
theorem dX7_putCurrent_10 : decode cX7_putCurrent 10 = .ok (.iconst (-1), 1) := by decide +kernel
theorem dX7_putCurrent_11 : decode cX7_putCurrent 11 = .ok (.if_icmp .ne 14, 3) := by decide +kernel
theorem dX7_putCurrent_14 : decode cX7_putCurrent 14 = .ok (.new 90, 3) := by decide +kernel
theorem dX7_putCurrent_17 : decode cX7_putCurrent 17 = .ok (.dup, 1) := by decide +kernel
theorem dX7_putCurrent_18 : decode cX7_putCurrent 18 = .ok (.ldc_w 316, 3) := by decide +kernel
theorem dX7_putCurrent_21 : decode cX7_putCurrent 21 = .ok (.invokespecial 94, 3) := by decide +kernel
theorem dX7_putCurrent_24 : decode cX7_putCurrent 24 = .ok (.athrow, 1) := by decide +kernel
theorem dX7_putCurrent_25 : decode cX7_putCurrent 25 = .ok (.aload_n 0, 1) := by decide +kernel
theorem dX7_putCurrent_26 : decode cX7_putCurrent 26 = .ok (.getfield 43, 3) := by decide +kernel
theorem dX7_putCurrent_29 : decode cX7_putCurrent 29 = .ok (.iload_n 1, 1) := by decide +kernel
theorem dX7_putCurrent_30 : decode cX7_putCurrent 30 = .ok (.iload_n 2, 1) := by decide +kernel
theorem dX7_putCurrent_31 : decode cX7_putCurrent 31 = .ok (.iload 4, 2) := by decide +kernel
theorem dX7_putCurrent_33 : decode cX7_putCurrent 33 = .ok (.invokevirtual 230, 3) := by decide +kernel
theorem dX7_putCurrent_36 : decode cX7_putCurrent 36 = .ok (.iload 4, 2) := by decide +kernel
theorem dX7_putCurrent_38 : decode cX7_putCurrent 38 = .ok (.ireturn, 1) := by decide +kernel
theorem dX7_passHour_0 : decode cX7_passHour 0 = .ok (.iconst 0, 1) := by decide +kernel
theorem dX7_passHour_1 : decode cX7_passHour 1 = .ok (.istore_n 1, 1) := by decide +kernel
theorem dX7_passHour_2 : decode cX7_passHour 2 = .ok (.iconst 0, 1) := by decide +kernel
theorem dX7_passHour_3 : decode cX7_passHour 3 = .ok (.istore_n 2, 1) := by decide +kernel
theorem dX7_passHour_4 : decode cX7_passHour 4 = .ok (.iload_n 2, 1) := by decide +kernel
theorem dX7_passHour_5 : decode cX7_passHour 5 = .ok (.iconst 5, 1) := by decide +kernel
theorem dX7_passHour_6 : decode cX7_passHour 6 = .ok (.if_icmp .ge 80, 3) := by decide +kernel
theorem dX7_passHour_9 : decode cX7_passHour 9 = .ok (.aload_n 0, 1) := by decide +kernel
theorem dX7_passHour_10 : decode cX7_passHour 10 = .ok (.getfield 43, 3) := by decide +kernel
theorem dX7_passHour_13 : decode cX7_passHour 13 = .ok (.iload_n 2, 1) := by decide +kernel
theorem dX7_passHour_14 : decode cX7_passHour 14 = .ok (.aload_n 0, 1) := by decide +kernel
theorem dX7_passHour_15 : decode cX7_passHour 15 = .ok (.getfield 43, 3) := by decide +kernel
theorem dX7_passHour_18 : decode cX7_passHour 18 = .ok (.getfield 233, 3) := by decide +kernel
theorem dX7_passHour_21 : decode cX7_passHour 21 = .ok (.invokevirtual 215, 3) := by decide +kernel
theorem dX7_passHour_24 : decode cX7_passHour 24 = .ok (.istore_n 3, 1) := by decide +kernel
theorem dX7_passHour_25 : decode cX7_passHour 25 = .ok (.iload_n 3, 1) := by decide +kernel
theorem dX7_passHour_26 : decode cX7_passHour 26 = .ok (.iconst (-1), 1) := by decide +kernel
theorem dX7_passHour_27 : decode cX7_passHour 27 = .ok (.if_icmp .eq 53, 3) := by decide +kernel
theorem dX7_passHour_30 : decode cX7_passHour 30 = .ok (.aload_n 0, 1) := by decide +kernel
theorem dX7_passHour_31 : decode cX7_passHour 31 = .ok (.iload_n 2, 1) := by decide +kernel
theorem dX7_passHour_32 : decode cX7_passHour 32 = .ok (.iload_n 3, 1) := by decide +kernel
theorem dX7_passHour_33 : decode cX7_passHour 33 = .ok (.invokevirtual 318, 3) := by decide +kernel
theorem dX7_passHour_36 : decode cX7_passHour 36 = .ok (.ifCond .eq 15, 3) := by decide +kernel
theorem dX7_passHour_39 : decode cX7_passHour 39 = .ok (.aload_n 0, 1) := by decide +kernel
theorem dX7_passHour_40 : decode cX7_passHour 40 = .ok (.iload_n 2, 1) := by decide +kernel
theorem dX7_passHour_41 : decode cX7_passHour 41 = .ok (.iload_n 3, 1) := by decide +kernel
theorem dX7_passHour_42 : decode cX7_passHour 42 = .ok (.invokevirtual 321, 3) := by decide +kernel
theorem dX7_passHour_45 : decode cX7_passHour 45 = .ok (.iinc 1 1, 3) := by decide +kernel
theorem dX7_passHour_48 : decode cX7_passHour 48 = .ok (.goto 16, 3) := by decide +kernel
theorem dX7_passHour_51 : decode cX7_passHour 51 = .ok (.aload_n 0, 1) := by decide +kernel
theorem dX7_passHour_52 : decode cX7_passHour 52 = .ok (.getfield 43, 3) := by decide +kernel
theorem dX7_passHour_55 : decode cX7_passHour 55 = .ok (.getfield 244, 3) := by decide +kernel
theorem dX7_passHour_58 : decode cX7_passHour 58 = .ok (.iload_n 2, 1) := by decide +kernel
theorem dX7_passHour_59 : decode cX7_passHour 59 = .ok (.dup2, 1) := by decide +kernel
theorem dX7_passHour_60 : decode cX7_passHour 60 = .ok (.iaload, 1) := by decide +kernel
theorem dX7_passHour_61 : decode cX7_passHour 61 = .ok (.iconst 1, 1) := by decide +kernel
theorem dX7_passHour_62 : decode cX7_passHour 62 = .ok (.iadd, 1) := by decide +kernel
theorem dX7_passHour_63 : decode cX7_passHour 63 = .ok (.iastore, 1) := by decide +kernel
theorem dX7_passHour_64 : decode cX7_passHour 64 = .ok (.aload_n 0, 1) := by decide +kernel
theorem dX7_passHour_65 : decode cX7_passHour 65 = .ok (.getfield 43, 3) := by decide +kernel
theorem dX7_passHour_68 : decode cX7_passHour 68 = .ok (.iload_n 2, 1) := by decide +kernel
theorem dX7_passHour_69 : decode cX7_passHour 69 = .ok (.aload_n 0, 1) := by decide +kernel
theorem dX7_passHour_70 : decode cX7_passHour 70 = .ok (.getfield 43, 3) := by decide +kernel
theorem dX7_passHour_73 : decode cX7_passHour 73 = .ok (.getfield 233, 3) := by decide +kernel
theorem dX7_passHour_76 : decode cX7_passHour 76 = .ok (.iconst (-1), 1) := by decide +kernel
theorem dX7_passHour_77 : decode cX7_passHour 77 = .ok (.invokevirtual 230, 3) := by decide +kernel
theorem dX7_passHour_80 : decode cX7_passHour 80 = .ok (.iinc 2 1, 3) := by decide +kernel
theorem dX7_passHour_83 : decode cX7_passHour 83 = .ok (.goto (-79), 3) := by decide +kernel
theorem dX7_passHour_86 : decode cX7_passHour 86 = .ok (.aload_n 0, 1) := by decide +kernel
theorem dX7_passHour_87 : decode cX7_passHour 87 = .ok (.getfield 43, 3) := by decide +kernel
theorem dX7_passHour_90 : decode cX7_passHour 90 = .ok (.dup, 1) := by decide +kernel
theorem dX7_passHour_91 : decode cX7_passHour 91 = .ok (.getfield 233, 3) := by decide +kernel
theorem dX7_passHour_94 : decode cX7_passHour 94 = .ok (.iconst 1, 1) := by decide +kernel
theorem dX7_passHour_95 : decode cX7_passHour 95 = .ok (.iadd, 1) := by decide +kernel
theorem dX7_passHour_96 : decode cX7_passHour 96 = .ok (.putfield 233, 3) := by decide +kernel
theorem dX7_passHour_99 : decode cX7_passHour 99 = .ok (.iload_n 1, 1) := by decide +kernel
theorem dX7_passHour_100 : decode cX7_passHour 100 = .ok (.ireturn, 1) := by decide +kernel
theorem dX7_canBake_0 : decode cX7_canBake 0 = .ok (.aload_n 0, 1) := by decide +kernel
theorem dX7_canBake_1 : decode cX7_canBake 1 = .ok (.getfield 10, 3) := by decide +kernel
theorem dX7_canBake_4 : decode cX7_canBake 4 = .ok (.getfield 137, 3) := by decide +kernel
theorem dX7_canBake_7 : decode cX7_canBake 7 = .ok (.iload_n 2, 1) := by decide +kernel
theorem dX7_canBake_8 : decode cX7_canBake 8 = .ok (.invokestatic 175, 3) := by decide +kernel
theorem dX7_canBake_11 : decode cX7_canBake 11 = .ok (.ifCond .eq 40, 3) := by decide +kernel
theorem dX7_canBake_14 : decode cX7_canBake 14 = .ok (.aload_n 0, 1) := by decide +kernel
theorem dX7_canBake_15 : decode cX7_canBake 15 = .ok (.getfield 36, 3) := by decide +kernel
theorem dX7_canBake_18 : decode cX7_canBake 18 = .ok (.getfield 198, 3) := by decide +kernel
theorem dX7_canBake_21 : decode cX7_canBake 21 = .ok (.iload_n 1, 1) := by decide +kernel
theorem dX7_canBake_22 : decode cX7_canBake 22 = .ok (.iaload, 1) := by decide +kernel
theorem dX7_canBake_23 : decode cX7_canBake 23 = .ok (.aload_n 0, 1) := by decide +kernel
theorem dX7_canBake_24 : decode cX7_canBake 24 = .ok (.getfield 29, 3) := by decide +kernel
theorem dX7_canBake_27 : decode cX7_canBake 27 = .ok (.getfield 324, 3) := by decide +kernel
theorem dX7_canBake_30 : decode cX7_canBake 30 = .ok (.iload_n 2, 1) := by decide +kernel
theorem dX7_canBake_31 : decode cX7_canBake 31 = .ok (.iaload, 1) := by decide +kernel
theorem dX7_canBake_32 : decode cX7_canBake 32 = .ok (.if_icmp .lt 19, 3) := by decide +kernel
theorem dX7_canBake_35 : decode cX7_canBake 35 = .ok (.aload_n 0, 1) := by decide +kernel
theorem dX7_canBake_36 : decode cX7_canBake 36 = .ok (.getfield 50, 3) := by decide +kernel
theorem dX7_canBake_39 : decode cX7_canBake 39 = .ok (.getfield 247, 3) := by decide +kernel
theorem dX7_canBake_42 : decode cX7_canBake 42 = .ok (.bipush 60, 2) := by decide +kernel
theorem dX7_canBake_44 : decode cX7_canBake 44 = .ok (.if_icmp .ge 7, 3) := by decide +kernel
theorem dX7_canBake_47 : decode cX7_canBake 47 = .ok (.iconst 1, 1) := by decide +kernel
theorem dX7_canBake_48 : decode cX7_canBake 48 = .ok (.goto 4, 3) := by decide +kernel
theorem dX7_canBake_51 : decode cX7_canBake 51 = .ok (.iconst 0, 1) := by decide +kernel
theorem dX7_canBake_52 : decode cX7_canBake 52 = .ok (.ireturn, 1) := by decide +kernel
theorem dX7_bake_0 : decode cX7_bake 0 = .ok (.aload_n 0, 1) := by decide +kernel
theorem dX7_bake_1 : decode cX7_bake 1 = .ok (.getfield 36, 3) := by decide +kernel
theorem dX7_bake_4 : decode cX7_bake 4 = .ok (.iload_n 1, 1) := by decide +kernel
theorem dX7_bake_5 : decode cX7_bake 5 = .ok (.aload_n 0, 1) := by decide +kernel
theorem dX7_bake_6 : decode cX7_bake 6 = .ok (.getfield 29, 3) := by decide +kernel
theorem dX7_bake_9 : decode cX7_bake 9 = .ok (.getfield 324, 3) := by decide +kernel
theorem dX7_bake_12 : decode cX7_bake 12 = .ok (.iload_n 2, 1) := by decide +kernel
theorem dX7_bake_13 : decode cX7_bake 13 = .ok (.iaload, 1) := by decide +kernel
theorem dX7_bake_14 : decode cX7_bake 14 = .ok (.invokevirtual 327, 3) := by decide +kernel
theorem dX7_bake_17 : decode cX7_bake 17 = .ok (.istore_n 3, 1) := by decide +kernel
theorem dX7_bake_18 : decode cX7_bake 18 = .ok (.aload_n 0, 1) := by decide +kernel
theorem dX7_bake_19 : decode cX7_bake 19 = .ok (.getfield 50, 3) := by decide +kernel
theorem dX7_bake_22 : decode cX7_bake 22 = .ok (.iload_n 2, 1) := by decide +kernel
theorem dX7_bake_23 : decode cX7_bake 23 = .ok (.iload_n 3, 1) := by decide +kernel
theorem dX7_bake_24 : decode cX7_bake 24 = .ok (.aload_n 0, 1) := by decide +kernel
theorem dX7_bake_25 : decode cX7_bake 25 = .ok (.getfield 29, 3) := by decide +kernel
theorem dX7_bake_28 : decode cX7_bake 28 = .ok (.getfield 330, 3) := by decide +kernel
theorem dX7_bake_31 : decode cX7_bake 31 = .ok (.iload_n 2, 1) := by decide +kernel
theorem dX7_bake_32 : decode cX7_bake 32 = .ok (.iaload, 1) := by decide +kernel
theorem dX7_bake_33 : decode cX7_bake 33 = .ok (.invokevirtual 333, 3) := by decide +kernel
theorem dX7_bake_36 : decode cX7_bake 36 = .ok (.return_, 1) := by decide +kernel
theorem dX7_barredUnder_0 : decode cX7_barredUnder 0 = .ok (.aload_n 1, 1) := by decide +kernel
theorem dX7_barredUnder_1 : decode cX7_barredUnder 1 = .ok (.getfield 137, 3) := by decide +kernel
theorem dX7_barredUnder_4 : decode cX7_barredUnder 4 = .ok (.aload_n 0, 1) := by decide +kernel
theorem dX7_barredUnder_5 : decode cX7_barredUnder 5 = .ok (.getfield 50, 3) := by decide +kernel
theorem dX7_barredUnder_8 : decode cX7_barredUnder 8 = .ok (.getfield 253, 3) := by decide +kernel
theorem dX7_barredUnder_11 : decode cX7_barredUnder 11 = .ok (.iload_n 2, 1) := by decide +kernel
theorem dX7_barredUnder_12 : decode cX7_barredUnder 12 = .ok (.iaload, 1) := by decide +kernel
theorem dX7_barredUnder_13 : decode cX7_barredUnder 13 = .ok (.invokestatic 175, 3) := by decide +kernel
theorem dX7_barredUnder_16 : decode cX7_barredUnder 16 = .ok (.ifCond .eq 7, 3) := by decide +kernel
theorem dX7_barredUnder_19 : decode cX7_barredUnder 19 = .ok (.iconst 0, 1) := by decide +kernel
theorem dX7_barredUnder_20 : decode cX7_barredUnder 20 = .ok (.goto 4, 3) := by decide +kernel
theorem dX7_barredUnder_23 : decode cX7_barredUnder 23 = .ok (.iconst 1, 1) := by decide +kernel
theorem dX7_barredUnder_24 : decode cX7_barredUnder 24 = .ok (.istore_n 3, 1) := by decide +kernel
theorem dX7_barredUnder_25 : decode cX7_barredUnder 25 = .ok (.aload_n 0, 1) := by decide +kernel
theorem dX7_barredUnder_26 : decode cX7_barredUnder 26 = .ok (.getfield 50, 3) := by decide +kernel
theorem dX7_barredUnder_29 : decode cX7_barredUnder 29 = .ok (.getfield 256, 3) := by decide +kernel
theorem dX7_barredUnder_32 : decode cX7_barredUnder 32 = .ok (.iload_n 2, 1) := by decide +kernel
theorem dX7_barredUnder_33 : decode cX7_barredUnder 33 = .ok (.iaload, 1) := by decide +kernel
theorem dX7_barredUnder_34 : decode cX7_barredUnder 34 = .ok (.aload_n 0, 1) := by decide +kernel
theorem dX7_barredUnder_35 : decode cX7_barredUnder 35 = .ok (.getfield 36, 3) := by decide +kernel
theorem dX7_barredUnder_38 : decode cX7_barredUnder 38 = .ok (.getfield 303, 3) := by decide +kernel
theorem dX7_barredUnder_41 : decode cX7_barredUnder 41 = .ok (.iand, 1) := by decide +kernel
theorem dX7_barredUnder_42 : decode cX7_barredUnder 42 = .ok (.ifCond .ne 7, 3) := by decide +kernel
theorem dX7_barredUnder_45 : decode cX7_barredUnder 45 = .ok (.iconst 0, 1) := by decide +kernel
theorem dX7_barredUnder_46 : decode cX7_barredUnder 46 = .ok (.goto 4, 3) := by decide +kernel
theorem dX7_barredUnder_49 : decode cX7_barredUnder 49 = .ok (.iconst 2, 1) := by decide +kernel
theorem dX7_barredUnder_50 : decode cX7_barredUnder 50 = .ok (.istore 4, 2) := by decide +kernel
theorem dX7_barredUnder_52 : decode cX7_barredUnder 52 = .ok (.iload_n 3, 1) := by decide +kernel
theorem dX7_barredUnder_53 : decode cX7_barredUnder 53 = .ok (.iload 4, 2) := by decide +kernel
theorem dX7_barredUnder_55 : decode cX7_barredUnder 55 = .ok (.iadd, 1) := by decide +kernel
theorem dX7_barredUnder_56 : decode cX7_barredUnder 56 = .ok (.ireturn, 1) := by decide +kernel
theorem dX7_callBackUnheld_0 : decode cX7_callBackUnheld 0 = .ok (.iconst 0, 1) := by decide +kernel
theorem dX7_callBackUnheld_1 : decode cX7_callBackUnheld 1 = .ok (.istore_n 3, 1) := by decide +kernel
theorem dX7_callBackUnheld_2 : decode cX7_callBackUnheld 2 = .ok (.iload_n 3, 1) := by decide +kernel
theorem dX7_callBackUnheld_3 : decode cX7_callBackUnheld 3 = .ok (.aload_n 0, 1) := by decide +kernel
theorem dX7_callBackUnheld_4 : decode cX7_callBackUnheld 4 = .ok (.getfield 10, 3) := by decide +kernel
theorem dX7_callBackUnheld_7 : decode cX7_callBackUnheld 7 = .ok (.getfield 125, 3) := by decide +kernel
theorem dX7_callBackUnheld_10 : decode cX7_callBackUnheld 10 = .ok (.if_icmp .ge 22, 3) := by decide +kernel
theorem dX7_callBackUnheld_13 : decode cX7_callBackUnheld 13 = .ok (.lload_n 1, 1) := by decide +kernel
theorem dX7_callBackUnheld_14 : decode cX7_callBackUnheld 14 = .ok (.iload_n 3, 1) := by decide +kernel
theorem dX7_callBackUnheld_15 : decode cX7_callBackUnheld 15 = .ok (.invokestatic 175, 3) := by decide +kernel
theorem dX7_callBackUnheld_18 : decode cX7_callBackUnheld 18 = .ok (.ifCond .eq 8, 3) := by decide +kernel
theorem dX7_callBackUnheld_21 : decode cX7_callBackUnheld 21 = .ok (.aload_n 0, 1) := by decide +kernel
theorem dX7_callBackUnheld_22 : decode cX7_callBackUnheld 22 = .ok (.iload_n 3, 1) := by decide +kernel
theorem dX7_callBackUnheld_23 : decode cX7_callBackUnheld 23 = .ok (.invokevirtual 334, 3) := by decide +kernel
theorem dX7_callBackUnheld_26 : decode cX7_callBackUnheld 26 = .ok (.iinc 3 1, 3) := by decide +kernel
theorem dX7_callBackUnheld_29 : decode cX7_callBackUnheld 29 = .ok (.goto (-27), 3) := by decide +kernel
theorem dX7_callBackUnheld_32 : decode cX7_callBackUnheld 32 = .ok (.return_, 1) := by decide +kernel
theorem dX7_callBackVersion_0 : decode cX7_callBackVersion 0 = .ok (.iconst 0, 1) := by decide +kernel
theorem dX7_callBackVersion_1 : decode cX7_callBackVersion 1 = .ok (.istore_n 2, 1) := by decide +kernel
theorem dX7_callBackVersion_2 : decode cX7_callBackVersion 2 = .ok (.iload_n 2, 1) := by decide +kernel
theorem dX7_callBackVersion_3 : decode cX7_callBackVersion 3 = .ok (.aload_n 0, 1) := by decide +kernel
theorem dX7_callBackVersion_4 : decode cX7_callBackVersion 4 = .ok (.getfield 50, 3) := by decide +kernel
theorem dX7_callBackVersion_7 : decode cX7_callBackVersion 7 = .ok (.getfield 247, 3) := by decide +kernel
theorem dX7_callBackVersion_10 : decode cX7_callBackVersion 10 = .ok (.if_icmp .ge 29, 3) := by decide +kernel
theorem dX7_callBackVersion_13 : decode cX7_callBackVersion 13 = .ok (.aload_n 0, 1) := by decide +kernel
theorem dX7_callBackVersion_14 : decode cX7_callBackVersion 14 = .ok (.getfield 50, 3) := by decide +kernel
theorem dX7_callBackVersion_17 : decode cX7_callBackVersion 17 = .ok (.getfield 253, 3) := by decide +kernel
theorem dX7_callBackVersion_20 : decode cX7_callBackVersion 20 = .ok (.iload_n 2, 1) := by decide +kernel
theorem dX7_callBackVersion_21 : decode cX7_callBackVersion 21 = .ok (.iaload, 1) := by decide +kernel
theorem dX7_callBackVersion_22 : decode cX7_callBackVersion 22 = .ok (.iload_n 1, 1) := by decide +kernel
theorem dX7_callBackVersion_23 : decode cX7_callBackVersion 23 = .ok (.if_icmp .ne 10, 3) := by decide +kernel
theorem dX7_callBackVersion_26 : decode cX7_callBackVersion 26 = .ok (.aload_n 0, 1) := by decide +kernel
theorem dX7_callBackVersion_27 : decode cX7_callBackVersion 27 = .ok (.iload_n 2, 1) := by decide +kernel
theorem dX7_callBackVersion_28 : decode cX7_callBackVersion 28 = .ok (.iconst 1, 1) := by decide +kernel
theorem dX7_callBackVersion_29 : decode cX7_callBackVersion 29 = .ok (.invokevirtual 337, 3) := by decide +kernel
theorem dX7_callBackVersion_32 : decode cX7_callBackVersion 32 = .ok (.pop, 1) := by decide +kernel
theorem dX7_callBackVersion_33 : decode cX7_callBackVersion 33 = .ok (.iinc 2 1, 3) := by decide +kernel
theorem dX7_callBackVersion_36 : decode cX7_callBackVersion 36 = .ok (.goto (-34), 3) := by decide +kernel
theorem dX7_callBackVersion_39 : decode cX7_callBackVersion 39 = .ok (.return_, 1) := by decide +kernel
theorem dX7_callBackLot_0 : decode cX7_callBackLot 0 = .ok (.iconst 0, 1) := by decide +kernel
theorem dX7_callBackLot_1 : decode cX7_callBackLot 1 = .ok (.istore_n 2, 1) := by decide +kernel
theorem dX7_callBackLot_2 : decode cX7_callBackLot 2 = .ok (.iconst 0, 1) := by decide +kernel
theorem dX7_callBackLot_3 : decode cX7_callBackLot 3 = .ok (.istore_n 3, 1) := by decide +kernel
theorem dX7_callBackLot_4 : decode cX7_callBackLot 4 = .ok (.iload_n 3, 1) := by decide +kernel
theorem dX7_callBackLot_5 : decode cX7_callBackLot 5 = .ok (.aload_n 0, 1) := by decide +kernel
theorem dX7_callBackLot_6 : decode cX7_callBackLot 6 = .ok (.getfield 50, 3) := by decide +kernel
theorem dX7_callBackLot_9 : decode cX7_callBackLot 9 = .ok (.getfield 247, 3) := by decide +kernel
theorem dX7_callBackLot_12 : decode cX7_callBackLot 12 = .ok (.if_icmp .ge 35, 3) := by decide +kernel
theorem dX7_callBackLot_15 : decode cX7_callBackLot 15 = .ok (.aload_n 0, 1) := by decide +kernel
theorem dX7_callBackLot_16 : decode cX7_callBackLot 16 = .ok (.getfield 50, 3) := by decide +kernel
theorem dX7_callBackLot_19 : decode cX7_callBackLot 19 = .ok (.getfield 256, 3) := by decide +kernel
theorem dX7_callBackLot_22 : decode cX7_callBackLot 22 = .ok (.iload_n 3, 1) := by decide +kernel
theorem dX7_callBackLot_23 : decode cX7_callBackLot 23 = .ok (.iaload, 1) := by decide +kernel
theorem dX7_callBackLot_24 : decode cX7_callBackLot 24 = .ok (.i2l, 1) := by decide +kernel
theorem dX7_callBackLot_25 : decode cX7_callBackLot 25 = .ok (.iload_n 1, 1) := by decide +kernel
theorem dX7_callBackLot_26 : decode cX7_callBackLot 26 = .ok (.invokestatic 175, 3) := by decide +kernel
theorem dX7_callBackLot_29 : decode cX7_callBackLot 29 = .ok (.ifCond .eq 12, 3) := by decide +kernel
theorem dX7_callBackLot_32 : decode cX7_callBackLot 32 = .ok (.iload_n 2, 1) := by decide +kernel
theorem dX7_callBackLot_33 : decode cX7_callBackLot 33 = .ok (.aload_n 0, 1) := by decide +kernel
theorem dX7_callBackLot_34 : decode cX7_callBackLot 34 = .ok (.iload_n 3, 1) := by decide +kernel
theorem dX7_callBackLot_35 : decode cX7_callBackLot 35 = .ok (.iconst 2, 1) := by decide +kernel
theorem dX7_callBackLot_36 : decode cX7_callBackLot 36 = .ok (.invokevirtual 337, 3) := by decide +kernel
theorem dX7_callBackLot_39 : decode cX7_callBackLot 39 = .ok (.iadd, 1) := by decide +kernel
theorem dX7_callBackLot_40 : decode cX7_callBackLot 40 = .ok (.istore_n 2, 1) := by decide +kernel
theorem dX7_callBackLot_41 : decode cX7_callBackLot 41 = .ok (.iinc 3 1, 3) := by decide +kernel
theorem dX7_callBackLot_44 : decode cX7_callBackLot 44 = .ok (.goto (-40), 3) := by decide +kernel
theorem dX7_callBackLot_47 : decode cX7_callBackLot 47 = .ok (.iload_n 2, 1) := by decide +kernel
theorem dX7_callBackLot_48 : decode cX7_callBackLot 48 = .ok (.ireturn, 1) := by decide +kernel
theorem dX7_callBackBatch_0 : decode cX7_callBackBatch 0 = .ok (.aload_n 0, 1) := by decide +kernel
theorem dX7_callBackBatch_1 : decode cX7_callBackBatch 1 = .ok (.getfield 50, 3) := by decide +kernel
theorem dX7_callBackBatch_4 : decode cX7_callBackBatch 4 = .ok (.getfield 273, 3) := by decide +kernel
theorem dX7_callBackBatch_7 : decode cX7_callBackBatch 7 = .ok (.iload_n 1, 1) := by decide +kernel
theorem dX7_callBackBatch_8 : decode cX7_callBackBatch 8 = .ok (.iaload, 1) := by decide +kernel
theorem dX7_callBackBatch_9 : decode cX7_callBackBatch 9 = .ok (.istore_n 3, 1) := by decide +kernel
theorem dX7_callBackBatch_10 : decode cX7_callBackBatch 10 = .ok (.iload_n 3, 1) := by decide +kernel
theorem dX7_callBackBatch_11 : decode cX7_callBackBatch 11 = .ok (.ifCond .le 23, 3) := by decide +kernel
theorem dX7_callBackBatch_14 : decode cX7_callBackBatch 14 = .ok (.aload_n 0, 1) := by decide +kernel
theorem dX7_callBackBatch_15 : decode cX7_callBackBatch 15 = .ok (.getfield 50, 3) := by decide +kernel
theorem dX7_callBackBatch_18 : decode cX7_callBackBatch 18 = .ok (.getfield 273, 3) := by decide +kernel
theorem dX7_callBackBatch_21 : decode cX7_callBackBatch 21 = .ok (.iload_n 1, 1) := by decide +kernel
theorem dX7_callBackBatch_22 : decode cX7_callBackBatch 22 = .ok (.iconst 0, 1) := by decide +kernel
theorem dX7_callBackBatch_23 : decode cX7_callBackBatch 23 = .ok (.iastore, 1) := by decide +kernel
theorem dX7_callBackBatch_24 : decode cX7_callBackBatch 24 = .ok (.aload_n 0, 1) := by decide +kernel
theorem dX7_callBackBatch_25 : decode cX7_callBackBatch 25 = .ok (.getfield 57, 3) := by decide +kernel
theorem dX7_callBackBatch_28 : decode cX7_callBackBatch 28 = .ok (.iload_n 1, 1) := by decide +kernel
theorem dX7_callBackBatch_29 : decode cX7_callBackBatch 29 = .ok (.iload_n 3, 1) := by decide +kernel
theorem dX7_callBackBatch_30 : decode cX7_callBackBatch 30 = .ok (.iload_n 2, 1) := by decide +kernel
theorem dX7_callBackBatch_31 : decode cX7_callBackBatch 31 = .ok (.invokevirtual 340, 3) := by decide +kernel
theorem dX7_callBackBatch_34 : decode cX7_callBackBatch 34 = .ok (.iload_n 3, 1) := by decide +kernel
theorem dX7_callBackBatch_35 : decode cX7_callBackBatch 35 = .ok (.ireturn, 1) := by decide +kernel
theorem dX7_repeatHistory_0 : decode cX7_repeatHistory 0 = .ok (.aload_n 0, 1) := by decide +kernel
theorem dX7_repeatHistory_1 : decode cX7_repeatHistory 1 = .ok (.getfield 16, 3) := by decide +kernel
theorem dX7_repeatHistory_4 : decode cX7_repeatHistory 4 = .ok (.invokevirtual 343, 3) := by decide +kernel
theorem dX7_repeatHistory_7 : decode cX7_repeatHistory 7 = .ok (.iconst 0, 1) := by decide +kernel
theorem dX7_repeatHistory_8 : decode cX7_repeatHistory 8 = .ok (.istore_n 1, 1) := by decide +kernel
theorem dX7_repeatHistory_9 : decode cX7_repeatHistory 9 = .ok (.iload_n 1, 1) := by decide +kernel
theorem dX7_repeatHistory_10 : decode cX7_repeatHistory 10 = .ok (.aload_n 0, 1) := by decide +kernel
theorem dX7_repeatHistory_11 : decode cX7_repeatHistory 11 = .ok (.getfield 22, 3) := by decide +kernel
theorem dX7_repeatHistory_14 : decode cX7_repeatHistory 14 = .ok (.getfield 346, 3) := by decide +kernel
theorem dX7_repeatHistory_17 : decode cX7_repeatHistory 17 = .ok (.if_icmp .ge 40, 3) := by decide +kernel
theorem dX7_repeatHistory_20 : decode cX7_repeatHistory 20 = .ok (.aload_n 0, 1) := by decide +kernel
theorem dX7_repeatHistory_21 : decode cX7_repeatHistory 21 = .ok (.aload_n 0, 1) := by decide +kernel
theorem dX7_repeatHistory_22 : decode cX7_repeatHistory 22 = .ok (.getfield 22, 3) := by decide +kernel
theorem dX7_repeatHistory_25 : decode cX7_repeatHistory 25 = .ok (.getfield 347, 3) := by decide +kernel
theorem dX7_repeatHistory_28 : decode cX7_repeatHistory 28 = .ok (.iload_n 1, 1) := by decide +kernel
theorem dX7_repeatHistory_29 : decode cX7_repeatHistory 29 = .ok (.iaload, 1) := by decide +kernel
theorem dX7_repeatHistory_30 : decode cX7_repeatHistory 30 = .ok (.aload_n 0, 1) := by decide +kernel
theorem dX7_repeatHistory_31 : decode cX7_repeatHistory 31 = .ok (.getfield 22, 3) := by decide +kernel
theorem dX7_repeatHistory_34 : decode cX7_repeatHistory 34 = .ok (.getfield 350, 3) := by decide +kernel
theorem dX7_repeatHistory_37 : decode cX7_repeatHistory 37 = .ok (.iload_n 1, 1) := by decide +kernel
theorem dX7_repeatHistory_38 : decode cX7_repeatHistory 38 = .ok (.iaload, 1) := by decide +kernel
theorem dX7_repeatHistory_39 : decode cX7_repeatHistory 39 = .ok (.aload_n 0, 1) := by decide +kernel
theorem dX7_repeatHistory_40 : decode cX7_repeatHistory 40 = .ok (.getfield 22, 3) := by decide +kernel
theorem dX7_repeatHistory_43 : decode cX7_repeatHistory 43 = .ok (.getfield 353, 3) := by decide +kernel
theorem dX7_repeatHistory_46 : decode cX7_repeatHistory 46 = .ok (.iload_n 1, 1) := by decide +kernel
theorem dX7_repeatHistory_47 : decode cX7_repeatHistory 47 = .ok (.iaload, 1) := by decide +kernel
theorem dX7_repeatHistory_48 : decode cX7_repeatHistory 48 = .ok (.invokevirtual 356, 3) := by decide +kernel
theorem dX7_repeatHistory_51 : decode cX7_repeatHistory 51 = .ok (.iinc 1 1, 3) := by decide +kernel
theorem dX7_repeatHistory_54 : decode cX7_repeatHistory 54 = .ok (.goto (-45), 3) := by decide +kernel
theorem dX7_repeatHistory_57 : decode cX7_repeatHistory 57 = .ok (.return_, 1) := by decide +kernel
theorem dX7_repeatCall_0 : decode cX7_repeatCall 0 = .ok (.iload_n 1, 1) := by decide +kernel
theorem dX7_repeatCall_1 : decode cX7_repeatCall 1 = .ok (.tableswitch 95 0 4 #[35, 46, 57, 70, 82], 35) := by decide +kernel
theorem dX7_repeatCall_36 : decode cX7_repeatCall 36 = .ok (.aload_n 0, 1) := by decide +kernel
theorem dX7_repeatCall_37 : decode cX7_repeatCall 37 = .ok (.getfield 16, 3) := by decide +kernel
theorem dX7_repeatCall_40 : decode cX7_repeatCall 40 = .ok (.iload_n 2, 1) := by decide +kernel
theorem dX7_repeatCall_41 : decode cX7_repeatCall 41 = .ok (.putfield 68, 3) := by decide +kernel
theorem dX7_repeatCall_44 : decode cX7_repeatCall 44 = .ok (.goto 52, 3) := by decide +kernel
theorem dX7_repeatCall_47 : decode cX7_repeatCall 47 = .ok (.aload_n 0, 1) := by decide +kernel
theorem dX7_repeatCall_48 : decode cX7_repeatCall 48 = .ok (.getfield 16, 3) := by decide +kernel
theorem dX7_repeatCall_51 : decode cX7_repeatCall 51 = .ok (.iload_n 2, 1) := by decide +kernel
theorem dX7_repeatCall_52 : decode cX7_repeatCall 52 = .ok (.invokevirtual 95, 3) := by decide +kernel
theorem dX7_repeatCall_55 : decode cX7_repeatCall 55 = .ok (.goto 41, 3) := by decide +kernel
theorem dX7_repeatCall_58 : decode cX7_repeatCall 58 = .ok (.aload_n 0, 1) := by decide +kernel
theorem dX7_repeatCall_59 : decode cX7_repeatCall 59 = .ok (.getfield 16, 3) := by decide +kernel
theorem dX7_repeatCall_62 : decode cX7_repeatCall 62 = .ok (.iload_n 2, 1) := by decide +kernel
theorem dX7_repeatCall_63 : decode cX7_repeatCall 63 = .ok (.iload_n 3, 1) := by decide +kernel
theorem dX7_repeatCall_64 : decode cX7_repeatCall 64 = .ok (.invokevirtual 110, 3) := by decide +kernel
theorem dX7_repeatCall_67 : decode cX7_repeatCall 67 = .ok (.pop, 1) := by decide +kernel
theorem dX7_repeatCall_68 : decode cX7_repeatCall 68 = .ok (.goto 28, 3) := by decide +kernel
theorem dX7_repeatCall_71 : decode cX7_repeatCall 71 = .ok (.aload_n 0, 1) := by decide +kernel
theorem dX7_repeatCall_72 : decode cX7_repeatCall 72 = .ok (.getfield 16, 3) := by decide +kernel
theorem dX7_repeatCall_75 : decode cX7_repeatCall 75 = .ok (.iload_n 2, 1) := by decide +kernel
theorem dX7_repeatCall_76 : decode cX7_repeatCall 76 = .ok (.invokevirtual 130, 3) := by decide +kernel
theorem dX7_repeatCall_79 : decode cX7_repeatCall 79 = .ok (.pop, 1) := by decide +kernel
theorem dX7_repeatCall_80 : decode cX7_repeatCall 80 = .ok (.goto 16, 3) := by decide +kernel
theorem dX7_repeatCall_83 : decode cX7_repeatCall 83 = .ok (.aload_n 0, 1) := by decide +kernel
theorem dX7_repeatCall_84 : decode cX7_repeatCall 84 = .ok (.getfield 16, 3) := by decide +kernel
theorem dX7_repeatCall_87 : decode cX7_repeatCall 87 = .ok (.iload_n 2, 1) := by decide +kernel
theorem dX7_repeatCall_88 : decode cX7_repeatCall 88 = .ok (.iload_n 3, 1) := by decide +kernel
theorem dX7_repeatCall_89 : decode cX7_repeatCall 89 = .ok (.invokevirtual 141, 3) := by decide +kernel
theorem dX7_repeatCall_92 : decode cX7_repeatCall 92 = .ok (.pop, 1) := by decide +kernel
theorem dX7_repeatCall_93 : decode cX7_repeatCall 93 = .ok (.goto 3, 3) := by decide +kernel
theorem dX7_repeatCall_96 : decode cX7_repeatCall 96 = .ok (.return_, 1) := by decide +kernel
end
section
theorem dX8_init_0 : decode cX8_init 0 = .ok (.aload_n 0, 1) := by decide +kernel
theorem dX8_init_1 : decode cX8_init 1 = .ok (.invokespecial 1, 3) := by decide +kernel
theorem dX8_init_4 : decode cX8_init 4 = .ok (.aload_n 0, 1) := by decide +kernel
theorem dX8_init_5 : decode cX8_init 5 = .ok (.iconst 5, 1) := by decide +kernel
theorem dX8_init_6 : decode cX8_init 6 = .ok (.newarray .int, 2) := by decide +kernel
theorem dX8_init_8 : decode cX8_init 8 = .ok (.putfield 7, 3) := by decide +kernel
theorem dX8_init_11 : decode cX8_init 11 = .ok (.aload_n 0, 1) := by decide +kernel
theorem dX8_init_12 : decode cX8_init 12 = .ok (.iconst 5, 1) := by decide +kernel
theorem dX8_init_13 : decode cX8_init 13 = .ok (.newarray .int, 2) := by decide +kernel
theorem dX8_init_15 : decode cX8_init 15 = .ok (.putfield 13, 3) := by decide +kernel
theorem dX8_init_18 : decode cX8_init 18 = .ok (.aload_n 0, 1) := by decide +kernel
theorem dX8_init_19 : decode cX8_init 19 = .ok (.iconst 5, 1) := by decide +kernel
theorem dX8_init_20 : decode cX8_init 20 = .ok (.newarray .int, 2) := by decide +kernel
theorem dX8_init_22 : decode cX8_init 22 = .ok (.putfield 16, 3) := by decide +kernel
theorem dX8_init_25 : decode cX8_init 25 = .ok (.aload_n 0, 1) := by decide +kernel
theorem dX8_init_26 : decode cX8_init 26 = .ok (.iconst 5, 1) := by decide +kernel
theorem dX8_init_27 : decode cX8_init 27 = .ok (.newarray .int, 2) := by decide +kernel
theorem dX8_init_29 : decode cX8_init 29 = .ok (.putfield 19, 3) := by decide +kernel
theorem dX8_init_32 : decode cX8_init 32 = .ok (.aload_n 0, 1) := by decide +kernel
theorem dX8_init_33 : decode cX8_init 33 = .ok (.bipush 100, 2) := by decide +kernel
theorem dX8_init_35 : decode cX8_init 35 = .ok (.newarray .int, 2) := by decide +kernel
theorem dX8_init_37 : decode cX8_init 37 = .ok (.putfield 22, 3) := by decide +kernel
theorem dX8_init_40 : decode cX8_init 40 = .ok (.aload_n 0, 1) := by decide +kernel
theorem dX8_init_41 : decode cX8_init 41 = .ok (.iconst 5, 1) := by decide +kernel
theorem dX8_init_42 : decode cX8_init 42 = .ok (.newarray .int, 2) := by decide +kernel
theorem dX8_init_44 : decode cX8_init 44 = .ok (.putfield 25, 3) := by decide +kernel
theorem dX8_init_47 : decode cX8_init 47 = .ok (.aload_n 0, 1) := by decide +kernel
theorem dX8_init_48 : decode cX8_init 48 = .ok (.bipush 60, 2) := by decide +kernel
theorem dX8_init_50 : decode cX8_init 50 = .ok (.newarray .int, 2) := by decide +kernel
theorem dX8_init_52 : decode cX8_init 52 = .ok (.putfield 28, 3) := by decide +kernel
theorem dX8_init_55 : decode cX8_init 55 = .ok (.aload_n 0, 1) := by decide +kernel
theorem dX8_init_56 : decode cX8_init 56 = .ok (.bipush 60, 2) := by decide +kernel
theorem dX8_init_58 : decode cX8_init 58 = .ok (.newarray .int, 2) := by decide +kernel
theorem dX8_init_60 : decode cX8_init 60 = .ok (.putfield 31, 3) := by decide +kernel
theorem dX8_init_63 : decode cX8_init 63 = .ok (.aload_n 0, 1) := by decide +kernel
theorem dX8_init_64 : decode cX8_init 64 = .ok (.bipush 60, 2) := by decide +kernel
theorem dX8_init_66 : decode cX8_init 66 = .ok (.newarray .int, 2) := by decide +kernel
theorem dX8_init_68 : decode cX8_init 68 = .ok (.putfield 34, 3) := by decide +kernel
theorem dX8_init_71 : decode cX8_init 71 = .ok (.aload_n 0, 1) := by decide +kernel
theorem dX8_init_72 : decode cX8_init 72 = .ok (.bipush 60, 2) := by decide +kernel
theorem dX8_init_74 : decode cX8_init 74 = .ok (.newarray .int, 2) := by decide +kernel
theorem dX8_init_76 : decode cX8_init 76 = .ok (.putfield 37, 3) := by decide +kernel
theorem dX8_init_79 : decode cX8_init 79 = .ok (.aload_n 0, 1) := by decide +kernel
theorem dX8_init_80 : decode cX8_init 80 = .ok (.bipush 60, 2) := by decide +kernel
theorem dX8_init_82 : decode cX8_init 82 = .ok (.newarray .int, 2) := by decide +kernel
theorem dX8_init_84 : decode cX8_init 84 = .ok (.putfield 40, 3) := by decide +kernel
theorem dX8_init_87 : decode cX8_init 87 = .ok (.aload_n 0, 1) := by decide +kernel
theorem dX8_init_88 : decode cX8_init 88 = .ok (.bipush 60, 2) := by decide +kernel
theorem dX8_init_90 : decode cX8_init 90 = .ok (.newarray .int, 2) := by decide +kernel
theorem dX8_init_92 : decode cX8_init 92 = .ok (.putfield 43, 3) := by decide +kernel
theorem dX8_init_95 : decode cX8_init 95 = .ok (.aload_n 0, 1) := by decide +kernel
theorem dX8_init_96 : decode cX8_init 96 = .ok (.sipush 5255, 3) := by decide +kernel
theorem dX8_init_99 : decode cX8_init 99 = .ok (.newarray .int, 2) := by decide +kernel
theorem dX8_init_101 : decode cX8_init 101 = .ok (.putfield 46, 3) := by decide +kernel
theorem dX8_init_104 : decode cX8_init 104 = .ok (.aload_n 0, 1) := by decide +kernel
theorem dX8_init_105 : decode cX8_init 105 = .ok (.bipush 16, 2) := by decide +kernel
theorem dX8_init_107 : decode cX8_init 107 = .ok (.newarray .int, 2) := by decide +kernel
theorem dX8_init_109 : decode cX8_init 109 = .ok (.putfield 49, 3) := by decide +kernel
theorem dX8_init_112 : decode cX8_init 112 = .ok (.aload_n 0, 1) := by decide +kernel
theorem dX8_init_113 : decode cX8_init 113 = .ok (.sipush 1000, 3) := by decide +kernel
theorem dX8_init_116 : decode cX8_init 116 = .ok (.newarray .int, 2) := by decide +kernel
theorem dX8_init_118 : decode cX8_init 118 = .ok (.putfield 52, 3) := by decide +kernel
theorem dX8_init_121 : decode cX8_init 121 = .ok (.aload_n 0, 1) := by decide +kernel
theorem dX8_init_122 : decode cX8_init 122 = .ok (.iconst 5, 1) := by decide +kernel
theorem dX8_init_123 : decode cX8_init 123 = .ok (.newarray .int, 2) := by decide +kernel
theorem dX8_init_125 : decode cX8_init 125 = .ok (.putfield 55, 3) := by decide +kernel
theorem dX8_init_128 : decode cX8_init 128 = .ok (.aload_n 0, 1) := by decide +kernel
theorem dX8_init_129 : decode cX8_init 129 = .ok (.iconst 5, 1) := by decide +kernel
theorem dX8_init_130 : decode cX8_init 130 = .ok (.newarray .int, 2) := by decide +kernel
theorem dX8_init_132 : decode cX8_init 132 = .ok (.putfield 58, 3) := by decide +kernel
theorem dX8_init_135 : decode cX8_init 135 = .ok (.aload_n 0, 1) := by decide +kernel
theorem dX8_init_136 : decode cX8_init 136 = .ok (.bipush 60, 2) := by decide +kernel
theorem dX8_init_138 : decode cX8_init 138 = .ok (.newarray .int, 2) := by decide +kernel
theorem dX8_init_140 : decode cX8_init 140 = .ok (.putfield 61, 3) := by decide +kernel
theorem dX8_init_143 : decode cX8_init 143 = .ok (.aload_n 0, 1) := by decide +kernel
theorem dX8_init_144 : decode cX8_init 144 = .ok (.bipush 60, 2) := by decide +kernel
theorem dX8_init_146 : decode cX8_init 146 = .ok (.newarray .int, 2) := by decide +kernel
theorem dX8_init_148 : decode cX8_init 148 = .ok (.putfield 64, 3) := by decide +kernel
theorem dX8_init_151 : decode cX8_init 151 = .ok (.aload_n 0, 1) := by decide +kernel
theorem dX8_init_152 : decode cX8_init 152 = .ok (.bipush 60, 2) := by decide +kernel
theorem dX8_init_154 : decode cX8_init 154 = .ok (.newarray .int, 2) := by decide +kernel
theorem dX8_init_156 : decode cX8_init 156 = .ok (.putfield 67, 3) := by decide +kernel
theorem dX8_init_159 : decode cX8_init 159 = .ok (.aload_n 0, 1) := by decide +kernel
theorem dX8_init_160 : decode cX8_init 160 = .ok (.bipush 60, 2) := by decide +kernel
theorem dX8_init_162 : decode cX8_init 162 = .ok (.newarray .int, 2) := by decide +kernel
theorem dX8_init_164 : decode cX8_init 164 = .ok (.putfield 70, 3) := by decide +kernel
theorem dX8_init_167 : decode cX8_init 167 = .ok (.aload_n 0, 1) := by decide +kernel
theorem dX8_init_168 : decode cX8_init 168 = .ok (.sipush 2400, 3) := by decide +kernel
theorem dX8_init_171 : decode cX8_init 171 = .ok (.newarray .int, 2) := by decide +kernel
theorem dX8_init_173 : decode cX8_init 173 = .ok (.putfield 73, 3) := by decide +kernel
theorem dX8_init_176 : decode cX8_init 176 = .ok (.aload_n 0, 1) := by decide +kernel
theorem dX8_init_177 : decode cX8_init 177 = .ok (.sipush 2400, 3) := by decide +kernel
theorem dX8_init_180 : decode cX8_init 180 = .ok (.newarray .int, 2) := by decide +kernel
theorem dX8_init_182 : decode cX8_init 182 = .ok (.putfield 76, 3) := by decide +kernel
theorem dX8_init_185 : decode cX8_init 185 = .ok (.aload_n 0, 1) := by decide +kernel
theorem dX8_init_186 : decode cX8_init 186 = .ok (.sipush 2400, 3) := by decide +kernel
theorem dX8_init_189 : decode cX8_init 189 = .ok (.newarray .int, 2) := by decide +kernel
theorem dX8_init_191 : decode cX8_init 191 = .ok (.putfield 79, 3) := by decide +kernel
theorem dX8_init_194 : decode cX8_init 194 = .ok (.return_, 1) := by decide +kernel
theorem dX8_thrown_0 : decode cX8_thrown 0 = .ok (.aload_n 0, 1) := by decide +kernel
theorem dX8_thrown_1 : decode cX8_thrown 1 = .ok (.getfield 82, 3) := by decide +kernel
theorem dX8_thrown_4 : decode cX8_thrown 4 = .ok (.ireturn, 1) := by decide +kernel
theorem dX8_fails_0 : decode cX8_fails 0 = .ok (.aload_n 0, 1) := by decide +kernel
theorem dX8_fails_1 : decode cX8_fails 1 = .ok (.iload_n 1, 1) := by decide +kernel
theorem dX8_fails_2 : decode cX8_fails 2 = .ok (.putfield 82, 3) := by decide +kernel
theorem dX8_fails_5 : decode cX8_fails 5 = .ok (.iconst 0, 1) := by decide +kernel
theorem dX8_fails_6 : decode cX8_fails 6 = .ok (.ireturn, 1) := by decide +kernel
theorem dX8_in_0 : decode cX8_in 0 = .ok (.iload_n 0, 1) := by decide +kernel
theorem dX8_in_1 : decode cX8_in 1 = .ok (.iload_n 1, 1) := by decide +kernel
theorem dX8_in_2 : decode cX8_in 2 = .ok (.if_icmp .lt 12, 3) := by decide +kernel
theorem dX8_in_5 : decode cX8_in 5 = .ok (.iload_n 0, 1) := by decide +kernel
theorem dX8_in_6 : decode cX8_in 6 = .ok (.iload_n 2, 1) := by decide +kernel
theorem dX8_in_7 : decode cX8_in 7 = .ok (.if_icmp .gt 7, 3) := by decide +kernel
theorem dX8_in_10 : decode cX8_in 10 = .ok (.iconst 1, 1) := by decide +kernel
theorem dX8_in_11 : decode cX8_in 11 = .ok (.goto 4, 3) := by decide +kernel
theorem dX8_in_14 : decode cX8_in 14 = .ok (.iconst 0, 1) := by decide +kernel
theorem dX8_in_15 : decode cX8_in 15 = .ok (.ireturn, 1) := by decide +kernel
theorem dX8_isBakery_0 : decode cX8_isBakery 0 = .ok (.iload_n 0, 1) := by decide +kernel
theorem dX8_isBakery_1 : decode cX8_isBakery 1 = .ok (.iconst 0, 1) := by decide +kernel
theorem dX8_isBakery_2 : decode cX8_isBakery 2 = .ok (.iconst 4, 1) := by decide +kernel
theorem dX8_isBakery_3 : decode cX8_isBakery 3 = .ok (.invokestatic 86, 3) := by decide +kernel
theorem dX8_isBakery_6 : decode cX8_isBakery 6 = .ok (.ireturn, 1) := by decide +kernel
theorem dX8_areTogether_0 : decode cX8_areTogether 0 = .ok (.aload_n 0, 1) := by decide +kernel
theorem dX8_areTogether_1 : decode cX8_areTogether 1 = .ok (.getfield 90, 3) := by decide +kernel
theorem dX8_areTogether_4 : decode cX8_areTogether 4 = .ok (.iload_n 1, 1) := by decide +kernel
theorem dX8_areTogether_5 : decode cX8_areTogether 5 = .ok (.ishr, 1) := by decide +kernel
theorem dX8_areTogether_6 : decode cX8_areTogether 6 = .ok (.iconst 1, 1) := by decide +kernel
theorem dX8_areTogether_7 : decode cX8_areTogether 7 = .ok (.iand, 1) := by decide +kernel
theorem dX8_areTogether_8 : decode cX8_areTogether 8 = .ok (.aload_n 0, 1) := by decide +kernel
theorem dX8_areTogether_9 : decode cX8_areTogether 9 = .ok (.getfield 90, 3) := by decide +kernel
theorem dX8_areTogether_12 : decode cX8_areTogether 12 = .ok (.iload_n 2, 1) := by decide +kernel
theorem dX8_areTogether_13 : decode cX8_areTogether 13 = .ok (.ishr, 1) := by decide +kernel
theorem dX8_areTogether_14 : decode cX8_areTogether 14 = .ok (.iconst 1, 1) := by decide +kernel
theorem dX8_areTogether_15 : decode cX8_areTogether 15 = .ok (.iand, 1) := by decide +kernel
theorem dX8_areTogether_16 : decode cX8_areTogether 16 = .ok (.if_icmp .ne 7, 3) := by decide +kernel
theorem dX8_areTogether_19 : decode cX8_areTogether 19 = .ok (.iconst 1, 1) := by decide +kernel
theorem dX8_areTogether_20 : decode cX8_areTogether 20 = .ok (.goto 4, 3) := by decide +kernel
theorem dX8_areTogether_23 : decode cX8_areTogether 23 = .ok (.iconst 0, 1) := by decide +kernel
theorem dX8_areTogether_24 : decode cX8_areTogether 24 = .ok (.ireturn, 1) := by decide +kernel
theorem dX8_part_0 : decode cX8_part 0 = .ok (.aload_n 0, 1) := by decide +kernel
theorem dX8_part_1 : decode cX8_part 1 = .ok (.iload_n 1, 1) := by decide +kernel
theorem dX8_part_2 : decode cX8_part 2 = .ok (.iconst 0, 1) := by decide +kernel
theorem dX8_part_3 : decode cX8_part 3 = .ok (.bipush 31, 2) := by decide +kernel
theorem dX8_part_5 : decode cX8_part 5 = .ok (.invokestatic 86, 3) := by decide +kernel
theorem dX8_part_8 : decode cX8_part 8 = .ok (.ifCond .eq 7, 3) := by decide +kernel
theorem dX8_part_11 : decode cX8_part 11 = .ok (.iconst 0, 1) := by decide +kernel
theorem dX8_part_12 : decode cX8_part 12 = .ok (.goto 4, 3) := by decide +kernel
theorem dX8_part_15 : decode cX8_part 15 = .ok (.iconst 1, 1) := by decide +kernel
theorem dX8_part_16 : decode cX8_part 16 = .ok (.putfield 82, 3) := by decide +kernel
theorem dX8_part_19 : decode cX8_part 19 = .ok (.aload_n 0, 1) := by decide +kernel
theorem dX8_part_20 : decode cX8_part 20 = .ok (.getfield 82, 3) := by decide +kernel
theorem dX8_part_23 : decode cX8_part 23 = .ok (.ifCond .le 5, 3) := by decide +kernel
theorem dX8_part_26 : decode cX8_part 26 = .ok (.iconst 0, 1) := by decide +kernel
theorem dX8_part_27 : decode cX8_part 27 = .ok (.ireturn, 1) := by decide +kernel
theorem dX8_part_28 : decode cX8_part 28 = .ok (.aload_n 0, 1) := by decide +kernel
theorem dX8_part_29 : decode cX8_part 29 = .ok (.iload_n 1, 1) := by decide +kernel
theorem dX8_part_30 : decode cX8_part 30 = .ok (.putfield 90, 3) := by decide +kernel
theorem dX8_part_33 : decode cX8_part 33 = .ok (.iconst 0, 1) := by decide +kernel
theorem dX8_part_34 : decode cX8_part 34 = .ok (.istore_n 2, 1) := by decide +kernel
theorem dX8_part_35 : decode cX8_part 35 = .ok (.iconst 0, 1) := by decide +kernel
theorem dX8_part_36 : decode cX8_part 36 = .ok (.istore_n 3, 1) := by decide +kernel
theorem dX8_part_37 : decode cX8_part 37 = .ok (.iload_n 3, 1) := by decide +kernel
theorem dX8_part_38 : decode cX8_part 38 = .ok (.iconst 5, 1) := by decide +kernel
theorem dX8_part_39 : decode cX8_part 39 = .ok (.if_icmp .ge 17, 3) := by decide +kernel
theorem dX8_part_42 : decode cX8_part 42 = .ok (.iload_n 2, 1) := by decide +kernel
theorem dX8_part_43 : decode cX8_part 43 = .ok (.iload_n 1, 1) := by decide +kernel
theorem dX8_part_44 : decode cX8_part 44 = .ok (.iload_n 3, 1) := by decide +kernel
theorem dX8_part_45 : decode cX8_part 45 = .ok (.ishr, 1) := by decide +kernel
theorem dX8_part_46 : decode cX8_part 46 = .ok (.iconst 1, 1) := by decide +kernel
theorem dX8_part_47 : decode cX8_part 47 = .ok (.iand, 1) := by decide +kernel
theorem dX8_part_48 : decode cX8_part 48 = .ok (.iadd, 1) := by decide +kernel
theorem dX8_part_49 : decode cX8_part 49 = .ok (.istore_n 2, 1) := by decide +kernel
theorem dX8_part_50 : decode cX8_part 50 = .ok (.iinc 3 1, 3) := by decide +kernel
theorem dX8_part_53 : decode cX8_part 53 = .ok (.goto (-16), 3) := by decide +kernel
theorem dX8_part_56 : decode cX8_part 56 = .ok (.iload_n 2, 1) := by decide +kernel
theorem dX8_part_57 : decode cX8_part 57 = .ok (.iconst 5, 1) := by decide +kernel
theorem dX8_part_58 : decode cX8_part 58 = .ok (.iload_n 2, 1) := by decide +kernel
theorem dX8_part_59 : decode cX8_part 59 = .ok (.isub, 1) := by decide +kernel
theorem dX8_part_60 : decode cX8_part 60 = .ok (.imul, 1) := by decide +kernel
theorem dX8_part_61 : decode cX8_part 61 = .ok (.ireturn, 1) := by decide +kernel
theorem dX8_takes_0 : decode cX8_takes 0 = .ok (.aload_n 0, 1) := by decide +kernel
theorem dX8_takes_1 : decode cX8_takes 1 = .ok (.getfield 7, 3) := by decide +kernel
theorem dX8_takes_4 : decode cX8_takes 4 = .ok (.iload_n 1, 1) := by decide +kernel
theorem dX8_takes_5 : decode cX8_takes 5 = .ok (.iload_n 2, 1) := by decide +kernel
theorem dX8_takes_6 : decode cX8_takes 6 = .ok (.iastore, 1) := by decide +kernel
theorem dX8_takes_7 : decode cX8_takes 7 = .ok (.aload_n 0, 1) := by decide +kernel
theorem dX8_takes_8 : decode cX8_takes 8 = .ok (.getfield 13, 3) := by decide +kernel
theorem dX8_takes_11 : decode cX8_takes 11 = .ok (.iload_n 1, 1) := by decide +kernel
theorem dX8_takes_12 : decode cX8_takes 12 = .ok (.iconst 0, 1) := by decide +kernel
theorem dX8_takes_13 : decode cX8_takes 13 = .ok (.iastore, 1) := by decide +kernel
theorem dX8_takes_14 : decode cX8_takes 14 = .ok (.aload_n 0, 1) := by decide +kernel
theorem dX8_takes_15 : decode cX8_takes 15 = .ok (.getfield 16, 3) := by decide +kernel
theorem dX8_takes_18 : decode cX8_takes 18 = .ok (.iload_n 1, 1) := by decide +kernel
theorem dX8_takes_19 : decode cX8_takes 19 = .ok (.iconst 0, 1) := by decide +kernel
theorem dX8_takes_20 : decode cX8_takes 20 = .ok (.iastore, 1) := by decide +kernel
theorem dX8_takes_21 : decode cX8_takes 21 = .ok (.aload_n 0, 1) := by decide +kernel
theorem dX8_takes_22 : decode cX8_takes 22 = .ok (.getfield 19, 3) := by decide +kernel
theorem dX8_takes_25 : decode cX8_takes 25 = .ok (.iload_n 1, 1) := by decide +kernel
theorem dX8_takes_26 : decode cX8_takes 26 = .ok (.iconst 0, 1) := by decide +kernel
theorem dX8_takes_27 : decode cX8_takes 27 = .ok (.iastore, 1) := by decide +kernel
theorem dX8_takes_28 : decode cX8_takes 28 = .ok (.return_, 1) := by decide +kernel
theorem dX8_stand_0 : decode cX8_stand 0 = .ok (.aload_n 0, 1) := by decide +kernel
theorem dX8_stand_1 : decode cX8_stand 1 = .ok (.iload_n 1, 1) := by decide +kernel
theorem dX8_stand_2 : decode cX8_stand 2 = .ok (.invokestatic 93, 3) := by decide +kernel
theorem dX8_stand_5 : decode cX8_stand 5 = .ok (.ifCond .ne 7, 3) := by decide +kernel
theorem dX8_stand_8 : decode cX8_stand 8 = .ok (.iconst 1, 1) := by decide +kernel
theorem dX8_stand_9 : decode cX8_stand 9 = .ok (.goto 19, 3) := by decide +kernel
theorem dX8_stand_12 : decode cX8_stand 12 = .ok (.aload_n 0, 1) := by decide +kernel
theorem dX8_stand_13 : decode cX8_stand 13 = .ok (.getfield 7, 3) := by decide +kernel
theorem dX8_stand_16 : decode cX8_stand 16 = .ok (.iload_n 1, 1) := by decide +kernel
theorem dX8_stand_17 : decode cX8_stand 17 = .ok (.iaload, 1) := by decide +kernel
theorem dX8_stand_18 : decode cX8_stand 18 = .ok (.bipush 100, 2) := by decide +kernel
theorem dX8_stand_20 : decode cX8_stand 20 = .ok (.if_icmp .ne 7, 3) := by decide +kernel
theorem dX8_stand_23 : decode cX8_stand 23 = .ok (.iconst 2, 1) := by decide +kernel
theorem dX8_stand_24 : decode cX8_stand 24 = .ok (.goto 4, 3) := by decide +kernel
theorem dX8_stand_27 : decode cX8_stand 27 = .ok (.iconst 0, 1) := by decide +kernel
theorem dX8_stand_28 : decode cX8_stand 28 = .ok (.putfield 82, 3) := by decide +kernel
theorem dX8_stand_31 : decode cX8_stand 31 = .ok (.aload_n 0, 1) := by decide +kernel
theorem dX8_stand_32 : decode cX8_stand 32 = .ok (.getfield 82, 3) := by decide +kernel
theorem dX8_stand_35 : decode cX8_stand 35 = .ok (.ifCond .le 5, 3) := by decide +kernel
theorem dX8_stand_38 : decode cX8_stand 38 = .ok (.iconst 0, 1) := by decide +kernel
theorem dX8_stand_39 : decode cX8_stand 39 = .ok (.ireturn, 1) := by decide +kernel
theorem dX8_stand_40 : decode cX8_stand 40 = .ok (.aload_n 0, 1) := by decide +kernel
theorem dX8_stand_41 : decode cX8_stand 41 = .ok (.iload_n 1, 1) := by decide +kernel
theorem dX8_stand_42 : decode cX8_stand 42 = .ok (.aload_n 0, 1) := by decide +kernel
theorem dX8_stand_43 : decode cX8_stand 43 = .ok (.getfield 7, 3) := by decide +kernel
theorem dX8_stand_46 : decode cX8_stand 46 = .ok (.iload_n 1, 1) := by decide +kernel
theorem dX8_stand_47 : decode cX8_stand 47 = .ok (.iaload, 1) := by decide +kernel
theorem dX8_stand_48 : decode cX8_stand 48 = .ok (.iconst 1, 1) := by decide +kernel
theorem dX8_stand_49 : decode cX8_stand 49 = .ok (.iadd, 1) := by decide +kernel
theorem dX8_stand_50 : decode cX8_stand 50 = .ok (.invokevirtual 97, 3) := by decide +kernel
theorem dX8_stand_53 : decode cX8_stand 53 = .ok (.aload_n 0, 1) := by decide +kernel
theorem dX8_stand_54 : decode cX8_stand 54 = .ok (.getfield 13, 3) := by decide +kernel
theorem dX8_stand_57 : decode cX8_stand 57 = .ok (.iload_n 1, 1) := by decide +kernel
theorem dX8_stand_58 : decode cX8_stand 58 = .ok (.iconst 1, 1) := by decide +kernel
theorem dX8_stand_59 : decode cX8_stand 59 = .ok (.iastore, 1) := by decide +kernel
theorem dX8_stand_60 : decode cX8_stand 60 = .ok (.aload_n 0, 1) := by decide +kernel
theorem dX8_stand_61 : decode cX8_stand 61 = .ok (.getfield 16, 3) := by decide +kernel
theorem dX8_stand_64 : decode cX8_stand 64 = .ok (.iload_n 1, 1) := by decide +kernel
theorem dX8_stand_65 : decode cX8_stand 65 = .ok (.iload_n 1, 1) := by decide +kernel
theorem dX8_stand_66 : decode cX8_stand 66 = .ok (.iconst 1, 1) := by decide +kernel
theorem dX8_stand_67 : decode cX8_stand 67 = .ok (.iadd, 1) := by decide +kernel
theorem dX8_stand_68 : decode cX8_stand 68 = .ok (.iastore, 1) := by decide +kernel
theorem dX8_stand_69 : decode cX8_stand 69 = .ok (.aload_n 0, 1) := by decide +kernel
theorem dX8_stand_70 : decode cX8_stand 70 = .ok (.getfield 19, 3) := by decide +kernel
theorem dX8_stand_73 : decode cX8_stand 73 = .ok (.iload_n 1, 1) := by decide +kernel
theorem dX8_stand_74 : decode cX8_stand 74 = .ok (.iconst 1, 1) := by decide +kernel
theorem dX8_stand_75 : decode cX8_stand 75 = .ok (.iload_n 1, 1) := by decide +kernel
theorem dX8_stand_76 : decode cX8_stand 76 = .ok (.ishl, 1) := by decide +kernel
theorem dX8_stand_77 : decode cX8_stand 77 = .ok (.iastore, 1) := by decide +kernel
theorem dX8_stand_78 : decode cX8_stand 78 = .ok (.aload_n 0, 1) := by decide +kernel
theorem dX8_stand_79 : decode cX8_stand 79 = .ok (.getfield 7, 3) := by decide +kernel
theorem dX8_stand_82 : decode cX8_stand 82 = .ok (.iload_n 1, 1) := by decide +kernel
theorem dX8_stand_83 : decode cX8_stand 83 = .ok (.iaload, 1) := by decide +kernel
theorem dX8_stand_84 : decode cX8_stand 84 = .ok (.ireturn, 1) := by decide +kernel
theorem dX8_lastTerm_0 : decode cX8_lastTerm 0 = .ok (.aload_n 0, 1) := by decide +kernel
theorem dX8_lastTerm_1 : decode cX8_lastTerm 1 = .ok (.getfield 25, 3) := by decide +kernel
theorem dX8_lastTerm_4 : decode cX8_lastTerm 4 = .ok (.iload_n 1, 1) := by decide +kernel
theorem dX8_lastTerm_5 : decode cX8_lastTerm 5 = .ok (.iaload, 1) := by decide +kernel
theorem dX8_lastTerm_6 : decode cX8_lastTerm 6 = .ok (.ifCond .ne 7, 3) := by decide +kernel
theorem dX8_lastTerm_9 : decode cX8_lastTerm 9 = .ok (.iconst (-1), 1) := by decide +kernel
theorem dX8_lastTerm_10 : decode cX8_lastTerm 10 = .ok (.goto 26, 3) := by decide +kernel
theorem dX8_lastTerm_13 : decode cX8_lastTerm 13 = .ok (.aload_n 0, 1) := by decide +kernel
theorem dX8_lastTerm_14 : decode cX8_lastTerm 14 = .ok (.getfield 28, 3) := by decide +kernel
theorem dX8_lastTerm_17 : decode cX8_lastTerm 17 = .ok (.aload_n 0, 1) := by decide +kernel
theorem dX8_lastTerm_18 : decode cX8_lastTerm 18 = .ok (.getfield 22, 3) := by decide +kernel
theorem dX8_lastTerm_21 : decode cX8_lastTerm 21 = .ok (.bipush 20, 2) := by decide +kernel
theorem dX8_lastTerm_23 : decode cX8_lastTerm 23 = .ok (.iload_n 1, 1) := by decide +kernel
theorem dX8_lastTerm_24 : decode cX8_lastTerm 24 = .ok (.imul, 1) := by decide +kernel
theorem dX8_lastTerm_25 : decode cX8_lastTerm 25 = .ok (.aload_n 0, 1) := by decide +kernel
theorem dX8_lastTerm_26 : decode cX8_lastTerm 26 = .ok (.getfield 25, 3) := by decide +kernel
theorem dX8_lastTerm_29 : decode cX8_lastTerm 29 = .ok (.iload_n 1, 1) := by decide +kernel
theorem dX8_lastTerm_30 : decode cX8_lastTerm 30 = .ok (.iaload, 1) := by decide +kernel
theorem dX8_lastTerm_31 : decode cX8_lastTerm 31 = .ok (.iadd, 1) := by decide +kernel
theorem dX8_lastTerm_32 : decode cX8_lastTerm 32 = .ok (.iconst 1, 1) := by decide +kernel
theorem dX8_lastTerm_33 : decode cX8_lastTerm 33 = .ok (.isub, 1) := by decide +kernel
theorem dX8_lastTerm_34 : decode cX8_lastTerm 34 = .ok (.iaload, 1) := by decide +kernel
theorem dX8_lastTerm_35 : decode cX8_lastTerm 35 = .ok (.iaload, 1) := by decide +kernel
theorem dX8_lastTerm_36 : decode cX8_lastTerm 36 = .ok (.ireturn, 1) := by decide +kernel
theorem dX8_isBetter_0 : decode cX8_isBetter 0 = .ok (.aload_n 0, 1) := by decide +kernel
theorem dX8_isBetter_1 : decode cX8_isBetter 1 = .ok (.iload_n 1, 1) := by decide +kernel
theorem dX8_isBetter_2 : decode cX8_isBetter 2 = .ok (.invokevirtual 101, 3) := by decide +kernel
theorem dX8_isBetter_5 : decode cX8_isBetter 5 = .ok (.aload_n 0, 1) := by decide +kernel
theorem dX8_isBetter_6 : decode cX8_isBetter 6 = .ok (.iload_n 2, 1) := by decide +kernel
theorem dX8_isBetter_7 : decode cX8_isBetter 7 = .ok (.invokevirtual 101, 3) := by decide +kernel
theorem dX8_isBetter_10 : decode cX8_isBetter 10 = .ok (.isub, 1) := by decide +kernel
theorem dX8_isBetter_11 : decode cX8_isBetter 11 = .ok (.istore_n 3, 1) := by decide +kernel
theorem dX8_isBetter_12 : decode cX8_isBetter 12 = .ok (.iload_n 3, 1) := by decide +kernel
theorem dX8_isBetter_13 : decode cX8_isBetter 13 = .ok (.ifCond .gt 22, 3) := by decide +kernel
theorem dX8_isBetter_16 : decode cX8_isBetter 16 = .ok (.iload_n 3, 1) := by decide +kernel
theorem dX8_isBetter_17 : decode cX8_isBetter 17 = .ok (.ifCond .ne 22, 3) := by decide +kernel
theorem dX8_isBetter_20 : decode cX8_isBetter 20 = .ok (.aload_n 0, 1) := by decide +kernel
theorem dX8_isBetter_21 : decode cX8_isBetter 21 = .ok (.getfield 25, 3) := by decide +kernel
theorem dX8_isBetter_24 : decode cX8_isBetter 24 = .ok (.iload_n 1, 1) := by decide +kernel
theorem dX8_isBetter_25 : decode cX8_isBetter 25 = .ok (.iaload, 1) := by decide +kernel
theorem dX8_isBetter_26 : decode cX8_isBetter 26 = .ok (.aload_n 0, 1) := by decide +kernel
theorem dX8_isBetter_27 : decode cX8_isBetter 27 = .ok (.getfield 25, 3) := by decide +kernel
theorem dX8_isBetter_30 : decode cX8_isBetter 30 = .ok (.iload_n 2, 1) := by decide +kernel
theorem dX8_isBetter_31 : decode cX8_isBetter 31 = .ok (.iaload, 1) := by decide +kernel
theorem dX8_isBetter_32 : decode cX8_isBetter 32 = .ok (.if_icmp .le 7, 3) := by decide +kernel
theorem dX8_isBetter_35 : decode cX8_isBetter 35 = .ok (.iconst 1, 1) := by decide +kernel
theorem dX8_isBetter_36 : decode cX8_isBetter 36 = .ok (.goto 4, 3) := by decide +kernel
theorem dX8_isBetter_39 : decode cX8_isBetter 39 = .ok (.iconst 0, 1) := by decide +kernel
theorem dX8_isBetter_40 : decode cX8_isBetter 40 = .ok (.ireturn, 1) := by decide +kernel
theorem dX8_reachCheck_0 : decode cX8_reachCheck 0 = .ok (.iload_n 1, 1) := by decide +kernel
theorem dX8_reachCheck_1 : decode cX8_reachCheck 1 = .ok (.invokestatic 93, 3) := by decide +kernel
theorem dX8_reachCheck_4 : decode cX8_reachCheck 4 = .ok (.ifCond .eq 10, 3) := by decide +kernel
theorem dX8_reachCheck_7 : decode cX8_reachCheck 7 = .ok (.iload_n 2, 1) := by decide +kernel
theorem dX8_reachCheck_8 : decode cX8_reachCheck 8 = .ok (.invokestatic 93, 3) := by decide +kernel
theorem dX8_reachCheck_11 : decode cX8_reachCheck 11 = .ok (.ifCond .ne 7, 3) := by decide +kernel
theorem dX8_reachCheck_14 : decode cX8_reachCheck 14 = .ok (.iconst 1, 1) := by decide +kernel
theorem dX8_reachCheck_15 : decode cX8_reachCheck 15 = .ok (.goto 36, 3) := by decide +kernel
theorem dX8_reachCheck_18 : decode cX8_reachCheck 18 = .ok (.iload_n 1, 1) := by decide +kernel
theorem dX8_reachCheck_19 : decode cX8_reachCheck 19 = .ok (.iload_n 2, 1) := by decide +kernel
theorem dX8_reachCheck_20 : decode cX8_reachCheck 20 = .ok (.if_icmp .ne 7, 3) := by decide +kernel
theorem dX8_reachCheck_23 : decode cX8_reachCheck 23 = .ok (.iconst 2, 1) := by decide +kernel
theorem dX8_reachCheck_24 : decode cX8_reachCheck 24 = .ok (.goto 27, 3) := by decide +kernel
theorem dX8_reachCheck_27 : decode cX8_reachCheck 27 = .ok (.aload_n 0, 1) := by decide +kernel
theorem dX8_reachCheck_28 : decode cX8_reachCheck 28 = .ok (.getfield 13, 3) := by decide +kernel
theorem dX8_reachCheck_31 : decode cX8_reachCheck 31 = .ok (.iload_n 1, 1) := by decide +kernel
theorem dX8_reachCheck_32 : decode cX8_reachCheck 32 = .ok (.iaload, 1) := by decide +kernel
theorem dX8_reachCheck_33 : decode cX8_reachCheck 33 = .ok (.iload_n 3, 1) := by decide +kernel
theorem dX8_reachCheck_34 : decode cX8_reachCheck 34 = .ok (.if_icmp .ne 12, 3) := by decide +kernel
theorem dX8_reachCheck_37 : decode cX8_reachCheck 37 = .ok (.aload_n 0, 1) := by decide +kernel
theorem dX8_reachCheck_38 : decode cX8_reachCheck 38 = .ok (.iload_n 1, 1) := by decide +kernel
theorem dX8_reachCheck_39 : decode cX8_reachCheck 39 = .ok (.iload_n 2, 1) := by decide +kernel
theorem dX8_reachCheck_40 : decode cX8_reachCheck 40 = .ok (.invokevirtual 105, 3) := by decide +kernel
theorem dX8_reachCheck_43 : decode cX8_reachCheck 43 = .ok (.ifCond .ne 7, 3) := by decide +kernel
theorem dX8_reachCheck_46 : decode cX8_reachCheck 46 = .ok (.iconst 3, 1) := by decide +kernel
theorem dX8_reachCheck_47 : decode cX8_reachCheck 47 = .ok (.goto 4, 3) := by decide +kernel
theorem dX8_reachCheck_50 : decode cX8_reachCheck 50 = .ok (.iconst 0, 1) := by decide +kernel
theorem dX8_reachCheck_51 : decode cX8_reachCheck 51 = .ok (.ireturn, 1) := by decide +kernel
theorem dX8_vote_0 : decode cX8_vote 0 = .ok (.aload_n 0, 1) := by decide +kernel
theorem dX8_vote_1 : decode cX8_vote 1 = .ok (.aload_n 0, 1) := by decide +kernel
theorem dX8_vote_2 : decode cX8_vote 2 = .ok (.iload_n 2, 1) := by decide +kernel
theorem dX8_vote_3 : decode cX8_vote 3 = .ok (.iload_n 1, 1) := by decide +kernel
theorem dX8_vote_4 : decode cX8_vote 4 = .ok (.iconst 1, 1) := by decide +kernel
theorem dX8_vote_5 : decode cX8_vote 5 = .ok (.invokevirtual 109, 3) := by decide +kernel
theorem dX8_vote_8 : decode cX8_vote 8 = .ok (.putfield 82, 3) := by decide +kernel
theorem dX8_vote_11 : decode cX8_vote 11 = .ok (.aload_n 0, 1) := by decide +kernel
theorem dX8_vote_12 : decode cX8_vote 12 = .ok (.getfield 82, 3) := by decide +kernel
theorem dX8_vote_15 : decode cX8_vote 15 = .ok (.ifCond .le 5, 3) := by decide +kernel
theorem dX8_vote_18 : decode cX8_vote 18 = .ok (.iconst 0, 1) := by decide +kernel
theorem dX8_vote_19 : decode cX8_vote 19 = .ok (.ireturn, 1) := by decide +kernel
theorem dX8_vote_20 : decode cX8_vote 20 = .ok (.aload_n 0, 1) := by decide +kernel
theorem dX8_vote_21 : decode cX8_vote 21 = .ok (.getfield 7, 3) := by decide +kernel
theorem dX8_vote_24 : decode cX8_vote 24 = .ok (.iload_n 1, 1) := by decide +kernel
theorem dX8_vote_25 : decode cX8_vote 25 = .ok (.iaload, 1) := by decide +kernel
theorem dX8_vote_26 : decode cX8_vote 26 = .ok (.aload_n 0, 1) := by decide +kernel
theorem dX8_vote_27 : decode cX8_vote 27 = .ok (.getfield 7, 3) := by decide +kernel
theorem dX8_vote_30 : decode cX8_vote 30 = .ok (.iload_n 2, 1) := by decide +kernel
theorem dX8_vote_31 : decode cX8_vote 31 = .ok (.iaload, 1) := by decide +kernel
theorem dX8_vote_32 : decode cX8_vote 32 = .ok (.if_icmp .le 16, 3) := by decide +kernel
theorem dX8_vote_35 : decode cX8_vote 35 = .ok (.aload_n 0, 1) := by decide +kernel
theorem dX8_vote_36 : decode cX8_vote 36 = .ok (.iload_n 2, 1) := by decide +kernel
theorem dX8_vote_37 : decode cX8_vote 37 = .ok (.aload_n 0, 1) := by decide +kernel
theorem dX8_vote_38 : decode cX8_vote 38 = .ok (.getfield 7, 3) := by decide +kernel
theorem dX8_vote_41 : decode cX8_vote 41 = .ok (.iload_n 1, 1) := by decide +kernel
theorem dX8_vote_42 : decode cX8_vote 42 = .ok (.iaload, 1) := by decide +kernel
theorem dX8_vote_43 : decode cX8_vote 43 = .ok (.invokevirtual 97, 3) := by decide +kernel
theorem dX8_vote_46 : decode cX8_vote 46 = .ok (.iconst 0, 1) := by decide +kernel
theorem dX8_vote_47 : decode cX8_vote 47 = .ok (.ireturn, 1) := by decide +kernel
theorem dX8_vote_48 : decode cX8_vote 48 = .ok (.aload_n 0, 1) := by decide +kernel
theorem dX8_vote_49 : decode cX8_vote 49 = .ok (.getfield 7, 3) := by decide +kernel
theorem dX8_vote_52 : decode cX8_vote 52 = .ok (.iload_n 1, 1) := by decide +kernel
theorem dX8_vote_53 : decode cX8_vote 53 = .ok (.iaload, 1) := by decide +kernel
theorem dX8_vote_54 : decode cX8_vote 54 = .ok (.aload_n 0, 1) := by decide +kernel
theorem dX8_vote_55 : decode cX8_vote 55 = .ok (.getfield 7, 3) := by decide +kernel
theorem dX8_vote_58 : decode cX8_vote 58 = .ok (.iload_n 2, 1) := by decide +kernel
theorem dX8_vote_59 : decode cX8_vote 59 = .ok (.iaload, 1) := by decide +kernel
theorem dX8_vote_60 : decode cX8_vote 60 = .ok (.if_icmp .ge 14, 3) := by decide +kernel
theorem dX8_vote_63 : decode cX8_vote 63 = .ok (.aload_n 0, 1) := by decide +kernel
theorem dX8_vote_64 : decode cX8_vote 64 = .ok (.iload_n 1, 1) := by decide +kernel
theorem dX8_vote_65 : decode cX8_vote 65 = .ok (.aload_n 0, 1) := by decide +kernel
theorem dX8_vote_66 : decode cX8_vote 66 = .ok (.getfield 7, 3) := by decide +kernel
theorem dX8_vote_69 : decode cX8_vote 69 = .ok (.iload_n 2, 1) := by decide +kernel
theorem dX8_vote_70 : decode cX8_vote 70 = .ok (.iaload, 1) := by decide +kernel
theorem dX8_vote_71 : decode cX8_vote 71 = .ok (.invokevirtual 97, 3) := by decide +kernel
theorem dX8_vote_74 : decode cX8_vote 74 = .ok (.aload_n 0, 1) := by decide +kernel
theorem dX8_vote_75 : decode cX8_vote 75 = .ok (.getfield 16, 3) := by decide +kernel
theorem dX8_vote_78 : decode cX8_vote 78 = .ok (.iload_n 1, 1) := by decide +kernel
theorem dX8_vote_79 : decode cX8_vote 79 = .ok (.iaload, 1) := by decide +kernel
theorem dX8_vote_80 : decode cX8_vote 80 = .ok (.ifCond .ne 33, 3) := by decide +kernel
theorem dX8_vote_83 : decode cX8_vote 83 = .ok (.aload_n 0, 1) := by decide +kernel
theorem dX8_vote_84 : decode cX8_vote 84 = .ok (.iload_n 1, 1) := by decide +kernel
theorem dX8_vote_85 : decode cX8_vote 85 = .ok (.iload_n 2, 1) := by decide +kernel
theorem dX8_vote_86 : decode cX8_vote 86 = .ok (.invokevirtual 113, 3) := by decide +kernel
theorem dX8_vote_89 : decode cX8_vote 89 = .ok (.ifCond .ne 24, 3) := by decide +kernel
theorem dX8_vote_92 : decode cX8_vote 92 = .ok (.aload_n 0, 1) := by decide +kernel
theorem dX8_vote_93 : decode cX8_vote 93 = .ok (.getfield 16, 3) := by decide +kernel
theorem dX8_vote_96 : decode cX8_vote 96 = .ok (.iload_n 1, 1) := by decide +kernel
theorem dX8_vote_97 : decode cX8_vote 97 = .ok (.iload_n 2, 1) := by decide +kernel
theorem dX8_vote_98 : decode cX8_vote 98 = .ok (.iconst 1, 1) := by decide +kernel
theorem dX8_vote_99 : decode cX8_vote 99 = .ok (.iadd, 1) := by decide +kernel
theorem dX8_vote_100 : decode cX8_vote 100 = .ok (.iastore, 1) := by decide +kernel
theorem dX8_vote_101 : decode cX8_vote 101 = .ok (.aload_n 0, 1) := by decide +kernel
theorem dX8_vote_102 : decode cX8_vote 102 = .ok (.getfield 19, 3) := by decide +kernel
theorem dX8_vote_105 : decode cX8_vote 105 = .ok (.iload_n 2, 1) := by decide +kernel
theorem dX8_vote_106 : decode cX8_vote 106 = .ok (.dup2, 1) := by decide +kernel
theorem dX8_vote_107 : decode cX8_vote 107 = .ok (.iaload, 1) := by decide +kernel
theorem dX8_vote_108 : decode cX8_vote 108 = .ok (.iconst 1, 1) := by decide +kernel
theorem dX8_vote_109 : decode cX8_vote 109 = .ok (.iload_n 1, 1) := by decide +kernel
theorem dX8_vote_110 : decode cX8_vote 110 = .ok (.ishl, 1) := by decide +kernel
theorem dX8_vote_111 : decode cX8_vote 111 = .ok (.ior, 1) := by decide +kernel
theorem dX8_vote_112 : decode cX8_vote 112 = .ok (.iastore, 1) := by decide +kernel
theorem dX8_vote_113 : decode cX8_vote 113 = .ok (.iconst 0, 1) := by decide +kernel
theorem dX8_vote_114 : decode cX8_vote 114 = .ok (.istore_n 3, 1) := by decide +kernel
theorem dX8_vote_115 : decode cX8_vote 115 = .ok (.iconst 0, 1) := by decide +kernel
theorem dX8_vote_116 : decode cX8_vote 116 = .ok (.istore 4, 2) := by decide +kernel
theorem dX8_vote_118 : decode cX8_vote 118 = .ok (.iload 4, 2) := by decide +kernel
theorem dX8_vote_120 : decode cX8_vote 120 = .ok (.iconst 5, 1) := by decide +kernel
theorem dX8_vote_121 : decode cX8_vote 121 = .ok (.if_icmp .ge 23, 3) := by decide +kernel
theorem dX8_vote_124 : decode cX8_vote 124 = .ok (.iload_n 3, 1) := by decide +kernel
theorem dX8_vote_125 : decode cX8_vote 125 = .ok (.aload_n 0, 1) := by decide +kernel
theorem dX8_vote_126 : decode cX8_vote 126 = .ok (.getfield 19, 3) := by decide +kernel
theorem dX8_vote_129 : decode cX8_vote 129 = .ok (.iload_n 2, 1) := by decide +kernel
theorem dX8_vote_130 : decode cX8_vote 130 = .ok (.iaload, 1) := by decide +kernel
theorem dX8_vote_131 : decode cX8_vote 131 = .ok (.iload 4, 2) := by decide +kernel
theorem dX8_vote_133 : decode cX8_vote 133 = .ok (.ishr, 1) := by decide +kernel
theorem dX8_vote_134 : decode cX8_vote 134 = .ok (.iconst 1, 1) := by decide +kernel
theorem dX8_vote_135 : decode cX8_vote 135 = .ok (.iand, 1) := by decide +kernel
theorem dX8_vote_136 : decode cX8_vote 136 = .ok (.iadd, 1) := by decide +kernel
theorem dX8_vote_137 : decode cX8_vote 137 = .ok (.istore_n 3, 1) := by decide +kernel
theorem dX8_vote_138 : decode cX8_vote 138 = .ok (.iinc 4 1, 3) := by decide +kernel
theorem dX8_vote_141 : decode cX8_vote 141 = .ok (.goto (-23), 3) := by decide +kernel
theorem dX8_vote_144 : decode cX8_vote 144 = .ok (.aload_n 0, 1) := by decide +kernel
theorem dX8_vote_145 : decode cX8_vote 145 = .ok (.getfield 13, 3) := by decide +kernel
theorem dX8_vote_148 : decode cX8_vote 148 = .ok (.iload_n 2, 1) := by decide +kernel
theorem dX8_vote_149 : decode cX8_vote 149 = .ok (.iload_n 3, 1) := by decide +kernel
theorem dX8_vote_150 : decode cX8_vote 150 = .ok (.iconst 3, 1) := by decide +kernel
theorem dX8_vote_151 : decode cX8_vote 151 = .ok (.if_icmp .lt 7, 3) := by decide +kernel
theorem dX8_vote_154 : decode cX8_vote 154 = .ok (.iconst 2, 1) := by decide +kernel
theorem dX8_vote_155 : decode cX8_vote 155 = .ok (.goto 4, 3) := by decide +kernel
theorem dX8_vote_158 : decode cX8_vote 158 = .ok (.iconst 1, 1) := by decide +kernel
theorem dX8_vote_159 : decode cX8_vote 159 = .ok (.iastore, 1) := by decide +kernel
theorem dX8_vote_160 : decode cX8_vote 160 = .ok (.aload_n 0, 1) := by decide +kernel
theorem dX8_vote_161 : decode cX8_vote 161 = .ok (.getfield 16, 3) := by decide +kernel
theorem dX8_vote_164 : decode cX8_vote 164 = .ok (.iload_n 1, 1) := by decide +kernel
theorem dX8_vote_165 : decode cX8_vote 165 = .ok (.iaload, 1) := by decide +kernel
theorem dX8_vote_166 : decode cX8_vote 166 = .ok (.iload_n 2, 1) := by decide +kernel
theorem dX8_vote_167 : decode cX8_vote 167 = .ok (.iconst 1, 1) := by decide +kernel
theorem dX8_vote_168 : decode cX8_vote 168 = .ok (.iadd, 1) := by decide +kernel
theorem dX8_vote_169 : decode cX8_vote 169 = .ok (.if_icmp .ne 7, 3) := by decide +kernel
theorem dX8_vote_172 : decode cX8_vote 172 = .ok (.iconst 1, 1) := by decide +kernel
theorem dX8_vote_173 : decode cX8_vote 173 = .ok (.goto 4, 3) := by decide +kernel
theorem dX8_vote_176 : decode cX8_vote 176 = .ok (.iconst 0, 1) := by decide +kernel
theorem dX8_vote_177 : decode cX8_vote 177 = .ok (.ireturn, 1) := by decide +kernel
theorem dX8_propose_0 : decode cX8_propose 0 = .ok (.aload_n 0, 1) := by decide +kernel
theorem dX8_propose_1 : decode cX8_propose 1 = .ok (.iload_n 1, 1) := by decide +kernel
theorem dX8_propose_2 : decode cX8_propose 2 = .ok (.invokestatic 93, 3) := by decide +kernel
theorem dX8_propose_5 : decode cX8_propose 5 = .ok (.ifCond .eq 12, 3) := by decide +kernel
theorem dX8_propose_8 : decode cX8_propose 8 = .ok (.iload_n 2, 1) := by decide +kernel
theorem dX8_propose_9 : decode cX8_propose 9 = .ok (.iconst 0, 1) := by decide +kernel
theorem dX8_propose_10 : decode cX8_propose 10 = .ok (.iconst 5, 1) := by decide +kernel
theorem dX8_propose_11 : decode cX8_propose 11 = .ok (.invokestatic 86, 3) := by decide +kernel
theorem dX8_propose_14 : decode cX8_propose 14 = .ok (.ifCond .ne 7, 3) := by decide +kernel
theorem dX8_propose_17 : decode cX8_propose 17 = .ok (.iconst 1, 1) := by decide +kernel
theorem dX8_propose_18 : decode cX8_propose 18 = .ok (.goto 63, 3) := by decide +kernel
theorem dX8_propose_21 : decode cX8_propose 21 = .ok (.iload_n 3, 1) := by decide +kernel
theorem dX8_propose_22 : decode cX8_propose 22 = .ok (.iconst 1, 1) := by decide +kernel
theorem dX8_propose_23 : decode cX8_propose 23 = .ok (.bipush 9, 2) := by decide +kernel
theorem dX8_propose_25 : decode cX8_propose 25 = .ok (.invokestatic 86, 3) := by decide +kernel
theorem dX8_propose_28 : decode cX8_propose 28 = .ok (.ifCond .eq 14, 3) := by decide +kernel
theorem dX8_propose_31 : decode cX8_propose 31 = .ok (.iload 4, 2) := by decide +kernel
theorem dX8_propose_33 : decode cX8_propose 33 = .ok (.iconst 1, 1) := by decide +kernel
theorem dX8_propose_34 : decode cX8_propose 34 = .ok (.bipush 40, 2) := by decide +kernel
theorem dX8_propose_36 : decode cX8_propose 36 = .ok (.invokestatic 86, 3) := by decide +kernel
theorem dX8_propose_39 : decode cX8_propose 39 = .ok (.ifCond .ne 7, 3) := by decide +kernel
theorem dX8_propose_42 : decode cX8_propose 42 = .ok (.iconst 2, 1) := by decide +kernel
theorem dX8_propose_43 : decode cX8_propose 43 = .ok (.goto 38, 3) := by decide +kernel
theorem dX8_propose_46 : decode cX8_propose 46 = .ok (.aload_n 0, 1) := by decide +kernel
theorem dX8_propose_47 : decode cX8_propose 47 = .ok (.getfield 13, 3) := by decide +kernel
theorem dX8_propose_50 : decode cX8_propose 50 = .ok (.iload_n 1, 1) := by decide +kernel
theorem dX8_propose_51 : decode cX8_propose 51 = .ok (.iaload, 1) := by decide +kernel
theorem dX8_propose_52 : decode cX8_propose 52 = .ok (.iconst 2, 1) := by decide +kernel
theorem dX8_propose_53 : decode cX8_propose 53 = .ok (.if_icmp .ne 23, 3) := by decide +kernel
theorem dX8_propose_56 : decode cX8_propose 56 = .ok (.aload_n 0, 1) := by decide +kernel
theorem dX8_propose_57 : decode cX8_propose 57 = .ok (.getfield 25, 3) := by decide +kernel
theorem dX8_propose_60 : decode cX8_propose 60 = .ok (.iload_n 1, 1) := by decide +kernel
theorem dX8_propose_61 : decode cX8_propose 61 = .ok (.iaload, 1) := by decide +kernel
theorem dX8_propose_62 : decode cX8_propose 62 = .ok (.bipush 20, 2) := by decide +kernel
theorem dX8_propose_64 : decode cX8_propose 64 = .ok (.if_icmp .eq 12, 3) := by decide +kernel
theorem dX8_propose_67 : decode cX8_propose 67 = .ok (.aload_n 0, 1) := by decide +kernel
theorem dX8_propose_68 : decode cX8_propose 68 = .ok (.getfield 116, 3) := by decide +kernel
theorem dX8_propose_71 : decode cX8_propose 71 = .ok (.bipush 60, 2) := by decide +kernel
theorem dX8_propose_73 : decode cX8_propose 73 = .ok (.if_icmp .ne 7, 3) := by decide +kernel
theorem dX8_propose_76 : decode cX8_propose 76 = .ok (.iconst 3, 1) := by decide +kernel
theorem dX8_propose_77 : decode cX8_propose 77 = .ok (.goto 4, 3) := by decide +kernel
theorem dX8_propose_80 : decode cX8_propose 80 = .ok (.iconst 0, 1) := by decide +kernel
theorem dX8_propose_81 : decode cX8_propose 81 = .ok (.putfield 82, 3) := by decide +kernel
theorem dX8_propose_84 : decode cX8_propose 84 = .ok (.aload_n 0, 1) := by decide +kernel
theorem dX8_propose_85 : decode cX8_propose 85 = .ok (.getfield 82, 3) := by decide +kernel
theorem dX8_propose_88 : decode cX8_propose 88 = .ok (.ifCond .le 5, 3) := by decide +kernel
theorem dX8_propose_91 : decode cX8_propose 91 = .ok (.iconst 0, 1) := by decide +kernel
theorem dX8_propose_92 : decode cX8_propose 92 = .ok (.ireturn, 1) := by decide +kernel
theorem dX8_propose_93 : decode cX8_propose 93 = .ok (.aload_n 0, 1) := by decide +kernel
theorem dX8_propose_94 : decode cX8_propose 94 = .ok (.getfield 28, 3) := by decide +kernel
theorem dX8_propose_97 : decode cX8_propose 97 = .ok (.aload_n 0, 1) := by decide +kernel
theorem dX8_propose_98 : decode cX8_propose 98 = .ok (.getfield 116, 3) := by decide +kernel
theorem dX8_propose_101 : decode cX8_propose 101 = .ok (.aload_n 0, 1) := by decide +kernel
theorem dX8_propose_102 : decode cX8_propose 102 = .ok (.getfield 7, 3) := by decide +kernel
theorem dX8_propose_105 : decode cX8_propose 105 = .ok (.iload_n 1, 1) := by decide +kernel
theorem dX8_propose_106 : decode cX8_propose 106 = .ok (.iaload, 1) := by decide +kernel
theorem dX8_propose_107 : decode cX8_propose 107 = .ok (.iastore, 1) := by decide +kernel
theorem dX8_propose_108 : decode cX8_propose 108 = .ok (.aload_n 0, 1) := by decide +kernel
theorem dX8_propose_109 : decode cX8_propose 109 = .ok (.getfield 31, 3) := by decide +kernel
theorem dX8_propose_112 : decode cX8_propose 112 = .ok (.aload_n 0, 1) := by decide +kernel
theorem dX8_propose_113 : decode cX8_propose 113 = .ok (.getfield 116, 3) := by decide +kernel
theorem dX8_propose_116 : decode cX8_propose 116 = .ok (.iload_n 2, 1) := by decide +kernel
theorem dX8_propose_117 : decode cX8_propose 117 = .ok (.iastore, 1) := by decide +kernel
theorem dX8_propose_118 : decode cX8_propose 118 = .ok (.aload_n 0, 1) := by decide +kernel
theorem dX8_propose_119 : decode cX8_propose 119 = .ok (.getfield 34, 3) := by decide +kernel
theorem dX8_propose_122 : decode cX8_propose 122 = .ok (.aload_n 0, 1) := by decide +kernel
theorem dX8_propose_123 : decode cX8_propose 123 = .ok (.getfield 116, 3) := by decide +kernel
theorem dX8_propose_126 : decode cX8_propose 126 = .ok (.iload_n 3, 1) := by decide +kernel
theorem dX8_propose_127 : decode cX8_propose 127 = .ok (.iastore, 1) := by decide +kernel
theorem dX8_propose_128 : decode cX8_propose 128 = .ok (.aload_n 0, 1) := by decide +kernel
theorem dX8_propose_129 : decode cX8_propose 129 = .ok (.getfield 37, 3) := by decide +kernel
theorem dX8_propose_132 : decode cX8_propose 132 = .ok (.aload_n 0, 1) := by decide +kernel
theorem dX8_propose_133 : decode cX8_propose 133 = .ok (.getfield 116, 3) := by decide +kernel
theorem dX8_propose_136 : decode cX8_propose 136 = .ok (.iload 4, 2) := by decide +kernel
theorem dX8_propose_138 : decode cX8_propose 138 = .ok (.iastore, 1) := by decide +kernel
theorem dX8_propose_139 : decode cX8_propose 139 = .ok (.aload_n 0, 1) := by decide +kernel
theorem dX8_propose_140 : decode cX8_propose 140 = .ok (.getfield 22, 3) := by decide +kernel
theorem dX8_propose_143 : decode cX8_propose 143 = .ok (.bipush 20, 2) := by decide +kernel
theorem dX8_propose_145 : decode cX8_propose 145 = .ok (.iload_n 1, 1) := by decide +kernel
theorem dX8_propose_146 : decode cX8_propose 146 = .ok (.imul, 1) := by decide +kernel
theorem dX8_propose_147 : decode cX8_propose 147 = .ok (.aload_n 0, 1) := by decide +kernel
theorem dX8_propose_148 : decode cX8_propose 148 = .ok (.getfield 25, 3) := by decide +kernel
theorem dX8_propose_151 : decode cX8_propose 151 = .ok (.iload_n 1, 1) := by decide +kernel
theorem dX8_propose_152 : decode cX8_propose 152 = .ok (.iaload, 1) := by decide +kernel
theorem dX8_propose_153 : decode cX8_propose 153 = .ok (.iadd, 1) := by decide +kernel
theorem dX8_propose_154 : decode cX8_propose 154 = .ok (.aload_n 0, 1) := by decide +kernel
theorem dX8_propose_155 : decode cX8_propose 155 = .ok (.getfield 116, 3) := by decide +kernel
theorem dX8_propose_158 : decode cX8_propose 158 = .ok (.iastore, 1) := by decide +kernel
theorem dX8_propose_159 : decode cX8_propose 159 = .ok (.aload_n 0, 1) := by decide +kernel
theorem dX8_propose_160 : decode cX8_propose 160 = .ok (.getfield 25, 3) := by decide +kernel
theorem dX8_propose_163 : decode cX8_propose 163 = .ok (.iload_n 1, 1) := by decide +kernel
theorem dX8_propose_164 : decode cX8_propose 164 = .ok (.dup2, 1) := by decide +kernel
theorem dX8_propose_165 : decode cX8_propose 165 = .ok (.iaload, 1) := by decide +kernel
theorem dX8_propose_166 : decode cX8_propose 166 = .ok (.iconst 1, 1) := by decide +kernel
theorem dX8_propose_167 : decode cX8_propose 167 = .ok (.iadd, 1) := by decide +kernel
theorem dX8_propose_168 : decode cX8_propose 168 = .ok (.iastore, 1) := by decide +kernel
theorem dX8_propose_169 : decode cX8_propose 169 = .ok (.aload_n 0, 1) := by decide +kernel
theorem dX8_propose_170 : decode cX8_propose 170 = .ok (.dup, 1) := by decide +kernel
theorem dX8_propose_171 : decode cX8_propose 171 = .ok (.getfield 116, 3) := by decide +kernel
theorem dX8_propose_174 : decode cX8_propose 174 = .ok (.iconst 1, 1) := by decide +kernel
theorem dX8_propose_175 : decode cX8_propose 175 = .ok (.iadd, 1) := by decide +kernel
theorem dX8_propose_176 : decode cX8_propose 176 = .ok (.putfield 116, 3) := by decide +kernel
theorem dX8_propose_179 : decode cX8_propose 179 = .ok (.aload_n 0, 1) := by decide +kernel
theorem dX8_propose_180 : decode cX8_propose 180 = .ok (.getfield 116, 3) := by decide +kernel
theorem dX8_propose_183 : decode cX8_propose 183 = .ok (.iconst 1, 1) := by decide +kernel
theorem dX8_propose_184 : decode cX8_propose 184 = .ok (.isub, 1) := by decide +kernel
theorem dX8_propose_185 : decode cX8_propose 185 = .ok (.ireturn, 1) := by decide +kernel
theorem dX8_holdersOf_0 : decode cX8_holdersOf 0 = .ok (.iconst 0, 1) := by decide +kernel
theorem dX8_holdersOf_1 : decode cX8_holdersOf 1 = .ok (.istore_n 2, 1) := by decide +kernel
theorem dX8_holdersOf_2 : decode cX8_holdersOf 2 = .ok (.iconst 0, 1) := by decide +kernel
theorem dX8_holdersOf_3 : decode cX8_holdersOf 3 = .ok (.istore_n 3, 1) := by decide +kernel
theorem dX8_holdersOf_4 : decode cX8_holdersOf 4 = .ok (.iload_n 3, 1) := by decide +kernel
theorem dX8_holdersOf_5 : decode cX8_holdersOf 5 = .ok (.bipush 100, 2) := by decide +kernel
theorem dX8_holdersOf_7 : decode cX8_holdersOf 7 = .ok (.if_icmp .ge 48, 3) := by decide +kernel
theorem dX8_holdersOf_10 : decode cX8_holdersOf 10 = .ok (.iload_n 2, 1) := by decide +kernel
theorem dX8_holdersOf_11 : decode cX8_holdersOf 11 = .ok (.iload_n 3, 1) := by decide +kernel
theorem dX8_holdersOf_12 : decode cX8_holdersOf 12 = .ok (.bipush 20, 2) := by decide +kernel
theorem dX8_holdersOf_14 : decode cX8_holdersOf 14 = .ok (.irem, 1) := by decide +kernel
theorem dX8_holdersOf_15 : decode cX8_holdersOf 15 = .ok (.aload_n 0, 1) := by decide +kernel
theorem dX8_holdersOf_16 : decode cX8_holdersOf 16 = .ok (.getfield 25, 3) := by decide +kernel
theorem dX8_holdersOf_19 : decode cX8_holdersOf 19 = .ok (.iload_n 3, 1) := by decide +kernel
theorem dX8_holdersOf_20 : decode cX8_holdersOf 20 = .ok (.bipush 20, 2) := by decide +kernel
theorem dX8_holdersOf_22 : decode cX8_holdersOf 22 = .ok (.idiv, 1) := by decide +kernel
theorem dX8_holdersOf_23 : decode cX8_holdersOf 23 = .ok (.iaload, 1) := by decide +kernel
theorem dX8_holdersOf_24 : decode cX8_holdersOf 24 = .ok (.if_icmp .ge 22, 3) := by decide +kernel
theorem dX8_holdersOf_27 : decode cX8_holdersOf 27 = .ok (.aload_n 0, 1) := by decide +kernel
theorem dX8_holdersOf_28 : decode cX8_holdersOf 28 = .ok (.getfield 22, 3) := by decide +kernel
theorem dX8_holdersOf_31 : decode cX8_holdersOf 31 = .ok (.iload_n 3, 1) := by decide +kernel
theorem dX8_holdersOf_32 : decode cX8_holdersOf 32 = .ok (.iaload, 1) := by decide +kernel
theorem dX8_holdersOf_33 : decode cX8_holdersOf 33 = .ok (.iload_n 1, 1) := by decide +kernel
theorem dX8_holdersOf_34 : decode cX8_holdersOf 34 = .ok (.if_icmp .ne 12, 3) := by decide +kernel
theorem dX8_holdersOf_37 : decode cX8_holdersOf 37 = .ok (.iconst 1, 1) := by decide +kernel
theorem dX8_holdersOf_38 : decode cX8_holdersOf 38 = .ok (.iload_n 3, 1) := by decide +kernel
theorem dX8_holdersOf_39 : decode cX8_holdersOf 39 = .ok (.bipush 20, 2) := by decide +kernel
theorem dX8_holdersOf_41 : decode cX8_holdersOf 41 = .ok (.idiv, 1) := by decide +kernel
theorem dX8_holdersOf_42 : decode cX8_holdersOf 42 = .ok (.ishl, 1) := by decide +kernel
theorem dX8_holdersOf_43 : decode cX8_holdersOf 43 = .ok (.goto 4, 3) := by decide +kernel
theorem dX8_holdersOf_46 : decode cX8_holdersOf 46 = .ok (.iconst 0, 1) := by decide +kernel
theorem dX8_holdersOf_47 : decode cX8_holdersOf 47 = .ok (.ior, 1) := by decide +kernel
theorem dX8_holdersOf_48 : decode cX8_holdersOf 48 = .ok (.istore_n 2, 1) := by decide +kernel
theorem dX8_holdersOf_49 : decode cX8_holdersOf 49 = .ok (.iinc 3 1, 3) := by decide +kernel
theorem dX8_holdersOf_52 : decode cX8_holdersOf 52 = .ok (.goto (-48), 3) := by decide +kernel
theorem dX8_holdersOf_55 : decode cX8_holdersOf 55 = .ok (.iload_n 2, 1) := by decide +kernel
theorem dX8_holdersOf_56 : decode cX8_holdersOf 56 = .ok (.ireturn, 1) := by decide +kernel
theorem dX8_isHeldNow_0 : decode cX8_isHeldNow 0 = .ok (.aload_n 0, 1) := by decide +kernel
theorem dX8_isHeldNow_1 : decode cX8_isHeldNow 1 = .ok (.iload_n 1, 1) := by decide +kernel
theorem dX8_isHeldNow_2 : decode cX8_isHeldNow 2 = .ok (.invokevirtual 119, 3) := by decide +kernel
theorem dX8_isHeldNow_5 : decode cX8_isHeldNow 5 = .ok (.istore_n 2, 1) := by decide +kernel
theorem dX8_isHeldNow_6 : decode cX8_isHeldNow 6 = .ok (.iconst 0, 1) := by decide +kernel
theorem dX8_isHeldNow_7 : decode cX8_isHeldNow 7 = .ok (.istore_n 3, 1) := by decide +kernel
theorem dX8_isHeldNow_8 : decode cX8_isHeldNow 8 = .ok (.iconst 0, 1) := by decide +kernel
theorem dX8_isHeldNow_9 : decode cX8_isHeldNow 9 = .ok (.istore 4, 2) := by decide +kernel
theorem dX8_isHeldNow_11 : decode cX8_isHeldNow 11 = .ok (.iload 4, 2) := by decide +kernel
theorem dX8_isHeldNow_13 : decode cX8_isHeldNow 13 = .ok (.iconst 5, 1) := by decide +kernel
theorem dX8_isHeldNow_14 : decode cX8_isHeldNow 14 = .ok (.if_icmp .ge 18, 3) := by decide +kernel
theorem dX8_isHeldNow_17 : decode cX8_isHeldNow 17 = .ok (.iload_n 3, 1) := by decide +kernel
theorem dX8_isHeldNow_18 : decode cX8_isHeldNow 18 = .ok (.iload_n 2, 1) := by decide +kernel
theorem dX8_isHeldNow_19 : decode cX8_isHeldNow 19 = .ok (.iload 4, 2) := by decide +kernel
theorem dX8_isHeldNow_21 : decode cX8_isHeldNow 21 = .ok (.ishr, 1) := by decide +kernel
theorem dX8_isHeldNow_22 : decode cX8_isHeldNow 22 = .ok (.iconst 1, 1) := by decide +kernel
theorem dX8_isHeldNow_23 : decode cX8_isHeldNow 23 = .ok (.iand, 1) := by decide +kernel
theorem dX8_isHeldNow_24 : decode cX8_isHeldNow 24 = .ok (.iadd, 1) := by decide +kernel
theorem dX8_isHeldNow_25 : decode cX8_isHeldNow 25 = .ok (.istore_n 3, 1) := by decide +kernel
theorem dX8_isHeldNow_26 : decode cX8_isHeldNow 26 = .ok (.iinc 4 1, 3) := by decide +kernel
theorem dX8_isHeldNow_29 : decode cX8_isHeldNow 29 = .ok (.goto (-18), 3) := by decide +kernel
theorem dX8_isHeldNow_32 : decode cX8_isHeldNow 32 = .ok (.iload_n 3, 1) := by decide +kernel
theorem dX8_isHeldNow_33 : decode cX8_isHeldNow 33 = .ok (.iconst 3, 1) := by decide +kernel
theorem dX8_isHeldNow_34 : decode cX8_isHeldNow 34 = .ok (.if_icmp .lt 7, 3) := by decide +kernel
theorem dX8_isHeldNow_37 : decode cX8_isHeldNow 37 = .ok (.iconst 1, 1) := by decide +kernel
theorem dX8_isHeldNow_38 : decode cX8_isHeldNow 38 = .ok (.goto 4, 3) := by decide +kernel
theorem dX8_isHeldNow_41 : decode cX8_isHeldNow 41 = .ok (.iconst 0, 1) := by decide +kernel
theorem dX8_isHeldNow_42 : decode cX8_isHeldNow 42 = .ok (.ireturn, 1) := by decide +kernel
theorem dX8_callsBack_0 : decode cX8_callsBack 0 = .ok (.aload_n 0, 1) := by decide +kernel
theorem dX8_callsBack_1 : decode cX8_callsBack 1 = .ok (.getfield 70, 3) := by decide +kernel
theorem dX8_callsBack_4 : decode cX8_callsBack 4 = .ok (.iload_n 1, 1) := by decide +kernel
theorem dX8_callsBack_5 : decode cX8_callsBack 5 = .ok (.iaload, 1) := by decide +kernel
theorem dX8_callsBack_6 : decode cX8_callsBack 6 = .ok (.istore_n 3, 1) := by decide +kernel
theorem dX8_callsBack_7 : decode cX8_callsBack 7 = .ok (.iload_n 3, 1) := by decide +kernel
theorem dX8_callsBack_8 : decode cX8_callsBack 8 = .ok (.ifCond .le 43, 3) := by decide +kernel
theorem dX8_callsBack_11 : decode cX8_callsBack 11 = .ok (.aload_n 0, 1) := by decide +kernel
theorem dX8_callsBack_12 : decode cX8_callsBack 12 = .ok (.getfield 73, 3) := by decide +kernel
theorem dX8_callsBack_15 : decode cX8_callsBack 15 = .ok (.aload_n 0, 1) := by decide +kernel
theorem dX8_callsBack_16 : decode cX8_callsBack 16 = .ok (.getfield 122, 3) := by decide +kernel
theorem dX8_callsBack_19 : decode cX8_callsBack 19 = .ok (.iload_n 1, 1) := by decide +kernel
theorem dX8_callsBack_20 : decode cX8_callsBack 20 = .ok (.iastore, 1) := by decide +kernel
theorem dX8_callsBack_21 : decode cX8_callsBack 21 = .ok (.aload_n 0, 1) := by decide +kernel
theorem dX8_callsBack_22 : decode cX8_callsBack 22 = .ok (.getfield 76, 3) := by decide +kernel
theorem dX8_callsBack_25 : decode cX8_callsBack 25 = .ok (.aload_n 0, 1) := by decide +kernel
theorem dX8_callsBack_26 : decode cX8_callsBack 26 = .ok (.getfield 122, 3) := by decide +kernel
theorem dX8_callsBack_29 : decode cX8_callsBack 29 = .ok (.iload_n 3, 1) := by decide +kernel
theorem dX8_callsBack_30 : decode cX8_callsBack 30 = .ok (.iastore, 1) := by decide +kernel
theorem dX8_callsBack_31 : decode cX8_callsBack 31 = .ok (.aload_n 0, 1) := by decide +kernel
theorem dX8_callsBack_32 : decode cX8_callsBack 32 = .ok (.getfield 79, 3) := by decide +kernel
theorem dX8_callsBack_35 : decode cX8_callsBack 35 = .ok (.aload_n 0, 1) := by decide +kernel
theorem dX8_callsBack_36 : decode cX8_callsBack 36 = .ok (.getfield 122, 3) := by decide +kernel
theorem dX8_callsBack_39 : decode cX8_callsBack 39 = .ok (.iload_n 2, 1) := by decide +kernel
theorem dX8_callsBack_40 : decode cX8_callsBack 40 = .ok (.iastore, 1) := by decide +kernel
theorem dX8_callsBack_41 : decode cX8_callsBack 41 = .ok (.aload_n 0, 1) := by decide +kernel
theorem dX8_callsBack_42 : decode cX8_callsBack 42 = .ok (.dup, 1) := by decide +kernel
theorem dX8_callsBack_43 : decode cX8_callsBack 43 = .ok (.getfield 122, 3) := by decide +kernel
theorem dX8_callsBack_46 : decode cX8_callsBack 46 = .ok (.iconst 1, 1) := by decide +kernel
theorem dX8_callsBack_47 : decode cX8_callsBack 47 = .ok (.iadd, 1) := by decide +kernel
theorem dX8_callsBack_48 : decode cX8_callsBack 48 = .ok (.putfield 122, 3) := by decide +kernel
theorem dX8_callsBack_51 : decode cX8_callsBack 51 = .ok (.aload_n 0, 1) := by decide +kernel
theorem dX8_callsBack_52 : decode cX8_callsBack 52 = .ok (.getfield 70, 3) := by decide +kernel
theorem dX8_callsBack_55 : decode cX8_callsBack 55 = .ok (.iload_n 1, 1) := by decide +kernel
theorem dX8_callsBack_56 : decode cX8_callsBack 56 = .ok (.iconst 0, 1) := by decide +kernel
theorem dX8_callsBack_57 : decode cX8_callsBack 57 = .ok (.iastore, 1) := by decide +kernel
theorem dX8_callsBack_58 : decode cX8_callsBack 58 = .ok (.iload_n 3, 1) := by decide +kernel
theorem dX8_callsBack_59 : decode cX8_callsBack 59 = .ok (.ireturn, 1) := by decide +kernel
theorem dX8_callsBackVersions_0 : decode cX8_callsBackVersions 0 = .ok (.iconst 0, 1) := by decide +kernel
theorem dX8_callsBackVersions_1 : decode cX8_callsBackVersions 1 = .ok (.istore_n 1, 1) := by decide +kernel
theorem dX8_callsBackVersions_2 : decode cX8_callsBackVersions 2 = .ok (.iload_n 1, 1) := by decide +kernel
theorem dX8_callsBackVersions_3 : decode cX8_callsBackVersions 3 = .ok (.aload_n 0, 1) := by decide +kernel
theorem dX8_callsBackVersions_4 : decode cX8_callsBackVersions 4 = .ok (.getfield 116, 3) := by decide +kernel
theorem dX8_callsBackVersions_7 : decode cX8_callsBackVersions 7 = .ok (.if_icmp .ge 82, 3) := by decide +kernel
theorem dX8_callsBackVersions_10 : decode cX8_callsBackVersions 10 = .ok (.aload_n 0, 1) := by decide +kernel
theorem dX8_callsBackVersions_11 : decode cX8_callsBackVersions 11 = .ok (.iload_n 1, 1) := by decide +kernel
theorem dX8_callsBackVersions_12 : decode cX8_callsBackVersions 12 = .ok (.invokevirtual 125, 3) := by decide +kernel
theorem dX8_callsBackVersions_15 : decode cX8_callsBackVersions 15 = .ok (.istore_n 2, 1) := by decide +kernel
theorem dX8_callsBackVersions_16 : decode cX8_callsBackVersions 16 = .ok (.aload_n 0, 1) := by decide +kernel
theorem dX8_callsBackVersions_17 : decode cX8_callsBackVersions 17 = .ok (.getfield 40, 3) := by decide +kernel
theorem dX8_callsBackVersions_20 : decode cX8_callsBackVersions 20 = .ok (.iload_n 1, 1) := by decide +kernel
theorem dX8_callsBackVersions_21 : decode cX8_callsBackVersions 21 = .ok (.iload_n 2, 1) := by decide +kernel
theorem dX8_callsBackVersions_22 : decode cX8_callsBackVersions 22 = .ok (.ifCond .eq 7, 3) := by decide +kernel
theorem dX8_callsBackVersions_25 : decode cX8_callsBackVersions 25 = .ok (.iconst 1, 1) := by decide +kernel
theorem dX8_callsBackVersions_26 : decode cX8_callsBackVersions 26 = .ok (.goto 9, 3) := by decide +kernel
theorem dX8_callsBackVersions_29 : decode cX8_callsBackVersions 29 = .ok (.aload_n 0, 1) := by decide +kernel
theorem dX8_callsBackVersions_30 : decode cX8_callsBackVersions 30 = .ok (.getfield 40, 3) := by decide +kernel
theorem dX8_callsBackVersions_33 : decode cX8_callsBackVersions 33 = .ok (.iload_n 1, 1) := by decide +kernel
theorem dX8_callsBackVersions_34 : decode cX8_callsBackVersions 34 = .ok (.iaload, 1) := by decide +kernel
theorem dX8_callsBackVersions_35 : decode cX8_callsBackVersions 35 = .ok (.iastore, 1) := by decide +kernel
theorem dX8_callsBackVersions_36 : decode cX8_callsBackVersions 36 = .ok (.iconst 0, 1) := by decide +kernel
theorem dX8_callsBackVersions_37 : decode cX8_callsBackVersions 37 = .ok (.istore_n 3, 1) := by decide +kernel
theorem dX8_callsBackVersions_38 : decode cX8_callsBackVersions 38 = .ok (.iload_n 3, 1) := by decide +kernel
theorem dX8_callsBackVersions_39 : decode cX8_callsBackVersions 39 = .ok (.aload_n 0, 1) := by decide +kernel
theorem dX8_callsBackVersions_40 : decode cX8_callsBackVersions 40 = .ok (.getfield 128, 3) := by decide +kernel
theorem dX8_callsBackVersions_43 : decode cX8_callsBackVersions 43 = .ok (.if_icmp .ge 40, 3) := by decide +kernel
theorem dX8_callsBackVersions_46 : decode cX8_callsBackVersions 46 = .ok (.aload_n 0, 1) := by decide +kernel
theorem dX8_callsBackVersions_47 : decode cX8_callsBackVersions 47 = .ok (.getfield 43, 3) := by decide +kernel
theorem dX8_callsBackVersions_50 : decode cX8_callsBackVersions 50 = .ok (.iload_n 1, 1) := by decide +kernel
theorem dX8_callsBackVersions_51 : decode cX8_callsBackVersions 51 = .ok (.iaload, 1) := by decide +kernel
theorem dX8_callsBackVersions_52 : decode cX8_callsBackVersions 52 = .ok (.iconst 1, 1) := by decide +kernel
theorem dX8_callsBackVersions_53 : decode cX8_callsBackVersions 53 = .ok (.if_icmp .ne 30, 3) := by decide +kernel
theorem dX8_callsBackVersions_56 : decode cX8_callsBackVersions 56 = .ok (.iload_n 2, 1) := by decide +kernel
theorem dX8_callsBackVersions_57 : decode cX8_callsBackVersions 57 = .ok (.ifCond .ne 26, 3) := by decide +kernel
theorem dX8_callsBackVersions_60 : decode cX8_callsBackVersions 60 = .ok (.aload_n 0, 1) := by decide +kernel
theorem dX8_callsBackVersions_61 : decode cX8_callsBackVersions 61 = .ok (.getfield 61, 3) := by decide +kernel
theorem dX8_callsBackVersions_64 : decode cX8_callsBackVersions 64 = .ok (.iload_n 3, 1) := by decide +kernel
theorem dX8_callsBackVersions_65 : decode cX8_callsBackVersions 65 = .ok (.iaload, 1) := by decide +kernel
theorem dX8_callsBackVersions_66 : decode cX8_callsBackVersions 66 = .ok (.iload_n 1, 1) := by decide +kernel
theorem dX8_callsBackVersions_67 : decode cX8_callsBackVersions 67 = .ok (.if_icmp .ne 10, 3) := by decide +kernel
theorem dX8_callsBackVersions_70 : decode cX8_callsBackVersions 70 = .ok (.aload_n 0, 1) := by decide +kernel
theorem dX8_callsBackVersions_71 : decode cX8_callsBackVersions 71 = .ok (.iload_n 3, 1) := by decide +kernel
theorem dX8_callsBackVersions_72 : decode cX8_callsBackVersions 72 = .ok (.iconst 1, 1) := by decide +kernel
theorem dX8_callsBackVersions_73 : decode cX8_callsBackVersions 73 = .ok (.invokevirtual 131, 3) := by decide +kernel
theorem dX8_callsBackVersions_76 : decode cX8_callsBackVersions 76 = .ok (.pop, 1) := by decide +kernel
theorem dX8_callsBackVersions_77 : decode cX8_callsBackVersions 77 = .ok (.iinc 3 1, 3) := by decide +kernel
theorem dX8_callsBackVersions_80 : decode cX8_callsBackVersions 80 = .ok (.goto (-42), 3) := by decide +kernel
theorem dX8_callsBackVersions_83 : decode cX8_callsBackVersions 83 = .ok (.iinc 1 1, 3) := by decide +kernel
theorem dX8_callsBackVersions_86 : decode cX8_callsBackVersions 86 = .ok (.goto (-84), 3) := by decide +kernel
theorem dX8_callsBackVersions_89 : decode cX8_callsBackVersions 89 = .ok (.return_, 1) := by decide +kernel
theorem dX8_tell_0 : decode cX8_tell 0 = .ok (.aload_n 0, 1) := by decide +kernel
theorem dX8_tell_1 : decode cX8_tell 1 = .ok (.aload_n 0, 1) := by decide +kernel
theorem dX8_tell_2 : decode cX8_tell 2 = .ok (.iload_n 1, 1) := by decide +kernel
theorem dX8_tell_3 : decode cX8_tell 3 = .ok (.iload_n 2, 1) := by decide +kernel
theorem dX8_tell_4 : decode cX8_tell 4 = .ok (.iconst 2, 1) := by decide +kernel
theorem dX8_tell_5 : decode cX8_tell 5 = .ok (.invokevirtual 109, 3) := by decide +kernel
theorem dX8_tell_8 : decode cX8_tell 8 = .ok (.putfield 82, 3) := by decide +kernel
theorem dX8_tell_11 : decode cX8_tell 11 = .ok (.aload_n 0, 1) := by decide +kernel
theorem dX8_tell_12 : decode cX8_tell 12 = .ok (.getfield 82, 3) := by decide +kernel
theorem dX8_tell_15 : decode cX8_tell 15 = .ok (.ifCond .le 5, 3) := by decide +kernel
theorem dX8_tell_18 : decode cX8_tell 18 = .ok (.iconst 0, 1) := by decide +kernel
theorem dX8_tell_19 : decode cX8_tell 19 = .ok (.ireturn, 1) := by decide +kernel
theorem dX8_tell_20 : decode cX8_tell 20 = .ok (.aload_n 0, 1) := by decide +kernel
theorem dX8_tell_21 : decode cX8_tell 21 = .ok (.getfield 7, 3) := by decide +kernel
theorem dX8_tell_24 : decode cX8_tell 24 = .ok (.iload_n 2, 1) := by decide +kernel
theorem dX8_tell_25 : decode cX8_tell 25 = .ok (.iaload, 1) := by decide +kernel
theorem dX8_tell_26 : decode cX8_tell 26 = .ok (.aload_n 0, 1) := by decide +kernel
theorem dX8_tell_27 : decode cX8_tell 27 = .ok (.getfield 7, 3) := by decide +kernel
theorem dX8_tell_30 : decode cX8_tell 30 = .ok (.iload_n 1, 1) := by decide +kernel
theorem dX8_tell_31 : decode cX8_tell 31 = .ok (.iaload, 1) := by decide +kernel
theorem dX8_tell_32 : decode cX8_tell 32 = .ok (.if_icmp .le 16, 3) := by decide +kernel
theorem dX8_tell_35 : decode cX8_tell 35 = .ok (.aload_n 0, 1) := by decide +kernel
theorem dX8_tell_36 : decode cX8_tell 36 = .ok (.iload_n 1, 1) := by decide +kernel
theorem dX8_tell_37 : decode cX8_tell 37 = .ok (.aload_n 0, 1) := by decide +kernel
theorem dX8_tell_38 : decode cX8_tell 38 = .ok (.getfield 7, 3) := by decide +kernel
theorem dX8_tell_41 : decode cX8_tell 41 = .ok (.iload_n 2, 1) := by decide +kernel
theorem dX8_tell_42 : decode cX8_tell 42 = .ok (.iaload, 1) := by decide +kernel
theorem dX8_tell_43 : decode cX8_tell 43 = .ok (.invokevirtual 97, 3) := by decide +kernel
theorem dX8_tell_46 : decode cX8_tell 46 = .ok (.iconst (-1), 1) := by decide +kernel
theorem dX8_tell_47 : decode cX8_tell 47 = .ok (.ireturn, 1) := by decide +kernel
theorem dX8_tell_48 : decode cX8_tell 48 = .ok (.aload_n 0, 1) := by decide +kernel
theorem dX8_tell_49 : decode cX8_tell 49 = .ok (.getfield 7, 3) := by decide +kernel
theorem dX8_tell_52 : decode cX8_tell 52 = .ok (.iload_n 2, 1) := by decide +kernel
theorem dX8_tell_53 : decode cX8_tell 53 = .ok (.iaload, 1) := by decide +kernel
theorem dX8_tell_54 : decode cX8_tell 54 = .ok (.aload_n 0, 1) := by decide +kernel
theorem dX8_tell_55 : decode cX8_tell 55 = .ok (.getfield 7, 3) := by decide +kernel
theorem dX8_tell_58 : decode cX8_tell 58 = .ok (.iload_n 1, 1) := by decide +kernel
theorem dX8_tell_59 : decode cX8_tell 59 = .ok (.iaload, 1) := by decide +kernel
theorem dX8_tell_60 : decode cX8_tell 60 = .ok (.if_icmp .ge 14, 3) := by decide +kernel
theorem dX8_tell_63 : decode cX8_tell 63 = .ok (.aload_n 0, 1) := by decide +kernel
theorem dX8_tell_64 : decode cX8_tell 64 = .ok (.iload_n 2, 1) := by decide +kernel
theorem dX8_tell_65 : decode cX8_tell 65 = .ok (.aload_n 0, 1) := by decide +kernel
theorem dX8_tell_66 : decode cX8_tell 66 = .ok (.getfield 7, 3) := by decide +kernel
theorem dX8_tell_69 : decode cX8_tell 69 = .ok (.iload_n 1, 1) := by decide +kernel
theorem dX8_tell_70 : decode cX8_tell 70 = .ok (.iaload, 1) := by decide +kernel
theorem dX8_tell_71 : decode cX8_tell 71 = .ok (.invokevirtual 97, 3) := by decide +kernel
theorem dX8_tell_74 : decode cX8_tell 74 = .ok (.aload_n 0, 1) := by decide +kernel
theorem dX8_tell_75 : decode cX8_tell 75 = .ok (.getfield 13, 3) := by decide +kernel
theorem dX8_tell_78 : decode cX8_tell 78 = .ok (.iload_n 2, 1) := by decide +kernel
theorem dX8_tell_79 : decode cX8_tell 79 = .ok (.iconst 0, 1) := by decide +kernel
theorem dX8_tell_80 : decode cX8_tell 80 = .ok (.iastore, 1) := by decide +kernel
theorem dX8_tell_81 : decode cX8_tell 81 = .ok (.iconst 0, 1) := by decide +kernel
theorem dX8_tell_82 : decode cX8_tell 82 = .ok (.istore_n 3, 1) := by decide +kernel
theorem dX8_tell_83 : decode cX8_tell 83 = .ok (.iload_n 3, 1) := by decide +kernel
theorem dX8_tell_84 : decode cX8_tell 84 = .ok (.aload_n 0, 1) := by decide +kernel
theorem dX8_tell_85 : decode cX8_tell 85 = .ok (.getfield 116, 3) := by decide +kernel
theorem dX8_tell_88 : decode cX8_tell 88 = .ok (.if_icmp .ge 28, 3) := by decide +kernel
theorem dX8_tell_91 : decode cX8_tell 91 = .ok (.aload_n 0, 1) := by decide +kernel
theorem dX8_tell_92 : decode cX8_tell 92 = .ok (.getfield 43, 3) := by decide +kernel
theorem dX8_tell_95 : decode cX8_tell 95 = .ok (.iload_n 3, 1) := by decide +kernel
theorem dX8_tell_96 : decode cX8_tell 96 = .ok (.aload_n 0, 1) := by decide +kernel
theorem dX8_tell_97 : decode cX8_tell 97 = .ok (.iload_n 3, 1) := by decide +kernel
theorem dX8_tell_98 : decode cX8_tell 98 = .ok (.invokevirtual 125, 3) := by decide +kernel
theorem dX8_tell_101 : decode cX8_tell 101 = .ok (.ifCond .eq 7, 3) := by decide +kernel
theorem dX8_tell_104 : decode cX8_tell 104 = .ok (.iconst 1, 1) := by decide +kernel
theorem dX8_tell_105 : decode cX8_tell 105 = .ok (.goto 4, 3) := by decide +kernel
theorem dX8_tell_108 : decode cX8_tell 108 = .ok (.iconst 0, 1) := by decide +kernel
theorem dX8_tell_109 : decode cX8_tell 109 = .ok (.iastore, 1) := by decide +kernel
theorem dX8_tell_110 : decode cX8_tell 110 = .ok (.iinc 3 1, 3) := by decide +kernel
theorem dX8_tell_113 : decode cX8_tell 113 = .ok (.goto (-30), 3) := by decide +kernel
theorem dX8_tell_116 : decode cX8_tell 116 = .ok (.iconst 0, 1) := by decide +kernel
theorem dX8_tell_117 : decode cX8_tell 117 = .ok (.istore_n 3, 1) := by decide +kernel
theorem dX8_tell_118 : decode cX8_tell 118 = .ok (.iload_n 3, 1) := by decide +kernel
theorem dX8_tell_119 : decode cX8_tell 119 = .ok (.aload_n 0, 1) := by decide +kernel
theorem dX8_tell_120 : decode cX8_tell 120 = .ok (.getfield 25, 3) := by decide +kernel
theorem dX8_tell_123 : decode cX8_tell 123 = .ok (.iload_n 1, 1) := by decide +kernel
theorem dX8_tell_124 : decode cX8_tell 124 = .ok (.iaload, 1) := by decide +kernel
theorem dX8_tell_125 : decode cX8_tell 125 = .ok (.if_icmp .ge 44, 3) := by decide +kernel
theorem dX8_tell_128 : decode cX8_tell 128 = .ok (.iload_n 3, 1) := by decide +kernel
theorem dX8_tell_129 : decode cX8_tell 129 = .ok (.aload_n 0, 1) := by decide +kernel
theorem dX8_tell_130 : decode cX8_tell 130 = .ok (.getfield 25, 3) := by decide +kernel
theorem dX8_tell_133 : decode cX8_tell 133 = .ok (.iload_n 2, 1) := by decide +kernel
theorem dX8_tell_134 : decode cX8_tell 134 = .ok (.iaload, 1) := by decide +kernel
theorem dX8_tell_135 : decode cX8_tell 135 = .ok (.if_icmp .ge 34, 3) := by decide +kernel
theorem dX8_tell_138 : decode cX8_tell 138 = .ok (.aload_n 0, 1) := by decide +kernel
theorem dX8_tell_139 : decode cX8_tell 139 = .ok (.getfield 22, 3) := by decide +kernel
theorem dX8_tell_142 : decode cX8_tell 142 = .ok (.bipush 20, 2) := by decide +kernel
theorem dX8_tell_144 : decode cX8_tell 144 = .ok (.iload_n 1, 1) := by decide +kernel
theorem dX8_tell_145 : decode cX8_tell 145 = .ok (.imul, 1) := by decide +kernel
theorem dX8_tell_146 : decode cX8_tell 146 = .ok (.iload_n 3, 1) := by decide +kernel
theorem dX8_tell_147 : decode cX8_tell 147 = .ok (.iadd, 1) := by decide +kernel
theorem dX8_tell_148 : decode cX8_tell 148 = .ok (.iaload, 1) := by decide +kernel
theorem dX8_tell_149 : decode cX8_tell 149 = .ok (.aload_n 0, 1) := by decide +kernel
theorem dX8_tell_150 : decode cX8_tell 150 = .ok (.getfield 22, 3) := by decide +kernel
theorem dX8_tell_153 : decode cX8_tell 153 = .ok (.bipush 20, 2) := by decide +kernel
theorem dX8_tell_155 : decode cX8_tell 155 = .ok (.iload_n 2, 1) := by decide +kernel
theorem dX8_tell_156 : decode cX8_tell 156 = .ok (.imul, 1) := by decide +kernel
theorem dX8_tell_157 : decode cX8_tell 157 = .ok (.iload_n 3, 1) := by decide +kernel
theorem dX8_tell_158 : decode cX8_tell 158 = .ok (.iadd, 1) := by decide +kernel
theorem dX8_tell_159 : decode cX8_tell 159 = .ok (.iaload, 1) := by decide +kernel
theorem dX8_tell_160 : decode cX8_tell 160 = .ok (.if_icmp .ne 9, 3) := by decide +kernel
theorem dX8_tell_163 : decode cX8_tell 163 = .ok (.iinc 3 1, 3) := by decide +kernel
theorem dX8_tell_166 : decode cX8_tell 166 = .ok (.goto (-48), 3) := by decide +kernel
theorem dX8_tell_169 : decode cX8_tell 169 = .ok (.aload_n 0, 1) := by decide +kernel
theorem dX8_tell_170 : decode cX8_tell 170 = .ok (.getfield 25, 3) := by decide +kernel
theorem dX8_tell_173 : decode cX8_tell 173 = .ok (.iload_n 2, 1) := by decide +kernel
theorem dX8_tell_174 : decode cX8_tell 174 = .ok (.iload_n 3, 1) := by decide +kernel
theorem dX8_tell_175 : decode cX8_tell 175 = .ok (.aload_n 0, 1) := by decide +kernel
theorem dX8_tell_176 : decode cX8_tell 176 = .ok (.getfield 25, 3) := by decide +kernel
theorem dX8_tell_179 : decode cX8_tell 179 = .ok (.iload_n 1, 1) := by decide +kernel
theorem dX8_tell_180 : decode cX8_tell 180 = .ok (.iaload, 1) := by decide +kernel
theorem dX8_tell_181 : decode cX8_tell 181 = .ok (.if_icmp .ge 17, 3) := by decide +kernel
theorem dX8_tell_184 : decode cX8_tell 184 = .ok (.iload_n 3, 1) := by decide +kernel
theorem dX8_tell_185 : decode cX8_tell 185 = .ok (.aload_n 0, 1) := by decide +kernel
theorem dX8_tell_186 : decode cX8_tell 186 = .ok (.getfield 25, 3) := by decide +kernel
theorem dX8_tell_189 : decode cX8_tell 189 = .ok (.iload_n 2, 1) := by decide +kernel
theorem dX8_tell_190 : decode cX8_tell 190 = .ok (.iaload, 1) := by decide +kernel
theorem dX8_tell_191 : decode cX8_tell 191 = .ok (.if_icmp .ge 7, 3) := by decide +kernel
theorem dX8_tell_194 : decode cX8_tell 194 = .ok (.iload_n 3, 1) := by decide +kernel
theorem dX8_tell_195 : decode cX8_tell 195 = .ok (.goto 9, 3) := by decide +kernel
theorem dX8_tell_198 : decode cX8_tell 198 = .ok (.aload_n 0, 1) := by decide +kernel
theorem dX8_tell_199 : decode cX8_tell 199 = .ok (.getfield 25, 3) := by decide +kernel
theorem dX8_tell_202 : decode cX8_tell 202 = .ok (.iload_n 2, 1) := by decide +kernel
theorem dX8_tell_203 : decode cX8_tell 203 = .ok (.iaload, 1) := by decide +kernel
theorem dX8_tell_204 : decode cX8_tell 204 = .ok (.iastore, 1) := by decide +kernel
theorem dX8_tell_205 : decode cX8_tell 205 = .ok (.iconst 0, 1) := by decide +kernel
theorem dX8_tell_206 : decode cX8_tell 206 = .ok (.istore 4, 2) := by decide +kernel
theorem dX8_tell_208 : decode cX8_tell 208 = .ok (.aload_n 0, 1) := by decide +kernel
theorem dX8_tell_209 : decode cX8_tell 209 = .ok (.getfield 25, 3) := by decide +kernel
theorem dX8_tell_212 : decode cX8_tell 212 = .ok (.iload_n 2, 1) := by decide +kernel
theorem dX8_tell_213 : decode cX8_tell 213 = .ok (.iaload, 1) := by decide +kernel
theorem dX8_tell_214 : decode cX8_tell 214 = .ok (.aload_n 0, 1) := by decide +kernel
theorem dX8_tell_215 : decode cX8_tell 215 = .ok (.getfield 25, 3) := by decide +kernel
theorem dX8_tell_218 : decode cX8_tell 218 = .ok (.iload_n 1, 1) := by decide +kernel
theorem dX8_tell_219 : decode cX8_tell 219 = .ok (.iaload, 1) := by decide +kernel
theorem dX8_tell_220 : decode cX8_tell 220 = .ok (.if_icmp .ge 51, 3) := by decide +kernel
theorem dX8_tell_223 : decode cX8_tell 223 = .ok (.aload_n 0, 1) := by decide +kernel
theorem dX8_tell_224 : decode cX8_tell 224 = .ok (.getfield 22, 3) := by decide +kernel
theorem dX8_tell_227 : decode cX8_tell 227 = .ok (.bipush 20, 2) := by decide +kernel
theorem dX8_tell_229 : decode cX8_tell 229 = .ok (.iload_n 2, 1) := by decide +kernel
theorem dX8_tell_230 : decode cX8_tell 230 = .ok (.imul, 1) := by decide +kernel
theorem dX8_tell_231 : decode cX8_tell 231 = .ok (.aload_n 0, 1) := by decide +kernel
theorem dX8_tell_232 : decode cX8_tell 232 = .ok (.getfield 25, 3) := by decide +kernel
theorem dX8_tell_235 : decode cX8_tell 235 = .ok (.iload_n 2, 1) := by decide +kernel
theorem dX8_tell_236 : decode cX8_tell 236 = .ok (.iaload, 1) := by decide +kernel
theorem dX8_tell_237 : decode cX8_tell 237 = .ok (.iadd, 1) := by decide +kernel
theorem dX8_tell_238 : decode cX8_tell 238 = .ok (.aload_n 0, 1) := by decide +kernel
theorem dX8_tell_239 : decode cX8_tell 239 = .ok (.getfield 22, 3) := by decide +kernel
theorem dX8_tell_242 : decode cX8_tell 242 = .ok (.bipush 20, 2) := by decide +kernel
theorem dX8_tell_244 : decode cX8_tell 244 = .ok (.iload_n 1, 1) := by decide +kernel
theorem dX8_tell_245 : decode cX8_tell 245 = .ok (.imul, 1) := by decide +kernel
theorem dX8_tell_246 : decode cX8_tell 246 = .ok (.aload_n 0, 1) := by decide +kernel
theorem dX8_tell_247 : decode cX8_tell 247 = .ok (.getfield 25, 3) := by decide +kernel
theorem dX8_tell_250 : decode cX8_tell 250 = .ok (.iload_n 2, 1) := by decide +kernel
theorem dX8_tell_251 : decode cX8_tell 251 = .ok (.iaload, 1) := by decide +kernel
theorem dX8_tell_252 : decode cX8_tell 252 = .ok (.iadd, 1) := by decide +kernel
theorem dX8_tell_253 : decode cX8_tell 253 = .ok (.iaload, 1) := by decide +kernel
theorem dX8_tell_254 : decode cX8_tell 254 = .ok (.iastore, 1) := by decide +kernel
theorem dX8_tell_255 : decode cX8_tell 255 = .ok (.aload_n 0, 1) := by decide +kernel
theorem dX8_tell_256 : decode cX8_tell 256 = .ok (.getfield 25, 3) := by decide +kernel
theorem dX8_tell_259 : decode cX8_tell 259 = .ok (.iload_n 2, 1) := by decide +kernel
theorem dX8_tell_260 : decode cX8_tell 260 = .ok (.dup2, 1) := by decide +kernel
theorem dX8_tell_261 : decode cX8_tell 261 = .ok (.iaload, 1) := by decide +kernel
theorem dX8_tell_262 : decode cX8_tell 262 = .ok (.iconst 1, 1) := by decide +kernel
theorem dX8_tell_263 : decode cX8_tell 263 = .ok (.iadd, 1) := by decide +kernel
theorem dX8_tell_264 : decode cX8_tell 264 = .ok (.iastore, 1) := by decide +kernel
theorem dX8_tell_265 : decode cX8_tell 265 = .ok (.iinc 4 1, 3) := by decide +kernel
theorem dX8_tell_268 : decode cX8_tell 268 = .ok (.goto (-60), 3) := by decide +kernel
theorem dX8_tell_271 : decode cX8_tell 271 = .ok (.aload_n 0, 1) := by decide +kernel
theorem dX8_tell_272 : decode cX8_tell 272 = .ok (.invokevirtual 135, 3) := by decide +kernel
theorem dX8_tell_275 : decode cX8_tell 275 = .ok (.iload 4, 2) := by decide +kernel
theorem dX8_tell_277 : decode cX8_tell 277 = .ok (.ireturn, 1) := by decide +kernel
theorem dX8_isTold_0 : decode cX8_isTold 0 = .ok (.aload_n 0, 1) := by decide +kernel
theorem dX8_isTold_1 : decode cX8_isTold 1 = .ok (.iload_n 1, 1) := by decide +kernel
theorem dX8_isTold_2 : decode cX8_isTold 2 = .ok (.invokestatic 93, 3) := by decide +kernel
theorem dX8_isTold_5 : decode cX8_isTold 5 = .ok (.ifCond .eq 7, 3) := by decide +kernel
theorem dX8_isTold_8 : decode cX8_isTold 8 = .ok (.iconst 0, 1) := by decide +kernel
theorem dX8_isTold_9 : decode cX8_isTold 9 = .ok (.goto 4, 3) := by decide +kernel
theorem dX8_isTold_12 : decode cX8_isTold 12 = .ok (.iconst 1, 1) := by decide +kernel
theorem dX8_isTold_13 : decode cX8_isTold 13 = .ok (.putfield 82, 3) := by decide +kernel
theorem dX8_isTold_16 : decode cX8_isTold 16 = .ok (.aload_n 0, 1) := by decide +kernel
theorem dX8_isTold_17 : decode cX8_isTold 17 = .ok (.getfield 82, 3) := by decide +kernel
theorem dX8_isTold_20 : decode cX8_isTold 20 = .ok (.ifCond .ne 7, 3) := by decide +kernel
theorem dX8_isTold_23 : decode cX8_isTold 23 = .ok (.iconst 1, 1) := by decide +kernel
theorem dX8_isTold_24 : decode cX8_isTold 24 = .ok (.goto 4, 3) := by decide +kernel
theorem dX8_isTold_27 : decode cX8_isTold 27 = .ok (.iconst 0, 1) := by decide +kernel
theorem dX8_isTold_28 : decode cX8_isTold 28 = .ok (.ireturn, 1) := by decide +kernel
theorem dX8_role_0 : decode cX8_role 0 = .ok (.aload_n 0, 1) := by decide +kernel
theorem dX8_role_1 : decode cX8_role 1 = .ok (.iload_n 1, 1) := by decide +kernel
theorem dX8_role_2 : decode cX8_role 2 = .ok (.invokevirtual 138, 3) := by decide +kernel
theorem dX8_role_5 : decode cX8_role 5 = .ok (.ifCond .eq 12, 3) := by decide +kernel
theorem dX8_role_8 : decode cX8_role 8 = .ok (.aload_n 0, 1) := by decide +kernel
theorem dX8_role_9 : decode cX8_role 9 = .ok (.getfield 13, 3) := by decide +kernel
theorem dX8_role_12 : decode cX8_role 12 = .ok (.iload_n 1, 1) := by decide +kernel
theorem dX8_role_13 : decode cX8_role 13 = .ok (.iaload, 1) := by decide +kernel
theorem dX8_role_14 : decode cX8_role 14 = .ok (.goto 4, 3) := by decide +kernel
theorem dX8_role_17 : decode cX8_role 17 = .ok (.iconst 0, 1) := by decide +kernel
theorem dX8_role_18 : decode cX8_role 18 = .ok (.ireturn, 1) := by decide +kernel
theorem dX8_term_0 : decode cX8_term 0 = .ok (.aload_n 0, 1) := by decide +kernel
theorem dX8_term_1 : decode cX8_term 1 = .ok (.iload_n 1, 1) := by decide +kernel
theorem dX8_term_2 : decode cX8_term 2 = .ok (.invokevirtual 138, 3) := by decide +kernel
theorem dX8_term_5 : decode cX8_term 5 = .ok (.ifCond .eq 12, 3) := by decide +kernel
theorem dX8_term_8 : decode cX8_term 8 = .ok (.aload_n 0, 1) := by decide +kernel
theorem dX8_term_9 : decode cX8_term 9 = .ok (.getfield 7, 3) := by decide +kernel
theorem dX8_term_12 : decode cX8_term 12 = .ok (.iload_n 1, 1) := by decide +kernel
theorem dX8_term_13 : decode cX8_term 13 = .ok (.iaload, 1) := by decide +kernel
theorem dX8_term_14 : decode cX8_term 14 = .ok (.goto 4, 3) := by decide +kernel
theorem dX8_term_17 : decode cX8_term 17 = .ok (.iconst 0, 1) := by decide +kernel
theorem dX8_term_18 : decode cX8_term 18 = .ok (.ireturn, 1) := by decide +kernel
theorem dX8_votedFor_0 : decode cX8_votedFor 0 = .ok (.aload_n 0, 1) := by decide +kernel
theorem dX8_votedFor_1 : decode cX8_votedFor 1 = .ok (.iload_n 1, 1) := by decide +kernel
theorem dX8_votedFor_2 : decode cX8_votedFor 2 = .ok (.invokevirtual 138, 3) := by decide +kernel
theorem dX8_votedFor_5 : decode cX8_votedFor 5 = .ok (.ifCond .eq 14, 3) := by decide +kernel
theorem dX8_votedFor_8 : decode cX8_votedFor 8 = .ok (.aload_n 0, 1) := by decide +kernel
theorem dX8_votedFor_9 : decode cX8_votedFor 9 = .ok (.getfield 16, 3) := by decide +kernel
theorem dX8_votedFor_12 : decode cX8_votedFor 12 = .ok (.iload_n 1, 1) := by decide +kernel
theorem dX8_votedFor_13 : decode cX8_votedFor 13 = .ok (.iaload, 1) := by decide +kernel
theorem dX8_votedFor_14 : decode cX8_votedFor 14 = .ok (.iconst 1, 1) := by decide +kernel
theorem dX8_votedFor_15 : decode cX8_votedFor 15 = .ok (.isub, 1) := by decide +kernel
theorem dX8_votedFor_16 : decode cX8_votedFor 16 = .ok (.goto 4, 3) := by decide +kernel
theorem dX8_votedFor_19 : decode cX8_votedFor 19 = .ok (.iconst 0, 1) := by decide +kernel
theorem dX8_votedFor_20 : decode cX8_votedFor 20 = .ok (.ireturn, 1) := by decide +kernel
theorem dX8_reach_0 : decode cX8_reach 0 = .ok (.aload_n 0, 1) := by decide +kernel
theorem dX8_reach_1 : decode cX8_reach 1 = .ok (.iload_n 1, 1) := by decide +kernel
theorem dX8_reach_2 : decode cX8_reach 2 = .ok (.invokestatic 93, 3) := by decide +kernel
theorem dX8_reach_5 : decode cX8_reach 5 = .ok (.ifCond .eq 14, 3) := by decide +kernel
theorem dX8_reach_8 : decode cX8_reach 8 = .ok (.iload_n 2, 1) := by decide +kernel
theorem dX8_reach_9 : decode cX8_reach 9 = .ok (.invokestatic 93, 3) := by decide +kernel
theorem dX8_reach_12 : decode cX8_reach 12 = .ok (.ifCond .eq 7, 3) := by decide +kernel
theorem dX8_reach_15 : decode cX8_reach 15 = .ok (.iconst 0, 1) := by decide +kernel
theorem dX8_reach_16 : decode cX8_reach 16 = .ok (.goto 4, 3) := by decide +kernel
theorem dX8_reach_19 : decode cX8_reach 19 = .ok (.iconst 1, 1) := by decide +kernel
theorem dX8_reach_20 : decode cX8_reach 20 = .ok (.putfield 82, 3) := by decide +kernel
theorem dX8_reach_23 : decode cX8_reach 23 = .ok (.aload_n 0, 1) := by decide +kernel
theorem dX8_reach_24 : decode cX8_reach 24 = .ok (.getfield 82, 3) := by decide +kernel
theorem dX8_reach_27 : decode cX8_reach 27 = .ok (.ifCond .ne 16, 3) := by decide +kernel
theorem dX8_reach_30 : decode cX8_reach 30 = .ok (.aload_n 0, 1) := by decide +kernel
theorem dX8_reach_31 : decode cX8_reach 31 = .ok (.iload_n 1, 1) := by decide +kernel
theorem dX8_reach_32 : decode cX8_reach 32 = .ok (.iload_n 2, 1) := by decide +kernel
theorem dX8_reach_33 : decode cX8_reach 33 = .ok (.invokevirtual 105, 3) := by decide +kernel
theorem dX8_reach_36 : decode cX8_reach 36 = .ok (.ifCond .eq 7, 3) := by decide +kernel
theorem dX8_reach_39 : decode cX8_reach 39 = .ok (.iconst 1, 1) := by decide +kernel
theorem dX8_reach_40 : decode cX8_reach 40 = .ok (.goto 4, 3) := by decide +kernel
theorem dX8_reach_43 : decode cX8_reach 43 = .ok (.iconst 0, 1) := by decide +kernel
theorem dX8_reach_44 : decode cX8_reach 44 = .ok (.ireturn, 1) := by decide +kernel
theorem dX8_entries_0 : decode cX8_entries 0 = .ok (.aload_n 0, 1) := by decide +kernel
theorem dX8_entries_1 : decode cX8_entries 1 = .ok (.iload_n 1, 1) := by decide +kernel
theorem dX8_entries_2 : decode cX8_entries 2 = .ok (.invokevirtual 138, 3) := by decide +kernel
theorem dX8_entries_5 : decode cX8_entries 5 = .ok (.ifCond .eq 12, 3) := by decide +kernel
theorem dX8_entries_8 : decode cX8_entries 8 = .ok (.aload_n 0, 1) := by decide +kernel
theorem dX8_entries_9 : decode cX8_entries 9 = .ok (.getfield 25, 3) := by decide +kernel
theorem dX8_entries_12 : decode cX8_entries 12 = .ok (.iload_n 1, 1) := by decide +kernel
theorem dX8_entries_13 : decode cX8_entries 13 = .ok (.iaload, 1) := by decide +kernel
theorem dX8_entries_14 : decode cX8_entries 14 = .ok (.goto 4, 3) := by decide +kernel
theorem dX8_entries_17 : decode cX8_entries 17 = .ok (.iconst 0, 1) := by decide +kernel
theorem dX8_entries_18 : decode cX8_entries 18 = .ok (.ireturn, 1) := by decide +kernel
theorem dX8_versionAt_0 : decode cX8_versionAt 0 = .ok (.aload_n 0, 1) := by decide +kernel
theorem dX8_versionAt_1 : decode cX8_versionAt 1 = .ok (.iload_n 1, 1) := by decide +kernel
theorem dX8_versionAt_2 : decode cX8_versionAt 2 = .ok (.invokestatic 93, 3) := by decide +kernel
theorem dX8_versionAt_5 : decode cX8_versionAt 5 = .ok (.ifCond .eq 19, 3) := by decide +kernel
theorem dX8_versionAt_8 : decode cX8_versionAt 8 = .ok (.iload_n 2, 1) := by decide +kernel
theorem dX8_versionAt_9 : decode cX8_versionAt 9 = .ok (.iconst 0, 1) := by decide +kernel
theorem dX8_versionAt_10 : decode cX8_versionAt 10 = .ok (.aload_n 0, 1) := by decide +kernel
theorem dX8_versionAt_11 : decode cX8_versionAt 11 = .ok (.getfield 25, 3) := by decide +kernel
theorem dX8_versionAt_14 : decode cX8_versionAt 14 = .ok (.iload_n 1, 1) := by decide +kernel
theorem dX8_versionAt_15 : decode cX8_versionAt 15 = .ok (.iaload, 1) := by decide +kernel
theorem dX8_versionAt_16 : decode cX8_versionAt 16 = .ok (.iconst 1, 1) := by decide +kernel
theorem dX8_versionAt_17 : decode cX8_versionAt 17 = .ok (.isub, 1) := by decide +kernel
theorem dX8_versionAt_18 : decode cX8_versionAt 18 = .ok (.invokestatic 86, 3) := by decide +kernel
theorem dX8_versionAt_21 : decode cX8_versionAt 21 = .ok (.ifCond .ne 7, 3) := by decide +kernel
theorem dX8_versionAt_24 : decode cX8_versionAt 24 = .ok (.iconst 1, 1) := by decide +kernel
theorem dX8_versionAt_25 : decode cX8_versionAt 25 = .ok (.goto 4, 3) := by decide +kernel
theorem dX8_versionAt_28 : decode cX8_versionAt 28 = .ok (.iconst 0, 1) := by decide +kernel
theorem dX8_versionAt_29 : decode cX8_versionAt 29 = .ok (.putfield 82, 3) := by decide +kernel
theorem dX8_versionAt_32 : decode cX8_versionAt 32 = .ok (.aload_n 0, 1) := by decide +kernel
theorem dX8_versionAt_33 : decode cX8_versionAt 33 = .ok (.getfield 82, 3) := by decide +kernel
theorem dX8_versionAt_36 : decode cX8_versionAt 36 = .ok (.ifCond .ne 17, 3) := by decide +kernel
theorem dX8_versionAt_39 : decode cX8_versionAt 39 = .ok (.aload_n 0, 1) := by decide +kernel
theorem dX8_versionAt_40 : decode cX8_versionAt 40 = .ok (.getfield 22, 3) := by decide +kernel
theorem dX8_versionAt_43 : decode cX8_versionAt 43 = .ok (.bipush 20, 2) := by decide +kernel
theorem dX8_versionAt_45 : decode cX8_versionAt 45 = .ok (.iload_n 1, 1) := by decide +kernel
theorem dX8_versionAt_46 : decode cX8_versionAt 46 = .ok (.imul, 1) := by decide +kernel
theorem dX8_versionAt_47 : decode cX8_versionAt 47 = .ok (.iload_n 2, 1) := by decide +kernel
theorem dX8_versionAt_48 : decode cX8_versionAt 48 = .ok (.iadd, 1) := by decide +kernel
theorem dX8_versionAt_49 : decode cX8_versionAt 49 = .ok (.iaload, 1) := by decide +kernel
theorem dX8_versionAt_50 : decode cX8_versionAt 50 = .ok (.goto 4, 3) := by decide +kernel
theorem dX8_versionAt_53 : decode cX8_versionAt 53 = .ok (.iconst 0, 1) := by decide +kernel
theorem dX8_versionAt_54 : decode cX8_versionAt 54 = .ok (.ireturn, 1) := by decide +kernel
theorem dX8_versions_0 : decode cX8_versions 0 = .ok (.aload_n 0, 1) := by decide +kernel
theorem dX8_versions_1 : decode cX8_versions 1 = .ok (.iconst 0, 1) := by decide +kernel
theorem dX8_versions_2 : decode cX8_versions 2 = .ok (.putfield 82, 3) := by decide +kernel
theorem dX8_versions_5 : decode cX8_versions 5 = .ok (.aload_n 0, 1) := by decide +kernel
theorem dX8_versions_6 : decode cX8_versions 6 = .ok (.getfield 116, 3) := by decide +kernel
theorem dX8_versions_9 : decode cX8_versions 9 = .ok (.ireturn, 1) := by decide +kernel
theorem dX8_isVersion_0 : decode cX8_isVersion 0 = .ok (.aload_n 0, 1) := by decide +kernel
theorem dX8_isVersion_1 : decode cX8_isVersion 1 = .ok (.iload_n 1, 1) := by decide +kernel
theorem dX8_isVersion_2 : decode cX8_isVersion 2 = .ok (.iconst 0, 1) := by decide +kernel
theorem dX8_isVersion_3 : decode cX8_isVersion 3 = .ok (.aload_n 0, 1) := by decide +kernel
theorem dX8_isVersion_4 : decode cX8_isVersion 4 = .ok (.getfield 116, 3) := by decide +kernel
theorem dX8_isVersion_7 : decode cX8_isVersion 7 = .ok (.iconst 1, 1) := by decide +kernel
theorem dX8_isVersion_8 : decode cX8_isVersion 8 = .ok (.isub, 1) := by decide +kernel
theorem dX8_isVersion_9 : decode cX8_isVersion 9 = .ok (.invokestatic 86, 3) := by decide +kernel
theorem dX8_isVersion_12 : decode cX8_isVersion 12 = .ok (.ifCond .eq 7, 3) := by decide +kernel
theorem dX8_isVersion_15 : decode cX8_isVersion 15 = .ok (.iconst 0, 1) := by decide +kernel
theorem dX8_isVersion_16 : decode cX8_isVersion 16 = .ok (.goto 4, 3) := by decide +kernel
theorem dX8_isVersion_19 : decode cX8_isVersion 19 = .ok (.iconst 1, 1) := by decide +kernel
theorem dX8_isVersion_20 : decode cX8_isVersion 20 = .ok (.putfield 82, 3) := by decide +kernel
theorem dX8_isVersion_23 : decode cX8_isVersion 23 = .ok (.aload_n 0, 1) := by decide +kernel
theorem dX8_isVersion_24 : decode cX8_isVersion 24 = .ok (.getfield 82, 3) := by decide +kernel
theorem dX8_isVersion_27 : decode cX8_isVersion 27 = .ok (.ifCond .ne 7, 3) := by decide +kernel
theorem dX8_isVersion_30 : decode cX8_isVersion 30 = .ok (.iconst 1, 1) := by decide +kernel
theorem dX8_isVersion_31 : decode cX8_isVersion 31 = .ok (.goto 4, 3) := by decide +kernel
theorem dX8_isVersion_34 : decode cX8_isVersion 34 = .ok (.iconst 0, 1) := by decide +kernel
theorem dX8_isVersion_35 : decode cX8_isVersion 35 = .ok (.ireturn, 1) := by decide +kernel
theorem dX8_termOf_0 : decode cX8_termOf 0 = .ok (.aload_n 0, 1) := by decide +kernel
theorem dX8_termOf_1 : decode cX8_termOf 1 = .ok (.iload_n 1, 1) := by decide +kernel
theorem dX8_termOf_2 : decode cX8_termOf 2 = .ok (.invokevirtual 141, 3) := by decide +kernel
theorem dX8_termOf_5 : decode cX8_termOf 5 = .ok (.ifCond .eq 12, 3) := by decide +kernel
theorem dX8_termOf_8 : decode cX8_termOf 8 = .ok (.aload_n 0, 1) := by decide +kernel
theorem dX8_termOf_9 : decode cX8_termOf 9 = .ok (.getfield 28, 3) := by decide +kernel
theorem dX8_termOf_12 : decode cX8_termOf 12 = .ok (.iload_n 1, 1) := by decide +kernel
theorem dX8_termOf_13 : decode cX8_termOf 13 = .ok (.iaload, 1) := by decide +kernel
theorem dX8_termOf_14 : decode cX8_termOf 14 = .ok (.goto 4, 3) := by decide +kernel
theorem dX8_termOf_17 : decode cX8_termOf 17 = .ok (.iconst 0, 1) := by decide +kernel
theorem dX8_termOf_18 : decode cX8_termOf 18 = .ok (.ireturn, 1) := by decide +kernel
theorem dX8_holders_0 : decode cX8_holders 0 = .ok (.aload_n 0, 1) := by decide +kernel
theorem dX8_holders_1 : decode cX8_holders 1 = .ok (.iload_n 1, 1) := by decide +kernel
theorem dX8_holders_2 : decode cX8_holders 2 = .ok (.invokevirtual 141, 3) := by decide +kernel
theorem dX8_holders_5 : decode cX8_holders 5 = .ok (.ifCond .eq 11, 3) := by decide +kernel
theorem dX8_holders_8 : decode cX8_holders 8 = .ok (.aload_n 0, 1) := by decide +kernel
theorem dX8_holders_9 : decode cX8_holders 9 = .ok (.iload_n 1, 1) := by decide +kernel
theorem dX8_holders_10 : decode cX8_holders 10 = .ok (.invokevirtual 119, 3) := by decide +kernel
theorem dX8_holders_13 : decode cX8_holders 13 = .ok (.goto 4, 3) := by decide +kernel
theorem dX8_holders_16 : decode cX8_holders 16 = .ok (.iconst 0, 1) := by decide +kernel
theorem dX8_holders_17 : decode cX8_holders 17 = .ok (.ireturn, 1) := by decide +kernel
theorem dX8_isHeld_0 : decode cX8_isHeld 0 = .ok (.aload_n 0, 1) := by decide +kernel
theorem dX8_isHeld_1 : decode cX8_isHeld 1 = .ok (.iload_n 1, 1) := by decide +kernel
theorem dX8_isHeld_2 : decode cX8_isHeld 2 = .ok (.invokevirtual 141, 3) := by decide +kernel
theorem dX8_isHeld_5 : decode cX8_isHeld 5 = .ok (.ifCond .eq 15, 3) := by decide +kernel
theorem dX8_isHeld_8 : decode cX8_isHeld 8 = .ok (.aload_n 0, 1) := by decide +kernel
theorem dX8_isHeld_9 : decode cX8_isHeld 9 = .ok (.iload_n 1, 1) := by decide +kernel
theorem dX8_isHeld_10 : decode cX8_isHeld 10 = .ok (.invokevirtual 125, 3) := by decide +kernel
theorem dX8_isHeld_13 : decode cX8_isHeld 13 = .ok (.ifCond .eq 7, 3) := by decide +kernel
theorem dX8_isHeld_16 : decode cX8_isHeld 16 = .ok (.iconst 1, 1) := by decide +kernel
theorem dX8_isHeld_17 : decode cX8_isHeld 17 = .ok (.goto 4, 3) := by decide +kernel
theorem dX8_isHeld_20 : decode cX8_isHeld 20 = .ok (.iconst 0, 1) := by decide +kernel
theorem dX8_isHeld_21 : decode cX8_isHeld 21 = .ok (.ireturn, 1) := by decide +kernel
theorem dX8_wasHeld_0 : decode cX8_wasHeld 0 = .ok (.aload_n 0, 1) := by decide +kernel
theorem dX8_wasHeld_1 : decode cX8_wasHeld 1 = .ok (.iload_n 1, 1) := by decide +kernel
theorem dX8_wasHeld_2 : decode cX8_wasHeld 2 = .ok (.invokevirtual 141, 3) := by decide +kernel
theorem dX8_wasHeld_5 : decode cX8_wasHeld 5 = .ok (.ifCond .eq 25, 3) := by decide +kernel
theorem dX8_wasHeld_8 : decode cX8_wasHeld 8 = .ok (.aload_n 0, 1) := by decide +kernel
theorem dX8_wasHeld_9 : decode cX8_wasHeld 9 = .ok (.getfield 40, 3) := by decide +kernel
theorem dX8_wasHeld_12 : decode cX8_wasHeld 12 = .ok (.iload_n 1, 1) := by decide +kernel
theorem dX8_wasHeld_13 : decode cX8_wasHeld 13 = .ok (.iaload, 1) := by decide +kernel
theorem dX8_wasHeld_14 : decode cX8_wasHeld 14 = .ok (.iconst 1, 1) := by decide +kernel
theorem dX8_wasHeld_15 : decode cX8_wasHeld 15 = .ok (.if_icmp .eq 11, 3) := by decide +kernel
theorem dX8_wasHeld_18 : decode cX8_wasHeld 18 = .ok (.aload_n 0, 1) := by decide +kernel
theorem dX8_wasHeld_19 : decode cX8_wasHeld 19 = .ok (.iload_n 1, 1) := by decide +kernel
theorem dX8_wasHeld_20 : decode cX8_wasHeld 20 = .ok (.invokevirtual 125, 3) := by decide +kernel
theorem dX8_wasHeld_23 : decode cX8_wasHeld 23 = .ok (.ifCond .eq 7, 3) := by decide +kernel
theorem dX8_wasHeld_26 : decode cX8_wasHeld 26 = .ok (.iconst 1, 1) := by decide +kernel
theorem dX8_wasHeld_27 : decode cX8_wasHeld 27 = .ok (.goto 4, 3) := by decide +kernel
theorem dX8_wasHeld_30 : decode cX8_wasHeld 30 = .ok (.iconst 0, 1) := by decide +kernel
theorem dX8_wasHeld_31 : decode cX8_wasHeld 31 = .ok (.ireturn, 1) := by decide +kernel
theorem dX8_currentOf_0 : decode cX8_currentOf 0 = .ok (.iconst (-1), 1) := by decide +kernel
theorem dX8_currentOf_1 : decode cX8_currentOf 1 = .ok (.istore_n 3, 1) := by decide +kernel
theorem dX8_currentOf_2 : decode cX8_currentOf 2 = .ok (.iconst 0, 1) := by decide +kernel
theorem dX8_currentOf_3 : decode cX8_currentOf 3 = .ok (.istore 4, 2) := by decide +kernel
theorem dX8_currentOf_5 : decode cX8_currentOf 5 = .ok (.iload 4, 2) := by decide +kernel
theorem dX8_currentOf_7 : decode cX8_currentOf 7 = .ok (.aload_n 0, 1) := by decide +kernel
theorem dX8_currentOf_8 : decode cX8_currentOf 8 = .ok (.getfield 25, 3) := by decide +kernel
theorem dX8_currentOf_11 : decode cX8_currentOf 11 = .ok (.iload_n 1, 1) := by decide +kernel
theorem dX8_currentOf_12 : decode cX8_currentOf 12 = .ok (.iaload, 1) := by decide +kernel
theorem dX8_currentOf_13 : decode cX8_currentOf 13 = .ok (.if_icmp .ge 50, 3) := by decide +kernel
theorem dX8_currentOf_16 : decode cX8_currentOf 16 = .ok (.aload_n 0, 1) := by decide +kernel
theorem dX8_currentOf_17 : decode cX8_currentOf 17 = .ok (.getfield 22, 3) := by decide +kernel
theorem dX8_currentOf_20 : decode cX8_currentOf 20 = .ok (.bipush 20, 2) := by decide +kernel
theorem dX8_currentOf_22 : decode cX8_currentOf 22 = .ok (.iload_n 1, 1) := by decide +kernel
theorem dX8_currentOf_23 : decode cX8_currentOf 23 = .ok (.imul, 1) := by decide +kernel
theorem dX8_currentOf_24 : decode cX8_currentOf 24 = .ok (.iload 4, 2) := by decide +kernel
theorem dX8_currentOf_26 : decode cX8_currentOf 26 = .ok (.iadd, 1) := by decide +kernel
end
section
theorem dX8_currentOf_27 : decode cX8_currentOf 27 = .ok (.iaload, 1) := by decide +kernel
theorem dX8_currentOf_28 : decode cX8_currentOf 28 = .ok (.istore 5, 2) := by decide +kernel
theorem dX8_currentOf_30 : decode cX8_currentOf 30 = .ok (.aload_n 0, 1) := by decide +kernel
theorem dX8_currentOf_31 : decode cX8_currentOf 31 = .ok (.getfield 31, 3) := by decide +kernel
theorem dX8_currentOf_34 : decode cX8_currentOf 34 = .ok (.iload 5, 2) := by decide +kernel
theorem dX8_currentOf_36 : decode cX8_currentOf 36 = .ok (.iaload, 1) := by decide +kernel
theorem dX8_currentOf_37 : decode cX8_currentOf 37 = .ok (.iload_n 2, 1) := by decide +kernel
theorem dX8_currentOf_38 : decode cX8_currentOf 38 = .ok (.if_icmp .ne 17, 3) := by decide +kernel
theorem dX8_currentOf_41 : decode cX8_currentOf 41 = .ok (.aload_n 0, 1) := by decide +kernel
theorem dX8_currentOf_42 : decode cX8_currentOf 42 = .ok (.iload 5, 2) := by decide +kernel
theorem dX8_currentOf_44 : decode cX8_currentOf 44 = .ok (.invokevirtual 125, 3) := by decide +kernel
theorem dX8_currentOf_47 : decode cX8_currentOf 47 = .ok (.ifCond .eq 8, 3) := by decide +kernel
theorem dX8_currentOf_50 : decode cX8_currentOf 50 = .ok (.iload 5, 2) := by decide +kernel
theorem dX8_currentOf_52 : decode cX8_currentOf 52 = .ok (.goto 4, 3) := by decide +kernel
theorem dX8_currentOf_55 : decode cX8_currentOf 55 = .ok (.iload_n 3, 1) := by decide +kernel
theorem dX8_currentOf_56 : decode cX8_currentOf 56 = .ok (.istore_n 3, 1) := by decide +kernel
theorem dX8_currentOf_57 : decode cX8_currentOf 57 = .ok (.iinc 4 1, 3) := by decide +kernel
theorem dX8_currentOf_60 : decode cX8_currentOf 60 = .ok (.goto (-55), 3) := by decide +kernel
theorem dX8_currentOf_63 : decode cX8_currentOf 63 = .ok (.iload_n 3, 1) := by decide +kernel
theorem dX8_currentOf_64 : decode cX8_currentOf 64 = .ok (.ireturn, 1) := by decide +kernel
theorem dX8_current_0 : decode cX8_current 0 = .ok (.aload_n 0, 1) := by decide +kernel
theorem dX8_current_1 : decode cX8_current 1 = .ok (.iload_n 1, 1) := by decide +kernel
theorem dX8_current_2 : decode cX8_current 2 = .ok (.invokestatic 93, 3) := by decide +kernel
theorem dX8_current_5 : decode cX8_current 5 = .ok (.ifCond .eq 16, 3) := by decide +kernel
theorem dX8_current_8 : decode cX8_current 8 = .ok (.iload_n 2, 1) := by decide +kernel
theorem dX8_current_9 : decode cX8_current 9 = .ok (.iconst 0, 1) := by decide +kernel
theorem dX8_current_10 : decode cX8_current 10 = .ok (.iconst 5, 1) := by decide +kernel
theorem dX8_current_11 : decode cX8_current 11 = .ok (.invokestatic 86, 3) := by decide +kernel
theorem dX8_current_14 : decode cX8_current 14 = .ok (.ifCond .eq 7, 3) := by decide +kernel
theorem dX8_current_17 : decode cX8_current 17 = .ok (.iconst 0, 1) := by decide +kernel
theorem dX8_current_18 : decode cX8_current 18 = .ok (.goto 4, 3) := by decide +kernel
theorem dX8_current_21 : decode cX8_current 21 = .ok (.iconst 1, 1) := by decide +kernel
theorem dX8_current_22 : decode cX8_current 22 = .ok (.putfield 82, 3) := by decide +kernel
theorem dX8_current_25 : decode cX8_current 25 = .ok (.aload_n 0, 1) := by decide +kernel
theorem dX8_current_26 : decode cX8_current 26 = .ok (.getfield 82, 3) := by decide +kernel
theorem dX8_current_29 : decode cX8_current 29 = .ok (.ifCond .ne 12, 3) := by decide +kernel
theorem dX8_current_32 : decode cX8_current 32 = .ok (.aload_n 0, 1) := by decide +kernel
theorem dX8_current_33 : decode cX8_current 33 = .ok (.iload_n 1, 1) := by decide +kernel
theorem dX8_current_34 : decode cX8_current 34 = .ok (.iload_n 2, 1) := by decide +kernel
theorem dX8_current_35 : decode cX8_current 35 = .ok (.invokevirtual 144, 3) := by decide +kernel
theorem dX8_current_38 : decode cX8_current 38 = .ok (.goto 4, 3) := by decide +kernel
theorem dX8_current_41 : decode cX8_current 41 = .ok (.iconst 0, 1) := by decide +kernel
theorem dX8_current_42 : decode cX8_current 42 = .ok (.ireturn, 1) := by decide +kernel
theorem dX8_addLot_0 : decode cX8_addLot 0 = .ok (.aload_n 0, 1) := by decide +kernel
theorem dX8_addLot_1 : decode cX8_addLot 1 = .ok (.aload_n 0, 1) := by decide +kernel
theorem dX8_addLot_2 : decode cX8_addLot 2 = .ok (.getfield 147, 3) := by decide +kernel
theorem dX8_addLot_5 : decode cX8_addLot 5 = .ok (.bipush 16, 2) := by decide +kernel
theorem dX8_addLot_7 : decode cX8_addLot 7 = .ok (.if_icmp .ne 7, 3) := by decide +kernel
theorem dX8_addLot_10 : decode cX8_addLot 10 = .ok (.iconst 1, 1) := by decide +kernel
theorem dX8_addLot_11 : decode cX8_addLot 11 = .ok (.goto 4, 3) := by decide +kernel
theorem dX8_addLot_14 : decode cX8_addLot 14 = .ok (.iconst 0, 1) := by decide +kernel
theorem dX8_addLot_15 : decode cX8_addLot 15 = .ok (.putfield 82, 3) := by decide +kernel
theorem dX8_addLot_18 : decode cX8_addLot 18 = .ok (.aload_n 0, 1) := by decide +kernel
theorem dX8_addLot_19 : decode cX8_addLot 19 = .ok (.getfield 82, 3) := by decide +kernel
theorem dX8_addLot_22 : decode cX8_addLot 22 = .ok (.ifCond .le 5, 3) := by decide +kernel
theorem dX8_addLot_25 : decode cX8_addLot 25 = .ok (.iconst 0, 1) := by decide +kernel
theorem dX8_addLot_26 : decode cX8_addLot 26 = .ok (.ireturn, 1) := by decide +kernel
theorem dX8_addLot_27 : decode cX8_addLot 27 = .ok (.aload_n 0, 1) := by decide +kernel
theorem dX8_addLot_28 : decode cX8_addLot 28 = .ok (.dup, 1) := by decide +kernel
theorem dX8_addLot_29 : decode cX8_addLot 29 = .ok (.getfield 147, 3) := by decide +kernel
theorem dX8_addLot_32 : decode cX8_addLot 32 = .ok (.iconst 1, 1) := by decide +kernel
theorem dX8_addLot_33 : decode cX8_addLot 33 = .ok (.iadd, 1) := by decide +kernel
theorem dX8_addLot_34 : decode cX8_addLot 34 = .ok (.putfield 147, 3) := by decide +kernel
theorem dX8_addLot_37 : decode cX8_addLot 37 = .ok (.aload_n 0, 1) := by decide +kernel
theorem dX8_addLot_38 : decode cX8_addLot 38 = .ok (.getfield 147, 3) := by decide +kernel
theorem dX8_addLot_41 : decode cX8_addLot 41 = .ok (.iconst 1, 1) := by decide +kernel
theorem dX8_addLot_42 : decode cX8_addLot 42 = .ok (.isub, 1) := by decide +kernel
theorem dX8_addLot_43 : decode cX8_addLot 43 = .ok (.ireturn, 1) := by decide +kernel
theorem dX8_isLot_0 : decode cX8_isLot 0 = .ok (.iload_n 1, 1) := by decide +kernel
theorem dX8_isLot_1 : decode cX8_isLot 1 = .ok (.iconst 0, 1) := by decide +kernel
theorem dX8_isLot_2 : decode cX8_isLot 2 = .ok (.aload_n 0, 1) := by decide +kernel
theorem dX8_isLot_3 : decode cX8_isLot 3 = .ok (.getfield 147, 3) := by decide +kernel
theorem dX8_isLot_6 : decode cX8_isLot 6 = .ok (.iconst 1, 1) := by decide +kernel
theorem dX8_isLot_7 : decode cX8_isLot 7 = .ok (.isub, 1) := by decide +kernel
theorem dX8_isLot_8 : decode cX8_isLot 8 = .ok (.invokestatic 86, 3) := by decide +kernel
theorem dX8_isLot_11 : decode cX8_isLot 11 = .ok (.ireturn, 1) := by decide +kernel
theorem dX8_deliver_0 : decode cX8_deliver 0 = .ok (.aload_n 0, 1) := by decide +kernel
theorem dX8_deliver_1 : decode cX8_deliver 1 = .ok (.iload_n 1, 1) := by decide +kernel
theorem dX8_deliver_2 : decode cX8_deliver 2 = .ok (.invokestatic 93, 3) := by decide +kernel
theorem dX8_deliver_5 : decode cX8_deliver 5 = .ok (.ifCond .eq 11, 3) := by decide +kernel
theorem dX8_deliver_8 : decode cX8_deliver 8 = .ok (.aload_n 0, 1) := by decide +kernel
theorem dX8_deliver_9 : decode cX8_deliver 9 = .ok (.iload_n 2, 1) := by decide +kernel
theorem dX8_deliver_10 : decode cX8_deliver 10 = .ok (.invokevirtual 150, 3) := by decide +kernel
theorem dX8_deliver_13 : decode cX8_deliver 13 = .ok (.ifCond .ne 7, 3) := by decide +kernel
theorem dX8_deliver_16 : decode cX8_deliver 16 = .ok (.iconst 1, 1) := by decide +kernel
theorem dX8_deliver_17 : decode cX8_deliver 17 = .ok (.goto 46, 3) := by decide +kernel
theorem dX8_deliver_20 : decode cX8_deliver 20 = .ok (.iload_n 3, 1) := by decide +kernel
theorem dX8_deliver_21 : decode cX8_deliver 21 = .ok (.iconst 1, 1) := by decide +kernel
theorem dX8_deliver_22 : decode cX8_deliver 22 = .ok (.bipush 50, 2) := by decide +kernel
theorem dX8_deliver_24 : decode cX8_deliver 24 = .ok (.invokestatic 86, 3) := by decide +kernel
theorem dX8_deliver_27 : decode cX8_deliver 27 = .ok (.ifCond .ne 7, 3) := by decide +kernel
theorem dX8_deliver_30 : decode cX8_deliver 30 = .ok (.iconst 2, 1) := by decide +kernel
theorem dX8_deliver_31 : decode cX8_deliver 31 = .ok (.goto 32, 3) := by decide +kernel
theorem dX8_deliver_34 : decode cX8_deliver 34 = .ok (.aload_n 0, 1) := by decide +kernel
theorem dX8_deliver_35 : decode cX8_deliver 35 = .ok (.getfield 49, 3) := by decide +kernel
theorem dX8_deliver_38 : decode cX8_deliver 38 = .ok (.iload_n 2, 1) := by decide +kernel
theorem dX8_deliver_39 : decode cX8_deliver 39 = .ok (.iaload, 1) := by decide +kernel
theorem dX8_deliver_40 : decode cX8_deliver 40 = .ok (.iconst 1, 1) := by decide +kernel
theorem dX8_deliver_41 : decode cX8_deliver 41 = .ok (.if_icmp .eq 17, 3) := by decide +kernel
theorem dX8_deliver_44 : decode cX8_deliver 44 = .ok (.aload_n 0, 1) := by decide +kernel
theorem dX8_deliver_45 : decode cX8_deliver 45 = .ok (.getfield 55, 3) := by decide +kernel
theorem dX8_deliver_48 : decode cX8_deliver 48 = .ok (.iload_n 1, 1) := by decide +kernel
theorem dX8_deliver_49 : decode cX8_deliver 49 = .ok (.iaload, 1) := by decide +kernel
theorem dX8_deliver_50 : decode cX8_deliver 50 = .ok (.iload_n 3, 1) := by decide +kernel
theorem dX8_deliver_51 : decode cX8_deliver 51 = .ok (.iadd, 1) := by decide +kernel
theorem dX8_deliver_52 : decode cX8_deliver 52 = .ok (.sipush 200, 3) := by decide +kernel
theorem dX8_deliver_55 : decode cX8_deliver 55 = .ok (.if_icmp .le 7, 3) := by decide +kernel
theorem dX8_deliver_58 : decode cX8_deliver 58 = .ok (.iconst 3, 1) := by decide +kernel
theorem dX8_deliver_59 : decode cX8_deliver 59 = .ok (.goto 4, 3) := by decide +kernel
theorem dX8_deliver_62 : decode cX8_deliver 62 = .ok (.iconst 0, 1) := by decide +kernel
theorem dX8_deliver_63 : decode cX8_deliver 63 = .ok (.putfield 82, 3) := by decide +kernel
theorem dX8_deliver_66 : decode cX8_deliver 66 = .ok (.aload_n 0, 1) := by decide +kernel
theorem dX8_deliver_67 : decode cX8_deliver 67 = .ok (.getfield 82, 3) := by decide +kernel
theorem dX8_deliver_70 : decode cX8_deliver 70 = .ok (.ifCond .le 5, 3) := by decide +kernel
theorem dX8_deliver_73 : decode cX8_deliver 73 = .ok (.iconst 0, 1) := by decide +kernel
theorem dX8_deliver_74 : decode cX8_deliver 74 = .ok (.ireturn, 1) := by decide +kernel
theorem dX8_deliver_75 : decode cX8_deliver 75 = .ok (.iconst 0, 1) := by decide +kernel
theorem dX8_deliver_76 : decode cX8_deliver 76 = .ok (.istore 4, 2) := by decide +kernel
theorem dX8_deliver_78 : decode cX8_deliver 78 = .ok (.iload 4, 2) := by decide +kernel
theorem dX8_deliver_80 : decode cX8_deliver 80 = .ok (.iload_n 3, 1) := by decide +kernel
theorem dX8_deliver_81 : decode cX8_deliver 81 = .ok (.if_icmp .ge 37, 3) := by decide +kernel
theorem dX8_deliver_84 : decode cX8_deliver 84 = .ok (.aload_n 0, 1) := by decide +kernel
theorem dX8_deliver_85 : decode cX8_deliver 85 = .ok (.getfield 52, 3) := by decide +kernel
theorem dX8_deliver_88 : decode cX8_deliver 88 = .ok (.sipush 200, 3) := by decide +kernel
theorem dX8_deliver_91 : decode cX8_deliver 91 = .ok (.iload_n 1, 1) := by decide +kernel
theorem dX8_deliver_92 : decode cX8_deliver 92 = .ok (.imul, 1) := by decide +kernel
theorem dX8_deliver_93 : decode cX8_deliver 93 = .ok (.aload_n 0, 1) := by decide +kernel
theorem dX8_deliver_94 : decode cX8_deliver 94 = .ok (.getfield 55, 3) := by decide +kernel
theorem dX8_deliver_97 : decode cX8_deliver 97 = .ok (.iload_n 1, 1) := by decide +kernel
theorem dX8_deliver_98 : decode cX8_deliver 98 = .ok (.iaload, 1) := by decide +kernel
theorem dX8_deliver_99 : decode cX8_deliver 99 = .ok (.iadd, 1) := by decide +kernel
theorem dX8_deliver_100 : decode cX8_deliver 100 = .ok (.iload_n 2, 1) := by decide +kernel
theorem dX8_deliver_101 : decode cX8_deliver 101 = .ok (.iastore, 1) := by decide +kernel
theorem dX8_deliver_102 : decode cX8_deliver 102 = .ok (.aload_n 0, 1) := by decide +kernel
theorem dX8_deliver_103 : decode cX8_deliver 103 = .ok (.getfield 55, 3) := by decide +kernel
theorem dX8_deliver_106 : decode cX8_deliver 106 = .ok (.iload_n 1, 1) := by decide +kernel
theorem dX8_deliver_107 : decode cX8_deliver 107 = .ok (.dup2, 1) := by decide +kernel
theorem dX8_deliver_108 : decode cX8_deliver 108 = .ok (.iaload, 1) := by decide +kernel
theorem dX8_deliver_109 : decode cX8_deliver 109 = .ok (.iconst 1, 1) := by decide +kernel
theorem dX8_deliver_110 : decode cX8_deliver 110 = .ok (.iadd, 1) := by decide +kernel
theorem dX8_deliver_111 : decode cX8_deliver 111 = .ok (.iastore, 1) := by decide +kernel
theorem dX8_deliver_112 : decode cX8_deliver 112 = .ok (.iinc 4 1, 3) := by decide +kernel
theorem dX8_deliver_115 : decode cX8_deliver 115 = .ok (.goto (-37), 3) := by decide +kernel
theorem dX8_deliver_118 : decode cX8_deliver 118 = .ok (.aload_n 0, 1) := by decide +kernel
theorem dX8_deliver_119 : decode cX8_deliver 119 = .ok (.getfield 55, 3) := by decide +kernel
theorem dX8_deliver_122 : decode cX8_deliver 122 = .ok (.iload_n 1, 1) := by decide +kernel
theorem dX8_deliver_123 : decode cX8_deliver 123 = .ok (.iaload, 1) := by decide +kernel
theorem dX8_deliver_124 : decode cX8_deliver 124 = .ok (.ireturn, 1) := by decide +kernel
theorem dX8_throwsOut_0 : decode cX8_throwsOut 0 = .ok (.iconst 0, 1) := by decide +kernel
theorem dX8_throwsOut_1 : decode cX8_throwsOut 1 = .ok (.istore_n 3, 1) := by decide +kernel
theorem dX8_throwsOut_2 : decode cX8_throwsOut 2 = .ok (.iconst 0, 1) := by decide +kernel
theorem dX8_throwsOut_3 : decode cX8_throwsOut 3 = .ok (.istore 4, 2) := by decide +kernel
theorem dX8_throwsOut_5 : decode cX8_throwsOut 5 = .ok (.iload 4, 2) := by decide +kernel
theorem dX8_throwsOut_7 : decode cX8_throwsOut 7 = .ok (.aload_n 0, 1) := by decide +kernel
theorem dX8_throwsOut_8 : decode cX8_throwsOut 8 = .ok (.getfield 55, 3) := by decide +kernel
theorem dX8_throwsOut_11 : decode cX8_throwsOut 11 = .ok (.iload_n 1, 1) := by decide +kernel
theorem dX8_throwsOut_12 : decode cX8_throwsOut 12 = .ok (.iaload, 1) := by decide +kernel
theorem dX8_throwsOut_13 : decode cX8_throwsOut 13 = .ok (.if_icmp .ge 54, 3) := by decide +kernel
theorem dX8_throwsOut_16 : decode cX8_throwsOut 16 = .ok (.aload_n 0, 1) := by decide +kernel
theorem dX8_throwsOut_17 : decode cX8_throwsOut 17 = .ok (.getfield 52, 3) := by decide +kernel
theorem dX8_throwsOut_20 : decode cX8_throwsOut 20 = .ok (.sipush 200, 3) := by decide +kernel
theorem dX8_throwsOut_23 : decode cX8_throwsOut 23 = .ok (.iload_n 1, 1) := by decide +kernel
theorem dX8_throwsOut_24 : decode cX8_throwsOut 24 = .ok (.imul, 1) := by decide +kernel
theorem dX8_throwsOut_25 : decode cX8_throwsOut 25 = .ok (.iload 4, 2) := by decide +kernel
theorem dX8_throwsOut_27 : decode cX8_throwsOut 27 = .ok (.iadd, 1) := by decide +kernel
theorem dX8_throwsOut_28 : decode cX8_throwsOut 28 = .ok (.iaload, 1) := by decide +kernel
theorem dX8_throwsOut_29 : decode cX8_throwsOut 29 = .ok (.iload_n 2, 1) := by decide +kernel
theorem dX8_throwsOut_30 : decode cX8_throwsOut 30 = .ok (.if_icmp .eq 31, 3) := by decide +kernel
theorem dX8_throwsOut_33 : decode cX8_throwsOut 33 = .ok (.aload_n 0, 1) := by decide +kernel
theorem dX8_throwsOut_34 : decode cX8_throwsOut 34 = .ok (.getfield 52, 3) := by decide +kernel
theorem dX8_throwsOut_37 : decode cX8_throwsOut 37 = .ok (.sipush 200, 3) := by decide +kernel
theorem dX8_throwsOut_40 : decode cX8_throwsOut 40 = .ok (.iload_n 1, 1) := by decide +kernel
theorem dX8_throwsOut_41 : decode cX8_throwsOut 41 = .ok (.imul, 1) := by decide +kernel
theorem dX8_throwsOut_42 : decode cX8_throwsOut 42 = .ok (.iload_n 3, 1) := by decide +kernel
theorem dX8_throwsOut_43 : decode cX8_throwsOut 43 = .ok (.iadd, 1) := by decide +kernel
theorem dX8_throwsOut_44 : decode cX8_throwsOut 44 = .ok (.aload_n 0, 1) := by decide +kernel
theorem dX8_throwsOut_45 : decode cX8_throwsOut 45 = .ok (.getfield 52, 3) := by decide +kernel
theorem dX8_throwsOut_48 : decode cX8_throwsOut 48 = .ok (.sipush 200, 3) := by decide +kernel
theorem dX8_throwsOut_51 : decode cX8_throwsOut 51 = .ok (.iload_n 1, 1) := by decide +kernel
theorem dX8_throwsOut_52 : decode cX8_throwsOut 52 = .ok (.imul, 1) := by decide +kernel
theorem dX8_throwsOut_53 : decode cX8_throwsOut 53 = .ok (.iload 4, 2) := by decide +kernel
theorem dX8_throwsOut_55 : decode cX8_throwsOut 55 = .ok (.iadd, 1) := by decide +kernel
theorem dX8_throwsOut_56 : decode cX8_throwsOut 56 = .ok (.iaload, 1) := by decide +kernel
theorem dX8_throwsOut_57 : decode cX8_throwsOut 57 = .ok (.iastore, 1) := by decide +kernel
theorem dX8_throwsOut_58 : decode cX8_throwsOut 58 = .ok (.iinc 3 1, 3) := by decide +kernel
theorem dX8_throwsOut_61 : decode cX8_throwsOut 61 = .ok (.iinc 4 1, 3) := by decide +kernel
theorem dX8_throwsOut_64 : decode cX8_throwsOut 64 = .ok (.goto (-59), 3) := by decide +kernel
theorem dX8_throwsOut_67 : decode cX8_throwsOut 67 = .ok (.aload_n 0, 1) := by decide +kernel
theorem dX8_throwsOut_68 : decode cX8_throwsOut 68 = .ok (.getfield 55, 3) := by decide +kernel
theorem dX8_throwsOut_71 : decode cX8_throwsOut 71 = .ok (.iload_n 1, 1) := by decide +kernel
theorem dX8_throwsOut_72 : decode cX8_throwsOut 72 = .ok (.iload_n 3, 1) := by decide +kernel
theorem dX8_throwsOut_73 : decode cX8_throwsOut 73 = .ok (.iastore, 1) := by decide +kernel
theorem dX8_throwsOut_74 : decode cX8_throwsOut 74 = .ok (.return_, 1) := by decide +kernel
theorem dX8_condemn_0 : decode cX8_condemn 0 = .ok (.aload_n 0, 1) := by decide +kernel
theorem dX8_condemn_1 : decode cX8_condemn 1 = .ok (.aload_n 0, 1) := by decide +kernel
theorem dX8_condemn_2 : decode cX8_condemn 2 = .ok (.iload_n 1, 1) := by decide +kernel
theorem dX8_condemn_3 : decode cX8_condemn 3 = .ok (.invokevirtual 150, 3) := by decide +kernel
theorem dX8_condemn_6 : decode cX8_condemn 6 = .ok (.ifCond .ne 7, 3) := by decide +kernel
theorem dX8_condemn_9 : decode cX8_condemn 9 = .ok (.iconst 1, 1) := by decide +kernel
theorem dX8_condemn_10 : decode cX8_condemn 10 = .ok (.goto 18, 3) := by decide +kernel
theorem dX8_condemn_13 : decode cX8_condemn 13 = .ok (.aload_n 0, 1) := by decide +kernel
theorem dX8_condemn_14 : decode cX8_condemn 14 = .ok (.getfield 49, 3) := by decide +kernel
theorem dX8_condemn_17 : decode cX8_condemn 17 = .ok (.iload_n 1, 1) := by decide +kernel
theorem dX8_condemn_18 : decode cX8_condemn 18 = .ok (.iaload, 1) := by decide +kernel
theorem dX8_condemn_19 : decode cX8_condemn 19 = .ok (.iconst 1, 1) := by decide +kernel
theorem dX8_condemn_20 : decode cX8_condemn 20 = .ok (.if_icmp .ne 7, 3) := by decide +kernel
theorem dX8_condemn_23 : decode cX8_condemn 23 = .ok (.iconst 2, 1) := by decide +kernel
theorem dX8_condemn_24 : decode cX8_condemn 24 = .ok (.goto 4, 3) := by decide +kernel
theorem dX8_condemn_27 : decode cX8_condemn 27 = .ok (.iconst 0, 1) := by decide +kernel
theorem dX8_condemn_28 : decode cX8_condemn 28 = .ok (.putfield 82, 3) := by decide +kernel
theorem dX8_condemn_31 : decode cX8_condemn 31 = .ok (.aload_n 0, 1) := by decide +kernel
theorem dX8_condemn_32 : decode cX8_condemn 32 = .ok (.getfield 82, 3) := by decide +kernel
theorem dX8_condemn_35 : decode cX8_condemn 35 = .ok (.ifCond .le 5, 3) := by decide +kernel
theorem dX8_condemn_38 : decode cX8_condemn 38 = .ok (.iconst 0, 1) := by decide +kernel
theorem dX8_condemn_39 : decode cX8_condemn 39 = .ok (.ireturn, 1) := by decide +kernel
theorem dX8_condemn_40 : decode cX8_condemn 40 = .ok (.aload_n 0, 1) := by decide +kernel
theorem dX8_condemn_41 : decode cX8_condemn 41 = .ok (.getfield 49, 3) := by decide +kernel
theorem dX8_condemn_44 : decode cX8_condemn 44 = .ok (.iload_n 1, 1) := by decide +kernel
theorem dX8_condemn_45 : decode cX8_condemn 45 = .ok (.iconst 1, 1) := by decide +kernel
theorem dX8_condemn_46 : decode cX8_condemn 46 = .ok (.iastore, 1) := by decide +kernel
theorem dX8_condemn_47 : decode cX8_condemn 47 = .ok (.iconst 0, 1) := by decide +kernel
theorem dX8_condemn_48 : decode cX8_condemn 48 = .ok (.istore_n 2, 1) := by decide +kernel
theorem dX8_condemn_49 : decode cX8_condemn 49 = .ok (.iload_n 2, 1) := by decide +kernel
theorem dX8_condemn_50 : decode cX8_condemn 50 = .ok (.iconst 5, 1) := by decide +kernel
theorem dX8_condemn_51 : decode cX8_condemn 51 = .ok (.if_icmp .ge 15, 3) := by decide +kernel
theorem dX8_condemn_54 : decode cX8_condemn 54 = .ok (.aload_n 0, 1) := by decide +kernel
theorem dX8_condemn_55 : decode cX8_condemn 55 = .ok (.iload_n 2, 1) := by decide +kernel
theorem dX8_condemn_56 : decode cX8_condemn 56 = .ok (.iload_n 1, 1) := by decide +kernel
theorem dX8_condemn_57 : decode cX8_condemn 57 = .ok (.invokevirtual 153, 3) := by decide +kernel
theorem dX8_condemn_60 : decode cX8_condemn 60 = .ok (.iinc 2 1, 3) := by decide +kernel
theorem dX8_condemn_63 : decode cX8_condemn 63 = .ok (.goto (-14), 3) := by decide +kernel
theorem dX8_condemn_66 : decode cX8_condemn 66 = .ok (.iconst 0, 1) := by decide +kernel
theorem dX8_condemn_67 : decode cX8_condemn 67 = .ok (.istore_n 2, 1) := by decide +kernel
theorem dX8_condemn_68 : decode cX8_condemn 68 = .ok (.iconst 0, 1) := by decide +kernel
theorem dX8_condemn_69 : decode cX8_condemn 69 = .ok (.istore_n 3, 1) := by decide +kernel
theorem dX8_condemn_70 : decode cX8_condemn 70 = .ok (.iload_n 3, 1) := by decide +kernel
theorem dX8_condemn_71 : decode cX8_condemn 71 = .ok (.aload_n 0, 1) := by decide +kernel
theorem dX8_condemn_72 : decode cX8_condemn 72 = .ok (.getfield 128, 3) := by decide +kernel
theorem dX8_condemn_75 : decode cX8_condemn 75 = .ok (.if_icmp .ge 36, 3) := by decide +kernel
theorem dX8_condemn_78 : decode cX8_condemn 78 = .ok (.iload_n 2, 1) := by decide +kernel
theorem dX8_condemn_79 : decode cX8_condemn 79 = .ok (.aload_n 0, 1) := by decide +kernel
theorem dX8_condemn_80 : decode cX8_condemn 80 = .ok (.getfield 64, 3) := by decide +kernel
theorem dX8_condemn_83 : decode cX8_condemn 83 = .ok (.iload_n 3, 1) := by decide +kernel
theorem dX8_condemn_84 : decode cX8_condemn 84 = .ok (.iaload, 1) := by decide +kernel
theorem dX8_condemn_85 : decode cX8_condemn 85 = .ok (.iload_n 1, 1) := by decide +kernel
theorem dX8_condemn_86 : decode cX8_condemn 86 = .ok (.ishr, 1) := by decide +kernel
theorem dX8_condemn_87 : decode cX8_condemn 87 = .ok (.iconst 1, 1) := by decide +kernel
theorem dX8_condemn_88 : decode cX8_condemn 88 = .ok (.iand, 1) := by decide +kernel
theorem dX8_condemn_89 : decode cX8_condemn 89 = .ok (.iconst 1, 1) := by decide +kernel
theorem dX8_condemn_90 : decode cX8_condemn 90 = .ok (.if_icmp .ne 12, 3) := by decide +kernel
theorem dX8_condemn_93 : decode cX8_condemn 93 = .ok (.aload_n 0, 1) := by decide +kernel
theorem dX8_condemn_94 : decode cX8_condemn 94 = .ok (.iload_n 3, 1) := by decide +kernel
theorem dX8_condemn_95 : decode cX8_condemn 95 = .ok (.iconst 2, 1) := by decide +kernel
theorem dX8_condemn_96 : decode cX8_condemn 96 = .ok (.invokevirtual 131, 3) := by decide +kernel
theorem dX8_condemn_99 : decode cX8_condemn 99 = .ok (.goto 4, 3) := by decide +kernel
theorem dX8_condemn_102 : decode cX8_condemn 102 = .ok (.iconst 0, 1) := by decide +kernel
theorem dX8_condemn_103 : decode cX8_condemn 103 = .ok (.iadd, 1) := by decide +kernel
theorem dX8_condemn_104 : decode cX8_condemn 104 = .ok (.istore_n 2, 1) := by decide +kernel
theorem dX8_condemn_105 : decode cX8_condemn 105 = .ok (.iinc 3 1, 3) := by decide +kernel
theorem dX8_condemn_108 : decode cX8_condemn 108 = .ok (.goto (-38), 3) := by decide +kernel
theorem dX8_condemn_111 : decode cX8_condemn 111 = .ok (.iload_n 2, 1) := by decide +kernel
theorem dX8_condemn_112 : decode cX8_condemn 112 = .ok (.ireturn, 1) := by decide +kernel
theorem dX8_store_0 : decode cX8_store 0 = .ok (.aload_n 0, 1) := by decide +kernel
theorem dX8_store_1 : decode cX8_store 1 = .ok (.iload_n 1, 1) := by decide +kernel
theorem dX8_store_2 : decode cX8_store 2 = .ok (.invokevirtual 138, 3) := by decide +kernel
theorem dX8_store_5 : decode cX8_store 5 = .ok (.ifCond .eq 12, 3) := by decide +kernel
theorem dX8_store_8 : decode cX8_store 8 = .ok (.aload_n 0, 1) := by decide +kernel
theorem dX8_store_9 : decode cX8_store 9 = .ok (.getfield 55, 3) := by decide +kernel
theorem dX8_store_12 : decode cX8_store 12 = .ok (.iload_n 1, 1) := by decide +kernel
theorem dX8_store_13 : decode cX8_store 13 = .ok (.iaload, 1) := by decide +kernel
theorem dX8_store_14 : decode cX8_store 14 = .ok (.goto 4, 3) := by decide +kernel
theorem dX8_store_17 : decode cX8_store 17 = .ok (.iconst 0, 1) := by decide +kernel
theorem dX8_store_18 : decode cX8_store 18 = .ok (.ireturn, 1) := by decide +kernel
theorem dX8_isHour_0 : decode cX8_isHour 0 = .ok (.iload_n 1, 1) := by decide +kernel
theorem dX8_isHour_1 : decode cX8_isHour 1 = .ok (.aload_n 0, 1) := by decide +kernel
theorem dX8_isHour_2 : decode cX8_isHour 2 = .ok (.getfield 156, 3) := by decide +kernel
theorem dX8_isHour_5 : decode cX8_isHour 5 = .ok (.if_icmp .lt 18, 3) := by decide +kernel
theorem dX8_isHour_8 : decode cX8_isHour 8 = .ok (.iload_n 1, 1) := by decide +kernel
theorem dX8_isHour_9 : decode cX8_isHour 9 = .ok (.aload_n 0, 1) := by decide +kernel
theorem dX8_isHour_10 : decode cX8_isHour 10 = .ok (.getfield 156, 3) := by decide +kernel
theorem dX8_isHour_13 : decode cX8_isHour 13 = .ok (.isub, 1) := by decide +kernel
theorem dX8_isHour_14 : decode cX8_isHour 14 = .ok (.bipush 50, 2) := by decide +kernel
theorem dX8_isHour_16 : decode cX8_isHour 16 = .ok (.if_icmp .gt 7, 3) := by decide +kernel
theorem dX8_isHour_19 : decode cX8_isHour 19 = .ok (.iconst 1, 1) := by decide +kernel
theorem dX8_isHour_20 : decode cX8_isHour 20 = .ok (.goto 4, 3) := by decide +kernel
theorem dX8_isHour_23 : decode cX8_isHour 23 = .ok (.iconst 0, 1) := by decide +kernel
theorem dX8_isHour_24 : decode cX8_isHour 24 = .ok (.ireturn, 1) := by decide +kernel
theorem dX8_book_0 : decode cX8_book 0 = .ok (.aload_n 0, 1) := by decide +kernel
theorem dX8_book_1 : decode cX8_book 1 = .ok (.iload_n 1, 1) := by decide +kernel
theorem dX8_book_2 : decode cX8_book 2 = .ok (.invokestatic 93, 3) := by decide +kernel
theorem dX8_book_5 : decode cX8_book 5 = .ok (.ifCond .eq 12, 3) := by decide +kernel
theorem dX8_book_8 : decode cX8_book 8 = .ok (.iload_n 3, 1) := by decide +kernel
theorem dX8_book_9 : decode cX8_book 9 = .ok (.iconst 0, 1) := by decide +kernel
theorem dX8_book_10 : decode cX8_book 10 = .ok (.iconst 5, 1) := by decide +kernel
theorem dX8_book_11 : decode cX8_book 11 = .ok (.invokestatic 86, 3) := by decide +kernel
theorem dX8_book_14 : decode cX8_book 14 = .ok (.ifCond .ne 7, 3) := by decide +kernel
theorem dX8_book_17 : decode cX8_book 17 = .ok (.iconst 1, 1) := by decide +kernel
theorem dX8_book_18 : decode cX8_book 18 = .ok (.goto 16, 3) := by decide +kernel
theorem dX8_book_21 : decode cX8_book 21 = .ok (.aload_n 0, 1) := by decide +kernel
theorem dX8_book_22 : decode cX8_book 22 = .ok (.iload_n 2, 1) := by decide +kernel
theorem dX8_book_23 : decode cX8_book 23 = .ok (.invokevirtual 159, 3) := by decide +kernel
theorem dX8_book_26 : decode cX8_book 26 = .ok (.ifCond .ne 7, 3) := by decide +kernel
theorem dX8_book_29 : decode cX8_book 29 = .ok (.iconst 2, 1) := by decide +kernel
theorem dX8_book_30 : decode cX8_book 30 = .ok (.goto 4, 3) := by decide +kernel
theorem dX8_book_33 : decode cX8_book 33 = .ok (.iconst 0, 1) := by decide +kernel
theorem dX8_book_34 : decode cX8_book 34 = .ok (.putfield 82, 3) := by decide +kernel
theorem dX8_book_37 : decode cX8_book 37 = .ok (.aload_n 0, 1) := by decide +kernel
theorem dX8_book_38 : decode cX8_book 38 = .ok (.getfield 82, 3) := by decide +kernel
theorem dX8_book_41 : decode cX8_book 41 = .ok (.ifCond .le 5, 3) := by decide +kernel
theorem dX8_book_44 : decode cX8_book 44 = .ok (.iconst 0, 1) := by decide +kernel
theorem dX8_book_45 : decode cX8_book 45 = .ok (.ireturn, 1) := by decide +kernel
theorem dX8_book_46 : decode cX8_book 46 = .ok (.aload_n 0, 1) := by decide +kernel
theorem dX8_book_47 : decode cX8_book 47 = .ok (.iload_n 1, 1) := by decide +kernel
theorem dX8_book_48 : decode cX8_book 48 = .ok (.iload_n 3, 1) := by decide +kernel
theorem dX8_book_49 : decode cX8_book 49 = .ok (.invokevirtual 144, 3) := by decide +kernel
theorem dX8_book_52 : decode cX8_book 52 = .ok (.istore 4, 2) := by decide +kernel
theorem dX8_book_54 : decode cX8_book 54 = .ok (.aload_n 0, 1) := by decide +kernel
theorem dX8_book_55 : decode cX8_book 55 = .ok (.getfield 46, 3) := by decide +kernel
theorem dX8_book_58 : decode cX8_book 58 = .ok (.sipush 1051, 3) := by decide +kernel
theorem dX8_book_61 : decode cX8_book 61 = .ok (.iload_n 1, 1) := by decide +kernel
theorem dX8_book_62 : decode cX8_book 62 = .ok (.imul, 1) := by decide +kernel
theorem dX8_book_63 : decode cX8_book 63 = .ok (.iload_n 2, 1) := by decide +kernel
theorem dX8_book_64 : decode cX8_book 64 = .ok (.iadd, 1) := by decide +kernel
theorem dX8_book_65 : decode cX8_book 65 = .ok (.iaload, 1) := by decide +kernel
theorem dX8_book_66 : decode cX8_book 66 = .ok (.ifCond .gt 9, 3) := by decide +kernel
theorem dX8_book_69 : decode cX8_book 69 = .ok (.iload 4, 2) := by decide +kernel
theorem dX8_book_71 : decode cX8_book 71 = .ok (.iconst (-1), 1) := by decide +kernel
theorem dX8_book_72 : decode cX8_book 72 = .ok (.if_icmp .ne 9, 3) := by decide +kernel
theorem dX8_book_75 : decode cX8_book 75 = .ok (.aload_n 0, 1) := by decide +kernel
theorem dX8_book_76 : decode cX8_book 76 = .ok (.iconst 3, 1) := by decide +kernel
theorem dX8_book_77 : decode cX8_book 77 = .ok (.invokevirtual 162, 3) := by decide +kernel
theorem dX8_book_80 : decode cX8_book 80 = .ok (.ireturn, 1) := by decide +kernel
theorem dX8_book_81 : decode cX8_book 81 = .ok (.aload_n 0, 1) := by decide +kernel
theorem dX8_book_82 : decode cX8_book 82 = .ok (.getfield 46, 3) := by decide +kernel
theorem dX8_book_85 : decode cX8_book 85 = .ok (.sipush 1051, 3) := by decide +kernel
theorem dX8_book_88 : decode cX8_book 88 = .ok (.iload_n 1, 1) := by decide +kernel
theorem dX8_book_89 : decode cX8_book 89 = .ok (.imul, 1) := by decide +kernel
theorem dX8_book_90 : decode cX8_book 90 = .ok (.iload_n 2, 1) := by decide +kernel
theorem dX8_book_91 : decode cX8_book 91 = .ok (.iadd, 1) := by decide +kernel
theorem dX8_book_92 : decode cX8_book 92 = .ok (.iload 4, 2) := by decide +kernel
theorem dX8_book_94 : decode cX8_book 94 = .ok (.iconst 1, 1) := by decide +kernel
theorem dX8_book_95 : decode cX8_book 95 = .ok (.iadd, 1) := by decide +kernel
theorem dX8_book_96 : decode cX8_book 96 = .ok (.iastore, 1) := by decide +kernel
theorem dX8_book_97 : decode cX8_book 97 = .ok (.iload 4, 2) := by decide +kernel
theorem dX8_book_99 : decode cX8_book 99 = .ok (.ireturn, 1) := by decide +kernel
theorem dX8_renew_0 : decode cX8_renew 0 = .ok (.aload_n 0, 1) := by decide +kernel
theorem dX8_renew_1 : decode cX8_renew 1 = .ok (.iload_n 1, 1) := by decide +kernel
theorem dX8_renew_2 : decode cX8_renew 2 = .ok (.invokestatic 93, 3) := by decide +kernel
theorem dX8_renew_5 : decode cX8_renew 5 = .ok (.ifCond .ne 7, 3) := by decide +kernel
theorem dX8_renew_8 : decode cX8_renew 8 = .ok (.iconst 1, 1) := by decide +kernel
theorem dX8_renew_9 : decode cX8_renew 9 = .ok (.goto 35, 3) := by decide +kernel
theorem dX8_renew_12 : decode cX8_renew 12 = .ok (.aload_n 0, 1) := by decide +kernel
theorem dX8_renew_13 : decode cX8_renew 13 = .ok (.iload_n 2, 1) := by decide +kernel
theorem dX8_renew_14 : decode cX8_renew 14 = .ok (.invokevirtual 159, 3) := by decide +kernel
theorem dX8_renew_17 : decode cX8_renew 17 = .ok (.ifCond .ne 7, 3) := by decide +kernel
theorem dX8_renew_20 : decode cX8_renew 20 = .ok (.iconst 2, 1) := by decide +kernel
theorem dX8_renew_21 : decode cX8_renew 21 = .ok (.goto 23, 3) := by decide +kernel
theorem dX8_renew_24 : decode cX8_renew 24 = .ok (.aload_n 0, 1) := by decide +kernel
theorem dX8_renew_25 : decode cX8_renew 25 = .ok (.getfield 46, 3) := by decide +kernel
theorem dX8_renew_28 : decode cX8_renew 28 = .ok (.sipush 1051, 3) := by decide +kernel
theorem dX8_renew_31 : decode cX8_renew 31 = .ok (.iload_n 1, 1) := by decide +kernel
theorem dX8_renew_32 : decode cX8_renew 32 = .ok (.imul, 1) := by decide +kernel
theorem dX8_renew_33 : decode cX8_renew 33 = .ok (.iload_n 2, 1) := by decide +kernel
theorem dX8_renew_34 : decode cX8_renew 34 = .ok (.iadd, 1) := by decide +kernel
theorem dX8_renew_35 : decode cX8_renew 35 = .ok (.iaload, 1) := by decide +kernel
theorem dX8_renew_36 : decode cX8_renew 36 = .ok (.ifCond .ne 7, 3) := by decide +kernel
theorem dX8_renew_39 : decode cX8_renew 39 = .ok (.iconst 3, 1) := by decide +kernel
theorem dX8_renew_40 : decode cX8_renew 40 = .ok (.goto 4, 3) := by decide +kernel
theorem dX8_renew_43 : decode cX8_renew 43 = .ok (.iconst 0, 1) := by decide +kernel
theorem dX8_renew_44 : decode cX8_renew 44 = .ok (.putfield 82, 3) := by decide +kernel
theorem dX8_renew_47 : decode cX8_renew 47 = .ok (.aload_n 0, 1) := by decide +kernel
theorem dX8_renew_48 : decode cX8_renew 48 = .ok (.getfield 82, 3) := by decide +kernel
theorem dX8_renew_51 : decode cX8_renew 51 = .ok (.ifCond .le 5, 3) := by decide +kernel
theorem dX8_renew_54 : decode cX8_renew 54 = .ok (.iconst 0, 1) := by decide +kernel
theorem dX8_renew_55 : decode cX8_renew 55 = .ok (.ireturn, 1) := by decide +kernel
theorem dX8_renew_56 : decode cX8_renew 56 = .ok (.aload_n 0, 1) := by decide +kernel
theorem dX8_renew_57 : decode cX8_renew 57 = .ok (.iload_n 1, 1) := by decide +kernel
theorem dX8_renew_58 : decode cX8_renew 58 = .ok (.aload_n 0, 1) := by decide +kernel
theorem dX8_renew_59 : decode cX8_renew 59 = .ok (.getfield 31, 3) := by decide +kernel
theorem dX8_renew_62 : decode cX8_renew 62 = .ok (.aload_n 0, 1) := by decide +kernel
theorem dX8_renew_63 : decode cX8_renew 63 = .ok (.getfield 46, 3) := by decide +kernel
theorem dX8_renew_66 : decode cX8_renew 66 = .ok (.sipush 1051, 3) := by decide +kernel
theorem dX8_renew_69 : decode cX8_renew 69 = .ok (.iload_n 1, 1) := by decide +kernel
theorem dX8_renew_70 : decode cX8_renew 70 = .ok (.imul, 1) := by decide +kernel
theorem dX8_renew_71 : decode cX8_renew 71 = .ok (.iload_n 2, 1) := by decide +kernel
theorem dX8_renew_72 : decode cX8_renew 72 = .ok (.iadd, 1) := by decide +kernel
theorem dX8_renew_73 : decode cX8_renew 73 = .ok (.iaload, 1) := by decide +kernel
theorem dX8_renew_74 : decode cX8_renew 74 = .ok (.iconst 1, 1) := by decide +kernel
theorem dX8_renew_75 : decode cX8_renew 75 = .ok (.isub, 1) := by decide +kernel
theorem dX8_renew_76 : decode cX8_renew 76 = .ok (.iaload, 1) := by decide +kernel
theorem dX8_renew_77 : decode cX8_renew 77 = .ok (.invokevirtual 144, 3) := by decide +kernel
theorem dX8_renew_80 : decode cX8_renew 80 = .ok (.istore_n 3, 1) := by decide +kernel
theorem dX8_renew_81 : decode cX8_renew 81 = .ok (.iload_n 3, 1) := by decide +kernel
theorem dX8_renew_82 : decode cX8_renew 82 = .ok (.iconst (-1), 1) := by decide +kernel
theorem dX8_renew_83 : decode cX8_renew 83 = .ok (.if_icmp .ne 9, 3) := by decide +kernel
theorem dX8_renew_86 : decode cX8_renew 86 = .ok (.aload_n 0, 1) := by decide +kernel
theorem dX8_renew_87 : decode cX8_renew 87 = .ok (.iconst 3, 1) := by decide +kernel
theorem dX8_renew_88 : decode cX8_renew 88 = .ok (.invokevirtual 162, 3) := by decide +kernel
theorem dX8_renew_91 : decode cX8_renew 91 = .ok (.ireturn, 1) := by decide +kernel
theorem dX8_renew_92 : decode cX8_renew 92 = .ok (.aload_n 0, 1) := by decide +kernel
theorem dX8_renew_93 : decode cX8_renew 93 = .ok (.getfield 46, 3) := by decide +kernel
theorem dX8_renew_96 : decode cX8_renew 96 = .ok (.sipush 1051, 3) := by decide +kernel
theorem dX8_renew_99 : decode cX8_renew 99 = .ok (.iload_n 1, 1) := by decide +kernel
theorem dX8_renew_100 : decode cX8_renew 100 = .ok (.imul, 1) := by decide +kernel
theorem dX8_renew_101 : decode cX8_renew 101 = .ok (.iload_n 2, 1) := by decide +kernel
theorem dX8_renew_102 : decode cX8_renew 102 = .ok (.iadd, 1) := by decide +kernel
theorem dX8_renew_103 : decode cX8_renew 103 = .ok (.iload_n 3, 1) := by decide +kernel
theorem dX8_renew_104 : decode cX8_renew 104 = .ok (.iconst 1, 1) := by decide +kernel
theorem dX8_renew_105 : decode cX8_renew 105 = .ok (.iadd, 1) := by decide +kernel
theorem dX8_renew_106 : decode cX8_renew 106 = .ok (.iastore, 1) := by decide +kernel
theorem dX8_renew_107 : decode cX8_renew 107 = .ok (.iload_n 3, 1) := by decide +kernel
theorem dX8_renew_108 : decode cX8_renew 108 = .ok (.ireturn, 1) := by decide +kernel
theorem dX8_free_0 : decode cX8_free 0 = .ok (.aload_n 0, 1) := by decide +kernel
theorem dX8_free_1 : decode cX8_free 1 = .ok (.iload_n 1, 1) := by decide +kernel
theorem dX8_free_2 : decode cX8_free 2 = .ok (.invokestatic 93, 3) := by decide +kernel
theorem dX8_free_5 : decode cX8_free 5 = .ok (.ifCond .ne 7, 3) := by decide +kernel
theorem dX8_free_8 : decode cX8_free 8 = .ok (.iconst 1, 1) := by decide +kernel
theorem dX8_free_9 : decode cX8_free 9 = .ok (.goto 35, 3) := by decide +kernel
theorem dX8_free_12 : decode cX8_free 12 = .ok (.aload_n 0, 1) := by decide +kernel
theorem dX8_free_13 : decode cX8_free 13 = .ok (.iload_n 2, 1) := by decide +kernel
theorem dX8_free_14 : decode cX8_free 14 = .ok (.invokevirtual 159, 3) := by decide +kernel
theorem dX8_free_17 : decode cX8_free 17 = .ok (.ifCond .ne 7, 3) := by decide +kernel
theorem dX8_free_20 : decode cX8_free 20 = .ok (.iconst 2, 1) := by decide +kernel
theorem dX8_free_21 : decode cX8_free 21 = .ok (.goto 23, 3) := by decide +kernel
theorem dX8_free_24 : decode cX8_free 24 = .ok (.aload_n 0, 1) := by decide +kernel
theorem dX8_free_25 : decode cX8_free 25 = .ok (.getfield 46, 3) := by decide +kernel
theorem dX8_free_28 : decode cX8_free 28 = .ok (.sipush 1051, 3) := by decide +kernel
theorem dX8_free_31 : decode cX8_free 31 = .ok (.iload_n 1, 1) := by decide +kernel
theorem dX8_free_32 : decode cX8_free 32 = .ok (.imul, 1) := by decide +kernel
theorem dX8_free_33 : decode cX8_free 33 = .ok (.iload_n 2, 1) := by decide +kernel
theorem dX8_free_34 : decode cX8_free 34 = .ok (.iadd, 1) := by decide +kernel
theorem dX8_free_35 : decode cX8_free 35 = .ok (.iaload, 1) := by decide +kernel
theorem dX8_free_36 : decode cX8_free 36 = .ok (.ifCond .ne 7, 3) := by decide +kernel
theorem dX8_free_39 : decode cX8_free 39 = .ok (.iconst 3, 1) := by decide +kernel
theorem dX8_free_40 : decode cX8_free 40 = .ok (.goto 4, 3) := by decide +kernel
theorem dX8_free_43 : decode cX8_free 43 = .ok (.iconst 0, 1) := by decide +kernel
theorem dX8_free_44 : decode cX8_free 44 = .ok (.putfield 82, 3) := by decide +kernel
theorem dX8_free_47 : decode cX8_free 47 = .ok (.aload_n 0, 1) := by decide +kernel
theorem dX8_free_48 : decode cX8_free 48 = .ok (.getfield 82, 3) := by decide +kernel
theorem dX8_free_51 : decode cX8_free 51 = .ok (.ifCond .le 5, 3) := by decide +kernel
theorem dX8_free_54 : decode cX8_free 54 = .ok (.iconst 0, 1) := by decide +kernel
theorem dX8_free_55 : decode cX8_free 55 = .ok (.ireturn, 1) := by decide +kernel
theorem dX8_free_56 : decode cX8_free 56 = .ok (.aload_n 0, 1) := by decide +kernel
theorem dX8_free_57 : decode cX8_free 57 = .ok (.getfield 46, 3) := by decide +kernel
theorem dX8_free_60 : decode cX8_free 60 = .ok (.sipush 1051, 3) := by decide +kernel
theorem dX8_free_63 : decode cX8_free 63 = .ok (.iload_n 1, 1) := by decide +kernel
theorem dX8_free_64 : decode cX8_free 64 = .ok (.imul, 1) := by decide +kernel
theorem dX8_free_65 : decode cX8_free 65 = .ok (.iload_n 2, 1) := by decide +kernel
theorem dX8_free_66 : decode cX8_free 66 = .ok (.iadd, 1) := by decide +kernel
theorem dX8_free_67 : decode cX8_free 67 = .ok (.iaload, 1) := by decide +kernel
theorem dX8_free_68 : decode cX8_free 68 = .ok (.iconst 1, 1) := by decide +kernel
theorem dX8_free_69 : decode cX8_free 69 = .ok (.isub, 1) := by decide +kernel
theorem dX8_free_70 : decode cX8_free 70 = .ok (.istore_n 3, 1) := by decide +kernel
theorem dX8_free_71 : decode cX8_free 71 = .ok (.aload_n 0, 1) := by decide +kernel
theorem dX8_free_72 : decode cX8_free 72 = .ok (.getfield 46, 3) := by decide +kernel
theorem dX8_free_75 : decode cX8_free 75 = .ok (.sipush 1051, 3) := by decide +kernel
theorem dX8_free_78 : decode cX8_free 78 = .ok (.iload_n 1, 1) := by decide +kernel
theorem dX8_free_79 : decode cX8_free 79 = .ok (.imul, 1) := by decide +kernel
theorem dX8_free_80 : decode cX8_free 80 = .ok (.iload_n 2, 1) := by decide +kernel
theorem dX8_free_81 : decode cX8_free 81 = .ok (.iadd, 1) := by decide +kernel
theorem dX8_free_82 : decode cX8_free 82 = .ok (.iconst 0, 1) := by decide +kernel
theorem dX8_free_83 : decode cX8_free 83 = .ok (.iastore, 1) := by decide +kernel
theorem dX8_free_84 : decode cX8_free 84 = .ok (.iload_n 3, 1) := by decide +kernel
theorem dX8_free_85 : decode cX8_free 85 = .ok (.ireturn, 1) := by decide +kernel
theorem dX8_booked_0 : decode cX8_booked 0 = .ok (.aload_n 0, 1) := by decide +kernel
theorem dX8_booked_1 : decode cX8_booked 1 = .ok (.iload_n 1, 1) := by decide +kernel
theorem dX8_booked_2 : decode cX8_booked 2 = .ok (.invokestatic 93, 3) := by decide +kernel
theorem dX8_booked_5 : decode cX8_booked 5 = .ok (.ifCond .ne 7, 3) := by decide +kernel
theorem dX8_booked_8 : decode cX8_booked 8 = .ok (.iconst 1, 1) := by decide +kernel
theorem dX8_booked_9 : decode cX8_booked 9 = .ok (.goto 16, 3) := by decide +kernel
theorem dX8_booked_12 : decode cX8_booked 12 = .ok (.aload_n 0, 1) := by decide +kernel
theorem dX8_booked_13 : decode cX8_booked 13 = .ok (.iload_n 2, 1) := by decide +kernel
theorem dX8_booked_14 : decode cX8_booked 14 = .ok (.invokevirtual 159, 3) := by decide +kernel
theorem dX8_booked_17 : decode cX8_booked 17 = .ok (.ifCond .ne 7, 3) := by decide +kernel
theorem dX8_booked_20 : decode cX8_booked 20 = .ok (.iconst 2, 1) := by decide +kernel
theorem dX8_booked_21 : decode cX8_booked 21 = .ok (.goto 4, 3) := by decide +kernel
theorem dX8_booked_24 : decode cX8_booked 24 = .ok (.iconst 0, 1) := by decide +kernel
theorem dX8_booked_25 : decode cX8_booked 25 = .ok (.putfield 82, 3) := by decide +kernel
theorem dX8_booked_28 : decode cX8_booked 28 = .ok (.aload_n 0, 1) := by decide +kernel
theorem dX8_booked_29 : decode cX8_booked 29 = .ok (.getfield 82, 3) := by decide +kernel
theorem dX8_booked_32 : decode cX8_booked 32 = .ok (.ifCond .ne 20, 3) := by decide +kernel
theorem dX8_booked_35 : decode cX8_booked 35 = .ok (.aload_n 0, 1) := by decide +kernel
theorem dX8_booked_36 : decode cX8_booked 36 = .ok (.getfield 46, 3) := by decide +kernel
theorem dX8_booked_39 : decode cX8_booked 39 = .ok (.sipush 1051, 3) := by decide +kernel
theorem dX8_booked_42 : decode cX8_booked 42 = .ok (.iload_n 1, 1) := by decide +kernel
theorem dX8_booked_43 : decode cX8_booked 43 = .ok (.imul, 1) := by decide +kernel
theorem dX8_booked_44 : decode cX8_booked 44 = .ok (.iload_n 2, 1) := by decide +kernel
theorem dX8_booked_45 : decode cX8_booked 45 = .ok (.iadd, 1) := by decide +kernel
theorem dX8_booked_46 : decode cX8_booked 46 = .ok (.iaload, 1) := by decide +kernel
theorem dX8_booked_47 : decode cX8_booked 47 = .ok (.iconst 1, 1) := by decide +kernel
theorem dX8_booked_48 : decode cX8_booked 48 = .ok (.isub, 1) := by decide +kernel
theorem dX8_booked_49 : decode cX8_booked 49 = .ok (.goto 4, 3) := by decide +kernel
theorem dX8_booked_52 : decode cX8_booked 52 = .ok (.iconst 0, 1) := by decide +kernel
theorem dX8_booked_53 : decode cX8_booked 53 = .ok (.ireturn, 1) := by decide +kernel
theorem dX8_stopped_0 : decode cX8_stopped 0 = .ok (.aload_n 0, 1) := by decide +kernel
theorem dX8_stopped_1 : decode cX8_stopped 1 = .ok (.iconst 0, 1) := by decide +kernel
theorem dX8_stopped_2 : decode cX8_stopped 2 = .ok (.putfield 82, 3) := by decide +kernel
theorem dX8_stopped_5 : decode cX8_stopped 5 = .ok (.iconst 0, 1) := by decide +kernel
theorem dX8_stopped_6 : decode cX8_stopped 6 = .ok (.istore_n 1, 1) := by decide +kernel
theorem dX8_stopped_7 : decode cX8_stopped 7 = .ok (.iconst 0, 1) := by decide +kernel
theorem dX8_stopped_8 : decode cX8_stopped 8 = .ok (.istore_n 2, 1) := by decide +kernel
theorem dX8_stopped_9 : decode cX8_stopped 9 = .ok (.iload_n 2, 1) := by decide +kernel
theorem dX8_stopped_10 : decode cX8_stopped 10 = .ok (.iconst 5, 1) := by decide +kernel
theorem dX8_stopped_11 : decode cX8_stopped 11 = .ok (.if_icmp .ge 69, 3) := by decide +kernel
theorem dX8_stopped_14 : decode cX8_stopped 14 = .ok (.aload_n 0, 1) := by decide +kernel
theorem dX8_stopped_15 : decode cX8_stopped 15 = .ok (.getfield 156, 3) := by decide +kernel
theorem dX8_stopped_18 : decode cX8_stopped 18 = .ok (.istore_n 3, 1) := by decide +kernel
theorem dX8_stopped_19 : decode cX8_stopped 19 = .ok (.iload_n 3, 1) := by decide +kernel
theorem dX8_stopped_20 : decode cX8_stopped 20 = .ok (.aload_n 0, 1) := by decide +kernel
theorem dX8_stopped_21 : decode cX8_stopped 21 = .ok (.getfield 156, 3) := by decide +kernel
theorem dX8_stopped_24 : decode cX8_stopped 24 = .ok (.bipush 50, 2) := by decide +kernel
theorem dX8_stopped_26 : decode cX8_stopped 26 = .ok (.iadd, 1) := by decide +kernel
theorem dX8_stopped_27 : decode cX8_stopped 27 = .ok (.if_icmp .gt 47, 3) := by decide +kernel
theorem dX8_stopped_30 : decode cX8_stopped 30 = .ok (.aload_n 0, 1) := by decide +kernel
theorem dX8_stopped_31 : decode cX8_stopped 31 = .ok (.getfield 46, 3) := by decide +kernel
theorem dX8_stopped_34 : decode cX8_stopped 34 = .ok (.sipush 1051, 3) := by decide +kernel
theorem dX8_stopped_37 : decode cX8_stopped 37 = .ok (.iload_n 2, 1) := by decide +kernel
theorem dX8_stopped_38 : decode cX8_stopped 38 = .ok (.imul, 1) := by decide +kernel
theorem dX8_stopped_39 : decode cX8_stopped 39 = .ok (.iload_n 3, 1) := by decide +kernel
theorem dX8_stopped_40 : decode cX8_stopped 40 = .ok (.iadd, 1) := by decide +kernel
theorem dX8_stopped_41 : decode cX8_stopped 41 = .ok (.iaload, 1) := by decide +kernel
theorem dX8_stopped_42 : decode cX8_stopped 42 = .ok (.istore 4, 2) := by decide +kernel
theorem dX8_stopped_44 : decode cX8_stopped 44 = .ok (.iload_n 1, 1) := by decide +kernel
theorem dX8_stopped_45 : decode cX8_stopped 45 = .ok (.iload 4, 2) := by decide +kernel
theorem dX8_stopped_47 : decode cX8_stopped 47 = .ok (.ifCond .le 18, 3) := by decide +kernel
theorem dX8_stopped_50 : decode cX8_stopped 50 = .ok (.aload_n 0, 1) := by decide +kernel
theorem dX8_stopped_51 : decode cX8_stopped 51 = .ok (.iload 4, 2) := by decide +kernel
theorem dX8_stopped_53 : decode cX8_stopped 53 = .ok (.iconst 1, 1) := by decide +kernel
theorem dX8_stopped_54 : decode cX8_stopped 54 = .ok (.isub, 1) := by decide +kernel
theorem dX8_stopped_55 : decode cX8_stopped 55 = .ok (.invokevirtual 125, 3) := by decide +kernel
theorem dX8_stopped_58 : decode cX8_stopped 58 = .ok (.ifCond .ne 7, 3) := by decide +kernel
theorem dX8_stopped_61 : decode cX8_stopped 61 = .ok (.iconst 1, 1) := by decide +kernel
theorem dX8_stopped_62 : decode cX8_stopped 62 = .ok (.goto 4, 3) := by decide +kernel
theorem dX8_stopped_65 : decode cX8_stopped 65 = .ok (.iconst 0, 1) := by decide +kernel
theorem dX8_stopped_66 : decode cX8_stopped 66 = .ok (.iadd, 1) := by decide +kernel
theorem dX8_stopped_67 : decode cX8_stopped 67 = .ok (.istore_n 1, 1) := by decide +kernel
theorem dX8_stopped_68 : decode cX8_stopped 68 = .ok (.iinc 3 1, 3) := by decide +kernel
theorem dX8_stopped_71 : decode cX8_stopped 71 = .ok (.goto (-52), 3) := by decide +kernel
theorem dX8_stopped_74 : decode cX8_stopped 74 = .ok (.iinc 2 1, 3) := by decide +kernel
theorem dX8_stopped_77 : decode cX8_stopped 77 = .ok (.goto (-68), 3) := by decide +kernel
theorem dX8_stopped_80 : decode cX8_stopped 80 = .ok (.iload_n 1, 1) := by decide +kernel
theorem dX8_stopped_81 : decode cX8_stopped 81 = .ok (.ireturn, 1) := by decide +kernel
theorem dX8_bakes_0 : decode cX8_bakes 0 = .ok (.aload_n 0, 1) := by decide +kernel
theorem dX8_bakes_1 : decode cX8_bakes 1 = .ok (.iload_n 2, 1) := by decide +kernel
theorem dX8_bakes_2 : decode cX8_bakes 2 = .ok (.invokevirtual 125, 3) := by decide +kernel
theorem dX8_bakes_5 : decode cX8_bakes 5 = .ok (.ifCond .eq 27, 3) := by decide +kernel
theorem dX8_bakes_8 : decode cX8_bakes 8 = .ok (.aload_n 0, 1) := by decide +kernel
theorem dX8_bakes_9 : decode cX8_bakes 9 = .ok (.getfield 55, 3) := by decide +kernel
theorem dX8_bakes_12 : decode cX8_bakes 12 = .ok (.iload_n 1, 1) := by decide +kernel
theorem dX8_bakes_13 : decode cX8_bakes 13 = .ok (.iaload, 1) := by decide +kernel
theorem dX8_bakes_14 : decode cX8_bakes 14 = .ok (.aload_n 0, 1) := by decide +kernel
theorem dX8_bakes_15 : decode cX8_bakes 15 = .ok (.getfield 34, 3) := by decide +kernel
theorem dX8_bakes_18 : decode cX8_bakes 18 = .ok (.iload_n 2, 1) := by decide +kernel
theorem dX8_bakes_19 : decode cX8_bakes 19 = .ok (.iaload, 1) := by decide +kernel
theorem dX8_bakes_20 : decode cX8_bakes 20 = .ok (.if_icmp .lt 12, 3) := by decide +kernel
theorem dX8_bakes_23 : decode cX8_bakes 23 = .ok (.aload_n 0, 1) := by decide +kernel
theorem dX8_bakes_24 : decode cX8_bakes 24 = .ok (.getfield 128, 3) := by decide +kernel
theorem dX8_bakes_27 : decode cX8_bakes 27 = .ok (.bipush 60, 2) := by decide +kernel
theorem dX8_bakes_29 : decode cX8_bakes 29 = .ok (.if_icmp .ne 15, 3) := by decide +kernel
theorem dX8_bakes_32 : decode cX8_bakes 32 = .ok (.aload_n 0, 1) := by decide +kernel
theorem dX8_bakes_33 : decode cX8_bakes 33 = .ok (.getfield 58, 3) := by decide +kernel
theorem dX8_bakes_36 : decode cX8_bakes 36 = .ok (.iload_n 1, 1) := by decide +kernel
theorem dX8_bakes_37 : decode cX8_bakes 37 = .ok (.dup2, 1) := by decide +kernel
theorem dX8_bakes_38 : decode cX8_bakes 38 = .ok (.iaload, 1) := by decide +kernel
theorem dX8_bakes_39 : decode cX8_bakes 39 = .ok (.iconst 1, 1) := by decide +kernel
theorem dX8_bakes_40 : decode cX8_bakes 40 = .ok (.iadd, 1) := by decide +kernel
theorem dX8_bakes_41 : decode cX8_bakes 41 = .ok (.iastore, 1) := by decide +kernel
theorem dX8_bakes_42 : decode cX8_bakes 42 = .ok (.iconst 0, 1) := by decide +kernel
theorem dX8_bakes_43 : decode cX8_bakes 43 = .ok (.ireturn, 1) := by decide +kernel
theorem dX8_bakes_44 : decode cX8_bakes 44 = .ok (.iconst 0, 1) := by decide +kernel
theorem dX8_bakes_45 : decode cX8_bakes 45 = .ok (.istore_n 3, 1) := by decide +kernel
theorem dX8_bakes_46 : decode cX8_bakes 46 = .ok (.iconst 0, 1) := by decide +kernel
theorem dX8_bakes_47 : decode cX8_bakes 47 = .ok (.istore 4, 2) := by decide +kernel
theorem dX8_bakes_49 : decode cX8_bakes 49 = .ok (.iload 4, 2) := by decide +kernel
theorem dX8_bakes_51 : decode cX8_bakes 51 = .ok (.aload_n 0, 1) := by decide +kernel
theorem dX8_bakes_52 : decode cX8_bakes 52 = .ok (.getfield 55, 3) := by decide +kernel
theorem dX8_bakes_55 : decode cX8_bakes 55 = .ok (.iload_n 1, 1) := by decide +kernel
theorem dX8_bakes_56 : decode cX8_bakes 56 = .ok (.iaload, 1) := by decide +kernel
theorem dX8_bakes_57 : decode cX8_bakes 57 = .ok (.if_icmp .ge 74, 3) := by decide +kernel
theorem dX8_bakes_60 : decode cX8_bakes 60 = .ok (.iload 4, 2) := by decide +kernel
theorem dX8_bakes_62 : decode cX8_bakes 62 = .ok (.aload_n 0, 1) := by decide +kernel
theorem dX8_bakes_63 : decode cX8_bakes 63 = .ok (.getfield 34, 3) := by decide +kernel
theorem dX8_bakes_66 : decode cX8_bakes 66 = .ok (.iload_n 2, 1) := by decide +kernel
theorem dX8_bakes_67 : decode cX8_bakes 67 = .ok (.iaload, 1) := by decide +kernel
theorem dX8_bakes_68 : decode cX8_bakes 68 = .ok (.if_icmp .ge 24, 3) := by decide +kernel
theorem dX8_bakes_71 : decode cX8_bakes 71 = .ok (.iload_n 3, 1) := by decide +kernel
theorem dX8_bakes_72 : decode cX8_bakes 72 = .ok (.iconst 1, 1) := by decide +kernel
theorem dX8_bakes_73 : decode cX8_bakes 73 = .ok (.aload_n 0, 1) := by decide +kernel
theorem dX8_bakes_74 : decode cX8_bakes 74 = .ok (.getfield 52, 3) := by decide +kernel
theorem dX8_bakes_77 : decode cX8_bakes 77 = .ok (.sipush 200, 3) := by decide +kernel
theorem dX8_bakes_80 : decode cX8_bakes 80 = .ok (.iload_n 1, 1) := by decide +kernel
theorem dX8_bakes_81 : decode cX8_bakes 81 = .ok (.imul, 1) := by decide +kernel
theorem dX8_bakes_82 : decode cX8_bakes 82 = .ok (.iload 4, 2) := by decide +kernel
theorem dX8_bakes_84 : decode cX8_bakes 84 = .ok (.iadd, 1) := by decide +kernel
theorem dX8_bakes_85 : decode cX8_bakes 85 = .ok (.iaload, 1) := by decide +kernel
theorem dX8_bakes_86 : decode cX8_bakes 86 = .ok (.ishl, 1) := by decide +kernel
theorem dX8_bakes_87 : decode cX8_bakes 87 = .ok (.ior, 1) := by decide +kernel
theorem dX8_bakes_88 : decode cX8_bakes 88 = .ok (.istore_n 3, 1) := by decide +kernel
theorem dX8_bakes_89 : decode cX8_bakes 89 = .ok (.goto 36, 3) := by decide +kernel
theorem dX8_bakes_92 : decode cX8_bakes 92 = .ok (.aload_n 0, 1) := by decide +kernel
theorem dX8_bakes_93 : decode cX8_bakes 93 = .ok (.getfield 52, 3) := by decide +kernel
theorem dX8_bakes_96 : decode cX8_bakes 96 = .ok (.sipush 200, 3) := by decide +kernel
theorem dX8_bakes_99 : decode cX8_bakes 99 = .ok (.iload_n 1, 1) := by decide +kernel
theorem dX8_bakes_100 : decode cX8_bakes 100 = .ok (.imul, 1) := by decide +kernel
theorem dX8_bakes_101 : decode cX8_bakes 101 = .ok (.iload 4, 2) := by decide +kernel
theorem dX8_bakes_103 : decode cX8_bakes 103 = .ok (.iadd, 1) := by decide +kernel
theorem dX8_bakes_104 : decode cX8_bakes 104 = .ok (.aload_n 0, 1) := by decide +kernel
theorem dX8_bakes_105 : decode cX8_bakes 105 = .ok (.getfield 34, 3) := by decide +kernel
theorem dX8_bakes_108 : decode cX8_bakes 108 = .ok (.iload_n 2, 1) := by decide +kernel
theorem dX8_bakes_109 : decode cX8_bakes 109 = .ok (.iaload, 1) := by decide +kernel
theorem dX8_bakes_110 : decode cX8_bakes 110 = .ok (.isub, 1) := by decide +kernel
theorem dX8_bakes_111 : decode cX8_bakes 111 = .ok (.aload_n 0, 1) := by decide +kernel
theorem dX8_bakes_112 : decode cX8_bakes 112 = .ok (.getfield 52, 3) := by decide +kernel
theorem dX8_bakes_115 : decode cX8_bakes 115 = .ok (.sipush 200, 3) := by decide +kernel
theorem dX8_bakes_118 : decode cX8_bakes 118 = .ok (.iload_n 1, 1) := by decide +kernel
theorem dX8_bakes_119 : decode cX8_bakes 119 = .ok (.imul, 1) := by decide +kernel
theorem dX8_bakes_120 : decode cX8_bakes 120 = .ok (.iload 4, 2) := by decide +kernel
theorem dX8_bakes_122 : decode cX8_bakes 122 = .ok (.iadd, 1) := by decide +kernel
theorem dX8_bakes_123 : decode cX8_bakes 123 = .ok (.iaload, 1) := by decide +kernel
theorem dX8_bakes_124 : decode cX8_bakes 124 = .ok (.iastore, 1) := by decide +kernel
theorem dX8_bakes_125 : decode cX8_bakes 125 = .ok (.iinc 4 1, 3) := by decide +kernel
theorem dX8_bakes_128 : decode cX8_bakes 128 = .ok (.goto (-79), 3) := by decide +kernel
theorem dX8_bakes_131 : decode cX8_bakes 131 = .ok (.aload_n 0, 1) := by decide +kernel
theorem dX8_bakes_132 : decode cX8_bakes 132 = .ok (.getfield 55, 3) := by decide +kernel
theorem dX8_bakes_135 : decode cX8_bakes 135 = .ok (.iload_n 1, 1) := by decide +kernel
theorem dX8_bakes_136 : decode cX8_bakes 136 = .ok (.dup2, 1) := by decide +kernel
theorem dX8_bakes_137 : decode cX8_bakes 137 = .ok (.iaload, 1) := by decide +kernel
theorem dX8_bakes_138 : decode cX8_bakes 138 = .ok (.aload_n 0, 1) := by decide +kernel
theorem dX8_bakes_139 : decode cX8_bakes 139 = .ok (.getfield 34, 3) := by decide +kernel
theorem dX8_bakes_142 : decode cX8_bakes 142 = .ok (.iload_n 2, 1) := by decide +kernel
theorem dX8_bakes_143 : decode cX8_bakes 143 = .ok (.iaload, 1) := by decide +kernel
theorem dX8_bakes_144 : decode cX8_bakes 144 = .ok (.isub, 1) := by decide +kernel
theorem dX8_bakes_145 : decode cX8_bakes 145 = .ok (.iastore, 1) := by decide +kernel
theorem dX8_bakes_146 : decode cX8_bakes 146 = .ok (.aload_n 0, 1) := by decide +kernel
theorem dX8_bakes_147 : decode cX8_bakes 147 = .ok (.getfield 61, 3) := by decide +kernel
theorem dX8_bakes_150 : decode cX8_bakes 150 = .ok (.aload_n 0, 1) := by decide +kernel
theorem dX8_bakes_151 : decode cX8_bakes 151 = .ok (.getfield 128, 3) := by decide +kernel
theorem dX8_bakes_154 : decode cX8_bakes 154 = .ok (.iload_n 2, 1) := by decide +kernel
theorem dX8_bakes_155 : decode cX8_bakes 155 = .ok (.iastore, 1) := by decide +kernel
theorem dX8_bakes_156 : decode cX8_bakes 156 = .ok (.aload_n 0, 1) := by decide +kernel
theorem dX8_bakes_157 : decode cX8_bakes 157 = .ok (.getfield 64, 3) := by decide +kernel
theorem dX8_bakes_160 : decode cX8_bakes 160 = .ok (.aload_n 0, 1) := by decide +kernel
theorem dX8_bakes_161 : decode cX8_bakes 161 = .ok (.getfield 128, 3) := by decide +kernel
theorem dX8_bakes_164 : decode cX8_bakes 164 = .ok (.iload_n 3, 1) := by decide +kernel
theorem dX8_bakes_165 : decode cX8_bakes 165 = .ok (.iastore, 1) := by decide +kernel
theorem dX8_bakes_166 : decode cX8_bakes 166 = .ok (.aload_n 0, 1) := by decide +kernel
theorem dX8_bakes_167 : decode cX8_bakes 167 = .ok (.getfield 67, 3) := by decide +kernel
theorem dX8_bakes_170 : decode cX8_bakes 170 = .ok (.aload_n 0, 1) := by decide +kernel
theorem dX8_bakes_171 : decode cX8_bakes 171 = .ok (.getfield 128, 3) := by decide +kernel
theorem dX8_bakes_174 : decode cX8_bakes 174 = .ok (.aload_n 0, 1) := by decide +kernel
theorem dX8_bakes_175 : decode cX8_bakes 175 = .ok (.getfield 37, 3) := by decide +kernel
theorem dX8_bakes_178 : decode cX8_bakes 178 = .ok (.iload_n 2, 1) := by decide +kernel
theorem dX8_bakes_179 : decode cX8_bakes 179 = .ok (.iaload, 1) := by decide +kernel
theorem dX8_bakes_180 : decode cX8_bakes 180 = .ok (.iastore, 1) := by decide +kernel
theorem dX8_bakes_181 : decode cX8_bakes 181 = .ok (.aload_n 0, 1) := by decide +kernel
theorem dX8_bakes_182 : decode cX8_bakes 182 = .ok (.dup, 1) := by decide +kernel
theorem dX8_bakes_183 : decode cX8_bakes 183 = .ok (.getfield 128, 3) := by decide +kernel
theorem dX8_bakes_186 : decode cX8_bakes 186 = .ok (.iconst 1, 1) := by decide +kernel
theorem dX8_bakes_187 : decode cX8_bakes 187 = .ok (.iadd, 1) := by decide +kernel
theorem dX8_bakes_188 : decode cX8_bakes 188 = .ok (.putfield 128, 3) := by decide +kernel
theorem dX8_bakes_191 : decode cX8_bakes 191 = .ok (.iconst 1, 1) := by decide +kernel
theorem dX8_bakes_192 : decode cX8_bakes 192 = .ok (.ireturn, 1) := by decide +kernel
theorem dX8_pass_0 : decode cX8_pass 0 = .ok (.aload_n 0, 1) := by decide +kernel
theorem dX8_pass_1 : decode cX8_pass 1 = .ok (.iload_n 1, 1) := by decide +kernel
theorem dX8_pass_2 : decode cX8_pass 2 = .ok (.iconst 1, 1) := by decide +kernel
theorem dX8_pass_3 : decode cX8_pass 3 = .ok (.bipush 50, 2) := by decide +kernel
theorem dX8_pass_5 : decode cX8_pass 5 = .ok (.invokestatic 86, 3) := by decide +kernel
theorem dX8_pass_8 : decode cX8_pass 8 = .ok (.ifCond .ne 7, 3) := by decide +kernel
theorem dX8_pass_11 : decode cX8_pass 11 = .ok (.iconst 1, 1) := by decide +kernel
theorem dX8_pass_12 : decode cX8_pass 12 = .ok (.goto 20, 3) := by decide +kernel
theorem dX8_pass_15 : decode cX8_pass 15 = .ok (.aload_n 0, 1) := by decide +kernel
theorem dX8_pass_16 : decode cX8_pass 16 = .ok (.getfield 156, 3) := by decide +kernel
theorem dX8_pass_19 : decode cX8_pass 19 = .ok (.iload_n 1, 1) := by decide +kernel
theorem dX8_pass_20 : decode cX8_pass 20 = .ok (.iadd, 1) := by decide +kernel
theorem dX8_pass_21 : decode cX8_pass 21 = .ok (.sipush 1000, 3) := by decide +kernel
theorem dX8_pass_24 : decode cX8_pass 24 = .ok (.if_icmp .le 7, 3) := by decide +kernel
theorem dX8_pass_27 : decode cX8_pass 27 = .ok (.iconst 2, 1) := by decide +kernel
theorem dX8_pass_28 : decode cX8_pass 28 = .ok (.goto 4, 3) := by decide +kernel
theorem dX8_pass_31 : decode cX8_pass 31 = .ok (.iconst 0, 1) := by decide +kernel
theorem dX8_pass_32 : decode cX8_pass 32 = .ok (.putfield 82, 3) := by decide +kernel
theorem dX8_pass_35 : decode cX8_pass 35 = .ok (.iconst 0, 1) := by decide +kernel
theorem dX8_pass_36 : decode cX8_pass 36 = .ok (.istore_n 2, 1) := by decide +kernel
theorem dX8_pass_37 : decode cX8_pass 37 = .ok (.iconst 0, 1) := by decide +kernel
theorem dX8_pass_38 : decode cX8_pass 38 = .ok (.istore_n 3, 1) := by decide +kernel
theorem dX8_pass_39 : decode cX8_pass 39 = .ok (.iload_n 3, 1) := by decide +kernel
theorem dX8_pass_40 : decode cX8_pass 40 = .ok (.iload_n 1, 1) := by decide +kernel
theorem dX8_pass_41 : decode cX8_pass 41 = .ok (.if_icmp .ge 85, 3) := by decide +kernel
theorem dX8_pass_44 : decode cX8_pass 44 = .ok (.aload_n 0, 1) := by decide +kernel
theorem dX8_pass_45 : decode cX8_pass 45 = .ok (.getfield 82, 3) := by decide +kernel
theorem dX8_pass_48 : decode cX8_pass 48 = .ok (.ifCond .ne 78, 3) := by decide +kernel
theorem dX8_pass_51 : decode cX8_pass 51 = .ok (.iconst 0, 1) := by decide +kernel
theorem dX8_pass_52 : decode cX8_pass 52 = .ok (.istore 4, 2) := by decide +kernel
theorem dX8_pass_54 : decode cX8_pass 54 = .ok (.iload 4, 2) := by decide +kernel
theorem dX8_pass_56 : decode cX8_pass 56 = .ok (.iconst 5, 1) := by decide +kernel
theorem dX8_pass_57 : decode cX8_pass 57 = .ok (.if_icmp .ge 53, 3) := by decide +kernel
theorem dX8_pass_60 : decode cX8_pass 60 = .ok (.aload_n 0, 1) := by decide +kernel
theorem dX8_pass_61 : decode cX8_pass 61 = .ok (.getfield 46, 3) := by decide +kernel
theorem dX8_pass_64 : decode cX8_pass 64 = .ok (.sipush 1051, 3) := by decide +kernel
theorem dX8_pass_67 : decode cX8_pass 67 = .ok (.iload 4, 2) := by decide +kernel
theorem dX8_pass_69 : decode cX8_pass 69 = .ok (.imul, 1) := by decide +kernel
theorem dX8_pass_70 : decode cX8_pass 70 = .ok (.aload_n 0, 1) := by decide +kernel
theorem dX8_pass_71 : decode cX8_pass 71 = .ok (.getfield 156, 3) := by decide +kernel
theorem dX8_pass_74 : decode cX8_pass 74 = .ok (.iadd, 1) := by decide +kernel
theorem dX8_pass_75 : decode cX8_pass 75 = .ok (.iaload, 1) := by decide +kernel
theorem dX8_pass_76 : decode cX8_pass 76 = .ok (.istore 5, 2) := by decide +kernel
theorem dX8_pass_78 : decode cX8_pass 78 = .ok (.iload_n 2, 1) := by decide +kernel
theorem dX8_pass_79 : decode cX8_pass 79 = .ok (.iload 5, 2) := by decide +kernel
theorem dX8_pass_81 : decode cX8_pass 81 = .ok (.ifCond .le 20, 3) := by decide +kernel
theorem dX8_pass_84 : decode cX8_pass 84 = .ok (.aload_n 0, 1) := by decide +kernel
theorem dX8_pass_85 : decode cX8_pass 85 = .ok (.iload 4, 2) := by decide +kernel
theorem dX8_pass_87 : decode cX8_pass 87 = .ok (.iload 5, 2) := by decide +kernel
theorem dX8_pass_89 : decode cX8_pass 89 = .ok (.iconst 1, 1) := by decide +kernel
theorem dX8_pass_90 : decode cX8_pass 90 = .ok (.isub, 1) := by decide +kernel
theorem dX8_pass_91 : decode cX8_pass 91 = .ok (.invokevirtual 165, 3) := by decide +kernel
theorem dX8_pass_94 : decode cX8_pass 94 = .ok (.ifCond .eq 7, 3) := by decide +kernel
theorem dX8_pass_97 : decode cX8_pass 97 = .ok (.iconst 1, 1) := by decide +kernel
theorem dX8_pass_98 : decode cX8_pass 98 = .ok (.goto 4, 3) := by decide +kernel
theorem dX8_pass_101 : decode cX8_pass 101 = .ok (.iconst 0, 1) := by decide +kernel
theorem dX8_pass_102 : decode cX8_pass 102 = .ok (.iadd, 1) := by decide +kernel
theorem dX8_pass_103 : decode cX8_pass 103 = .ok (.istore_n 2, 1) := by decide +kernel
theorem dX8_pass_104 : decode cX8_pass 104 = .ok (.iinc 4 1, 3) := by decide +kernel
theorem dX8_pass_107 : decode cX8_pass 107 = .ok (.goto (-53), 3) := by decide +kernel
theorem dX8_pass_110 : decode cX8_pass 110 = .ok (.aload_n 0, 1) := by decide +kernel
theorem dX8_pass_111 : decode cX8_pass 111 = .ok (.dup, 1) := by decide +kernel
theorem dX8_pass_112 : decode cX8_pass 112 = .ok (.getfield 156, 3) := by decide +kernel
theorem dX8_pass_115 : decode cX8_pass 115 = .ok (.iconst 1, 1) := by decide +kernel
theorem dX8_pass_116 : decode cX8_pass 116 = .ok (.iadd, 1) := by decide +kernel
theorem dX8_pass_117 : decode cX8_pass 117 = .ok (.putfield 156, 3) := by decide +kernel
theorem dX8_pass_120 : decode cX8_pass 120 = .ok (.iinc 3 1, 3) := by decide +kernel
theorem dX8_pass_123 : decode cX8_pass 123 = .ok (.goto (-84), 3) := by decide +kernel
theorem dX8_pass_126 : decode cX8_pass 126 = .ok (.iload_n 2, 1) := by decide +kernel
theorem dX8_pass_127 : decode cX8_pass 127 = .ok (.ireturn, 1) := by decide +kernel
theorem dX8_time_0 : decode cX8_time 0 = .ok (.aload_n 0, 1) := by decide +kernel
theorem dX8_time_1 : decode cX8_time 1 = .ok (.iconst 0, 1) := by decide +kernel
theorem dX8_time_2 : decode cX8_time 2 = .ok (.putfield 82, 3) := by decide +kernel
theorem dX8_time_5 : decode cX8_time 5 = .ok (.aload_n 0, 1) := by decide +kernel
theorem dX8_time_6 : decode cX8_time 6 = .ok (.getfield 156, 3) := by decide +kernel
theorem dX8_time_9 : decode cX8_time 9 = .ok (.ireturn, 1) := by decide +kernel
theorem dX8_missed_0 : decode cX8_missed 0 = .ok (.aload_n 0, 1) := by decide +kernel
theorem dX8_missed_1 : decode cX8_missed 1 = .ok (.iload_n 1, 1) := by decide +kernel
theorem dX8_missed_2 : decode cX8_missed 2 = .ok (.invokevirtual 138, 3) := by decide +kernel
theorem dX8_missed_5 : decode cX8_missed 5 = .ok (.ifCond .eq 12, 3) := by decide +kernel
theorem dX8_missed_8 : decode cX8_missed 8 = .ok (.aload_n 0, 1) := by decide +kernel
theorem dX8_missed_9 : decode cX8_missed 9 = .ok (.getfield 58, 3) := by decide +kernel
theorem dX8_missed_12 : decode cX8_missed 12 = .ok (.iload_n 1, 1) := by decide +kernel
theorem dX8_missed_13 : decode cX8_missed 13 = .ok (.iaload, 1) := by decide +kernel
theorem dX8_missed_14 : decode cX8_missed 14 = .ok (.goto 4, 3) := by decide +kernel
theorem dX8_missed_17 : decode cX8_missed 17 = .ok (.iconst 0, 1) := by decide +kernel
theorem dX8_missed_18 : decode cX8_missed 18 = .ok (.ireturn, 1) := by decide +kernel
theorem dX8_batches_0 : decode cX8_batches 0 = .ok (.aload_n 0, 1) := by decide +kernel
theorem dX8_batches_1 : decode cX8_batches 1 = .ok (.iconst 0, 1) := by decide +kernel
theorem dX8_batches_2 : decode cX8_batches 2 = .ok (.putfield 82, 3) := by decide +kernel
theorem dX8_batches_5 : decode cX8_batches 5 = .ok (.aload_n 0, 1) := by decide +kernel
theorem dX8_batches_6 : decode cX8_batches 6 = .ok (.getfield 128, 3) := by decide +kernel
theorem dX8_batches_9 : decode cX8_batches 9 = .ok (.ireturn, 1) := by decide +kernel
theorem dX8_isBatch_0 : decode cX8_isBatch 0 = .ok (.aload_n 0, 1) := by decide +kernel
theorem dX8_isBatch_1 : decode cX8_isBatch 1 = .ok (.iload_n 1, 1) := by decide +kernel
theorem dX8_isBatch_2 : decode cX8_isBatch 2 = .ok (.iconst 0, 1) := by decide +kernel
theorem dX8_isBatch_3 : decode cX8_isBatch 3 = .ok (.aload_n 0, 1) := by decide +kernel
theorem dX8_isBatch_4 : decode cX8_isBatch 4 = .ok (.getfield 128, 3) := by decide +kernel
theorem dX8_isBatch_7 : decode cX8_isBatch 7 = .ok (.iconst 1, 1) := by decide +kernel
theorem dX8_isBatch_8 : decode cX8_isBatch 8 = .ok (.isub, 1) := by decide +kernel
theorem dX8_isBatch_9 : decode cX8_isBatch 9 = .ok (.invokestatic 86, 3) := by decide +kernel
theorem dX8_isBatch_12 : decode cX8_isBatch 12 = .ok (.ifCond .eq 7, 3) := by decide +kernel
theorem dX8_isBatch_15 : decode cX8_isBatch 15 = .ok (.iconst 0, 1) := by decide +kernel
theorem dX8_isBatch_16 : decode cX8_isBatch 16 = .ok (.goto 4, 3) := by decide +kernel
theorem dX8_isBatch_19 : decode cX8_isBatch 19 = .ok (.iconst 1, 1) := by decide +kernel
theorem dX8_isBatch_20 : decode cX8_isBatch 20 = .ok (.putfield 82, 3) := by decide +kernel
theorem dX8_isBatch_23 : decode cX8_isBatch 23 = .ok (.aload_n 0, 1) := by decide +kernel
theorem dX8_isBatch_24 : decode cX8_isBatch 24 = .ok (.getfield 82, 3) := by decide +kernel
theorem dX8_isBatch_27 : decode cX8_isBatch 27 = .ok (.ifCond .ne 7, 3) := by decide +kernel
theorem dX8_isBatch_30 : decode cX8_isBatch 30 = .ok (.iconst 1, 1) := by decide +kernel
theorem dX8_isBatch_31 : decode cX8_isBatch 31 = .ok (.goto 4, 3) := by decide +kernel
theorem dX8_isBatch_34 : decode cX8_isBatch 34 = .ok (.iconst 0, 1) := by decide +kernel
theorem dX8_isBatch_35 : decode cX8_isBatch 35 = .ok (.ireturn, 1) := by decide +kernel
theorem dX8_versionOf_0 : decode cX8_versionOf 0 = .ok (.aload_n 0, 1) := by decide +kernel
theorem dX8_versionOf_1 : decode cX8_versionOf 1 = .ok (.iload_n 1, 1) := by decide +kernel
theorem dX8_versionOf_2 : decode cX8_versionOf 2 = .ok (.invokevirtual 168, 3) := by decide +kernel
theorem dX8_versionOf_5 : decode cX8_versionOf 5 = .ok (.ifCond .eq 12, 3) := by decide +kernel
theorem dX8_versionOf_8 : decode cX8_versionOf 8 = .ok (.aload_n 0, 1) := by decide +kernel
theorem dX8_versionOf_9 : decode cX8_versionOf 9 = .ok (.getfield 61, 3) := by decide +kernel
theorem dX8_versionOf_12 : decode cX8_versionOf 12 = .ok (.iload_n 1, 1) := by decide +kernel
theorem dX8_versionOf_13 : decode cX8_versionOf 13 = .ok (.iaload, 1) := by decide +kernel
theorem dX8_versionOf_14 : decode cX8_versionOf 14 = .ok (.goto 4, 3) := by decide +kernel
theorem dX8_versionOf_17 : decode cX8_versionOf 17 = .ok (.iconst 0, 1) := by decide +kernel
theorem dX8_versionOf_18 : decode cX8_versionOf 18 = .ok (.ireturn, 1) := by decide +kernel
theorem dX8_lotsOf_0 : decode cX8_lotsOf 0 = .ok (.aload_n 0, 1) := by decide +kernel
theorem dX8_lotsOf_1 : decode cX8_lotsOf 1 = .ok (.iload_n 1, 1) := by decide +kernel
theorem dX8_lotsOf_2 : decode cX8_lotsOf 2 = .ok (.invokevirtual 168, 3) := by decide +kernel
theorem dX8_lotsOf_5 : decode cX8_lotsOf 5 = .ok (.ifCond .eq 12, 3) := by decide +kernel
theorem dX8_lotsOf_8 : decode cX8_lotsOf 8 = .ok (.aload_n 0, 1) := by decide +kernel
theorem dX8_lotsOf_9 : decode cX8_lotsOf 9 = .ok (.getfield 64, 3) := by decide +kernel
theorem dX8_lotsOf_12 : decode cX8_lotsOf 12 = .ok (.iload_n 1, 1) := by decide +kernel
theorem dX8_lotsOf_13 : decode cX8_lotsOf 13 = .ok (.iaload, 1) := by decide +kernel
theorem dX8_lotsOf_14 : decode cX8_lotsOf 14 = .ok (.goto 4, 3) := by decide +kernel
theorem dX8_lotsOf_17 : decode cX8_lotsOf 17 = .ok (.iconst 0, 1) := by decide +kernel
theorem dX8_lotsOf_18 : decode cX8_lotsOf 18 = .ok (.ireturn, 1) := by decide +kernel
theorem dX8_left_0 : decode cX8_left 0 = .ok (.aload_n 0, 1) := by decide +kernel
theorem dX8_left_1 : decode cX8_left 1 = .ok (.iload_n 1, 1) := by decide +kernel
theorem dX8_left_2 : decode cX8_left 2 = .ok (.invokevirtual 168, 3) := by decide +kernel
theorem dX8_left_5 : decode cX8_left 5 = .ok (.ifCond .eq 12, 3) := by decide +kernel
theorem dX8_left_8 : decode cX8_left 8 = .ok (.aload_n 0, 1) := by decide +kernel
theorem dX8_left_9 : decode cX8_left 9 = .ok (.getfield 67, 3) := by decide +kernel
theorem dX8_left_12 : decode cX8_left 12 = .ok (.iload_n 1, 1) := by decide +kernel
theorem dX8_left_13 : decode cX8_left 13 = .ok (.iaload, 1) := by decide +kernel
theorem dX8_left_14 : decode cX8_left 14 = .ok (.goto 4, 3) := by decide +kernel
theorem dX8_left_17 : decode cX8_left 17 = .ok (.iconst 0, 1) := by decide +kernel
theorem dX8_left_18 : decode cX8_left 18 = .ok (.ireturn, 1) := by decide +kernel
theorem dX8_barredBy_0 : decode cX8_barredBy 0 = .ok (.iconst 0, 1) := by decide +kernel
theorem dX8_barredBy_1 : decode cX8_barredBy 1 = .ok (.istore_n 2, 1) := by decide +kernel
theorem dX8_barredBy_2 : decode cX8_barredBy 2 = .ok (.iconst 0, 1) := by decide +kernel
theorem dX8_barredBy_3 : decode cX8_barredBy 3 = .ok (.istore_n 3, 1) := by decide +kernel
theorem dX8_barredBy_4 : decode cX8_barredBy 4 = .ok (.iload_n 3, 1) := by decide +kernel
theorem dX8_barredBy_5 : decode cX8_barredBy 5 = .ok (.aload_n 0, 1) := by decide +kernel
theorem dX8_barredBy_6 : decode cX8_barredBy 6 = .ok (.getfield 147, 3) := by decide +kernel
theorem dX8_barredBy_9 : decode cX8_barredBy 9 = .ok (.if_icmp .ge 36, 3) := by decide +kernel
theorem dX8_barredBy_12 : decode cX8_barredBy 12 = .ok (.iload_n 2, 1) := by decide +kernel
theorem dX8_barredBy_13 : decode cX8_barredBy 13 = .ok (.aload_n 0, 1) := by decide +kernel
theorem dX8_barredBy_14 : decode cX8_barredBy 14 = .ok (.getfield 49, 3) := by decide +kernel
theorem dX8_barredBy_17 : decode cX8_barredBy 17 = .ok (.iload_n 3, 1) := by decide +kernel
theorem dX8_barredBy_18 : decode cX8_barredBy 18 = .ok (.iaload, 1) := by decide +kernel
theorem dX8_barredBy_19 : decode cX8_barredBy 19 = .ok (.iconst 1, 1) := by decide +kernel
theorem dX8_barredBy_20 : decode cX8_barredBy 20 = .ok (.if_icmp .ne 16, 3) := by decide +kernel
theorem dX8_barredBy_23 : decode cX8_barredBy 23 = .ok (.aload_n 0, 1) := by decide +kernel
theorem dX8_barredBy_24 : decode cX8_barredBy 24 = .ok (.getfield 64, 3) := by decide +kernel
theorem dX8_barredBy_27 : decode cX8_barredBy 27 = .ok (.iload_n 1, 1) := by decide +kernel
theorem dX8_barredBy_28 : decode cX8_barredBy 28 = .ok (.iaload, 1) := by decide +kernel
theorem dX8_barredBy_29 : decode cX8_barredBy 29 = .ok (.iload_n 3, 1) := by decide +kernel
theorem dX8_barredBy_30 : decode cX8_barredBy 30 = .ok (.ishr, 1) := by decide +kernel
theorem dX8_barredBy_31 : decode cX8_barredBy 31 = .ok (.iconst 1, 1) := by decide +kernel
theorem dX8_barredBy_32 : decode cX8_barredBy 32 = .ok (.iand, 1) := by decide +kernel
theorem dX8_barredBy_33 : decode cX8_barredBy 33 = .ok (.goto 4, 3) := by decide +kernel
theorem dX8_barredBy_36 : decode cX8_barredBy 36 = .ok (.iconst 0, 1) := by decide +kernel
theorem dX8_barredBy_37 : decode cX8_barredBy 37 = .ok (.ior, 1) := by decide +kernel
theorem dX8_barredBy_38 : decode cX8_barredBy 38 = .ok (.istore_n 2, 1) := by decide +kernel
theorem dX8_barredBy_39 : decode cX8_barredBy 39 = .ok (.iinc 3 1, 3) := by decide +kernel
theorem dX8_barredBy_42 : decode cX8_barredBy 42 = .ok (.goto (-38), 3) := by decide +kernel
theorem dX8_barredBy_45 : decode cX8_barredBy 45 = .ok (.aload_n 0, 1) := by decide +kernel
theorem dX8_barredBy_46 : decode cX8_barredBy 46 = .ok (.aload_n 0, 1) := by decide +kernel
theorem dX8_barredBy_47 : decode cX8_barredBy 47 = .ok (.getfield 61, 3) := by decide +kernel
theorem dX8_barredBy_50 : decode cX8_barredBy 50 = .ok (.iload_n 1, 1) := by decide +kernel
theorem dX8_barredBy_51 : decode cX8_barredBy 51 = .ok (.iaload, 1) := by decide +kernel
theorem dX8_barredBy_52 : decode cX8_barredBy 52 = .ok (.invokevirtual 125, 3) := by decide +kernel
theorem dX8_barredBy_55 : decode cX8_barredBy 55 = .ok (.ifCond .eq 7, 3) := by decide +kernel
theorem dX8_barredBy_58 : decode cX8_barredBy 58 = .ok (.iconst 0, 1) := by decide +kernel
theorem dX8_barredBy_59 : decode cX8_barredBy 59 = .ok (.goto 4, 3) := by decide +kernel
theorem dX8_barredBy_62 : decode cX8_barredBy 62 = .ok (.iconst 1, 1) := by decide +kernel
theorem dX8_barredBy_63 : decode cX8_barredBy 63 = .ok (.iload_n 2, 1) := by decide +kernel
theorem dX8_barredBy_64 : decode cX8_barredBy 64 = .ok (.iconst 1, 1) := by decide +kernel
theorem dX8_barredBy_65 : decode cX8_barredBy 65 = .ok (.if_icmp .ne 7, 3) := by decide +kernel
theorem dX8_barredBy_68 : decode cX8_barredBy 68 = .ok (.iconst 2, 1) := by decide +kernel
theorem dX8_barredBy_69 : decode cX8_barredBy 69 = .ok (.goto 4, 3) := by decide +kernel
theorem dX8_barredBy_72 : decode cX8_barredBy 72 = .ok (.iconst 0, 1) := by decide +kernel
theorem dX8_barredBy_73 : decode cX8_barredBy 73 = .ok (.iadd, 1) := by decide +kernel
theorem dX8_barredBy_74 : decode cX8_barredBy 74 = .ok (.ireturn, 1) := by decide +kernel
theorem dX8_barred_0 : decode cX8_barred 0 = .ok (.aload_n 0, 1) := by decide +kernel
theorem dX8_barred_1 : decode cX8_barred 1 = .ok (.iload_n 1, 1) := by decide +kernel
theorem dX8_barred_2 : decode cX8_barred 2 = .ok (.invokevirtual 168, 3) := by decide +kernel
theorem dX8_barred_5 : decode cX8_barred 5 = .ok (.ifCond .eq 11, 3) := by decide +kernel
theorem dX8_barred_8 : decode cX8_barred 8 = .ok (.aload_n 0, 1) := by decide +kernel
theorem dX8_barred_9 : decode cX8_barred 9 = .ok (.iload_n 1, 1) := by decide +kernel
theorem dX8_barred_10 : decode cX8_barred 10 = .ok (.invokevirtual 171, 3) := by decide +kernel
theorem dX8_barred_13 : decode cX8_barred 13 = .ok (.goto 4, 3) := by decide +kernel
theorem dX8_barred_16 : decode cX8_barred 16 = .ok (.iconst 0, 1) := by decide +kernel
theorem dX8_barred_17 : decode cX8_barred 17 = .ok (.ireturn, 1) := by decide +kernel
theorem dX8_barredAnew_0 : decode cX8_barredAnew 0 = .ok (.aload_n 0, 1) := by decide +kernel
theorem dX8_barredAnew_1 : decode cX8_barredAnew 1 = .ok (.iload_n 1, 1) := by decide +kernel
theorem dX8_barredAnew_2 : decode cX8_barredAnew 2 = .ok (.invokevirtual 174, 3) := by decide +kernel
theorem dX8_barredAnew_5 : decode cX8_barredAnew 5 = .ok (.ireturn, 1) := by decide +kernel
theorem dX8_sell_0 : decode cX8_sell 0 = .ok (.aload_n 0, 1) := by decide +kernel
theorem dX8_sell_1 : decode cX8_sell 1 = .ok (.iload_n 1, 1) := by decide +kernel
theorem dX8_sell_2 : decode cX8_sell 2 = .ok (.iconst 0, 1) := by decide +kernel
theorem dX8_sell_3 : decode cX8_sell 3 = .ok (.aload_n 0, 1) := by decide +kernel
theorem dX8_sell_4 : decode cX8_sell 4 = .ok (.getfield 128, 3) := by decide +kernel
theorem dX8_sell_7 : decode cX8_sell 7 = .ok (.iconst 1, 1) := by decide +kernel
theorem dX8_sell_8 : decode cX8_sell 8 = .ok (.isub, 1) := by decide +kernel
theorem dX8_sell_9 : decode cX8_sell 9 = .ok (.invokestatic 86, 3) := by decide +kernel
theorem dX8_sell_12 : decode cX8_sell 12 = .ok (.ifCond .ne 7, 3) := by decide +kernel
theorem dX8_sell_15 : decode cX8_sell 15 = .ok (.iconst 1, 1) := by decide +kernel
theorem dX8_sell_16 : decode cX8_sell 16 = .ok (.goto 40, 3) := by decide +kernel
theorem dX8_sell_19 : decode cX8_sell 19 = .ok (.iload_n 2, 1) := by decide +kernel
theorem dX8_sell_20 : decode cX8_sell 20 = .ok (.iconst 1, 1) := by decide +kernel
theorem dX8_sell_21 : decode cX8_sell 21 = .ok (.bipush 40, 2) := by decide +kernel
theorem dX8_sell_23 : decode cX8_sell 23 = .ok (.invokestatic 86, 3) := by decide +kernel
theorem dX8_sell_26 : decode cX8_sell 26 = .ok (.ifCond .ne 7, 3) := by decide +kernel
theorem dX8_sell_29 : decode cX8_sell 29 = .ok (.iconst 2, 1) := by decide +kernel
theorem dX8_sell_30 : decode cX8_sell 30 = .ok (.goto 26, 3) := by decide +kernel
theorem dX8_sell_33 : decode cX8_sell 33 = .ok (.aload_n 0, 1) := by decide +kernel
theorem dX8_sell_34 : decode cX8_sell 34 = .ok (.iload_n 1, 1) := by decide +kernel
theorem dX8_sell_35 : decode cX8_sell 35 = .ok (.invokevirtual 171, 3) := by decide +kernel
theorem dX8_sell_38 : decode cX8_sell 38 = .ok (.ifCond .gt 13, 3) := by decide +kernel
theorem dX8_sell_41 : decode cX8_sell 41 = .ok (.aload_n 0, 1) := by decide +kernel
theorem dX8_sell_42 : decode cX8_sell 42 = .ok (.getfield 67, 3) := by decide +kernel
theorem dX8_sell_45 : decode cX8_sell 45 = .ok (.iload_n 1, 1) := by decide +kernel
theorem dX8_sell_46 : decode cX8_sell 46 = .ok (.iaload, 1) := by decide +kernel
theorem dX8_sell_47 : decode cX8_sell 47 = .ok (.iload_n 2, 1) := by decide +kernel
theorem dX8_sell_48 : decode cX8_sell 48 = .ok (.if_icmp .ge 7, 3) := by decide +kernel
theorem dX8_sell_51 : decode cX8_sell 51 = .ok (.iconst 3, 1) := by decide +kernel
theorem dX8_sell_52 : decode cX8_sell 52 = .ok (.goto 4, 3) := by decide +kernel
theorem dX8_sell_55 : decode cX8_sell 55 = .ok (.iconst 0, 1) := by decide +kernel
theorem dX8_sell_56 : decode cX8_sell 56 = .ok (.putfield 82, 3) := by decide +kernel
theorem dX8_sell_59 : decode cX8_sell 59 = .ok (.aload_n 0, 1) := by decide +kernel
theorem dX8_sell_60 : decode cX8_sell 60 = .ok (.getfield 82, 3) := by decide +kernel
theorem dX8_sell_63 : decode cX8_sell 63 = .ok (.ifCond .le 5, 3) := by decide +kernel
theorem dX8_sell_66 : decode cX8_sell 66 = .ok (.iconst 0, 1) := by decide +kernel
theorem dX8_sell_67 : decode cX8_sell 67 = .ok (.ireturn, 1) := by decide +kernel
theorem dX8_sell_68 : decode cX8_sell 68 = .ok (.aload_n 0, 1) := by decide +kernel
theorem dX8_sell_69 : decode cX8_sell 69 = .ok (.getfield 67, 3) := by decide +kernel
theorem dX8_sell_72 : decode cX8_sell 72 = .ok (.iload_n 1, 1) := by decide +kernel
theorem dX8_sell_73 : decode cX8_sell 73 = .ok (.dup2, 1) := by decide +kernel
theorem dX8_sell_74 : decode cX8_sell 74 = .ok (.iaload, 1) := by decide +kernel
theorem dX8_sell_75 : decode cX8_sell 75 = .ok (.iload_n 2, 1) := by decide +kernel
theorem dX8_sell_76 : decode cX8_sell 76 = .ok (.isub, 1) := by decide +kernel
theorem dX8_sell_77 : decode cX8_sell 77 = .ok (.iastore, 1) := by decide +kernel
theorem dX8_sell_78 : decode cX8_sell 78 = .ok (.aload_n 0, 1) := by decide +kernel
theorem dX8_sell_79 : decode cX8_sell 79 = .ok (.getfield 70, 3) := by decide +kernel
theorem dX8_sell_82 : decode cX8_sell 82 = .ok (.iload_n 1, 1) := by decide +kernel
theorem dX8_sell_83 : decode cX8_sell 83 = .ok (.dup2, 1) := by decide +kernel
theorem dX8_sell_84 : decode cX8_sell 84 = .ok (.iaload, 1) := by decide +kernel
theorem dX8_sell_85 : decode cX8_sell 85 = .ok (.iload_n 2, 1) := by decide +kernel
theorem dX8_sell_86 : decode cX8_sell 86 = .ok (.iadd, 1) := by decide +kernel
theorem dX8_sell_87 : decode cX8_sell 87 = .ok (.iastore, 1) := by decide +kernel
theorem dX8_sell_88 : decode cX8_sell 88 = .ok (.aload_n 0, 1) := by decide +kernel
theorem dX8_sell_89 : decode cX8_sell 89 = .ok (.getfield 67, 3) := by decide +kernel
theorem dX8_sell_92 : decode cX8_sell 92 = .ok (.iload_n 1, 1) := by decide +kernel
theorem dX8_sell_93 : decode cX8_sell 93 = .ok (.iaload, 1) := by decide +kernel
theorem dX8_sell_94 : decode cX8_sell 94 = .ok (.ireturn, 1) := by decide +kernel
theorem dX8_onSale_0 : decode cX8_onSale 0 = .ok (.aload_n 0, 1) := by decide +kernel
theorem dX8_onSale_1 : decode cX8_onSale 1 = .ok (.iconst 0, 1) := by decide +kernel
theorem dX8_onSale_2 : decode cX8_onSale 2 = .ok (.putfield 82, 3) := by decide +kernel
theorem dX8_onSale_5 : decode cX8_onSale 5 = .ok (.iconst 0, 1) := by decide +kernel
theorem dX8_onSale_6 : decode cX8_onSale 6 = .ok (.istore_n 1, 1) := by decide +kernel
theorem dX8_onSale_7 : decode cX8_onSale 7 = .ok (.iconst 0, 1) := by decide +kernel
theorem dX8_onSale_8 : decode cX8_onSale 8 = .ok (.istore_n 2, 1) := by decide +kernel
theorem dX8_onSale_9 : decode cX8_onSale 9 = .ok (.iload_n 2, 1) := by decide +kernel
theorem dX8_onSale_10 : decode cX8_onSale 10 = .ok (.aload_n 0, 1) := by decide +kernel
theorem dX8_onSale_11 : decode cX8_onSale 11 = .ok (.getfield 128, 3) := by decide +kernel
theorem dX8_onSale_14 : decode cX8_onSale 14 = .ok (.if_icmp .ge 30, 3) := by decide +kernel
theorem dX8_onSale_17 : decode cX8_onSale 17 = .ok (.iload_n 1, 1) := by decide +kernel
theorem dX8_onSale_18 : decode cX8_onSale 18 = .ok (.aload_n 0, 1) := by decide +kernel
theorem dX8_onSale_19 : decode cX8_onSale 19 = .ok (.iload_n 2, 1) := by decide +kernel
theorem dX8_onSale_20 : decode cX8_onSale 20 = .ok (.invokevirtual 171, 3) := by decide +kernel
theorem dX8_onSale_23 : decode cX8_onSale 23 = .ok (.ifCond .ne 12, 3) := by decide +kernel
theorem dX8_onSale_26 : decode cX8_onSale 26 = .ok (.aload_n 0, 1) := by decide +kernel
theorem dX8_onSale_27 : decode cX8_onSale 27 = .ok (.getfield 67, 3) := by decide +kernel
theorem dX8_onSale_30 : decode cX8_onSale 30 = .ok (.iload_n 2, 1) := by decide +kernel
theorem dX8_onSale_31 : decode cX8_onSale 31 = .ok (.iaload, 1) := by decide +kernel
theorem dX8_onSale_32 : decode cX8_onSale 32 = .ok (.goto 4, 3) := by decide +kernel
theorem dX8_onSale_35 : decode cX8_onSale 35 = .ok (.iconst 0, 1) := by decide +kernel
theorem dX8_onSale_36 : decode cX8_onSale 36 = .ok (.iadd, 1) := by decide +kernel
theorem dX8_onSale_37 : decode cX8_onSale 37 = .ok (.istore_n 1, 1) := by decide +kernel
theorem dX8_onSale_38 : decode cX8_onSale 38 = .ok (.iinc 2 1, 3) := by decide +kernel
theorem dX8_onSale_41 : decode cX8_onSale 41 = .ok (.goto (-32), 3) := by decide +kernel
theorem dX8_onSale_44 : decode cX8_onSale 44 = .ok (.iload_n 1, 1) := by decide +kernel
theorem dX8_onSale_45 : decode cX8_onSale 45 = .ok (.ireturn, 1) := by decide +kernel
theorem dX8_traced_0 : decode cX8_traced 0 = .ok (.aload_n 0, 1) := by decide +kernel
theorem dX8_traced_1 : decode cX8_traced 1 = .ok (.aload_n 0, 1) := by decide +kernel
theorem dX8_traced_2 : decode cX8_traced 2 = .ok (.iload_n 1, 1) := by decide +kernel
theorem dX8_traced_3 : decode cX8_traced 3 = .ok (.invokevirtual 150, 3) := by decide +kernel
theorem dX8_traced_6 : decode cX8_traced 6 = .ok (.ifCond .eq 7, 3) := by decide +kernel
theorem dX8_traced_9 : decode cX8_traced 9 = .ok (.iconst 0, 1) := by decide +kernel
theorem dX8_traced_10 : decode cX8_traced 10 = .ok (.goto 4, 3) := by decide +kernel
theorem dX8_traced_13 : decode cX8_traced 13 = .ok (.iconst 1, 1) := by decide +kernel
theorem dX8_traced_14 : decode cX8_traced 14 = .ok (.putfield 82, 3) := by decide +kernel
theorem dX8_traced_17 : decode cX8_traced 17 = .ok (.iconst 0, 1) := by decide +kernel
theorem dX8_traced_18 : decode cX8_traced 18 = .ok (.istore_n 2, 1) := by decide +kernel
theorem dX8_traced_19 : decode cX8_traced 19 = .ok (.iconst 0, 1) := by decide +kernel
theorem dX8_traced_20 : decode cX8_traced 20 = .ok (.istore_n 3, 1) := by decide +kernel
theorem dX8_traced_21 : decode cX8_traced 21 = .ok (.iload_n 3, 1) := by decide +kernel
theorem dX8_traced_22 : decode cX8_traced 22 = .ok (.aload_n 0, 1) := by decide +kernel
theorem dX8_traced_23 : decode cX8_traced 23 = .ok (.getfield 128, 3) := by decide +kernel
theorem dX8_traced_26 : decode cX8_traced 26 = .ok (.if_icmp .ge 29, 3) := by decide +kernel
theorem dX8_traced_29 : decode cX8_traced 29 = .ok (.aload_n 0, 1) := by decide +kernel
theorem dX8_traced_30 : decode cX8_traced 30 = .ok (.getfield 82, 3) := by decide +kernel
theorem dX8_traced_33 : decode cX8_traced 33 = .ok (.ifCond .ne 22, 3) := by decide +kernel
theorem dX8_traced_36 : decode cX8_traced 36 = .ok (.iload_n 2, 1) := by decide +kernel
theorem dX8_traced_37 : decode cX8_traced 37 = .ok (.aload_n 0, 1) := by decide +kernel
theorem dX8_traced_38 : decode cX8_traced 38 = .ok (.getfield 64, 3) := by decide +kernel
theorem dX8_traced_41 : decode cX8_traced 41 = .ok (.iload_n 3, 1) := by decide +kernel
theorem dX8_traced_42 : decode cX8_traced 42 = .ok (.iaload, 1) := by decide +kernel
theorem dX8_traced_43 : decode cX8_traced 43 = .ok (.iload_n 1, 1) := by decide +kernel
theorem dX8_traced_44 : decode cX8_traced 44 = .ok (.ishr, 1) := by decide +kernel
theorem dX8_traced_45 : decode cX8_traced 45 = .ok (.iconst 1, 1) := by decide +kernel
theorem dX8_traced_46 : decode cX8_traced 46 = .ok (.iand, 1) := by decide +kernel
theorem dX8_traced_47 : decode cX8_traced 47 = .ok (.iadd, 1) := by decide +kernel
theorem dX8_traced_48 : decode cX8_traced 48 = .ok (.istore_n 2, 1) := by decide +kernel
theorem dX8_traced_49 : decode cX8_traced 49 = .ok (.iinc 3 1, 3) := by decide +kernel
theorem dX8_traced_52 : decode cX8_traced 52 = .ok (.goto (-31), 3) := by decide +kernel
theorem dX8_traced_55 : decode cX8_traced 55 = .ok (.iload_n 2, 1) := by decide +kernel
theorem dX8_traced_56 : decode cX8_traced 56 = .ok (.ireturn, 1) := by decide +kernel
theorem dX8_tracedAt_0 : decode cX8_tracedAt 0 = .ok (.aload_n 0, 1) := by decide +kernel
theorem dX8_tracedAt_1 : decode cX8_tracedAt 1 = .ok (.aload_n 0, 1) := by decide +kernel
theorem dX8_tracedAt_2 : decode cX8_tracedAt 2 = .ok (.iload_n 1, 1) := by decide +kernel
theorem dX8_tracedAt_3 : decode cX8_tracedAt 3 = .ok (.invokevirtual 150, 3) := by decide +kernel
theorem dX8_tracedAt_6 : decode cX8_tracedAt 6 = .ok (.ifCond .eq 11, 3) := by decide +kernel
theorem dX8_tracedAt_9 : decode cX8_tracedAt 9 = .ok (.iload_n 2, 1) := by decide +kernel
theorem dX8_tracedAt_10 : decode cX8_tracedAt 10 = .ok (.ifCond .lt 7, 3) := by decide +kernel
theorem dX8_tracedAt_13 : decode cX8_tracedAt 13 = .ok (.iconst 0, 1) := by decide +kernel
theorem dX8_tracedAt_14 : decode cX8_tracedAt 14 = .ok (.goto 4, 3) := by decide +kernel
theorem dX8_tracedAt_17 : decode cX8_tracedAt 17 = .ok (.iconst 1, 1) := by decide +kernel
theorem dX8_tracedAt_18 : decode cX8_tracedAt 18 = .ok (.putfield 82, 3) := by decide +kernel
theorem dX8_tracedAt_21 : decode cX8_tracedAt 21 = .ok (.iload_n 2, 1) := by decide +kernel
theorem dX8_tracedAt_22 : decode cX8_tracedAt 22 = .ok (.istore_n 3, 1) := by decide +kernel
theorem dX8_tracedAt_23 : decode cX8_tracedAt 23 = .ok (.iconst 0, 1) := by decide +kernel
theorem dX8_tracedAt_24 : decode cX8_tracedAt 24 = .ok (.istore 4, 2) := by decide +kernel
theorem dX8_tracedAt_26 : decode cX8_tracedAt 26 = .ok (.iload 4, 2) := by decide +kernel
theorem dX8_tracedAt_28 : decode cX8_tracedAt 28 = .ok (.aload_n 0, 1) := by decide +kernel
theorem dX8_tracedAt_29 : decode cX8_tracedAt 29 = .ok (.getfield 128, 3) := by decide +kernel
theorem dX8_tracedAt_32 : decode cX8_tracedAt 32 = .ok (.if_icmp .ge 41, 3) := by decide +kernel
theorem dX8_tracedAt_35 : decode cX8_tracedAt 35 = .ok (.aload_n 0, 1) := by decide +kernel
theorem dX8_tracedAt_36 : decode cX8_tracedAt 36 = .ok (.getfield 82, 3) := by decide +kernel
theorem dX8_tracedAt_39 : decode cX8_tracedAt 39 = .ok (.ifCond .ne 34, 3) := by decide +kernel
theorem dX8_tracedAt_42 : decode cX8_tracedAt 42 = .ok (.aload_n 0, 1) := by decide +kernel
theorem dX8_tracedAt_43 : decode cX8_tracedAt 43 = .ok (.getfield 64, 3) := by decide +kernel
theorem dX8_tracedAt_46 : decode cX8_tracedAt 46 = .ok (.iload 4, 2) := by decide +kernel
theorem dX8_tracedAt_48 : decode cX8_tracedAt 48 = .ok (.iaload, 1) := by decide +kernel
theorem dX8_tracedAt_49 : decode cX8_tracedAt 49 = .ok (.iload_n 1, 1) := by decide +kernel
theorem dX8_tracedAt_50 : decode cX8_tracedAt 50 = .ok (.ishr, 1) := by decide +kernel
theorem dX8_tracedAt_51 : decode cX8_tracedAt 51 = .ok (.iconst 1, 1) := by decide +kernel
theorem dX8_tracedAt_52 : decode cX8_tracedAt 52 = .ok (.iand, 1) := by decide +kernel
theorem dX8_tracedAt_53 : decode cX8_tracedAt 53 = .ok (.iconst 1, 1) := by decide +kernel
theorem dX8_tracedAt_54 : decode cX8_tracedAt 54 = .ok (.if_icmp .ne 13, 3) := by decide +kernel
theorem dX8_tracedAt_57 : decode cX8_tracedAt 57 = .ok (.iload_n 3, 1) := by decide +kernel
theorem dX8_tracedAt_58 : decode cX8_tracedAt 58 = .ok (.ifCond .ne 6, 3) := by decide +kernel
theorem dX8_tracedAt_61 : decode cX8_tracedAt 61 = .ok (.iload 4, 2) := by decide +kernel
theorem dX8_tracedAt_63 : decode cX8_tracedAt 63 = .ok (.ireturn, 1) := by decide +kernel
theorem dX8_tracedAt_64 : decode cX8_tracedAt 64 = .ok (.iinc 3 (-1), 3) := by decide +kernel
theorem dX8_tracedAt_67 : decode cX8_tracedAt 67 = .ok (.iinc 4 1, 3) := by decide +kernel
theorem dX8_tracedAt_70 : decode cX8_tracedAt 70 = .ok (.goto (-44), 3) := by decide +kernel
theorem dX8_tracedAt_73 : decode cX8_tracedAt 73 = .ok (.aload_n 0, 1) := by decide +kernel
theorem dX8_tracedAt_74 : decode cX8_tracedAt 74 = .ok (.iconst 1, 1) := by decide +kernel
theorem dX8_tracedAt_75 : decode cX8_tracedAt 75 = .ok (.invokevirtual 162, 3) := by decide +kernel
theorem dX8_tracedAt_78 : decode cX8_tracedAt 78 = .ok (.ireturn, 1) := by decide +kernel
theorem dX8_recalls_0 : decode cX8_recalls 0 = .ok (.aload_n 0, 1) := by decide +kernel
theorem dX8_recalls_1 : decode cX8_recalls 1 = .ok (.iconst 0, 1) := by decide +kernel
theorem dX8_recalls_2 : decode cX8_recalls 2 = .ok (.putfield 82, 3) := by decide +kernel
theorem dX8_recalls_5 : decode cX8_recalls 5 = .ok (.aload_n 0, 1) := by decide +kernel
theorem dX8_recalls_6 : decode cX8_recalls 6 = .ok (.getfield 122, 3) := by decide +kernel
theorem dX8_recalls_9 : decode cX8_recalls 9 = .ok (.ireturn, 1) := by decide +kernel
theorem dX8_isRecall_0 : decode cX8_isRecall 0 = .ok (.aload_n 0, 1) := by decide +kernel
theorem dX8_isRecall_1 : decode cX8_isRecall 1 = .ok (.iload_n 1, 1) := by decide +kernel
theorem dX8_isRecall_2 : decode cX8_isRecall 2 = .ok (.iconst 0, 1) := by decide +kernel
theorem dX8_isRecall_3 : decode cX8_isRecall 3 = .ok (.aload_n 0, 1) := by decide +kernel
theorem dX8_isRecall_4 : decode cX8_isRecall 4 = .ok (.getfield 122, 3) := by decide +kernel
theorem dX8_isRecall_7 : decode cX8_isRecall 7 = .ok (.iconst 1, 1) := by decide +kernel
theorem dX8_isRecall_8 : decode cX8_isRecall 8 = .ok (.isub, 1) := by decide +kernel
theorem dX8_isRecall_9 : decode cX8_isRecall 9 = .ok (.invokestatic 86, 3) := by decide +kernel
theorem dX8_isRecall_12 : decode cX8_isRecall 12 = .ok (.ifCond .eq 7, 3) := by decide +kernel
theorem dX8_isRecall_15 : decode cX8_isRecall 15 = .ok (.iconst 0, 1) := by decide +kernel
theorem dX8_isRecall_16 : decode cX8_isRecall 16 = .ok (.goto 4, 3) := by decide +kernel
theorem dX8_isRecall_19 : decode cX8_isRecall 19 = .ok (.iconst 1, 1) := by decide +kernel
theorem dX8_isRecall_20 : decode cX8_isRecall 20 = .ok (.putfield 82, 3) := by decide +kernel
theorem dX8_isRecall_23 : decode cX8_isRecall 23 = .ok (.aload_n 0, 1) := by decide +kernel
theorem dX8_isRecall_24 : decode cX8_isRecall 24 = .ok (.getfield 82, 3) := by decide +kernel
theorem dX8_isRecall_27 : decode cX8_isRecall 27 = .ok (.ifCond .ne 7, 3) := by decide +kernel
theorem dX8_isRecall_30 : decode cX8_isRecall 30 = .ok (.iconst 1, 1) := by decide +kernel
theorem dX8_isRecall_31 : decode cX8_isRecall 31 = .ok (.goto 4, 3) := by decide +kernel
theorem dX8_isRecall_34 : decode cX8_isRecall 34 = .ok (.iconst 0, 1) := by decide +kernel
theorem dX8_isRecall_35 : decode cX8_isRecall 35 = .ok (.ireturn, 1) := by decide +kernel
theorem dX8_recallOf_0 : decode cX8_recallOf 0 = .ok (.aload_n 0, 1) := by decide +kernel
theorem dX8_recallOf_1 : decode cX8_recallOf 1 = .ok (.iload_n 1, 1) := by decide +kernel
theorem dX8_recallOf_2 : decode cX8_recallOf 2 = .ok (.invokevirtual 177, 3) := by decide +kernel
theorem dX8_recallOf_5 : decode cX8_recallOf 5 = .ok (.ifCond .eq 12, 3) := by decide +kernel
theorem dX8_recallOf_8 : decode cX8_recallOf 8 = .ok (.aload_n 0, 1) := by decide +kernel
theorem dX8_recallOf_9 : decode cX8_recallOf 9 = .ok (.getfield 73, 3) := by decide +kernel
theorem dX8_recallOf_12 : decode cX8_recallOf 12 = .ok (.iload_n 1, 1) := by decide +kernel
theorem dX8_recallOf_13 : decode cX8_recallOf 13 = .ok (.iaload, 1) := by decide +kernel
theorem dX8_recallOf_14 : decode cX8_recallOf 14 = .ok (.goto 4, 3) := by decide +kernel
theorem dX8_recallOf_17 : decode cX8_recallOf 17 = .ok (.iconst 0, 1) := by decide +kernel
theorem dX8_recallOf_18 : decode cX8_recallOf 18 = .ok (.ireturn, 1) := by decide +kernel
theorem dX8_calledBack_0 : decode cX8_calledBack 0 = .ok (.aload_n 0, 1) := by decide +kernel
theorem dX8_calledBack_1 : decode cX8_calledBack 1 = .ok (.iload_n 1, 1) := by decide +kernel
theorem dX8_calledBack_2 : decode cX8_calledBack 2 = .ok (.invokevirtual 177, 3) := by decide +kernel
theorem dX8_calledBack_5 : decode cX8_calledBack 5 = .ok (.ifCond .eq 12, 3) := by decide +kernel
theorem dX8_calledBack_8 : decode cX8_calledBack 8 = .ok (.aload_n 0, 1) := by decide +kernel
theorem dX8_calledBack_9 : decode cX8_calledBack 9 = .ok (.getfield 76, 3) := by decide +kernel
theorem dX8_calledBack_12 : decode cX8_calledBack 12 = .ok (.iload_n 1, 1) := by decide +kernel
theorem dX8_calledBack_13 : decode cX8_calledBack 13 = .ok (.iaload, 1) := by decide +kernel
theorem dX8_calledBack_14 : decode cX8_calledBack 14 = .ok (.goto 4, 3) := by decide +kernel
theorem dX8_calledBack_17 : decode cX8_calledBack 17 = .ok (.iconst 0, 1) := by decide +kernel
theorem dX8_calledBack_18 : decode cX8_calledBack 18 = .ok (.ireturn, 1) := by decide +kernel
theorem dX8_why_0 : decode cX8_why 0 = .ok (.aload_n 0, 1) := by decide +kernel
theorem dX8_why_1 : decode cX8_why 1 = .ok (.iload_n 1, 1) := by decide +kernel
theorem dX8_why_2 : decode cX8_why 2 = .ok (.invokevirtual 177, 3) := by decide +kernel
theorem dX8_why_5 : decode cX8_why 5 = .ok (.ifCond .eq 12, 3) := by decide +kernel
theorem dX8_why_8 : decode cX8_why 8 = .ok (.aload_n 0, 1) := by decide +kernel
theorem dX8_why_9 : decode cX8_why 9 = .ok (.getfield 79, 3) := by decide +kernel
theorem dX8_why_12 : decode cX8_why 12 = .ok (.iload_n 1, 1) := by decide +kernel
theorem dX8_why_13 : decode cX8_why 13 = .ok (.iaload, 1) := by decide +kernel
theorem dX8_why_14 : decode cX8_why 14 = .ok (.goto 4, 3) := by decide +kernel
theorem dX8_why_17 : decode cX8_why 17 = .ok (.iconst 0, 1) := by decide +kernel
theorem dX8_why_18 : decode cX8_why 18 = .ok (.ireturn, 1) := by decide +kernel
end
section
theorem dL_part_0 : decode cL_part 0 = .ok (.aload_n 2, 1) := by decide +kernel
theorem dL_part_1 : decode cL_part 1 = .ok (.iconst 0, 1) := by decide +kernel
theorem dL_part_2 : decode cL_part 2 = .ok (.aload_n 0, 1) := by decide +kernel
theorem dL_part_3 : decode cL_part 3 = .ok (.iload_n 1, 1) := by decide +kernel
theorem dL_part_4 : decode cL_part 4 = .ok (.invokevirtual 7, 3) := by decide +kernel
theorem dL_part_7 : decode cL_part 7 = .ok (.i2l, 1) := by decide +kernel
theorem dL_part_8 : decode cL_part 8 = .ok (.lastore, 1) := by decide +kernel
theorem dL_part_9 : decode cL_part 9 = .ok (.goto 6, 3) := by decide +kernel
theorem dL_part_12 : decode cL_part 12 = .ok (.astore_n 3, 1) := by decide +kernel
theorem dL_part_13 : decode cL_part 13 = .ok (.iconst 1, 1) := by decide +kernel
theorem dL_part_14 : decode cL_part 14 = .ok (.ireturn, 1) := by decide +kernel
theorem dL_part_15 : decode cL_part 15 = .ok (.iconst 0, 1) := by decide +kernel
theorem dL_part_16 : decode cL_part 16 = .ok (.ireturn, 1) := by decide +kernel
theorem dL_stand_0 : decode cL_stand 0 = .ok (.aload_n 2, 1) := by decide +kernel
theorem dL_stand_1 : decode cL_stand 1 = .ok (.iconst 0, 1) := by decide +kernel
theorem dL_stand_2 : decode cL_stand 2 = .ok (.aload_n 0, 1) := by decide +kernel
theorem dL_stand_3 : decode cL_stand 3 = .ok (.iload_n 1, 1) := by decide +kernel
theorem dL_stand_4 : decode cL_stand 4 = .ok (.invokevirtual 15, 3) := by decide +kernel
theorem dL_stand_7 : decode cL_stand 7 = .ok (.i2l, 1) := by decide +kernel
theorem dL_stand_8 : decode cL_stand 8 = .ok (.lastore, 1) := by decide +kernel
theorem dL_stand_9 : decode cL_stand 9 = .ok (.goto 9, 3) := by decide +kernel
theorem dL_stand_12 : decode cL_stand 12 = .ok (.astore_n 3, 1) := by decide +kernel
theorem dL_stand_13 : decode cL_stand 13 = .ok (.iconst 1, 1) := by decide +kernel
theorem dL_stand_14 : decode cL_stand 14 = .ok (.ireturn, 1) := by decide +kernel
theorem dL_stand_15 : decode cL_stand 15 = .ok (.astore_n 3, 1) := by decide +kernel
theorem dL_stand_16 : decode cL_stand 16 = .ok (.iconst 2, 1) := by decide +kernel
theorem dL_stand_17 : decode cL_stand 17 = .ok (.ireturn, 1) := by decide +kernel
theorem dL_stand_18 : decode cL_stand 18 = .ok (.iconst 0, 1) := by decide +kernel
theorem dL_stand_19 : decode cL_stand 19 = .ok (.ireturn, 1) := by decide +kernel
theorem dL_vote_0 : decode cL_vote 0 = .ok (.aload_n 3, 1) := by decide +kernel
theorem dL_vote_1 : decode cL_vote 1 = .ok (.iconst 0, 1) := by decide +kernel
theorem dL_vote_2 : decode cL_vote 2 = .ok (.aload_n 0, 1) := by decide +kernel
theorem dL_vote_3 : decode cL_vote 3 = .ok (.iload_n 1, 1) := by decide +kernel
theorem dL_vote_4 : decode cL_vote 4 = .ok (.iload_n 2, 1) := by decide +kernel
theorem dL_vote_5 : decode cL_vote 5 = .ok (.invokevirtual 22, 3) := by decide +kernel
theorem dL_vote_8 : decode cL_vote 8 = .ok (.ifCond .eq 7, 3) := by decide +kernel
theorem dL_vote_11 : decode cL_vote 11 = .ok (.lconst 1, 1) := by decide +kernel
theorem dL_vote_12 : decode cL_vote 12 = .ok (.goto 4, 3) := by decide +kernel
theorem dL_vote_15 : decode cL_vote 15 = .ok (.lconst 0, 1) := by decide +kernel
theorem dL_vote_16 : decode cL_vote 16 = .ok (.lastore, 1) := by decide +kernel
theorem dL_vote_17 : decode cL_vote 17 = .ok (.goto 15, 3) := by decide +kernel
theorem dL_vote_20 : decode cL_vote 20 = .ok (.astore 4, 2) := by decide +kernel
theorem dL_vote_22 : decode cL_vote 22 = .ok (.iconst 1, 1) := by decide +kernel
theorem dL_vote_23 : decode cL_vote 23 = .ok (.ireturn, 1) := by decide +kernel
theorem dL_vote_24 : decode cL_vote 24 = .ok (.astore 4, 2) := by decide +kernel
theorem dL_vote_26 : decode cL_vote 26 = .ok (.iconst 2, 1) := by decide +kernel
theorem dL_vote_27 : decode cL_vote 27 = .ok (.ireturn, 1) := by decide +kernel
theorem dL_vote_28 : decode cL_vote 28 = .ok (.astore 4, 2) := by decide +kernel
theorem dL_vote_30 : decode cL_vote 30 = .ok (.iconst 3, 1) := by decide +kernel
theorem dL_vote_31 : decode cL_vote 31 = .ok (.ireturn, 1) := by decide +kernel
theorem dL_vote_32 : decode cL_vote 32 = .ok (.iconst 0, 1) := by decide +kernel
theorem dL_vote_33 : decode cL_vote 33 = .ok (.ireturn, 1) := by decide +kernel
theorem dL_propose_0 : decode cL_propose 0 = .ok (.aload 5, 2) := by decide +kernel
theorem dL_propose_2 : decode cL_propose 2 = .ok (.iconst 0, 1) := by decide +kernel
theorem dL_propose_3 : decode cL_propose 3 = .ok (.aload_n 0, 1) := by decide +kernel
theorem dL_propose_4 : decode cL_propose 4 = .ok (.iload_n 1, 1) := by decide +kernel
theorem dL_propose_5 : decode cL_propose 5 = .ok (.iload_n 2, 1) := by decide +kernel
theorem dL_propose_6 : decode cL_propose 6 = .ok (.iload_n 3, 1) := by decide +kernel
theorem dL_propose_7 : decode cL_propose 7 = .ok (.iload 4, 2) := by decide +kernel
theorem dL_propose_9 : decode cL_propose 9 = .ok (.invokevirtual 26, 3) := by decide +kernel
theorem dL_propose_12 : decode cL_propose 12 = .ok (.i2l, 1) := by decide +kernel
theorem dL_propose_13 : decode cL_propose 13 = .ok (.lastore, 1) := by decide +kernel
theorem dL_propose_14 : decode cL_propose 14 = .ok (.goto 15, 3) := by decide +kernel
theorem dL_propose_17 : decode cL_propose 17 = .ok (.astore 6, 2) := by decide +kernel
theorem dL_propose_19 : decode cL_propose 19 = .ok (.iconst 1, 1) := by decide +kernel
theorem dL_propose_20 : decode cL_propose 20 = .ok (.ireturn, 1) := by decide +kernel
theorem dL_propose_21 : decode cL_propose 21 = .ok (.astore 6, 2) := by decide +kernel
theorem dL_propose_23 : decode cL_propose 23 = .ok (.iconst 2, 1) := by decide +kernel
theorem dL_propose_24 : decode cL_propose 24 = .ok (.ireturn, 1) := by decide +kernel
theorem dL_propose_25 : decode cL_propose 25 = .ok (.astore 6, 2) := by decide +kernel
theorem dL_propose_27 : decode cL_propose 27 = .ok (.iconst 3, 1) := by decide +kernel
theorem dL_propose_28 : decode cL_propose 28 = .ok (.ireturn, 1) := by decide +kernel
theorem dL_propose_29 : decode cL_propose 29 = .ok (.iconst 0, 1) := by decide +kernel
theorem dL_propose_30 : decode cL_propose 30 = .ok (.ireturn, 1) := by decide +kernel
theorem dL_tell_0 : decode cL_tell 0 = .ok (.aload_n 3, 1) := by decide +kernel
theorem dL_tell_1 : decode cL_tell 1 = .ok (.iconst 0, 1) := by decide +kernel
theorem dL_tell_2 : decode cL_tell 2 = .ok (.aload_n 0, 1) := by decide +kernel
theorem dL_tell_3 : decode cL_tell 3 = .ok (.iload_n 1, 1) := by decide +kernel
theorem dL_tell_4 : decode cL_tell 4 = .ok (.iload_n 2, 1) := by decide +kernel
theorem dL_tell_5 : decode cL_tell 5 = .ok (.invokevirtual 30, 3) := by decide +kernel
theorem dL_tell_8 : decode cL_tell 8 = .ok (.i2l, 1) := by decide +kernel
theorem dL_tell_9 : decode cL_tell 9 = .ok (.lastore, 1) := by decide +kernel
theorem dL_tell_10 : decode cL_tell 10 = .ok (.goto 15, 3) := by decide +kernel
theorem dL_tell_13 : decode cL_tell 13 = .ok (.astore 4, 2) := by decide +kernel
theorem dL_tell_15 : decode cL_tell 15 = .ok (.iconst 1, 1) := by decide +kernel
theorem dL_tell_16 : decode cL_tell 16 = .ok (.ireturn, 1) := by decide +kernel
theorem dL_tell_17 : decode cL_tell 17 = .ok (.astore 4, 2) := by decide +kernel
theorem dL_tell_19 : decode cL_tell 19 = .ok (.iconst 2, 1) := by decide +kernel
theorem dL_tell_20 : decode cL_tell 20 = .ok (.ireturn, 1) := by decide +kernel
theorem dL_tell_21 : decode cL_tell 21 = .ok (.astore 4, 2) := by decide +kernel
theorem dL_tell_23 : decode cL_tell 23 = .ok (.iconst 3, 1) := by decide +kernel
theorem dL_tell_24 : decode cL_tell 24 = .ok (.ireturn, 1) := by decide +kernel
theorem dL_tell_25 : decode cL_tell 25 = .ok (.iconst 0, 1) := by decide +kernel
theorem dL_tell_26 : decode cL_tell 26 = .ok (.ireturn, 1) := by decide +kernel
theorem dL_role_0 : decode cL_role 0 = .ok (.aload_n 2, 1) := by decide +kernel
theorem dL_role_1 : decode cL_role 1 = .ok (.iconst 0, 1) := by decide +kernel
theorem dL_role_2 : decode cL_role 2 = .ok (.aload_n 0, 1) := by decide +kernel
theorem dL_role_3 : decode cL_role 3 = .ok (.iload_n 1, 1) := by decide +kernel
theorem dL_role_4 : decode cL_role 4 = .ok (.invokevirtual 34, 3) := by decide +kernel
theorem dL_role_7 : decode cL_role 7 = .ok (.i2l, 1) := by decide +kernel
theorem dL_role_8 : decode cL_role 8 = .ok (.lastore, 1) := by decide +kernel
theorem dL_role_9 : decode cL_role 9 = .ok (.goto 6, 3) := by decide +kernel
theorem dL_role_12 : decode cL_role 12 = .ok (.astore_n 3, 1) := by decide +kernel
theorem dL_role_13 : decode cL_role 13 = .ok (.iconst 1, 1) := by decide +kernel
theorem dL_role_14 : decode cL_role 14 = .ok (.ireturn, 1) := by decide +kernel
theorem dL_role_15 : decode cL_role 15 = .ok (.iconst 0, 1) := by decide +kernel
theorem dL_role_16 : decode cL_role 16 = .ok (.ireturn, 1) := by decide +kernel
theorem dL_term_0 : decode cL_term 0 = .ok (.aload_n 2, 1) := by decide +kernel
theorem dL_term_1 : decode cL_term 1 = .ok (.iconst 0, 1) := by decide +kernel
theorem dL_term_2 : decode cL_term 2 = .ok (.aload_n 0, 1) := by decide +kernel
theorem dL_term_3 : decode cL_term 3 = .ok (.iload_n 1, 1) := by decide +kernel
theorem dL_term_4 : decode cL_term 4 = .ok (.invokevirtual 37, 3) := by decide +kernel
theorem dL_term_7 : decode cL_term 7 = .ok (.i2l, 1) := by decide +kernel
theorem dL_term_8 : decode cL_term 8 = .ok (.lastore, 1) := by decide +kernel
theorem dL_term_9 : decode cL_term 9 = .ok (.goto 6, 3) := by decide +kernel
theorem dL_term_12 : decode cL_term 12 = .ok (.astore_n 3, 1) := by decide +kernel
theorem dL_term_13 : decode cL_term 13 = .ok (.iconst 1, 1) := by decide +kernel
theorem dL_term_14 : decode cL_term 14 = .ok (.ireturn, 1) := by decide +kernel
theorem dL_term_15 : decode cL_term 15 = .ok (.iconst 0, 1) := by decide +kernel
theorem dL_term_16 : decode cL_term 16 = .ok (.ireturn, 1) := by decide +kernel
theorem dL_votedFor_0 : decode cL_votedFor 0 = .ok (.aload_n 2, 1) := by decide +kernel
theorem dL_votedFor_1 : decode cL_votedFor 1 = .ok (.iconst 0, 1) := by decide +kernel
theorem dL_votedFor_2 : decode cL_votedFor 2 = .ok (.aload_n 0, 1) := by decide +kernel
theorem dL_votedFor_3 : decode cL_votedFor 3 = .ok (.iload_n 1, 1) := by decide +kernel
theorem dL_votedFor_4 : decode cL_votedFor 4 = .ok (.invokevirtual 40, 3) := by decide +kernel
theorem dL_votedFor_7 : decode cL_votedFor 7 = .ok (.i2l, 1) := by decide +kernel
theorem dL_votedFor_8 : decode cL_votedFor 8 = .ok (.lastore, 1) := by decide +kernel
theorem dL_votedFor_9 : decode cL_votedFor 9 = .ok (.goto 6, 3) := by decide +kernel
theorem dL_votedFor_12 : decode cL_votedFor 12 = .ok (.astore_n 3, 1) := by decide +kernel
theorem dL_votedFor_13 : decode cL_votedFor 13 = .ok (.iconst 1, 1) := by decide +kernel
theorem dL_votedFor_14 : decode cL_votedFor 14 = .ok (.ireturn, 1) := by decide +kernel
theorem dL_votedFor_15 : decode cL_votedFor 15 = .ok (.iconst 0, 1) := by decide +kernel
theorem dL_votedFor_16 : decode cL_votedFor 16 = .ok (.ireturn, 1) := by decide +kernel
theorem dL_reach_0 : decode cL_reach 0 = .ok (.aload_n 3, 1) := by decide +kernel
theorem dL_reach_1 : decode cL_reach 1 = .ok (.iconst 0, 1) := by decide +kernel
theorem dL_reach_2 : decode cL_reach 2 = .ok (.aload_n 0, 1) := by decide +kernel
theorem dL_reach_3 : decode cL_reach 3 = .ok (.iload_n 1, 1) := by decide +kernel
theorem dL_reach_4 : decode cL_reach 4 = .ok (.iload_n 2, 1) := by decide +kernel
theorem dL_reach_5 : decode cL_reach 5 = .ok (.invokevirtual 43, 3) := by decide +kernel
theorem dL_reach_8 : decode cL_reach 8 = .ok (.ifCond .eq 7, 3) := by decide +kernel
theorem dL_reach_11 : decode cL_reach 11 = .ok (.lconst 1, 1) := by decide +kernel
theorem dL_reach_12 : decode cL_reach 12 = .ok (.goto 4, 3) := by decide +kernel
theorem dL_reach_15 : decode cL_reach 15 = .ok (.lconst 0, 1) := by decide +kernel
theorem dL_reach_16 : decode cL_reach 16 = .ok (.lastore, 1) := by decide +kernel
theorem dL_reach_17 : decode cL_reach 17 = .ok (.goto 7, 3) := by decide +kernel
theorem dL_reach_20 : decode cL_reach 20 = .ok (.astore 4, 2) := by decide +kernel
theorem dL_reach_22 : decode cL_reach 22 = .ok (.iconst 1, 1) := by decide +kernel
theorem dL_reach_23 : decode cL_reach 23 = .ok (.ireturn, 1) := by decide +kernel
theorem dL_reach_24 : decode cL_reach 24 = .ok (.iconst 0, 1) := by decide +kernel
theorem dL_reach_25 : decode cL_reach 25 = .ok (.ireturn, 1) := by decide +kernel
theorem dL_entries_0 : decode cL_entries 0 = .ok (.aload_n 2, 1) := by decide +kernel
theorem dL_entries_1 : decode cL_entries 1 = .ok (.iconst 0, 1) := by decide +kernel
theorem dL_entries_2 : decode cL_entries 2 = .ok (.aload_n 0, 1) := by decide +kernel
theorem dL_entries_3 : decode cL_entries 3 = .ok (.iload_n 1, 1) := by decide +kernel
theorem dL_entries_4 : decode cL_entries 4 = .ok (.invokevirtual 46, 3) := by decide +kernel
theorem dL_entries_7 : decode cL_entries 7 = .ok (.i2l, 1) := by decide +kernel
theorem dL_entries_8 : decode cL_entries 8 = .ok (.lastore, 1) := by decide +kernel
theorem dL_entries_9 : decode cL_entries 9 = .ok (.goto 6, 3) := by decide +kernel
theorem dL_entries_12 : decode cL_entries 12 = .ok (.astore_n 3, 1) := by decide +kernel
theorem dL_entries_13 : decode cL_entries 13 = .ok (.iconst 1, 1) := by decide +kernel
theorem dL_entries_14 : decode cL_entries 14 = .ok (.ireturn, 1) := by decide +kernel
theorem dL_entries_15 : decode cL_entries 15 = .ok (.iconst 0, 1) := by decide +kernel
theorem dL_entries_16 : decode cL_entries 16 = .ok (.ireturn, 1) := by decide +kernel
theorem dL_versionAt_0 : decode cL_versionAt 0 = .ok (.aload_n 3, 1) := by decide +kernel
theorem dL_versionAt_1 : decode cL_versionAt 1 = .ok (.iconst 0, 1) := by decide +kernel
theorem dL_versionAt_2 : decode cL_versionAt 2 = .ok (.aload_n 0, 1) := by decide +kernel
theorem dL_versionAt_3 : decode cL_versionAt 3 = .ok (.iload_n 1, 1) := by decide +kernel
theorem dL_versionAt_4 : decode cL_versionAt 4 = .ok (.iload_n 2, 1) := by decide +kernel
theorem dL_versionAt_5 : decode cL_versionAt 5 = .ok (.invokevirtual 49, 3) := by decide +kernel
theorem dL_versionAt_8 : decode cL_versionAt 8 = .ok (.i2l, 1) := by decide +kernel
theorem dL_versionAt_9 : decode cL_versionAt 9 = .ok (.lastore, 1) := by decide +kernel
theorem dL_versionAt_10 : decode cL_versionAt 10 = .ok (.goto 7, 3) := by decide +kernel
theorem dL_versionAt_13 : decode cL_versionAt 13 = .ok (.astore 4, 2) := by decide +kernel
theorem dL_versionAt_15 : decode cL_versionAt 15 = .ok (.iconst 1, 1) := by decide +kernel
theorem dL_versionAt_16 : decode cL_versionAt 16 = .ok (.ireturn, 1) := by decide +kernel
theorem dL_versionAt_17 : decode cL_versionAt 17 = .ok (.iconst 0, 1) := by decide +kernel
theorem dL_versionAt_18 : decode cL_versionAt 18 = .ok (.ireturn, 1) := by decide +kernel
theorem dL_termOf_0 : decode cL_termOf 0 = .ok (.aload_n 2, 1) := by decide +kernel
theorem dL_termOf_1 : decode cL_termOf 1 = .ok (.iconst 0, 1) := by decide +kernel
theorem dL_termOf_2 : decode cL_termOf 2 = .ok (.aload_n 0, 1) := by decide +kernel
theorem dL_termOf_3 : decode cL_termOf 3 = .ok (.iload_n 1, 1) := by decide +kernel
theorem dL_termOf_4 : decode cL_termOf 4 = .ok (.invokevirtual 52, 3) := by decide +kernel
theorem dL_termOf_7 : decode cL_termOf 7 = .ok (.i2l, 1) := by decide +kernel
theorem dL_termOf_8 : decode cL_termOf 8 = .ok (.lastore, 1) := by decide +kernel
theorem dL_termOf_9 : decode cL_termOf 9 = .ok (.goto 6, 3) := by decide +kernel
theorem dL_termOf_12 : decode cL_termOf 12 = .ok (.astore_n 3, 1) := by decide +kernel
theorem dL_termOf_13 : decode cL_termOf 13 = .ok (.iconst 1, 1) := by decide +kernel
theorem dL_termOf_14 : decode cL_termOf 14 = .ok (.ireturn, 1) := by decide +kernel
theorem dL_termOf_15 : decode cL_termOf 15 = .ok (.iconst 0, 1) := by decide +kernel
theorem dL_termOf_16 : decode cL_termOf 16 = .ok (.ireturn, 1) := by decide +kernel
theorem dL_holders_0 : decode cL_holders 0 = .ok (.aload_n 2, 1) := by decide +kernel
theorem dL_holders_1 : decode cL_holders 1 = .ok (.iconst 0, 1) := by decide +kernel
theorem dL_holders_2 : decode cL_holders 2 = .ok (.aload_n 0, 1) := by decide +kernel
theorem dL_holders_3 : decode cL_holders 3 = .ok (.iload_n 1, 1) := by decide +kernel
theorem dL_holders_4 : decode cL_holders 4 = .ok (.invokevirtual 55, 3) := by decide +kernel
theorem dL_holders_7 : decode cL_holders 7 = .ok (.i2l, 1) := by decide +kernel
theorem dL_holders_8 : decode cL_holders 8 = .ok (.lastore, 1) := by decide +kernel
theorem dL_holders_9 : decode cL_holders 9 = .ok (.goto 6, 3) := by decide +kernel
theorem dL_holders_12 : decode cL_holders 12 = .ok (.astore_n 3, 1) := by decide +kernel
theorem dL_holders_13 : decode cL_holders 13 = .ok (.iconst 1, 1) := by decide +kernel
theorem dL_holders_14 : decode cL_holders 14 = .ok (.ireturn, 1) := by decide +kernel
theorem dL_holders_15 : decode cL_holders 15 = .ok (.iconst 0, 1) := by decide +kernel
theorem dL_holders_16 : decode cL_holders 16 = .ok (.ireturn, 1) := by decide +kernel
theorem dL_isHeld_0 : decode cL_isHeld 0 = .ok (.aload_n 2, 1) := by decide +kernel
theorem dL_isHeld_1 : decode cL_isHeld 1 = .ok (.iconst 0, 1) := by decide +kernel
theorem dL_isHeld_2 : decode cL_isHeld 2 = .ok (.aload_n 0, 1) := by decide +kernel
theorem dL_isHeld_3 : decode cL_isHeld 3 = .ok (.iload_n 1, 1) := by decide +kernel
theorem dL_isHeld_4 : decode cL_isHeld 4 = .ok (.invokevirtual 58, 3) := by decide +kernel
theorem dL_isHeld_7 : decode cL_isHeld 7 = .ok (.ifCond .eq 7, 3) := by decide +kernel
theorem dL_isHeld_10 : decode cL_isHeld 10 = .ok (.lconst 1, 1) := by decide +kernel
theorem dL_isHeld_11 : decode cL_isHeld 11 = .ok (.goto 4, 3) := by decide +kernel
theorem dL_isHeld_14 : decode cL_isHeld 14 = .ok (.lconst 0, 1) := by decide +kernel
theorem dL_isHeld_15 : decode cL_isHeld 15 = .ok (.lastore, 1) := by decide +kernel
theorem dL_isHeld_16 : decode cL_isHeld 16 = .ok (.goto 6, 3) := by decide +kernel
theorem dL_isHeld_19 : decode cL_isHeld 19 = .ok (.astore_n 3, 1) := by decide +kernel
theorem dL_isHeld_20 : decode cL_isHeld 20 = .ok (.iconst 1, 1) := by decide +kernel
theorem dL_isHeld_21 : decode cL_isHeld 21 = .ok (.ireturn, 1) := by decide +kernel
theorem dL_isHeld_22 : decode cL_isHeld 22 = .ok (.iconst 0, 1) := by decide +kernel
theorem dL_isHeld_23 : decode cL_isHeld 23 = .ok (.ireturn, 1) := by decide +kernel
theorem dL_wasHeld_0 : decode cL_wasHeld 0 = .ok (.aload_n 2, 1) := by decide +kernel
theorem dL_wasHeld_1 : decode cL_wasHeld 1 = .ok (.iconst 0, 1) := by decide +kernel
theorem dL_wasHeld_2 : decode cL_wasHeld 2 = .ok (.aload_n 0, 1) := by decide +kernel
theorem dL_wasHeld_3 : decode cL_wasHeld 3 = .ok (.iload_n 1, 1) := by decide +kernel
theorem dL_wasHeld_4 : decode cL_wasHeld 4 = .ok (.invokevirtual 62, 3) := by decide +kernel
theorem dL_wasHeld_7 : decode cL_wasHeld 7 = .ok (.ifCond .eq 7, 3) := by decide +kernel
theorem dL_wasHeld_10 : decode cL_wasHeld 10 = .ok (.lconst 1, 1) := by decide +kernel
theorem dL_wasHeld_11 : decode cL_wasHeld 11 = .ok (.goto 4, 3) := by decide +kernel
theorem dL_wasHeld_14 : decode cL_wasHeld 14 = .ok (.lconst 0, 1) := by decide +kernel
theorem dL_wasHeld_15 : decode cL_wasHeld 15 = .ok (.lastore, 1) := by decide +kernel
theorem dL_wasHeld_16 : decode cL_wasHeld 16 = .ok (.goto 6, 3) := by decide +kernel
theorem dL_wasHeld_19 : decode cL_wasHeld 19 = .ok (.astore_n 3, 1) := by decide +kernel
theorem dL_wasHeld_20 : decode cL_wasHeld 20 = .ok (.iconst 1, 1) := by decide +kernel
theorem dL_wasHeld_21 : decode cL_wasHeld 21 = .ok (.ireturn, 1) := by decide +kernel
theorem dL_wasHeld_22 : decode cL_wasHeld 22 = .ok (.iconst 0, 1) := by decide +kernel
theorem dL_wasHeld_23 : decode cL_wasHeld 23 = .ok (.ireturn, 1) := by decide +kernel
theorem dL_current_0 : decode cL_current 0 = .ok (.aload_n 3, 1) := by decide +kernel
theorem dL_current_1 : decode cL_current 1 = .ok (.iconst 0, 1) := by decide +kernel
theorem dL_current_2 : decode cL_current 2 = .ok (.aload_n 0, 1) := by decide +kernel
theorem dL_current_3 : decode cL_current 3 = .ok (.iload_n 1, 1) := by decide +kernel
theorem dL_current_4 : decode cL_current 4 = .ok (.iload_n 2, 1) := by decide +kernel
theorem dL_current_5 : decode cL_current 5 = .ok (.invokevirtual 65, 3) := by decide +kernel
theorem dL_current_8 : decode cL_current 8 = .ok (.i2l, 1) := by decide +kernel
theorem dL_current_9 : decode cL_current 9 = .ok (.lastore, 1) := by decide +kernel
theorem dL_current_10 : decode cL_current 10 = .ok (.goto 7, 3) := by decide +kernel
theorem dL_current_13 : decode cL_current 13 = .ok (.astore 4, 2) := by decide +kernel
theorem dL_current_15 : decode cL_current 15 = .ok (.iconst 1, 1) := by decide +kernel
theorem dL_current_16 : decode cL_current 16 = .ok (.ireturn, 1) := by decide +kernel
theorem dL_current_17 : decode cL_current 17 = .ok (.iconst 0, 1) := by decide +kernel
theorem dL_current_18 : decode cL_current 18 = .ok (.ireturn, 1) := by decide +kernel
theorem dL_addLot_0 : decode cL_addLot 0 = .ok (.aload_n 1, 1) := by decide +kernel
theorem dL_addLot_1 : decode cL_addLot 1 = .ok (.iconst 0, 1) := by decide +kernel
theorem dL_addLot_2 : decode cL_addLot 2 = .ok (.aload_n 0, 1) := by decide +kernel
theorem dL_addLot_3 : decode cL_addLot 3 = .ok (.invokevirtual 68, 3) := by decide +kernel
theorem dL_addLot_6 : decode cL_addLot 6 = .ok (.i2l, 1) := by decide +kernel
theorem dL_addLot_7 : decode cL_addLot 7 = .ok (.lastore, 1) := by decide +kernel
theorem dL_addLot_8 : decode cL_addLot 8 = .ok (.goto 6, 3) := by decide +kernel
theorem dL_addLot_11 : decode cL_addLot 11 = .ok (.astore_n 2, 1) := by decide +kernel
theorem dL_addLot_12 : decode cL_addLot 12 = .ok (.iconst 1, 1) := by decide +kernel
theorem dL_addLot_13 : decode cL_addLot 13 = .ok (.ireturn, 1) := by decide +kernel
theorem dL_addLot_14 : decode cL_addLot 14 = .ok (.iconst 0, 1) := by decide +kernel
theorem dL_addLot_15 : decode cL_addLot 15 = .ok (.ireturn, 1) := by decide +kernel
theorem dL_deliver_0 : decode cL_deliver 0 = .ok (.aload 4, 2) := by decide +kernel
theorem dL_deliver_2 : decode cL_deliver 2 = .ok (.iconst 0, 1) := by decide +kernel
theorem dL_deliver_3 : decode cL_deliver 3 = .ok (.aload_n 0, 1) := by decide +kernel
theorem dL_deliver_4 : decode cL_deliver 4 = .ok (.iload_n 1, 1) := by decide +kernel
theorem dL_deliver_5 : decode cL_deliver 5 = .ok (.iload_n 2, 1) := by decide +kernel
theorem dL_deliver_6 : decode cL_deliver 6 = .ok (.iload_n 3, 1) := by decide +kernel
theorem dL_deliver_7 : decode cL_deliver 7 = .ok (.invokevirtual 72, 3) := by decide +kernel
theorem dL_deliver_10 : decode cL_deliver 10 = .ok (.i2l, 1) := by decide +kernel
theorem dL_deliver_11 : decode cL_deliver 11 = .ok (.lastore, 1) := by decide +kernel
theorem dL_deliver_12 : decode cL_deliver 12 = .ok (.goto 15, 3) := by decide +kernel
theorem dL_deliver_15 : decode cL_deliver 15 = .ok (.astore 5, 2) := by decide +kernel
theorem dL_deliver_17 : decode cL_deliver 17 = .ok (.iconst 1, 1) := by decide +kernel
theorem dL_deliver_18 : decode cL_deliver 18 = .ok (.ireturn, 1) := by decide +kernel
theorem dL_deliver_19 : decode cL_deliver 19 = .ok (.astore 5, 2) := by decide +kernel
theorem dL_deliver_21 : decode cL_deliver 21 = .ok (.iconst 2, 1) := by decide +kernel
theorem dL_deliver_22 : decode cL_deliver 22 = .ok (.ireturn, 1) := by decide +kernel
theorem dL_deliver_23 : decode cL_deliver 23 = .ok (.astore 5, 2) := by decide +kernel
theorem dL_deliver_25 : decode cL_deliver 25 = .ok (.iconst 3, 1) := by decide +kernel
theorem dL_deliver_26 : decode cL_deliver 26 = .ok (.ireturn, 1) := by decide +kernel
theorem dL_deliver_27 : decode cL_deliver 27 = .ok (.iconst 0, 1) := by decide +kernel
theorem dL_deliver_28 : decode cL_deliver 28 = .ok (.ireturn, 1) := by decide +kernel
theorem dL_condemn_0 : decode cL_condemn 0 = .ok (.aload_n 2, 1) := by decide +kernel
theorem dL_condemn_1 : decode cL_condemn 1 = .ok (.iconst 0, 1) := by decide +kernel
theorem dL_condemn_2 : decode cL_condemn 2 = .ok (.aload_n 0, 1) := by decide +kernel
theorem dL_condemn_3 : decode cL_condemn 3 = .ok (.iload_n 1, 1) := by decide +kernel
theorem dL_condemn_4 : decode cL_condemn 4 = .ok (.invokevirtual 76, 3) := by decide +kernel
theorem dL_condemn_7 : decode cL_condemn 7 = .ok (.i2l, 1) := by decide +kernel
theorem dL_condemn_8 : decode cL_condemn 8 = .ok (.lastore, 1) := by decide +kernel
theorem dL_condemn_9 : decode cL_condemn 9 = .ok (.goto 9, 3) := by decide +kernel
theorem dL_condemn_12 : decode cL_condemn 12 = .ok (.astore_n 3, 1) := by decide +kernel
theorem dL_condemn_13 : decode cL_condemn 13 = .ok (.iconst 1, 1) := by decide +kernel
theorem dL_condemn_14 : decode cL_condemn 14 = .ok (.ireturn, 1) := by decide +kernel
theorem dL_condemn_15 : decode cL_condemn 15 = .ok (.astore_n 3, 1) := by decide +kernel
theorem dL_condemn_16 : decode cL_condemn 16 = .ok (.iconst 2, 1) := by decide +kernel
theorem dL_condemn_17 : decode cL_condemn 17 = .ok (.ireturn, 1) := by decide +kernel
theorem dL_condemn_18 : decode cL_condemn 18 = .ok (.iconst 0, 1) := by decide +kernel
theorem dL_condemn_19 : decode cL_condemn 19 = .ok (.ireturn, 1) := by decide +kernel
theorem dL_store_0 : decode cL_store 0 = .ok (.aload_n 2, 1) := by decide +kernel
theorem dL_store_1 : decode cL_store 1 = .ok (.iconst 0, 1) := by decide +kernel
theorem dL_store_2 : decode cL_store 2 = .ok (.aload_n 0, 1) := by decide +kernel
theorem dL_store_3 : decode cL_store 3 = .ok (.iload_n 1, 1) := by decide +kernel
theorem dL_store_4 : decode cL_store 4 = .ok (.invokevirtual 79, 3) := by decide +kernel
theorem dL_store_7 : decode cL_store 7 = .ok (.i2l, 1) := by decide +kernel
theorem dL_store_8 : decode cL_store 8 = .ok (.lastore, 1) := by decide +kernel
theorem dL_store_9 : decode cL_store 9 = .ok (.goto 6, 3) := by decide +kernel
theorem dL_store_12 : decode cL_store 12 = .ok (.astore_n 3, 1) := by decide +kernel
theorem dL_store_13 : decode cL_store 13 = .ok (.iconst 1, 1) := by decide +kernel
theorem dL_store_14 : decode cL_store 14 = .ok (.ireturn, 1) := by decide +kernel
theorem dL_store_15 : decode cL_store 15 = .ok (.iconst 0, 1) := by decide +kernel
theorem dL_store_16 : decode cL_store 16 = .ok (.ireturn, 1) := by decide +kernel
theorem dL_book_0 : decode cL_book 0 = .ok (.aload 4, 2) := by decide +kernel
theorem dL_book_2 : decode cL_book 2 = .ok (.iconst 0, 1) := by decide +kernel
theorem dL_book_3 : decode cL_book 3 = .ok (.aload_n 0, 1) := by decide +kernel
theorem dL_book_4 : decode cL_book 4 = .ok (.iload_n 1, 1) := by decide +kernel
theorem dL_book_5 : decode cL_book 5 = .ok (.iload_n 2, 1) := by decide +kernel
theorem dL_book_6 : decode cL_book 6 = .ok (.iload_n 3, 1) := by decide +kernel
theorem dL_book_7 : decode cL_book 7 = .ok (.invokevirtual 82, 3) := by decide +kernel
theorem dL_book_10 : decode cL_book 10 = .ok (.i2l, 1) := by decide +kernel
theorem dL_book_11 : decode cL_book 11 = .ok (.lastore, 1) := by decide +kernel
theorem dL_book_12 : decode cL_book 12 = .ok (.goto 15, 3) := by decide +kernel
theorem dL_book_15 : decode cL_book 15 = .ok (.astore 5, 2) := by decide +kernel
theorem dL_book_17 : decode cL_book 17 = .ok (.iconst 1, 1) := by decide +kernel
theorem dL_book_18 : decode cL_book 18 = .ok (.ireturn, 1) := by decide +kernel
theorem dL_book_19 : decode cL_book 19 = .ok (.astore 5, 2) := by decide +kernel
theorem dL_book_21 : decode cL_book 21 = .ok (.iconst 2, 1) := by decide +kernel
theorem dL_book_22 : decode cL_book 22 = .ok (.ireturn, 1) := by decide +kernel
theorem dL_book_23 : decode cL_book 23 = .ok (.astore 5, 2) := by decide +kernel
theorem dL_book_25 : decode cL_book 25 = .ok (.iconst 3, 1) := by decide +kernel
theorem dL_book_26 : decode cL_book 26 = .ok (.ireturn, 1) := by decide +kernel
theorem dL_book_27 : decode cL_book 27 = .ok (.iconst 0, 1) := by decide +kernel
theorem dL_book_28 : decode cL_book 28 = .ok (.ireturn, 1) := by decide +kernel
theorem dL_renew_0 : decode cL_renew 0 = .ok (.aload_n 3, 1) := by decide +kernel
theorem dL_renew_1 : decode cL_renew 1 = .ok (.iconst 0, 1) := by decide +kernel
theorem dL_renew_2 : decode cL_renew 2 = .ok (.aload_n 0, 1) := by decide +kernel
theorem dL_renew_3 : decode cL_renew 3 = .ok (.iload_n 1, 1) := by decide +kernel
theorem dL_renew_4 : decode cL_renew 4 = .ok (.iload_n 2, 1) := by decide +kernel
theorem dL_renew_5 : decode cL_renew 5 = .ok (.invokevirtual 85, 3) := by decide +kernel
theorem dL_renew_8 : decode cL_renew 8 = .ok (.i2l, 1) := by decide +kernel
theorem dL_renew_9 : decode cL_renew 9 = .ok (.lastore, 1) := by decide +kernel
theorem dL_renew_10 : decode cL_renew 10 = .ok (.goto 15, 3) := by decide +kernel
theorem dL_renew_13 : decode cL_renew 13 = .ok (.astore 4, 2) := by decide +kernel
theorem dL_renew_15 : decode cL_renew 15 = .ok (.iconst 1, 1) := by decide +kernel
theorem dL_renew_16 : decode cL_renew 16 = .ok (.ireturn, 1) := by decide +kernel
theorem dL_renew_17 : decode cL_renew 17 = .ok (.astore 4, 2) := by decide +kernel
theorem dL_renew_19 : decode cL_renew 19 = .ok (.iconst 2, 1) := by decide +kernel
theorem dL_renew_20 : decode cL_renew 20 = .ok (.ireturn, 1) := by decide +kernel
theorem dL_renew_21 : decode cL_renew 21 = .ok (.astore 4, 2) := by decide +kernel
theorem dL_renew_23 : decode cL_renew 23 = .ok (.iconst 3, 1) := by decide +kernel
theorem dL_renew_24 : decode cL_renew 24 = .ok (.ireturn, 1) := by decide +kernel
theorem dL_renew_25 : decode cL_renew 25 = .ok (.iconst 0, 1) := by decide +kernel
theorem dL_renew_26 : decode cL_renew 26 = .ok (.ireturn, 1) := by decide +kernel
theorem dL_free_0 : decode cL_free 0 = .ok (.aload_n 3, 1) := by decide +kernel
theorem dL_free_1 : decode cL_free 1 = .ok (.iconst 0, 1) := by decide +kernel
theorem dL_free_2 : decode cL_free 2 = .ok (.aload_n 0, 1) := by decide +kernel
theorem dL_free_3 : decode cL_free 3 = .ok (.iload_n 1, 1) := by decide +kernel
theorem dL_free_4 : decode cL_free 4 = .ok (.iload_n 2, 1) := by decide +kernel
theorem dL_free_5 : decode cL_free 5 = .ok (.invokevirtual 88, 3) := by decide +kernel
theorem dL_free_8 : decode cL_free 8 = .ok (.i2l, 1) := by decide +kernel
theorem dL_free_9 : decode cL_free 9 = .ok (.lastore, 1) := by decide +kernel
theorem dL_free_10 : decode cL_free 10 = .ok (.goto 15, 3) := by decide +kernel
theorem dL_free_13 : decode cL_free 13 = .ok (.astore 4, 2) := by decide +kernel
theorem dL_free_15 : decode cL_free 15 = .ok (.iconst 1, 1) := by decide +kernel
theorem dL_free_16 : decode cL_free 16 = .ok (.ireturn, 1) := by decide +kernel
theorem dL_free_17 : decode cL_free 17 = .ok (.astore 4, 2) := by decide +kernel
theorem dL_free_19 : decode cL_free 19 = .ok (.iconst 2, 1) := by decide +kernel
theorem dL_free_20 : decode cL_free 20 = .ok (.ireturn, 1) := by decide +kernel
theorem dL_free_21 : decode cL_free 21 = .ok (.astore 4, 2) := by decide +kernel
theorem dL_free_23 : decode cL_free 23 = .ok (.iconst 3, 1) := by decide +kernel
theorem dL_free_24 : decode cL_free 24 = .ok (.ireturn, 1) := by decide +kernel
theorem dL_free_25 : decode cL_free 25 = .ok (.iconst 0, 1) := by decide +kernel
theorem dL_free_26 : decode cL_free 26 = .ok (.ireturn, 1) := by decide +kernel
theorem dL_booked_0 : decode cL_booked 0 = .ok (.aload_n 3, 1) := by decide +kernel
theorem dL_booked_1 : decode cL_booked 1 = .ok (.iconst 0, 1) := by decide +kernel
theorem dL_booked_2 : decode cL_booked 2 = .ok (.aload_n 0, 1) := by decide +kernel
theorem dL_booked_3 : decode cL_booked 3 = .ok (.iload_n 1, 1) := by decide +kernel
theorem dL_booked_4 : decode cL_booked 4 = .ok (.iload_n 2, 1) := by decide +kernel
theorem dL_booked_5 : decode cL_booked 5 = .ok (.invokevirtual 91, 3) := by decide +kernel
theorem dL_booked_8 : decode cL_booked 8 = .ok (.i2l, 1) := by decide +kernel
theorem dL_booked_9 : decode cL_booked 9 = .ok (.lastore, 1) := by decide +kernel
theorem dL_booked_10 : decode cL_booked 10 = .ok (.goto 11, 3) := by decide +kernel
theorem dL_booked_13 : decode cL_booked 13 = .ok (.astore 4, 2) := by decide +kernel
theorem dL_booked_15 : decode cL_booked 15 = .ok (.iconst 1, 1) := by decide +kernel
theorem dL_booked_16 : decode cL_booked 16 = .ok (.ireturn, 1) := by decide +kernel
theorem dL_booked_17 : decode cL_booked 17 = .ok (.astore 4, 2) := by decide +kernel
theorem dL_booked_19 : decode cL_booked 19 = .ok (.iconst 2, 1) := by decide +kernel
theorem dL_booked_20 : decode cL_booked 20 = .ok (.ireturn, 1) := by decide +kernel
theorem dL_booked_21 : decode cL_booked 21 = .ok (.iconst 0, 1) := by decide +kernel
theorem dL_booked_22 : decode cL_booked 22 = .ok (.ireturn, 1) := by decide +kernel
theorem dL_pass_0 : decode cL_pass 0 = .ok (.aload_n 2, 1) := by decide +kernel
theorem dL_pass_1 : decode cL_pass 1 = .ok (.iconst 0, 1) := by decide +kernel
theorem dL_pass_2 : decode cL_pass 2 = .ok (.aload_n 0, 1) := by decide +kernel
theorem dL_pass_3 : decode cL_pass 3 = .ok (.iload_n 1, 1) := by decide +kernel
theorem dL_pass_4 : decode cL_pass 4 = .ok (.invokevirtual 94, 3) := by decide +kernel
theorem dL_pass_7 : decode cL_pass 7 = .ok (.i2l, 1) := by decide +kernel
theorem dL_pass_8 : decode cL_pass 8 = .ok (.lastore, 1) := by decide +kernel
theorem dL_pass_9 : decode cL_pass 9 = .ok (.goto 9, 3) := by decide +kernel
theorem dL_pass_12 : decode cL_pass 12 = .ok (.astore_n 3, 1) := by decide +kernel
theorem dL_pass_13 : decode cL_pass 13 = .ok (.iconst 1, 1) := by decide +kernel
theorem dL_pass_14 : decode cL_pass 14 = .ok (.ireturn, 1) := by decide +kernel
theorem dL_pass_15 : decode cL_pass 15 = .ok (.astore_n 3, 1) := by decide +kernel
theorem dL_pass_16 : decode cL_pass 16 = .ok (.iconst 2, 1) := by decide +kernel
theorem dL_pass_17 : decode cL_pass 17 = .ok (.ireturn, 1) := by decide +kernel
theorem dL_pass_18 : decode cL_pass 18 = .ok (.iconst 0, 1) := by decide +kernel
theorem dL_pass_19 : decode cL_pass 19 = .ok (.ireturn, 1) := by decide +kernel
theorem dL_missed_0 : decode cL_missed 0 = .ok (.aload_n 2, 1) := by decide +kernel
theorem dL_missed_1 : decode cL_missed 1 = .ok (.iconst 0, 1) := by decide +kernel
theorem dL_missed_2 : decode cL_missed 2 = .ok (.aload_n 0, 1) := by decide +kernel
theorem dL_missed_3 : decode cL_missed 3 = .ok (.iload_n 1, 1) := by decide +kernel
theorem dL_missed_4 : decode cL_missed 4 = .ok (.invokevirtual 97, 3) := by decide +kernel
theorem dL_missed_7 : decode cL_missed 7 = .ok (.i2l, 1) := by decide +kernel
theorem dL_missed_8 : decode cL_missed 8 = .ok (.lastore, 1) := by decide +kernel
theorem dL_missed_9 : decode cL_missed 9 = .ok (.goto 6, 3) := by decide +kernel
theorem dL_missed_12 : decode cL_missed 12 = .ok (.astore_n 3, 1) := by decide +kernel
theorem dL_missed_13 : decode cL_missed 13 = .ok (.iconst 1, 1) := by decide +kernel
theorem dL_missed_14 : decode cL_missed 14 = .ok (.ireturn, 1) := by decide +kernel
theorem dL_missed_15 : decode cL_missed 15 = .ok (.iconst 0, 1) := by decide +kernel
theorem dL_missed_16 : decode cL_missed 16 = .ok (.ireturn, 1) := by decide +kernel
theorem dL_versionOf_0 : decode cL_versionOf 0 = .ok (.aload_n 2, 1) := by decide +kernel
theorem dL_versionOf_1 : decode cL_versionOf 1 = .ok (.iconst 0, 1) := by decide +kernel
theorem dL_versionOf_2 : decode cL_versionOf 2 = .ok (.aload_n 0, 1) := by decide +kernel
theorem dL_versionOf_3 : decode cL_versionOf 3 = .ok (.iload_n 1, 1) := by decide +kernel
theorem dL_versionOf_4 : decode cL_versionOf 4 = .ok (.invokevirtual 100, 3) := by decide +kernel
theorem dL_versionOf_7 : decode cL_versionOf 7 = .ok (.i2l, 1) := by decide +kernel
theorem dL_versionOf_8 : decode cL_versionOf 8 = .ok (.lastore, 1) := by decide +kernel
theorem dL_versionOf_9 : decode cL_versionOf 9 = .ok (.goto 6, 3) := by decide +kernel
theorem dL_versionOf_12 : decode cL_versionOf 12 = .ok (.astore_n 3, 1) := by decide +kernel
theorem dL_versionOf_13 : decode cL_versionOf 13 = .ok (.iconst 1, 1) := by decide +kernel
theorem dL_versionOf_14 : decode cL_versionOf 14 = .ok (.ireturn, 1) := by decide +kernel
theorem dL_versionOf_15 : decode cL_versionOf 15 = .ok (.iconst 0, 1) := by decide +kernel
theorem dL_versionOf_16 : decode cL_versionOf 16 = .ok (.ireturn, 1) := by decide +kernel
theorem dL_lotsOf_0 : decode cL_lotsOf 0 = .ok (.aload_n 2, 1) := by decide +kernel
theorem dL_lotsOf_1 : decode cL_lotsOf 1 = .ok (.iconst 0, 1) := by decide +kernel
theorem dL_lotsOf_2 : decode cL_lotsOf 2 = .ok (.aload_n 0, 1) := by decide +kernel
theorem dL_lotsOf_3 : decode cL_lotsOf 3 = .ok (.iload_n 1, 1) := by decide +kernel
theorem dL_lotsOf_4 : decode cL_lotsOf 4 = .ok (.invokevirtual 103, 3) := by decide +kernel
theorem dL_lotsOf_7 : decode cL_lotsOf 7 = .ok (.i2l, 1) := by decide +kernel
theorem dL_lotsOf_8 : decode cL_lotsOf 8 = .ok (.lastore, 1) := by decide +kernel
theorem dL_lotsOf_9 : decode cL_lotsOf 9 = .ok (.goto 6, 3) := by decide +kernel
theorem dL_lotsOf_12 : decode cL_lotsOf 12 = .ok (.astore_n 3, 1) := by decide +kernel
theorem dL_lotsOf_13 : decode cL_lotsOf 13 = .ok (.iconst 1, 1) := by decide +kernel
theorem dL_lotsOf_14 : decode cL_lotsOf 14 = .ok (.ireturn, 1) := by decide +kernel
theorem dL_lotsOf_15 : decode cL_lotsOf 15 = .ok (.iconst 0, 1) := by decide +kernel
theorem dL_lotsOf_16 : decode cL_lotsOf 16 = .ok (.ireturn, 1) := by decide +kernel
theorem dL_left_0 : decode cL_left 0 = .ok (.aload_n 2, 1) := by decide +kernel
theorem dL_left_1 : decode cL_left 1 = .ok (.iconst 0, 1) := by decide +kernel
theorem dL_left_2 : decode cL_left 2 = .ok (.aload_n 0, 1) := by decide +kernel
theorem dL_left_3 : decode cL_left 3 = .ok (.iload_n 1, 1) := by decide +kernel
theorem dL_left_4 : decode cL_left 4 = .ok (.invokevirtual 106, 3) := by decide +kernel
theorem dL_left_7 : decode cL_left 7 = .ok (.i2l, 1) := by decide +kernel
theorem dL_left_8 : decode cL_left 8 = .ok (.lastore, 1) := by decide +kernel
theorem dL_left_9 : decode cL_left 9 = .ok (.goto 6, 3) := by decide +kernel
theorem dL_left_12 : decode cL_left 12 = .ok (.astore_n 3, 1) := by decide +kernel
theorem dL_left_13 : decode cL_left 13 = .ok (.iconst 1, 1) := by decide +kernel
theorem dL_left_14 : decode cL_left 14 = .ok (.ireturn, 1) := by decide +kernel
theorem dL_left_15 : decode cL_left 15 = .ok (.iconst 0, 1) := by decide +kernel
theorem dL_left_16 : decode cL_left 16 = .ok (.ireturn, 1) := by decide +kernel
theorem dL_barred_0 : decode cL_barred 0 = .ok (.aload_n 2, 1) := by decide +kernel
theorem dL_barred_1 : decode cL_barred 1 = .ok (.iconst 0, 1) := by decide +kernel
theorem dL_barred_2 : decode cL_barred 2 = .ok (.aload_n 0, 1) := by decide +kernel
theorem dL_barred_3 : decode cL_barred 3 = .ok (.iload_n 1, 1) := by decide +kernel
theorem dL_barred_4 : decode cL_barred 4 = .ok (.invokevirtual 109, 3) := by decide +kernel
theorem dL_barred_7 : decode cL_barred 7 = .ok (.i2l, 1) := by decide +kernel
theorem dL_barred_8 : decode cL_barred 8 = .ok (.lastore, 1) := by decide +kernel
theorem dL_barred_9 : decode cL_barred 9 = .ok (.goto 6, 3) := by decide +kernel
theorem dL_barred_12 : decode cL_barred 12 = .ok (.astore_n 3, 1) := by decide +kernel
theorem dL_barred_13 : decode cL_barred 13 = .ok (.iconst 1, 1) := by decide +kernel
theorem dL_barred_14 : decode cL_barred 14 = .ok (.ireturn, 1) := by decide +kernel
theorem dL_barred_15 : decode cL_barred 15 = .ok (.iconst 0, 1) := by decide +kernel
theorem dL_barred_16 : decode cL_barred 16 = .ok (.ireturn, 1) := by decide +kernel
theorem dL_barredAnew_0 : decode cL_barredAnew 0 = .ok (.aload_n 2, 1) := by decide +kernel
theorem dL_barredAnew_1 : decode cL_barredAnew 1 = .ok (.iconst 0, 1) := by decide +kernel
theorem dL_barredAnew_2 : decode cL_barredAnew 2 = .ok (.aload_n 0, 1) := by decide +kernel
theorem dL_barredAnew_3 : decode cL_barredAnew 3 = .ok (.iload_n 1, 1) := by decide +kernel
theorem dL_barredAnew_4 : decode cL_barredAnew 4 = .ok (.invokevirtual 112, 3) := by decide +kernel
theorem dL_barredAnew_7 : decode cL_barredAnew 7 = .ok (.i2l, 1) := by decide +kernel
theorem dL_barredAnew_8 : decode cL_barredAnew 8 = .ok (.lastore, 1) := by decide +kernel
theorem dL_barredAnew_9 : decode cL_barredAnew 9 = .ok (.goto 6, 3) := by decide +kernel
theorem dL_barredAnew_12 : decode cL_barredAnew 12 = .ok (.astore_n 3, 1) := by decide +kernel
theorem dL_barredAnew_13 : decode cL_barredAnew 13 = .ok (.iconst 1, 1) := by decide +kernel
theorem dL_barredAnew_14 : decode cL_barredAnew 14 = .ok (.ireturn, 1) := by decide +kernel
theorem dL_barredAnew_15 : decode cL_barredAnew 15 = .ok (.iconst 0, 1) := by decide +kernel
theorem dL_barredAnew_16 : decode cL_barredAnew 16 = .ok (.ireturn, 1) := by decide +kernel
theorem dL_sell_0 : decode cL_sell 0 = .ok (.aload_n 3, 1) := by decide +kernel
theorem dL_sell_1 : decode cL_sell 1 = .ok (.iconst 0, 1) := by decide +kernel
theorem dL_sell_2 : decode cL_sell 2 = .ok (.aload_n 0, 1) := by decide +kernel
theorem dL_sell_3 : decode cL_sell 3 = .ok (.iload_n 1, 1) := by decide +kernel
theorem dL_sell_4 : decode cL_sell 4 = .ok (.iload_n 2, 1) := by decide +kernel
theorem dL_sell_5 : decode cL_sell 5 = .ok (.invokevirtual 115, 3) := by decide +kernel
theorem dL_sell_8 : decode cL_sell 8 = .ok (.i2l, 1) := by decide +kernel
theorem dL_sell_9 : decode cL_sell 9 = .ok (.lastore, 1) := by decide +kernel
theorem dL_sell_10 : decode cL_sell 10 = .ok (.goto 15, 3) := by decide +kernel
theorem dL_sell_13 : decode cL_sell 13 = .ok (.astore 4, 2) := by decide +kernel
theorem dL_sell_15 : decode cL_sell 15 = .ok (.iconst 1, 1) := by decide +kernel
theorem dL_sell_16 : decode cL_sell 16 = .ok (.ireturn, 1) := by decide +kernel
theorem dL_sell_17 : decode cL_sell 17 = .ok (.astore 4, 2) := by decide +kernel
theorem dL_sell_19 : decode cL_sell 19 = .ok (.iconst 2, 1) := by decide +kernel
theorem dL_sell_20 : decode cL_sell 20 = .ok (.ireturn, 1) := by decide +kernel
theorem dL_sell_21 : decode cL_sell 21 = .ok (.astore 4, 2) := by decide +kernel
theorem dL_sell_23 : decode cL_sell 23 = .ok (.iconst 3, 1) := by decide +kernel
theorem dL_sell_24 : decode cL_sell 24 = .ok (.ireturn, 1) := by decide +kernel
theorem dL_sell_25 : decode cL_sell 25 = .ok (.iconst 0, 1) := by decide +kernel
theorem dL_sell_26 : decode cL_sell 26 = .ok (.ireturn, 1) := by decide +kernel
theorem dL_traced_0 : decode cL_traced 0 = .ok (.aload_n 2, 1) := by decide +kernel
theorem dL_traced_1 : decode cL_traced 1 = .ok (.iconst 0, 1) := by decide +kernel
theorem dL_traced_2 : decode cL_traced 2 = .ok (.aload_n 0, 1) := by decide +kernel
theorem dL_traced_3 : decode cL_traced 3 = .ok (.iload_n 1, 1) := by decide +kernel
theorem dL_traced_4 : decode cL_traced 4 = .ok (.invokevirtual 118, 3) := by decide +kernel
theorem dL_traced_7 : decode cL_traced 7 = .ok (.i2l, 1) := by decide +kernel
theorem dL_traced_8 : decode cL_traced 8 = .ok (.lastore, 1) := by decide +kernel
theorem dL_traced_9 : decode cL_traced 9 = .ok (.goto 6, 3) := by decide +kernel
theorem dL_traced_12 : decode cL_traced 12 = .ok (.astore_n 3, 1) := by decide +kernel
theorem dL_traced_13 : decode cL_traced 13 = .ok (.iconst 1, 1) := by decide +kernel
theorem dL_traced_14 : decode cL_traced 14 = .ok (.ireturn, 1) := by decide +kernel
theorem dL_traced_15 : decode cL_traced 15 = .ok (.iconst 0, 1) := by decide +kernel
theorem dL_traced_16 : decode cL_traced 16 = .ok (.ireturn, 1) := by decide +kernel
theorem dL_tracedAt_0 : decode cL_tracedAt 0 = .ok (.aload_n 3, 1) := by decide +kernel
theorem dL_tracedAt_1 : decode cL_tracedAt 1 = .ok (.iconst 0, 1) := by decide +kernel
theorem dL_tracedAt_2 : decode cL_tracedAt 2 = .ok (.aload_n 0, 1) := by decide +kernel
theorem dL_tracedAt_3 : decode cL_tracedAt 3 = .ok (.iload_n 1, 1) := by decide +kernel
theorem dL_tracedAt_4 : decode cL_tracedAt 4 = .ok (.iload_n 2, 1) := by decide +kernel
theorem dL_tracedAt_5 : decode cL_tracedAt 5 = .ok (.invokevirtual 121, 3) := by decide +kernel
theorem dL_tracedAt_8 : decode cL_tracedAt 8 = .ok (.i2l, 1) := by decide +kernel
theorem dL_tracedAt_9 : decode cL_tracedAt 9 = .ok (.lastore, 1) := by decide +kernel
theorem dL_tracedAt_10 : decode cL_tracedAt 10 = .ok (.goto 7, 3) := by decide +kernel
theorem dL_tracedAt_13 : decode cL_tracedAt 13 = .ok (.astore 4, 2) := by decide +kernel
theorem dL_tracedAt_15 : decode cL_tracedAt 15 = .ok (.iconst 1, 1) := by decide +kernel
theorem dL_tracedAt_16 : decode cL_tracedAt 16 = .ok (.ireturn, 1) := by decide +kernel
theorem dL_tracedAt_17 : decode cL_tracedAt 17 = .ok (.iconst 0, 1) := by decide +kernel
theorem dL_tracedAt_18 : decode cL_tracedAt 18 = .ok (.ireturn, 1) := by decide +kernel
theorem dL_recallOf_0 : decode cL_recallOf 0 = .ok (.aload_n 2, 1) := by decide +kernel
theorem dL_recallOf_1 : decode cL_recallOf 1 = .ok (.iconst 0, 1) := by decide +kernel
theorem dL_recallOf_2 : decode cL_recallOf 2 = .ok (.aload_n 0, 1) := by decide +kernel
theorem dL_recallOf_3 : decode cL_recallOf 3 = .ok (.iload_n 1, 1) := by decide +kernel
theorem dL_recallOf_4 : decode cL_recallOf 4 = .ok (.invokevirtual 124, 3) := by decide +kernel
theorem dL_recallOf_7 : decode cL_recallOf 7 = .ok (.i2l, 1) := by decide +kernel
theorem dL_recallOf_8 : decode cL_recallOf 8 = .ok (.lastore, 1) := by decide +kernel
theorem dL_recallOf_9 : decode cL_recallOf 9 = .ok (.goto 6, 3) := by decide +kernel
theorem dL_recallOf_12 : decode cL_recallOf 12 = .ok (.astore_n 3, 1) := by decide +kernel
theorem dL_recallOf_13 : decode cL_recallOf 13 = .ok (.iconst 1, 1) := by decide +kernel
theorem dL_recallOf_14 : decode cL_recallOf 14 = .ok (.ireturn, 1) := by decide +kernel
theorem dL_recallOf_15 : decode cL_recallOf 15 = .ok (.iconst 0, 1) := by decide +kernel
theorem dL_recallOf_16 : decode cL_recallOf 16 = .ok (.ireturn, 1) := by decide +kernel
theorem dL_calledBack_0 : decode cL_calledBack 0 = .ok (.aload_n 2, 1) := by decide +kernel
theorem dL_calledBack_1 : decode cL_calledBack 1 = .ok (.iconst 0, 1) := by decide +kernel
theorem dL_calledBack_2 : decode cL_calledBack 2 = .ok (.aload_n 0, 1) := by decide +kernel
theorem dL_calledBack_3 : decode cL_calledBack 3 = .ok (.iload_n 1, 1) := by decide +kernel
theorem dL_calledBack_4 : decode cL_calledBack 4 = .ok (.invokevirtual 127, 3) := by decide +kernel
theorem dL_calledBack_7 : decode cL_calledBack 7 = .ok (.i2l, 1) := by decide +kernel
theorem dL_calledBack_8 : decode cL_calledBack 8 = .ok (.lastore, 1) := by decide +kernel
theorem dL_calledBack_9 : decode cL_calledBack 9 = .ok (.goto 6, 3) := by decide +kernel
theorem dL_calledBack_12 : decode cL_calledBack 12 = .ok (.astore_n 3, 1) := by decide +kernel
theorem dL_calledBack_13 : decode cL_calledBack 13 = .ok (.iconst 1, 1) := by decide +kernel
theorem dL_calledBack_14 : decode cL_calledBack 14 = .ok (.ireturn, 1) := by decide +kernel
theorem dL_calledBack_15 : decode cL_calledBack 15 = .ok (.iconst 0, 1) := by decide +kernel
theorem dL_calledBack_16 : decode cL_calledBack 16 = .ok (.ireturn, 1) := by decide +kernel
theorem dL_why_0 : decode cL_why 0 = .ok (.aload_n 2, 1) := by decide +kernel
theorem dL_why_1 : decode cL_why 1 = .ok (.iconst 0, 1) := by decide +kernel
theorem dL_why_2 : decode cL_why 2 = .ok (.aload_n 0, 1) := by decide +kernel
theorem dL_why_3 : decode cL_why 3 = .ok (.iload_n 1, 1) := by decide +kernel
theorem dL_why_4 : decode cL_why 4 = .ok (.invokevirtual 130, 3) := by decide +kernel
theorem dL_why_7 : decode cL_why 7 = .ok (.i2l, 1) := by decide +kernel
theorem dL_why_8 : decode cL_why 8 = .ok (.lastore, 1) := by decide +kernel
theorem dL_why_9 : decode cL_why 9 = .ok (.goto 6, 3) := by decide +kernel
theorem dL_why_12 : decode cL_why 12 = .ok (.astore_n 3, 1) := by decide +kernel
theorem dL_why_13 : decode cL_why 13 = .ok (.iconst 1, 1) := by decide +kernel
theorem dL_why_14 : decode cL_why 14 = .ok (.ireturn, 1) := by decide +kernel
theorem dL_why_15 : decode cL_why 15 = .ok (.iconst 0, 1) := by decide +kernel
theorem dL_why_16 : decode cL_why 16 = .ok (.ireturn, 1) := by decide +kernel
theorem dL_law_0 : decode cL_law 0 = .ok (.new 8, 3) := by decide +kernel
theorem dL_law_3 : decode cL_law 3 = .ok (.dup, 1) := by decide +kernel
theorem dL_law_4 : decode cL_law 4 = .ok (.invokespecial 133, 3) := by decide +kernel
theorem dL_law_7 : decode cL_law 7 = .ok (.astore_n 1, 1) := by decide +kernel
theorem dL_law_8 : decode cL_law 8 = .ok (.new 134, 3) := by decide +kernel
theorem dL_law_11 : decode cL_law 11 = .ok (.dup, 1) := by decide +kernel
theorem dL_law_12 : decode cL_law 12 = .ok (.invokespecial 136, 3) := by decide +kernel
theorem dL_law_15 : decode cL_law 15 = .ok (.astore_n 2, 1) := by decide +kernel
theorem dL_law_16 : decode cL_law 16 = .ok (.iconst 1, 1) := by decide +kernel
theorem dL_law_17 : decode cL_law 17 = .ok (.newarray .long, 2) := by decide +kernel
theorem dL_law_19 : decode cL_law 19 = .ok (.astore_n 3, 1) := by decide +kernel
theorem dL_law_20 : decode cL_law 20 = .ok (.iconst 0, 1) := by decide +kernel
theorem dL_law_21 : decode cL_law 21 = .ok (.istore 4, 2) := by decide +kernel
theorem dL_law_23 : decode cL_law 23 = .ok (.iload 4, 2) := by decide +kernel
theorem dL_law_25 : decode cL_law 25 = .ok (.aload_n 0, 1) := by decide +kernel
theorem dL_law_26 : decode cL_law 26 = .ok (.arraylength, 1) := by decide +kernel
theorem dL_law_27 : decode cL_law 27 = .ok (.iconst 5, 1) := by decide +kernel
theorem dL_law_28 : decode cL_law 28 = .ok (.isub, 1) := by decide +kernel
theorem dL_law_29 : decode cL_law 29 = .ok (.if_icmp .gt 2571, 3) := by decide +kernel
theorem dL_law_32 : decode cL_law 32 = .ok (.aload_n 0, 1) := by decide +kernel
theorem dL_law_33 : decode cL_law 33 = .ok (.iload 4, 2) := by decide +kernel
theorem dL_law_35 : decode cL_law 35 = .ok (.iaload, 1) := by decide +kernel
theorem dL_law_36 : decode cL_law 36 = .ok (.bipush 63, 2) := by decide +kernel
theorem dL_law_38 : decode cL_law 38 = .ok (.iand, 1) := by decide +kernel
theorem dL_law_39 : decode cL_law 39 = .ok (.tableswitch 2555 0 42 #[185, 241, 297, 372, 464, 532, 588, 644, 700, 775, 831, 899, 912, 968, 1024, 1087, 1150, 1218, 1262, 1342, 1398, 1454, 1534, 1602, 1670, 1738, 1751, 1807, 1820, 1876, 1889, 1945, 2001, 2057, 2113, 2169, 2237, 2250, 2306, 2374, 2387, 2443, 2499], 185) := by decide +kernel
theorem dL_law_224 : decode cL_law 224 = .ok (.aload_n 1, 1) := by decide +kernel
theorem dL_law_225 : decode cL_law 225 = .ok (.aload_n 0, 1) := by decide +kernel
theorem dL_law_226 : decode cL_law 226 = .ok (.iload 4, 2) := by decide +kernel
theorem dL_law_228 : decode cL_law 228 = .ok (.iconst 1, 1) := by decide +kernel
theorem dL_law_229 : decode cL_law 229 = .ok (.iadd, 1) := by decide +kernel
theorem dL_law_230 : decode cL_law 230 = .ok (.iaload, 1) := by decide +kernel
theorem dL_law_231 : decode cL_law 231 = .ok (.aload_n 3, 1) := by decide +kernel
theorem dL_law_232 : decode cL_law 232 = .ok (.invokestatic 137, 3) := by decide +kernel
theorem dL_law_235 : decode cL_law 235 = .ok (.istore 5, 2) := by decide +kernel
theorem dL_law_237 : decode cL_law 237 = .ok (.aload_n 2, 1) := by decide +kernel
theorem dL_law_238 : decode cL_law 238 = .ok (.aload_n 0, 1) := by decide +kernel
theorem dL_law_239 : decode cL_law 239 = .ok (.iload 4, 2) := by decide +kernel
theorem dL_law_241 : decode cL_law 241 = .ok (.iconst 1, 1) := by decide +kernel
theorem dL_law_242 : decode cL_law 242 = .ok (.iadd, 1) := by decide +kernel
theorem dL_law_243 : decode cL_law 243 = .ok (.iaload, 1) := by decide +kernel
theorem dL_law_244 : decode cL_law 244 = .ok (.invokevirtual 142, 3) := by decide +kernel
theorem dL_law_247 : decode cL_law 247 = .ok (.istore 6, 2) := by decide +kernel
theorem dL_law_249 : decode cL_law 249 = .ok (.aload_n 2, 1) := by decide +kernel
theorem dL_law_250 : decode cL_law 250 = .ok (.invokevirtual 143, 3) := by decide +kernel
theorem dL_law_253 : decode cL_law 253 = .ok (.iload 5, 2) := by decide +kernel
theorem dL_law_255 : decode cL_law 255 = .ok (.if_icmp .eq 5, 3) := by decide +kernel
theorem dL_law_258 : decode cL_law 258 = .ok (.iconst 0, 1) := by decide +kernel
theorem dL_law_259 : decode cL_law 259 = .ok (.ireturn, 1) := by decide +kernel
theorem dL_law_260 : decode cL_law 260 = .ok (.iload 5, 2) := by decide +kernel
theorem dL_law_262 : decode cL_law 262 = .ok (.ifCond .ne 15, 3) := by decide +kernel
theorem dL_law_265 : decode cL_law 265 = .ok (.aload_n 3, 1) := by decide +kernel
theorem dL_law_266 : decode cL_law 266 = .ok (.iconst 0, 1) := by decide +kernel
theorem dL_law_267 : decode cL_law 267 = .ok (.laload, 1) := by decide +kernel
theorem dL_law_268 : decode cL_law 268 = .ok (.iload 6, 2) := by decide +kernel
theorem dL_law_270 : decode cL_law 270 = .ok (.i2l, 1) := by decide +kernel
theorem dL_law_271 : decode cL_law 271 = .ok (.lcmp, 1) := by decide +kernel
theorem dL_law_272 : decode cL_law 272 = .ok (.ifCond .eq 5, 3) := by decide +kernel
theorem dL_law_275 : decode cL_law 275 = .ok (.iconst 0, 1) := by decide +kernel
theorem dL_law_276 : decode cL_law 276 = .ok (.ireturn, 1) := by decide +kernel
theorem dL_law_277 : decode cL_law 277 = .ok (.goto 2317, 3) := by decide +kernel
theorem dL_law_280 : decode cL_law 280 = .ok (.aload_n 1, 1) := by decide +kernel
theorem dL_law_281 : decode cL_law 281 = .ok (.aload_n 0, 1) := by decide +kernel
theorem dL_law_282 : decode cL_law 282 = .ok (.iload 4, 2) := by decide +kernel
theorem dL_law_284 : decode cL_law 284 = .ok (.iconst 1, 1) := by decide +kernel
theorem dL_law_285 : decode cL_law 285 = .ok (.iadd, 1) := by decide +kernel
theorem dL_law_286 : decode cL_law 286 = .ok (.iaload, 1) := by decide +kernel
theorem dL_law_287 : decode cL_law 287 = .ok (.aload_n 3, 1) := by decide +kernel
theorem dL_law_288 : decode cL_law 288 = .ok (.invokestatic 146, 3) := by decide +kernel
theorem dL_law_291 : decode cL_law 291 = .ok (.istore 5, 2) := by decide +kernel
theorem dL_law_293 : decode cL_law 293 = .ok (.aload_n 2, 1) := by decide +kernel
theorem dL_law_294 : decode cL_law 294 = .ok (.aload_n 0, 1) := by decide +kernel
theorem dL_law_295 : decode cL_law 295 = .ok (.iload 4, 2) := by decide +kernel
theorem dL_law_297 : decode cL_law 297 = .ok (.iconst 1, 1) := by decide +kernel
theorem dL_law_298 : decode cL_law 298 = .ok (.iadd, 1) := by decide +kernel
theorem dL_law_299 : decode cL_law 299 = .ok (.iaload, 1) := by decide +kernel
theorem dL_law_300 : decode cL_law 300 = .ok (.invokevirtual 148, 3) := by decide +kernel
theorem dL_law_303 : decode cL_law 303 = .ok (.istore 6, 2) := by decide +kernel
theorem dL_law_305 : decode cL_law 305 = .ok (.aload_n 2, 1) := by decide +kernel
theorem dL_law_306 : decode cL_law 306 = .ok (.invokevirtual 143, 3) := by decide +kernel
theorem dL_law_309 : decode cL_law 309 = .ok (.iload 5, 2) := by decide +kernel
theorem dL_law_311 : decode cL_law 311 = .ok (.if_icmp .eq 5, 3) := by decide +kernel
theorem dL_law_314 : decode cL_law 314 = .ok (.iconst 0, 1) := by decide +kernel
theorem dL_law_315 : decode cL_law 315 = .ok (.ireturn, 1) := by decide +kernel
theorem dL_law_316 : decode cL_law 316 = .ok (.iload 5, 2) := by decide +kernel
theorem dL_law_318 : decode cL_law 318 = .ok (.ifCond .ne 15, 3) := by decide +kernel
theorem dL_law_321 : decode cL_law 321 = .ok (.aload_n 3, 1) := by decide +kernel
theorem dL_law_322 : decode cL_law 322 = .ok (.iconst 0, 1) := by decide +kernel
theorem dL_law_323 : decode cL_law 323 = .ok (.laload, 1) := by decide +kernel
theorem dL_law_324 : decode cL_law 324 = .ok (.iload 6, 2) := by decide +kernel
theorem dL_law_326 : decode cL_law 326 = .ok (.i2l, 1) := by decide +kernel
theorem dL_law_327 : decode cL_law 327 = .ok (.lcmp, 1) := by decide +kernel
theorem dL_law_328 : decode cL_law 328 = .ok (.ifCond .eq 5, 3) := by decide +kernel
theorem dL_law_331 : decode cL_law 331 = .ok (.iconst 0, 1) := by decide +kernel
theorem dL_law_332 : decode cL_law 332 = .ok (.ireturn, 1) := by decide +kernel
theorem dL_law_333 : decode cL_law 333 = .ok (.goto 2261, 3) := by decide +kernel
theorem dL_law_336 : decode cL_law 336 = .ok (.aload_n 1, 1) := by decide +kernel
theorem dL_law_337 : decode cL_law 337 = .ok (.aload_n 0, 1) := by decide +kernel
theorem dL_law_338 : decode cL_law 338 = .ok (.iload 4, 2) := by decide +kernel
theorem dL_law_340 : decode cL_law 340 = .ok (.iconst 1, 1) := by decide +kernel
theorem dL_law_341 : decode cL_law 341 = .ok (.iadd, 1) := by decide +kernel
theorem dL_law_342 : decode cL_law 342 = .ok (.iaload, 1) := by decide +kernel
theorem dL_law_343 : decode cL_law 343 = .ok (.aload_n 0, 1) := by decide +kernel
theorem dL_law_344 : decode cL_law 344 = .ok (.iload 4, 2) := by decide +kernel
theorem dL_law_346 : decode cL_law 346 = .ok (.iconst 2, 1) := by decide +kernel
theorem dL_law_347 : decode cL_law 347 = .ok (.iadd, 1) := by decide +kernel
theorem dL_law_348 : decode cL_law 348 = .ok (.iaload, 1) := by decide +kernel
theorem dL_law_349 : decode cL_law 349 = .ok (.aload_n 3, 1) := by decide +kernel
theorem dL_law_350 : decode cL_law 350 = .ok (.invokestatic 149, 3) := by decide +kernel
theorem dL_law_353 : decode cL_law 353 = .ok (.istore 5, 2) := by decide +kernel
theorem dL_law_355 : decode cL_law 355 = .ok (.aload_n 2, 1) := by decide +kernel
theorem dL_law_356 : decode cL_law 356 = .ok (.aload_n 0, 1) := by decide +kernel
theorem dL_law_357 : decode cL_law 357 = .ok (.iload 4, 2) := by decide +kernel
theorem dL_law_359 : decode cL_law 359 = .ok (.iconst 1, 1) := by decide +kernel
theorem dL_law_360 : decode cL_law 360 = .ok (.iadd, 1) := by decide +kernel
theorem dL_law_361 : decode cL_law 361 = .ok (.iaload, 1) := by decide +kernel
theorem dL_law_362 : decode cL_law 362 = .ok (.aload_n 0, 1) := by decide +kernel
theorem dL_law_363 : decode cL_law 363 = .ok (.iload 4, 2) := by decide +kernel
theorem dL_law_365 : decode cL_law 365 = .ok (.iconst 2, 1) := by decide +kernel
theorem dL_law_366 : decode cL_law 366 = .ok (.iadd, 1) := by decide +kernel
theorem dL_law_367 : decode cL_law 367 = .ok (.iaload, 1) := by decide +kernel
theorem dL_law_368 : decode cL_law 368 = .ok (.invokevirtual 152, 3) := by decide +kernel
theorem dL_law_371 : decode cL_law 371 = .ok (.istore 6, 2) := by decide +kernel
theorem dL_law_373 : decode cL_law 373 = .ok (.aload_n 2, 1) := by decide +kernel
theorem dL_law_374 : decode cL_law 374 = .ok (.invokevirtual 143, 3) := by decide +kernel
theorem dL_law_377 : decode cL_law 377 = .ok (.iload 5, 2) := by decide +kernel
theorem dL_law_379 : decode cL_law 379 = .ok (.if_icmp .eq 5, 3) := by decide +kernel
theorem dL_law_382 : decode cL_law 382 = .ok (.iconst 0, 1) := by decide +kernel
theorem dL_law_383 : decode cL_law 383 = .ok (.ireturn, 1) := by decide +kernel
theorem dL_law_384 : decode cL_law 384 = .ok (.iload 5, 2) := by decide +kernel
theorem dL_law_386 : decode cL_law 386 = .ok (.ifCond .ne 22, 3) := by decide +kernel
theorem dL_law_389 : decode cL_law 389 = .ok (.aload_n 3, 1) := by decide +kernel
theorem dL_law_390 : decode cL_law 390 = .ok (.iconst 0, 1) := by decide +kernel
theorem dL_law_391 : decode cL_law 391 = .ok (.laload, 1) := by decide +kernel
theorem dL_law_392 : decode cL_law 392 = .ok (.iload 6, 2) := by decide +kernel
theorem dL_law_394 : decode cL_law 394 = .ok (.ifCond .eq 7, 3) := by decide +kernel
theorem dL_law_397 : decode cL_law 397 = .ok (.lconst 1, 1) := by decide +kernel
theorem dL_law_398 : decode cL_law 398 = .ok (.goto 4, 3) := by decide +kernel
theorem dL_law_401 : decode cL_law 401 = .ok (.lconst 0, 1) := by decide +kernel
theorem dL_law_402 : decode cL_law 402 = .ok (.lcmp, 1) := by decide +kernel
theorem dL_law_403 : decode cL_law 403 = .ok (.ifCond .eq 5, 3) := by decide +kernel
theorem dL_law_406 : decode cL_law 406 = .ok (.iconst 0, 1) := by decide +kernel
theorem dL_law_407 : decode cL_law 407 = .ok (.ireturn, 1) := by decide +kernel
theorem dL_law_408 : decode cL_law 408 = .ok (.goto 2186, 3) := by decide +kernel
theorem dL_law_411 : decode cL_law 411 = .ok (.aload_n 1, 1) := by decide +kernel
theorem dL_law_412 : decode cL_law 412 = .ok (.aload_n 0, 1) := by decide +kernel
theorem dL_law_413 : decode cL_law 413 = .ok (.iload 4, 2) := by decide +kernel
theorem dL_law_415 : decode cL_law 415 = .ok (.iconst 1, 1) := by decide +kernel
theorem dL_law_416 : decode cL_law 416 = .ok (.iadd, 1) := by decide +kernel
theorem dL_law_417 : decode cL_law 417 = .ok (.iaload, 1) := by decide +kernel
theorem dL_law_418 : decode cL_law 418 = .ok (.aload_n 0, 1) := by decide +kernel
theorem dL_law_419 : decode cL_law 419 = .ok (.iload 4, 2) := by decide +kernel
theorem dL_law_421 : decode cL_law 421 = .ok (.iconst 2, 1) := by decide +kernel
theorem dL_law_422 : decode cL_law 422 = .ok (.iadd, 1) := by decide +kernel
theorem dL_law_423 : decode cL_law 423 = .ok (.iaload, 1) := by decide +kernel
theorem dL_law_424 : decode cL_law 424 = .ok (.aload_n 0, 1) := by decide +kernel
theorem dL_law_425 : decode cL_law 425 = .ok (.iload 4, 2) := by decide +kernel
theorem dL_law_427 : decode cL_law 427 = .ok (.iconst 3, 1) := by decide +kernel
theorem dL_law_428 : decode cL_law 428 = .ok (.iadd, 1) := by decide +kernel
theorem dL_law_429 : decode cL_law 429 = .ok (.iaload, 1) := by decide +kernel
theorem dL_law_430 : decode cL_law 430 = .ok (.aload_n 0, 1) := by decide +kernel
theorem dL_law_431 : decode cL_law 431 = .ok (.iload 4, 2) := by decide +kernel
theorem dL_law_433 : decode cL_law 433 = .ok (.iconst 4, 1) := by decide +kernel
theorem dL_law_434 : decode cL_law 434 = .ok (.iadd, 1) := by decide +kernel
theorem dL_law_435 : decode cL_law 435 = .ok (.iaload, 1) := by decide +kernel
theorem dL_law_436 : decode cL_law 436 = .ok (.aload_n 3, 1) := by decide +kernel
theorem dL_law_437 : decode cL_law 437 = .ok (.invokestatic 153, 3) := by decide +kernel
theorem dL_law_440 : decode cL_law 440 = .ok (.istore 5, 2) := by decide +kernel
theorem dL_law_442 : decode cL_law 442 = .ok (.aload_n 2, 1) := by decide +kernel
theorem dL_law_443 : decode cL_law 443 = .ok (.aload_n 0, 1) := by decide +kernel
theorem dL_law_444 : decode cL_law 444 = .ok (.iload 4, 2) := by decide +kernel
theorem dL_law_446 : decode cL_law 446 = .ok (.iconst 1, 1) := by decide +kernel
theorem dL_law_447 : decode cL_law 447 = .ok (.iadd, 1) := by decide +kernel
theorem dL_law_448 : decode cL_law 448 = .ok (.iaload, 1) := by decide +kernel
theorem dL_law_449 : decode cL_law 449 = .ok (.aload_n 0, 1) := by decide +kernel
theorem dL_law_450 : decode cL_law 450 = .ok (.iload 4, 2) := by decide +kernel
theorem dL_law_452 : decode cL_law 452 = .ok (.iconst 2, 1) := by decide +kernel
theorem dL_law_453 : decode cL_law 453 = .ok (.iadd, 1) := by decide +kernel
theorem dL_law_454 : decode cL_law 454 = .ok (.iaload, 1) := by decide +kernel
theorem dL_law_455 : decode cL_law 455 = .ok (.aload_n 0, 1) := by decide +kernel
theorem dL_law_456 : decode cL_law 456 = .ok (.iload 4, 2) := by decide +kernel
theorem dL_law_458 : decode cL_law 458 = .ok (.iconst 3, 1) := by decide +kernel
theorem dL_law_459 : decode cL_law 459 = .ok (.iadd, 1) := by decide +kernel
theorem dL_law_460 : decode cL_law 460 = .ok (.iaload, 1) := by decide +kernel
theorem dL_law_461 : decode cL_law 461 = .ok (.aload_n 0, 1) := by decide +kernel
theorem dL_law_462 : decode cL_law 462 = .ok (.iload 4, 2) := by decide +kernel
theorem dL_law_464 : decode cL_law 464 = .ok (.iconst 4, 1) := by decide +kernel
theorem dL_law_465 : decode cL_law 465 = .ok (.iadd, 1) := by decide +kernel
theorem dL_law_466 : decode cL_law 466 = .ok (.iaload, 1) := by decide +kernel
theorem dL_law_467 : decode cL_law 467 = .ok (.invokevirtual 156, 3) := by decide +kernel
theorem dL_law_470 : decode cL_law 470 = .ok (.istore 6, 2) := by decide +kernel
theorem dL_law_472 : decode cL_law 472 = .ok (.aload_n 2, 1) := by decide +kernel
theorem dL_law_473 : decode cL_law 473 = .ok (.invokevirtual 143, 3) := by decide +kernel
theorem dL_law_476 : decode cL_law 476 = .ok (.iload 5, 2) := by decide +kernel
theorem dL_law_478 : decode cL_law 478 = .ok (.if_icmp .eq 5, 3) := by decide +kernel
theorem dL_law_481 : decode cL_law 481 = .ok (.iconst 0, 1) := by decide +kernel
theorem dL_law_482 : decode cL_law 482 = .ok (.ireturn, 1) := by decide +kernel
theorem dL_law_483 : decode cL_law 483 = .ok (.iload 5, 2) := by decide +kernel
theorem dL_law_485 : decode cL_law 485 = .ok (.ifCond .ne 15, 3) := by decide +kernel
theorem dL_law_488 : decode cL_law 488 = .ok (.aload_n 3, 1) := by decide +kernel
theorem dL_law_489 : decode cL_law 489 = .ok (.iconst 0, 1) := by decide +kernel
theorem dL_law_490 : decode cL_law 490 = .ok (.laload, 1) := by decide +kernel
theorem dL_law_491 : decode cL_law 491 = .ok (.iload 6, 2) := by decide +kernel
theorem dL_law_493 : decode cL_law 493 = .ok (.i2l, 1) := by decide +kernel
theorem dL_law_494 : decode cL_law 494 = .ok (.lcmp, 1) := by decide +kernel
theorem dL_law_495 : decode cL_law 495 = .ok (.ifCond .eq 5, 3) := by decide +kernel
theorem dL_law_498 : decode cL_law 498 = .ok (.iconst 0, 1) := by decide +kernel
theorem dL_law_499 : decode cL_law 499 = .ok (.ireturn, 1) := by decide +kernel
theorem dL_law_500 : decode cL_law 500 = .ok (.goto 2094, 3) := by decide +kernel
theorem dL_law_503 : decode cL_law 503 = .ok (.aload_n 1, 1) := by decide +kernel
theorem dL_law_504 : decode cL_law 504 = .ok (.aload_n 0, 1) := by decide +kernel
theorem dL_law_505 : decode cL_law 505 = .ok (.iload 4, 2) := by decide +kernel
theorem dL_law_507 : decode cL_law 507 = .ok (.iconst 1, 1) := by decide +kernel
theorem dL_law_508 : decode cL_law 508 = .ok (.iadd, 1) := by decide +kernel
theorem dL_law_509 : decode cL_law 509 = .ok (.iaload, 1) := by decide +kernel
theorem dL_law_510 : decode cL_law 510 = .ok (.aload_n 0, 1) := by decide +kernel
theorem dL_law_511 : decode cL_law 511 = .ok (.iload 4, 2) := by decide +kernel
theorem dL_law_513 : decode cL_law 513 = .ok (.iconst 2, 1) := by decide +kernel
theorem dL_law_514 : decode cL_law 514 = .ok (.iadd, 1) := by decide +kernel
theorem dL_law_515 : decode cL_law 515 = .ok (.iaload, 1) := by decide +kernel
theorem dL_law_516 : decode cL_law 516 = .ok (.aload_n 3, 1) := by decide +kernel
theorem dL_law_517 : decode cL_law 517 = .ok (.invokestatic 157, 3) := by decide +kernel
theorem dL_law_520 : decode cL_law 520 = .ok (.istore 5, 2) := by decide +kernel
theorem dL_law_522 : decode cL_law 522 = .ok (.aload_n 2, 1) := by decide +kernel
theorem dL_law_523 : decode cL_law 523 = .ok (.aload_n 0, 1) := by decide +kernel
theorem dL_law_524 : decode cL_law 524 = .ok (.iload 4, 2) := by decide +kernel
theorem dL_law_526 : decode cL_law 526 = .ok (.iconst 1, 1) := by decide +kernel
theorem dL_law_527 : decode cL_law 527 = .ok (.iadd, 1) := by decide +kernel
theorem dL_law_528 : decode cL_law 528 = .ok (.iaload, 1) := by decide +kernel
theorem dL_law_529 : decode cL_law 529 = .ok (.aload_n 0, 1) := by decide +kernel
theorem dL_law_530 : decode cL_law 530 = .ok (.iload 4, 2) := by decide +kernel
theorem dL_law_532 : decode cL_law 532 = .ok (.iconst 2, 1) := by decide +kernel
theorem dL_law_533 : decode cL_law 533 = .ok (.iadd, 1) := by decide +kernel
theorem dL_law_534 : decode cL_law 534 = .ok (.iaload, 1) := by decide +kernel
theorem dL_law_535 : decode cL_law 535 = .ok (.invokevirtual 159, 3) := by decide +kernel
theorem dL_law_538 : decode cL_law 538 = .ok (.istore 6, 2) := by decide +kernel
theorem dL_law_540 : decode cL_law 540 = .ok (.aload_n 2, 1) := by decide +kernel
theorem dL_law_541 : decode cL_law 541 = .ok (.invokevirtual 143, 3) := by decide +kernel
theorem dL_law_544 : decode cL_law 544 = .ok (.iload 5, 2) := by decide +kernel
theorem dL_law_546 : decode cL_law 546 = .ok (.if_icmp .eq 5, 3) := by decide +kernel
theorem dL_law_549 : decode cL_law 549 = .ok (.iconst 0, 1) := by decide +kernel
theorem dL_law_550 : decode cL_law 550 = .ok (.ireturn, 1) := by decide +kernel
theorem dL_law_551 : decode cL_law 551 = .ok (.iload 5, 2) := by decide +kernel
theorem dL_law_553 : decode cL_law 553 = .ok (.ifCond .ne 15, 3) := by decide +kernel
theorem dL_law_556 : decode cL_law 556 = .ok (.aload_n 3, 1) := by decide +kernel
theorem dL_law_557 : decode cL_law 557 = .ok (.iconst 0, 1) := by decide +kernel
theorem dL_law_558 : decode cL_law 558 = .ok (.laload, 1) := by decide +kernel
theorem dL_law_559 : decode cL_law 559 = .ok (.iload 6, 2) := by decide +kernel
theorem dL_law_561 : decode cL_law 561 = .ok (.i2l, 1) := by decide +kernel
theorem dL_law_562 : decode cL_law 562 = .ok (.lcmp, 1) := by decide +kernel
theorem dL_law_563 : decode cL_law 563 = .ok (.ifCond .eq 5, 3) := by decide +kernel
theorem dL_law_566 : decode cL_law 566 = .ok (.iconst 0, 1) := by decide +kernel
theorem dL_law_567 : decode cL_law 567 = .ok (.ireturn, 1) := by decide +kernel
theorem dL_law_568 : decode cL_law 568 = .ok (.goto 2026, 3) := by decide +kernel
theorem dL_law_571 : decode cL_law 571 = .ok (.aload_n 1, 1) := by decide +kernel
theorem dL_law_572 : decode cL_law 572 = .ok (.aload_n 0, 1) := by decide +kernel
theorem dL_law_573 : decode cL_law 573 = .ok (.iload 4, 2) := by decide +kernel
theorem dL_law_575 : decode cL_law 575 = .ok (.iconst 1, 1) := by decide +kernel
theorem dL_law_576 : decode cL_law 576 = .ok (.iadd, 1) := by decide +kernel
theorem dL_law_577 : decode cL_law 577 = .ok (.iaload, 1) := by decide +kernel
theorem dL_law_578 : decode cL_law 578 = .ok (.aload_n 3, 1) := by decide +kernel
theorem dL_law_579 : decode cL_law 579 = .ok (.invokestatic 160, 3) := by decide +kernel
theorem dL_law_582 : decode cL_law 582 = .ok (.istore 5, 2) := by decide +kernel
theorem dL_law_584 : decode cL_law 584 = .ok (.aload_n 2, 1) := by decide +kernel
theorem dL_law_585 : decode cL_law 585 = .ok (.aload_n 0, 1) := by decide +kernel
theorem dL_law_586 : decode cL_law 586 = .ok (.iload 4, 2) := by decide +kernel
theorem dL_law_588 : decode cL_law 588 = .ok (.iconst 1, 1) := by decide +kernel
theorem dL_law_589 : decode cL_law 589 = .ok (.iadd, 1) := by decide +kernel
theorem dL_law_590 : decode cL_law 590 = .ok (.iaload, 1) := by decide +kernel
theorem dL_law_591 : decode cL_law 591 = .ok (.invokevirtual 162, 3) := by decide +kernel
theorem dL_law_594 : decode cL_law 594 = .ok (.istore 6, 2) := by decide +kernel
theorem dL_law_596 : decode cL_law 596 = .ok (.aload_n 2, 1) := by decide +kernel
theorem dL_law_597 : decode cL_law 597 = .ok (.invokevirtual 143, 3) := by decide +kernel
theorem dL_law_600 : decode cL_law 600 = .ok (.iload 5, 2) := by decide +kernel
theorem dL_law_602 : decode cL_law 602 = .ok (.if_icmp .eq 5, 3) := by decide +kernel
theorem dL_law_605 : decode cL_law 605 = .ok (.iconst 0, 1) := by decide +kernel
theorem dL_law_606 : decode cL_law 606 = .ok (.ireturn, 1) := by decide +kernel
theorem dL_law_607 : decode cL_law 607 = .ok (.iload 5, 2) := by decide +kernel
theorem dL_law_609 : decode cL_law 609 = .ok (.ifCond .ne 15, 3) := by decide +kernel
theorem dL_law_612 : decode cL_law 612 = .ok (.aload_n 3, 1) := by decide +kernel
theorem dL_law_613 : decode cL_law 613 = .ok (.iconst 0, 1) := by decide +kernel
theorem dL_law_614 : decode cL_law 614 = .ok (.laload, 1) := by decide +kernel
theorem dL_law_615 : decode cL_law 615 = .ok (.iload 6, 2) := by decide +kernel
theorem dL_law_617 : decode cL_law 617 = .ok (.i2l, 1) := by decide +kernel
theorem dL_law_618 : decode cL_law 618 = .ok (.lcmp, 1) := by decide +kernel
theorem dL_law_619 : decode cL_law 619 = .ok (.ifCond .eq 5, 3) := by decide +kernel
theorem dL_law_622 : decode cL_law 622 = .ok (.iconst 0, 1) := by decide +kernel
theorem dL_law_623 : decode cL_law 623 = .ok (.ireturn, 1) := by decide +kernel
theorem dL_law_624 : decode cL_law 624 = .ok (.goto 1970, 3) := by decide +kernel
theorem dL_law_627 : decode cL_law 627 = .ok (.aload_n 1, 1) := by decide +kernel
theorem dL_law_628 : decode cL_law 628 = .ok (.aload_n 0, 1) := by decide +kernel
theorem dL_law_629 : decode cL_law 629 = .ok (.iload 4, 2) := by decide +kernel
theorem dL_law_631 : decode cL_law 631 = .ok (.iconst 1, 1) := by decide +kernel
theorem dL_law_632 : decode cL_law 632 = .ok (.iadd, 1) := by decide +kernel
theorem dL_law_633 : decode cL_law 633 = .ok (.iaload, 1) := by decide +kernel
theorem dL_law_634 : decode cL_law 634 = .ok (.aload_n 3, 1) := by decide +kernel
theorem dL_law_635 : decode cL_law 635 = .ok (.invokestatic 163, 3) := by decide +kernel
theorem dL_law_638 : decode cL_law 638 = .ok (.istore 5, 2) := by decide +kernel
theorem dL_law_640 : decode cL_law 640 = .ok (.aload_n 2, 1) := by decide +kernel
theorem dL_law_641 : decode cL_law 641 = .ok (.aload_n 0, 1) := by decide +kernel
theorem dL_law_642 : decode cL_law 642 = .ok (.iload 4, 2) := by decide +kernel
theorem dL_law_644 : decode cL_law 644 = .ok (.iconst 1, 1) := by decide +kernel
theorem dL_law_645 : decode cL_law 645 = .ok (.iadd, 1) := by decide +kernel
theorem dL_law_646 : decode cL_law 646 = .ok (.iaload, 1) := by decide +kernel
theorem dL_law_647 : decode cL_law 647 = .ok (.invokevirtual 165, 3) := by decide +kernel
theorem dL_law_650 : decode cL_law 650 = .ok (.istore 6, 2) := by decide +kernel
theorem dL_law_652 : decode cL_law 652 = .ok (.aload_n 2, 1) := by decide +kernel
theorem dL_law_653 : decode cL_law 653 = .ok (.invokevirtual 143, 3) := by decide +kernel
theorem dL_law_656 : decode cL_law 656 = .ok (.iload 5, 2) := by decide +kernel
theorem dL_law_658 : decode cL_law 658 = .ok (.if_icmp .eq 5, 3) := by decide +kernel
theorem dL_law_661 : decode cL_law 661 = .ok (.iconst 0, 1) := by decide +kernel
theorem dL_law_662 : decode cL_law 662 = .ok (.ireturn, 1) := by decide +kernel
theorem dL_law_663 : decode cL_law 663 = .ok (.iload 5, 2) := by decide +kernel
theorem dL_law_665 : decode cL_law 665 = .ok (.ifCond .ne 15, 3) := by decide +kernel
theorem dL_law_668 : decode cL_law 668 = .ok (.aload_n 3, 1) := by decide +kernel
theorem dL_law_669 : decode cL_law 669 = .ok (.iconst 0, 1) := by decide +kernel
theorem dL_law_670 : decode cL_law 670 = .ok (.laload, 1) := by decide +kernel
theorem dL_law_671 : decode cL_law 671 = .ok (.iload 6, 2) := by decide +kernel
theorem dL_law_673 : decode cL_law 673 = .ok (.i2l, 1) := by decide +kernel
theorem dL_law_674 : decode cL_law 674 = .ok (.lcmp, 1) := by decide +kernel
theorem dL_law_675 : decode cL_law 675 = .ok (.ifCond .eq 5, 3) := by decide +kernel
theorem dL_law_678 : decode cL_law 678 = .ok (.iconst 0, 1) := by decide +kernel
theorem dL_law_679 : decode cL_law 679 = .ok (.ireturn, 1) := by decide +kernel
theorem dL_law_680 : decode cL_law 680 = .ok (.goto 1914, 3) := by decide +kernel
theorem dL_law_683 : decode cL_law 683 = .ok (.aload_n 1, 1) := by decide +kernel
theorem dL_law_684 : decode cL_law 684 = .ok (.aload_n 0, 1) := by decide +kernel
theorem dL_law_685 : decode cL_law 685 = .ok (.iload 4, 2) := by decide +kernel
theorem dL_law_687 : decode cL_law 687 = .ok (.iconst 1, 1) := by decide +kernel
theorem dL_law_688 : decode cL_law 688 = .ok (.iadd, 1) := by decide +kernel
theorem dL_law_689 : decode cL_law 689 = .ok (.iaload, 1) := by decide +kernel
theorem dL_law_690 : decode cL_law 690 = .ok (.aload_n 3, 1) := by decide +kernel
theorem dL_law_691 : decode cL_law 691 = .ok (.invokestatic 166, 3) := by decide +kernel
theorem dL_law_694 : decode cL_law 694 = .ok (.istore 5, 2) := by decide +kernel
theorem dL_law_696 : decode cL_law 696 = .ok (.aload_n 2, 1) := by decide +kernel
theorem dL_law_697 : decode cL_law 697 = .ok (.aload_n 0, 1) := by decide +kernel
theorem dL_law_698 : decode cL_law 698 = .ok (.iload 4, 2) := by decide +kernel
theorem dL_law_700 : decode cL_law 700 = .ok (.iconst 1, 1) := by decide +kernel
theorem dL_law_701 : decode cL_law 701 = .ok (.iadd, 1) := by decide +kernel
theorem dL_law_702 : decode cL_law 702 = .ok (.iaload, 1) := by decide +kernel
theorem dL_law_703 : decode cL_law 703 = .ok (.invokevirtual 168, 3) := by decide +kernel
theorem dL_law_706 : decode cL_law 706 = .ok (.istore 6, 2) := by decide +kernel
theorem dL_law_708 : decode cL_law 708 = .ok (.aload_n 2, 1) := by decide +kernel
theorem dL_law_709 : decode cL_law 709 = .ok (.invokevirtual 143, 3) := by decide +kernel
theorem dL_law_712 : decode cL_law 712 = .ok (.iload 5, 2) := by decide +kernel
theorem dL_law_714 : decode cL_law 714 = .ok (.if_icmp .eq 5, 3) := by decide +kernel
theorem dL_law_717 : decode cL_law 717 = .ok (.iconst 0, 1) := by decide +kernel
theorem dL_law_718 : decode cL_law 718 = .ok (.ireturn, 1) := by decide +kernel
theorem dL_law_719 : decode cL_law 719 = .ok (.iload 5, 2) := by decide +kernel
theorem dL_law_721 : decode cL_law 721 = .ok (.ifCond .ne 15, 3) := by decide +kernel
theorem dL_law_724 : decode cL_law 724 = .ok (.aload_n 3, 1) := by decide +kernel
theorem dL_law_725 : decode cL_law 725 = .ok (.iconst 0, 1) := by decide +kernel
theorem dL_law_726 : decode cL_law 726 = .ok (.laload, 1) := by decide +kernel
theorem dL_law_727 : decode cL_law 727 = .ok (.iload 6, 2) := by decide +kernel
theorem dL_law_729 : decode cL_law 729 = .ok (.i2l, 1) := by decide +kernel
theorem dL_law_730 : decode cL_law 730 = .ok (.lcmp, 1) := by decide +kernel
theorem dL_law_731 : decode cL_law 731 = .ok (.ifCond .eq 5, 3) := by decide +kernel
theorem dL_law_734 : decode cL_law 734 = .ok (.iconst 0, 1) := by decide +kernel
theorem dL_law_735 : decode cL_law 735 = .ok (.ireturn, 1) := by decide +kernel
theorem dL_law_736 : decode cL_law 736 = .ok (.goto 1858, 3) := by decide +kernel
theorem dL_law_739 : decode cL_law 739 = .ok (.aload_n 1, 1) := by decide +kernel
theorem dL_law_740 : decode cL_law 740 = .ok (.aload_n 0, 1) := by decide +kernel
theorem dL_law_741 : decode cL_law 741 = .ok (.iload 4, 2) := by decide +kernel
theorem dL_law_743 : decode cL_law 743 = .ok (.iconst 1, 1) := by decide +kernel
theorem dL_law_744 : decode cL_law 744 = .ok (.iadd, 1) := by decide +kernel
theorem dL_law_745 : decode cL_law 745 = .ok (.iaload, 1) := by decide +kernel
theorem dL_law_746 : decode cL_law 746 = .ok (.aload_n 0, 1) := by decide +kernel
theorem dL_law_747 : decode cL_law 747 = .ok (.iload 4, 2) := by decide +kernel
theorem dL_law_749 : decode cL_law 749 = .ok (.iconst 2, 1) := by decide +kernel
theorem dL_law_750 : decode cL_law 750 = .ok (.iadd, 1) := by decide +kernel
theorem dL_law_751 : decode cL_law 751 = .ok (.iaload, 1) := by decide +kernel
theorem dL_law_752 : decode cL_law 752 = .ok (.aload_n 3, 1) := by decide +kernel
theorem dL_law_753 : decode cL_law 753 = .ok (.invokestatic 169, 3) := by decide +kernel
theorem dL_law_756 : decode cL_law 756 = .ok (.istore 5, 2) := by decide +kernel
theorem dL_law_758 : decode cL_law 758 = .ok (.aload_n 2, 1) := by decide +kernel
theorem dL_law_759 : decode cL_law 759 = .ok (.aload_n 0, 1) := by decide +kernel
theorem dL_law_760 : decode cL_law 760 = .ok (.iload 4, 2) := by decide +kernel
theorem dL_law_762 : decode cL_law 762 = .ok (.iconst 1, 1) := by decide +kernel
theorem dL_law_763 : decode cL_law 763 = .ok (.iadd, 1) := by decide +kernel
theorem dL_law_764 : decode cL_law 764 = .ok (.iaload, 1) := by decide +kernel
theorem dL_law_765 : decode cL_law 765 = .ok (.aload_n 0, 1) := by decide +kernel
theorem dL_law_766 : decode cL_law 766 = .ok (.iload 4, 2) := by decide +kernel
theorem dL_law_768 : decode cL_law 768 = .ok (.iconst 2, 1) := by decide +kernel
theorem dL_law_769 : decode cL_law 769 = .ok (.iadd, 1) := by decide +kernel
theorem dL_law_770 : decode cL_law 770 = .ok (.iaload, 1) := by decide +kernel
theorem dL_law_771 : decode cL_law 771 = .ok (.invokevirtual 171, 3) := by decide +kernel
theorem dL_law_774 : decode cL_law 774 = .ok (.istore 6, 2) := by decide +kernel
theorem dL_law_776 : decode cL_law 776 = .ok (.aload_n 2, 1) := by decide +kernel
theorem dL_law_777 : decode cL_law 777 = .ok (.invokevirtual 143, 3) := by decide +kernel
theorem dL_law_780 : decode cL_law 780 = .ok (.iload 5, 2) := by decide +kernel
theorem dL_law_782 : decode cL_law 782 = .ok (.if_icmp .eq 5, 3) := by decide +kernel
theorem dL_law_785 : decode cL_law 785 = .ok (.iconst 0, 1) := by decide +kernel
theorem dL_law_786 : decode cL_law 786 = .ok (.ireturn, 1) := by decide +kernel
theorem dL_law_787 : decode cL_law 787 = .ok (.iload 5, 2) := by decide +kernel
theorem dL_law_789 : decode cL_law 789 = .ok (.ifCond .ne 22, 3) := by decide +kernel
theorem dL_law_792 : decode cL_law 792 = .ok (.aload_n 3, 1) := by decide +kernel
theorem dL_law_793 : decode cL_law 793 = .ok (.iconst 0, 1) := by decide +kernel
theorem dL_law_794 : decode cL_law 794 = .ok (.laload, 1) := by decide +kernel
theorem dL_law_795 : decode cL_law 795 = .ok (.iload 6, 2) := by decide +kernel
theorem dL_law_797 : decode cL_law 797 = .ok (.ifCond .eq 7, 3) := by decide +kernel
theorem dL_law_800 : decode cL_law 800 = .ok (.lconst 1, 1) := by decide +kernel
theorem dL_law_801 : decode cL_law 801 = .ok (.goto 4, 3) := by decide +kernel
theorem dL_law_804 : decode cL_law 804 = .ok (.lconst 0, 1) := by decide +kernel
theorem dL_law_805 : decode cL_law 805 = .ok (.lcmp, 1) := by decide +kernel
theorem dL_law_806 : decode cL_law 806 = .ok (.ifCond .eq 5, 3) := by decide +kernel
theorem dL_law_809 : decode cL_law 809 = .ok (.iconst 0, 1) := by decide +kernel
theorem dL_law_810 : decode cL_law 810 = .ok (.ireturn, 1) := by decide +kernel
theorem dL_law_811 : decode cL_law 811 = .ok (.goto 1783, 3) := by decide +kernel
theorem dL_law_814 : decode cL_law 814 = .ok (.aload_n 1, 1) := by decide +kernel
theorem dL_law_815 : decode cL_law 815 = .ok (.aload_n 0, 1) := by decide +kernel
theorem dL_law_816 : decode cL_law 816 = .ok (.iload 4, 2) := by decide +kernel
theorem dL_law_818 : decode cL_law 818 = .ok (.iconst 1, 1) := by decide +kernel
theorem dL_law_819 : decode cL_law 819 = .ok (.iadd, 1) := by decide +kernel
theorem dL_law_820 : decode cL_law 820 = .ok (.iaload, 1) := by decide +kernel
theorem dL_law_821 : decode cL_law 821 = .ok (.aload_n 3, 1) := by decide +kernel
theorem dL_law_822 : decode cL_law 822 = .ok (.invokestatic 172, 3) := by decide +kernel
theorem dL_law_825 : decode cL_law 825 = .ok (.istore 5, 2) := by decide +kernel
theorem dL_law_827 : decode cL_law 827 = .ok (.aload_n 2, 1) := by decide +kernel
theorem dL_law_828 : decode cL_law 828 = .ok (.aload_n 0, 1) := by decide +kernel
theorem dL_law_829 : decode cL_law 829 = .ok (.iload 4, 2) := by decide +kernel
theorem dL_law_831 : decode cL_law 831 = .ok (.iconst 1, 1) := by decide +kernel
theorem dL_law_832 : decode cL_law 832 = .ok (.iadd, 1) := by decide +kernel
theorem dL_law_833 : decode cL_law 833 = .ok (.iaload, 1) := by decide +kernel
theorem dL_law_834 : decode cL_law 834 = .ok (.invokevirtual 174, 3) := by decide +kernel
theorem dL_law_837 : decode cL_law 837 = .ok (.istore 6, 2) := by decide +kernel
theorem dL_law_839 : decode cL_law 839 = .ok (.aload_n 2, 1) := by decide +kernel
theorem dL_law_840 : decode cL_law 840 = .ok (.invokevirtual 143, 3) := by decide +kernel
theorem dL_law_843 : decode cL_law 843 = .ok (.iload 5, 2) := by decide +kernel
theorem dL_law_845 : decode cL_law 845 = .ok (.if_icmp .eq 5, 3) := by decide +kernel
theorem dL_law_848 : decode cL_law 848 = .ok (.iconst 0, 1) := by decide +kernel
theorem dL_law_849 : decode cL_law 849 = .ok (.ireturn, 1) := by decide +kernel
theorem dL_law_850 : decode cL_law 850 = .ok (.iload 5, 2) := by decide +kernel
theorem dL_law_852 : decode cL_law 852 = .ok (.ifCond .ne 15, 3) := by decide +kernel
theorem dL_law_855 : decode cL_law 855 = .ok (.aload_n 3, 1) := by decide +kernel
theorem dL_law_856 : decode cL_law 856 = .ok (.iconst 0, 1) := by decide +kernel
theorem dL_law_857 : decode cL_law 857 = .ok (.laload, 1) := by decide +kernel
theorem dL_law_858 : decode cL_law 858 = .ok (.iload 6, 2) := by decide +kernel
theorem dL_law_860 : decode cL_law 860 = .ok (.i2l, 1) := by decide +kernel
theorem dL_law_861 : decode cL_law 861 = .ok (.lcmp, 1) := by decide +kernel
theorem dL_law_862 : decode cL_law 862 = .ok (.ifCond .eq 5, 3) := by decide +kernel
theorem dL_law_865 : decode cL_law 865 = .ok (.iconst 0, 1) := by decide +kernel
theorem dL_law_866 : decode cL_law 866 = .ok (.ireturn, 1) := by decide +kernel
theorem dL_law_867 : decode cL_law 867 = .ok (.goto 1727, 3) := by decide +kernel
theorem dL_law_870 : decode cL_law 870 = .ok (.aload_n 1, 1) := by decide +kernel
theorem dL_law_871 : decode cL_law 871 = .ok (.aload_n 0, 1) := by decide +kernel
theorem dL_law_872 : decode cL_law 872 = .ok (.iload 4, 2) := by decide +kernel
theorem dL_law_874 : decode cL_law 874 = .ok (.iconst 1, 1) := by decide +kernel
theorem dL_law_875 : decode cL_law 875 = .ok (.iadd, 1) := by decide +kernel
theorem dL_law_876 : decode cL_law 876 = .ok (.iaload, 1) := by decide +kernel
theorem dL_law_877 : decode cL_law 877 = .ok (.aload_n 0, 1) := by decide +kernel
theorem dL_law_878 : decode cL_law 878 = .ok (.iload 4, 2) := by decide +kernel
theorem dL_law_880 : decode cL_law 880 = .ok (.iconst 2, 1) := by decide +kernel
theorem dL_law_881 : decode cL_law 881 = .ok (.iadd, 1) := by decide +kernel
theorem dL_law_882 : decode cL_law 882 = .ok (.iaload, 1) := by decide +kernel
theorem dL_law_883 : decode cL_law 883 = .ok (.aload_n 3, 1) := by decide +kernel
theorem dL_law_884 : decode cL_law 884 = .ok (.invokestatic 175, 3) := by decide +kernel
theorem dL_law_887 : decode cL_law 887 = .ok (.istore 5, 2) := by decide +kernel
theorem dL_law_889 : decode cL_law 889 = .ok (.aload_n 2, 1) := by decide +kernel
theorem dL_law_890 : decode cL_law 890 = .ok (.aload_n 0, 1) := by decide +kernel
theorem dL_law_891 : decode cL_law 891 = .ok (.iload 4, 2) := by decide +kernel
theorem dL_law_893 : decode cL_law 893 = .ok (.iconst 1, 1) := by decide +kernel
theorem dL_law_894 : decode cL_law 894 = .ok (.iadd, 1) := by decide +kernel
theorem dL_law_895 : decode cL_law 895 = .ok (.iaload, 1) := by decide +kernel
theorem dL_law_896 : decode cL_law 896 = .ok (.aload_n 0, 1) := by decide +kernel
theorem dL_law_897 : decode cL_law 897 = .ok (.iload 4, 2) := by decide +kernel
theorem dL_law_899 : decode cL_law 899 = .ok (.iconst 2, 1) := by decide +kernel
theorem dL_law_900 : decode cL_law 900 = .ok (.iadd, 1) := by decide +kernel
theorem dL_law_901 : decode cL_law 901 = .ok (.iaload, 1) := by decide +kernel
theorem dL_law_902 : decode cL_law 902 = .ok (.invokevirtual 177, 3) := by decide +kernel
theorem dL_law_905 : decode cL_law 905 = .ok (.istore 6, 2) := by decide +kernel
theorem dL_law_907 : decode cL_law 907 = .ok (.aload_n 2, 1) := by decide +kernel
theorem dL_law_908 : decode cL_law 908 = .ok (.invokevirtual 143, 3) := by decide +kernel
theorem dL_law_911 : decode cL_law 911 = .ok (.iload 5, 2) := by decide +kernel
theorem dL_law_913 : decode cL_law 913 = .ok (.if_icmp .eq 5, 3) := by decide +kernel
theorem dL_law_916 : decode cL_law 916 = .ok (.iconst 0, 1) := by decide +kernel
theorem dL_law_917 : decode cL_law 917 = .ok (.ireturn, 1) := by decide +kernel
theorem dL_law_918 : decode cL_law 918 = .ok (.iload 5, 2) := by decide +kernel
theorem dL_law_920 : decode cL_law 920 = .ok (.ifCond .ne 15, 3) := by decide +kernel
theorem dL_law_923 : decode cL_law 923 = .ok (.aload_n 3, 1) := by decide +kernel
theorem dL_law_924 : decode cL_law 924 = .ok (.iconst 0, 1) := by decide +kernel
theorem dL_law_925 : decode cL_law 925 = .ok (.laload, 1) := by decide +kernel
theorem dL_law_926 : decode cL_law 926 = .ok (.iload 6, 2) := by decide +kernel
theorem dL_law_928 : decode cL_law 928 = .ok (.i2l, 1) := by decide +kernel
theorem dL_law_929 : decode cL_law 929 = .ok (.lcmp, 1) := by decide +kernel
theorem dL_law_930 : decode cL_law 930 = .ok (.ifCond .eq 5, 3) := by decide +kernel
theorem dL_law_933 : decode cL_law 933 = .ok (.iconst 0, 1) := by decide +kernel
end
section
theorem dL_law_934 : decode cL_law 934 = .ok (.ireturn, 1) := by decide +kernel
theorem dL_law_935 : decode cL_law 935 = .ok (.goto 1659, 3) := by decide +kernel
theorem dL_law_938 : decode cL_law 938 = .ok (.aload_n 1, 1) := by decide +kernel
theorem dL_law_939 : decode cL_law 939 = .ok (.invokevirtual 178, 3) := by decide +kernel
theorem dL_law_942 : decode cL_law 942 = .ok (.aload_n 2, 1) := by decide +kernel
theorem dL_law_943 : decode cL_law 943 = .ok (.invokevirtual 181, 3) := by decide +kernel
theorem dL_law_946 : decode cL_law 946 = .ok (.if_icmp .eq 1648, 3) := by decide +kernel
theorem dL_law_949 : decode cL_law 949 = .ok (.iconst 0, 1) := by decide +kernel
theorem dL_law_950 : decode cL_law 950 = .ok (.ireturn, 1) := by decide +kernel
theorem dL_law_951 : decode cL_law 951 = .ok (.aload_n 1, 1) := by decide +kernel
theorem dL_law_952 : decode cL_law 952 = .ok (.aload_n 0, 1) := by decide +kernel
theorem dL_law_953 : decode cL_law 953 = .ok (.iload 4, 2) := by decide +kernel
theorem dL_law_955 : decode cL_law 955 = .ok (.iconst 1, 1) := by decide +kernel
theorem dL_law_956 : decode cL_law 956 = .ok (.iadd, 1) := by decide +kernel
theorem dL_law_957 : decode cL_law 957 = .ok (.iaload, 1) := by decide +kernel
theorem dL_law_958 : decode cL_law 958 = .ok (.aload_n 3, 1) := by decide +kernel
theorem dL_law_959 : decode cL_law 959 = .ok (.invokestatic 182, 3) := by decide +kernel
theorem dL_law_962 : decode cL_law 962 = .ok (.istore 5, 2) := by decide +kernel
theorem dL_law_964 : decode cL_law 964 = .ok (.aload_n 2, 1) := by decide +kernel
theorem dL_law_965 : decode cL_law 965 = .ok (.aload_n 0, 1) := by decide +kernel
theorem dL_law_966 : decode cL_law 966 = .ok (.iload 4, 2) := by decide +kernel
theorem dL_law_968 : decode cL_law 968 = .ok (.iconst 1, 1) := by decide +kernel
theorem dL_law_969 : decode cL_law 969 = .ok (.iadd, 1) := by decide +kernel
theorem dL_law_970 : decode cL_law 970 = .ok (.iaload, 1) := by decide +kernel
theorem dL_law_971 : decode cL_law 971 = .ok (.invokevirtual 184, 3) := by decide +kernel
theorem dL_law_974 : decode cL_law 974 = .ok (.istore 6, 2) := by decide +kernel
theorem dL_law_976 : decode cL_law 976 = .ok (.aload_n 2, 1) := by decide +kernel
theorem dL_law_977 : decode cL_law 977 = .ok (.invokevirtual 143, 3) := by decide +kernel
theorem dL_law_980 : decode cL_law 980 = .ok (.iload 5, 2) := by decide +kernel
theorem dL_law_982 : decode cL_law 982 = .ok (.if_icmp .eq 5, 3) := by decide +kernel
theorem dL_law_985 : decode cL_law 985 = .ok (.iconst 0, 1) := by decide +kernel
theorem dL_law_986 : decode cL_law 986 = .ok (.ireturn, 1) := by decide +kernel
theorem dL_law_987 : decode cL_law 987 = .ok (.iload 5, 2) := by decide +kernel
theorem dL_law_989 : decode cL_law 989 = .ok (.ifCond .ne 15, 3) := by decide +kernel
theorem dL_law_992 : decode cL_law 992 = .ok (.aload_n 3, 1) := by decide +kernel
theorem dL_law_993 : decode cL_law 993 = .ok (.iconst 0, 1) := by decide +kernel
theorem dL_law_994 : decode cL_law 994 = .ok (.laload, 1) := by decide +kernel
theorem dL_law_995 : decode cL_law 995 = .ok (.iload 6, 2) := by decide +kernel
theorem dL_law_997 : decode cL_law 997 = .ok (.i2l, 1) := by decide +kernel
theorem dL_law_998 : decode cL_law 998 = .ok (.lcmp, 1) := by decide +kernel
theorem dL_law_999 : decode cL_law 999 = .ok (.ifCond .eq 5, 3) := by decide +kernel
theorem dL_law_1002 : decode cL_law 1002 = .ok (.iconst 0, 1) := by decide +kernel
theorem dL_law_1003 : decode cL_law 1003 = .ok (.ireturn, 1) := by decide +kernel
theorem dL_law_1004 : decode cL_law 1004 = .ok (.goto 1590, 3) := by decide +kernel
theorem dL_law_1007 : decode cL_law 1007 = .ok (.aload_n 1, 1) := by decide +kernel
theorem dL_law_1008 : decode cL_law 1008 = .ok (.aload_n 0, 1) := by decide +kernel
theorem dL_law_1009 : decode cL_law 1009 = .ok (.iload 4, 2) := by decide +kernel
theorem dL_law_1011 : decode cL_law 1011 = .ok (.iconst 1, 1) := by decide +kernel
theorem dL_law_1012 : decode cL_law 1012 = .ok (.iadd, 1) := by decide +kernel
theorem dL_law_1013 : decode cL_law 1013 = .ok (.iaload, 1) := by decide +kernel
theorem dL_law_1014 : decode cL_law 1014 = .ok (.aload_n 3, 1) := by decide +kernel
theorem dL_law_1015 : decode cL_law 1015 = .ok (.invokestatic 185, 3) := by decide +kernel
theorem dL_law_1018 : decode cL_law 1018 = .ok (.istore 5, 2) := by decide +kernel
theorem dL_law_1020 : decode cL_law 1020 = .ok (.aload_n 2, 1) := by decide +kernel
theorem dL_law_1021 : decode cL_law 1021 = .ok (.aload_n 0, 1) := by decide +kernel
theorem dL_law_1022 : decode cL_law 1022 = .ok (.iload 4, 2) := by decide +kernel
theorem dL_law_1024 : decode cL_law 1024 = .ok (.iconst 1, 1) := by decide +kernel
theorem dL_law_1025 : decode cL_law 1025 = .ok (.iadd, 1) := by decide +kernel
theorem dL_law_1026 : decode cL_law 1026 = .ok (.iaload, 1) := by decide +kernel
theorem dL_law_1027 : decode cL_law 1027 = .ok (.invokevirtual 187, 3) := by decide +kernel
theorem dL_law_1030 : decode cL_law 1030 = .ok (.istore 6, 2) := by decide +kernel
theorem dL_law_1032 : decode cL_law 1032 = .ok (.aload_n 2, 1) := by decide +kernel
theorem dL_law_1033 : decode cL_law 1033 = .ok (.invokevirtual 143, 3) := by decide +kernel
theorem dL_law_1036 : decode cL_law 1036 = .ok (.iload 5, 2) := by decide +kernel
theorem dL_law_1038 : decode cL_law 1038 = .ok (.if_icmp .eq 5, 3) := by decide +kernel
theorem dL_law_1041 : decode cL_law 1041 = .ok (.iconst 0, 1) := by decide +kernel
theorem dL_law_1042 : decode cL_law 1042 = .ok (.ireturn, 1) := by decide +kernel
theorem dL_law_1043 : decode cL_law 1043 = .ok (.iload 5, 2) := by decide +kernel
theorem dL_law_1045 : decode cL_law 1045 = .ok (.ifCond .ne 15, 3) := by decide +kernel
theorem dL_law_1048 : decode cL_law 1048 = .ok (.aload_n 3, 1) := by decide +kernel
theorem dL_law_1049 : decode cL_law 1049 = .ok (.iconst 0, 1) := by decide +kernel
theorem dL_law_1050 : decode cL_law 1050 = .ok (.laload, 1) := by decide +kernel
theorem dL_law_1051 : decode cL_law 1051 = .ok (.iload 6, 2) := by decide +kernel
theorem dL_law_1053 : decode cL_law 1053 = .ok (.i2l, 1) := by decide +kernel
theorem dL_law_1054 : decode cL_law 1054 = .ok (.lcmp, 1) := by decide +kernel
theorem dL_law_1055 : decode cL_law 1055 = .ok (.ifCond .eq 5, 3) := by decide +kernel
theorem dL_law_1058 : decode cL_law 1058 = .ok (.iconst 0, 1) := by decide +kernel
theorem dL_law_1059 : decode cL_law 1059 = .ok (.ireturn, 1) := by decide +kernel
theorem dL_law_1060 : decode cL_law 1060 = .ok (.goto 1534, 3) := by decide +kernel
theorem dL_law_1063 : decode cL_law 1063 = .ok (.aload_n 1, 1) := by decide +kernel
theorem dL_law_1064 : decode cL_law 1064 = .ok (.aload_n 0, 1) := by decide +kernel
theorem dL_law_1065 : decode cL_law 1065 = .ok (.iload 4, 2) := by decide +kernel
theorem dL_law_1067 : decode cL_law 1067 = .ok (.iconst 1, 1) := by decide +kernel
theorem dL_law_1068 : decode cL_law 1068 = .ok (.iadd, 1) := by decide +kernel
theorem dL_law_1069 : decode cL_law 1069 = .ok (.iaload, 1) := by decide +kernel
theorem dL_law_1070 : decode cL_law 1070 = .ok (.aload_n 3, 1) := by decide +kernel
theorem dL_law_1071 : decode cL_law 1071 = .ok (.invokestatic 188, 3) := by decide +kernel
theorem dL_law_1074 : decode cL_law 1074 = .ok (.istore 5, 2) := by decide +kernel
theorem dL_law_1076 : decode cL_law 1076 = .ok (.aload_n 2, 1) := by decide +kernel
theorem dL_law_1077 : decode cL_law 1077 = .ok (.aload_n 0, 1) := by decide +kernel
theorem dL_law_1078 : decode cL_law 1078 = .ok (.iload 4, 2) := by decide +kernel
theorem dL_law_1080 : decode cL_law 1080 = .ok (.iconst 1, 1) := by decide +kernel
theorem dL_law_1081 : decode cL_law 1081 = .ok (.iadd, 1) := by decide +kernel
theorem dL_law_1082 : decode cL_law 1082 = .ok (.iaload, 1) := by decide +kernel
theorem dL_law_1083 : decode cL_law 1083 = .ok (.invokevirtual 190, 3) := by decide +kernel
theorem dL_law_1086 : decode cL_law 1086 = .ok (.istore 6, 2) := by decide +kernel
theorem dL_law_1088 : decode cL_law 1088 = .ok (.aload_n 2, 1) := by decide +kernel
theorem dL_law_1089 : decode cL_law 1089 = .ok (.invokevirtual 143, 3) := by decide +kernel
theorem dL_law_1092 : decode cL_law 1092 = .ok (.iload 5, 2) := by decide +kernel
theorem dL_law_1094 : decode cL_law 1094 = .ok (.if_icmp .eq 5, 3) := by decide +kernel
theorem dL_law_1097 : decode cL_law 1097 = .ok (.iconst 0, 1) := by decide +kernel
theorem dL_law_1098 : decode cL_law 1098 = .ok (.ireturn, 1) := by decide +kernel
theorem dL_law_1099 : decode cL_law 1099 = .ok (.iload 5, 2) := by decide +kernel
theorem dL_law_1101 : decode cL_law 1101 = .ok (.ifCond .ne 22, 3) := by decide +kernel
theorem dL_law_1104 : decode cL_law 1104 = .ok (.aload_n 3, 1) := by decide +kernel
theorem dL_law_1105 : decode cL_law 1105 = .ok (.iconst 0, 1) := by decide +kernel
theorem dL_law_1106 : decode cL_law 1106 = .ok (.laload, 1) := by decide +kernel
theorem dL_law_1107 : decode cL_law 1107 = .ok (.iload 6, 2) := by decide +kernel
theorem dL_law_1109 : decode cL_law 1109 = .ok (.ifCond .eq 7, 3) := by decide +kernel
theorem dL_law_1112 : decode cL_law 1112 = .ok (.lconst 1, 1) := by decide +kernel
theorem dL_law_1113 : decode cL_law 1113 = .ok (.goto 4, 3) := by decide +kernel
theorem dL_law_1116 : decode cL_law 1116 = .ok (.lconst 0, 1) := by decide +kernel
theorem dL_law_1117 : decode cL_law 1117 = .ok (.lcmp, 1) := by decide +kernel
theorem dL_law_1118 : decode cL_law 1118 = .ok (.ifCond .eq 5, 3) := by decide +kernel
theorem dL_law_1121 : decode cL_law 1121 = .ok (.iconst 0, 1) := by decide +kernel
theorem dL_law_1122 : decode cL_law 1122 = .ok (.ireturn, 1) := by decide +kernel
theorem dL_law_1123 : decode cL_law 1123 = .ok (.goto 1471, 3) := by decide +kernel
theorem dL_law_1126 : decode cL_law 1126 = .ok (.aload_n 1, 1) := by decide +kernel
theorem dL_law_1127 : decode cL_law 1127 = .ok (.aload_n 0, 1) := by decide +kernel
theorem dL_law_1128 : decode cL_law 1128 = .ok (.iload 4, 2) := by decide +kernel
theorem dL_law_1130 : decode cL_law 1130 = .ok (.iconst 1, 1) := by decide +kernel
theorem dL_law_1131 : decode cL_law 1131 = .ok (.iadd, 1) := by decide +kernel
theorem dL_law_1132 : decode cL_law 1132 = .ok (.iaload, 1) := by decide +kernel
theorem dL_law_1133 : decode cL_law 1133 = .ok (.aload_n 3, 1) := by decide +kernel
theorem dL_law_1134 : decode cL_law 1134 = .ok (.invokestatic 191, 3) := by decide +kernel
theorem dL_law_1137 : decode cL_law 1137 = .ok (.istore 5, 2) := by decide +kernel
theorem dL_law_1139 : decode cL_law 1139 = .ok (.aload_n 2, 1) := by decide +kernel
theorem dL_law_1140 : decode cL_law 1140 = .ok (.aload_n 0, 1) := by decide +kernel
theorem dL_law_1141 : decode cL_law 1141 = .ok (.iload 4, 2) := by decide +kernel
theorem dL_law_1143 : decode cL_law 1143 = .ok (.iconst 1, 1) := by decide +kernel
theorem dL_law_1144 : decode cL_law 1144 = .ok (.iadd, 1) := by decide +kernel
theorem dL_law_1145 : decode cL_law 1145 = .ok (.iaload, 1) := by decide +kernel
theorem dL_law_1146 : decode cL_law 1146 = .ok (.invokevirtual 193, 3) := by decide +kernel
theorem dL_law_1149 : decode cL_law 1149 = .ok (.istore 6, 2) := by decide +kernel
theorem dL_law_1151 : decode cL_law 1151 = .ok (.aload_n 2, 1) := by decide +kernel
theorem dL_law_1152 : decode cL_law 1152 = .ok (.invokevirtual 143, 3) := by decide +kernel
theorem dL_law_1155 : decode cL_law 1155 = .ok (.iload 5, 2) := by decide +kernel
theorem dL_law_1157 : decode cL_law 1157 = .ok (.if_icmp .eq 5, 3) := by decide +kernel
theorem dL_law_1160 : decode cL_law 1160 = .ok (.iconst 0, 1) := by decide +kernel
theorem dL_law_1161 : decode cL_law 1161 = .ok (.ireturn, 1) := by decide +kernel
theorem dL_law_1162 : decode cL_law 1162 = .ok (.iload 5, 2) := by decide +kernel
theorem dL_law_1164 : decode cL_law 1164 = .ok (.ifCond .ne 22, 3) := by decide +kernel
theorem dL_law_1167 : decode cL_law 1167 = .ok (.aload_n 3, 1) := by decide +kernel
theorem dL_law_1168 : decode cL_law 1168 = .ok (.iconst 0, 1) := by decide +kernel
theorem dL_law_1169 : decode cL_law 1169 = .ok (.laload, 1) := by decide +kernel
theorem dL_law_1170 : decode cL_law 1170 = .ok (.iload 6, 2) := by decide +kernel
theorem dL_law_1172 : decode cL_law 1172 = .ok (.ifCond .eq 7, 3) := by decide +kernel
theorem dL_law_1175 : decode cL_law 1175 = .ok (.lconst 1, 1) := by decide +kernel
theorem dL_law_1176 : decode cL_law 1176 = .ok (.goto 4, 3) := by decide +kernel
theorem dL_law_1179 : decode cL_law 1179 = .ok (.lconst 0, 1) := by decide +kernel
theorem dL_law_1180 : decode cL_law 1180 = .ok (.lcmp, 1) := by decide +kernel
theorem dL_law_1181 : decode cL_law 1181 = .ok (.ifCond .eq 5, 3) := by decide +kernel
theorem dL_law_1184 : decode cL_law 1184 = .ok (.iconst 0, 1) := by decide +kernel
theorem dL_law_1185 : decode cL_law 1185 = .ok (.ireturn, 1) := by decide +kernel
theorem dL_law_1186 : decode cL_law 1186 = .ok (.goto 1408, 3) := by decide +kernel
theorem dL_law_1189 : decode cL_law 1189 = .ok (.aload_n 1, 1) := by decide +kernel
theorem dL_law_1190 : decode cL_law 1190 = .ok (.aload_n 0, 1) := by decide +kernel
theorem dL_law_1191 : decode cL_law 1191 = .ok (.iload 4, 2) := by decide +kernel
theorem dL_law_1193 : decode cL_law 1193 = .ok (.iconst 1, 1) := by decide +kernel
theorem dL_law_1194 : decode cL_law 1194 = .ok (.iadd, 1) := by decide +kernel
theorem dL_law_1195 : decode cL_law 1195 = .ok (.iaload, 1) := by decide +kernel
theorem dL_law_1196 : decode cL_law 1196 = .ok (.aload_n 0, 1) := by decide +kernel
theorem dL_law_1197 : decode cL_law 1197 = .ok (.iload 4, 2) := by decide +kernel
theorem dL_law_1199 : decode cL_law 1199 = .ok (.iconst 2, 1) := by decide +kernel
theorem dL_law_1200 : decode cL_law 1200 = .ok (.iadd, 1) := by decide +kernel
theorem dL_law_1201 : decode cL_law 1201 = .ok (.iaload, 1) := by decide +kernel
theorem dL_law_1202 : decode cL_law 1202 = .ok (.aload_n 3, 1) := by decide +kernel
theorem dL_law_1203 : decode cL_law 1203 = .ok (.invokestatic 194, 3) := by decide +kernel
theorem dL_law_1206 : decode cL_law 1206 = .ok (.istore 5, 2) := by decide +kernel
theorem dL_law_1208 : decode cL_law 1208 = .ok (.aload_n 2, 1) := by decide +kernel
theorem dL_law_1209 : decode cL_law 1209 = .ok (.aload_n 0, 1) := by decide +kernel
theorem dL_law_1210 : decode cL_law 1210 = .ok (.iload 4, 2) := by decide +kernel
theorem dL_law_1212 : decode cL_law 1212 = .ok (.iconst 1, 1) := by decide +kernel
theorem dL_law_1213 : decode cL_law 1213 = .ok (.iadd, 1) := by decide +kernel
theorem dL_law_1214 : decode cL_law 1214 = .ok (.iaload, 1) := by decide +kernel
theorem dL_law_1215 : decode cL_law 1215 = .ok (.aload_n 0, 1) := by decide +kernel
theorem dL_law_1216 : decode cL_law 1216 = .ok (.iload 4, 2) := by decide +kernel
theorem dL_law_1218 : decode cL_law 1218 = .ok (.iconst 2, 1) := by decide +kernel
theorem dL_law_1219 : decode cL_law 1219 = .ok (.iadd, 1) := by decide +kernel
theorem dL_law_1220 : decode cL_law 1220 = .ok (.iaload, 1) := by decide +kernel
theorem dL_law_1221 : decode cL_law 1221 = .ok (.invokevirtual 196, 3) := by decide +kernel
theorem dL_law_1224 : decode cL_law 1224 = .ok (.istore 6, 2) := by decide +kernel
theorem dL_law_1226 : decode cL_law 1226 = .ok (.aload_n 2, 1) := by decide +kernel
theorem dL_law_1227 : decode cL_law 1227 = .ok (.invokevirtual 143, 3) := by decide +kernel
theorem dL_law_1230 : decode cL_law 1230 = .ok (.iload 5, 2) := by decide +kernel
theorem dL_law_1232 : decode cL_law 1232 = .ok (.if_icmp .eq 5, 3) := by decide +kernel
theorem dL_law_1235 : decode cL_law 1235 = .ok (.iconst 0, 1) := by decide +kernel
theorem dL_law_1236 : decode cL_law 1236 = .ok (.ireturn, 1) := by decide +kernel
theorem dL_law_1237 : decode cL_law 1237 = .ok (.iload 5, 2) := by decide +kernel
theorem dL_law_1239 : decode cL_law 1239 = .ok (.ifCond .ne 15, 3) := by decide +kernel
theorem dL_law_1242 : decode cL_law 1242 = .ok (.aload_n 3, 1) := by decide +kernel
theorem dL_law_1243 : decode cL_law 1243 = .ok (.iconst 0, 1) := by decide +kernel
theorem dL_law_1244 : decode cL_law 1244 = .ok (.laload, 1) := by decide +kernel
theorem dL_law_1245 : decode cL_law 1245 = .ok (.iload 6, 2) := by decide +kernel
theorem dL_law_1247 : decode cL_law 1247 = .ok (.i2l, 1) := by decide +kernel
theorem dL_law_1248 : decode cL_law 1248 = .ok (.lcmp, 1) := by decide +kernel
theorem dL_law_1249 : decode cL_law 1249 = .ok (.ifCond .eq 5, 3) := by decide +kernel
theorem dL_law_1252 : decode cL_law 1252 = .ok (.iconst 0, 1) := by decide +kernel
theorem dL_law_1253 : decode cL_law 1253 = .ok (.ireturn, 1) := by decide +kernel
theorem dL_law_1254 : decode cL_law 1254 = .ok (.goto 1340, 3) := by decide +kernel
theorem dL_law_1257 : decode cL_law 1257 = .ok (.aload_n 1, 1) := by decide +kernel
theorem dL_law_1258 : decode cL_law 1258 = .ok (.aload_n 3, 1) := by decide +kernel
theorem dL_law_1259 : decode cL_law 1259 = .ok (.invokestatic 197, 3) := by decide +kernel
theorem dL_law_1262 : decode cL_law 1262 = .ok (.istore 5, 2) := by decide +kernel
theorem dL_law_1264 : decode cL_law 1264 = .ok (.aload_n 2, 1) := by decide +kernel
theorem dL_law_1265 : decode cL_law 1265 = .ok (.invokevirtual 200, 3) := by decide +kernel
theorem dL_law_1268 : decode cL_law 1268 = .ok (.istore 6, 2) := by decide +kernel
theorem dL_law_1270 : decode cL_law 1270 = .ok (.aload_n 2, 1) := by decide +kernel
theorem dL_law_1271 : decode cL_law 1271 = .ok (.invokevirtual 143, 3) := by decide +kernel
theorem dL_law_1274 : decode cL_law 1274 = .ok (.iload 5, 2) := by decide +kernel
theorem dL_law_1276 : decode cL_law 1276 = .ok (.if_icmp .eq 5, 3) := by decide +kernel
theorem dL_law_1279 : decode cL_law 1279 = .ok (.iconst 0, 1) := by decide +kernel
theorem dL_law_1280 : decode cL_law 1280 = .ok (.ireturn, 1) := by decide +kernel
theorem dL_law_1281 : decode cL_law 1281 = .ok (.iload 5, 2) := by decide +kernel
theorem dL_law_1283 : decode cL_law 1283 = .ok (.ifCond .ne 15, 3) := by decide +kernel
theorem dL_law_1286 : decode cL_law 1286 = .ok (.aload_n 3, 1) := by decide +kernel
theorem dL_law_1287 : decode cL_law 1287 = .ok (.iconst 0, 1) := by decide +kernel
theorem dL_law_1288 : decode cL_law 1288 = .ok (.laload, 1) := by decide +kernel
theorem dL_law_1289 : decode cL_law 1289 = .ok (.iload 6, 2) := by decide +kernel
theorem dL_law_1291 : decode cL_law 1291 = .ok (.i2l, 1) := by decide +kernel
theorem dL_law_1292 : decode cL_law 1292 = .ok (.lcmp, 1) := by decide +kernel
theorem dL_law_1293 : decode cL_law 1293 = .ok (.ifCond .eq 5, 3) := by decide +kernel
theorem dL_law_1296 : decode cL_law 1296 = .ok (.iconst 0, 1) := by decide +kernel
theorem dL_law_1297 : decode cL_law 1297 = .ok (.ireturn, 1) := by decide +kernel
theorem dL_law_1298 : decode cL_law 1298 = .ok (.goto 1296, 3) := by decide +kernel
theorem dL_law_1301 : decode cL_law 1301 = .ok (.aload_n 1, 1) := by decide +kernel
theorem dL_law_1302 : decode cL_law 1302 = .ok (.aload_n 0, 1) := by decide +kernel
theorem dL_law_1303 : decode cL_law 1303 = .ok (.iload 4, 2) := by decide +kernel
theorem dL_law_1305 : decode cL_law 1305 = .ok (.iconst 1, 1) := by decide +kernel
theorem dL_law_1306 : decode cL_law 1306 = .ok (.iadd, 1) := by decide +kernel
theorem dL_law_1307 : decode cL_law 1307 = .ok (.iaload, 1) := by decide +kernel
theorem dL_law_1308 : decode cL_law 1308 = .ok (.aload_n 0, 1) := by decide +kernel
theorem dL_law_1309 : decode cL_law 1309 = .ok (.iload 4, 2) := by decide +kernel
theorem dL_law_1311 : decode cL_law 1311 = .ok (.iconst 2, 1) := by decide +kernel
theorem dL_law_1312 : decode cL_law 1312 = .ok (.iadd, 1) := by decide +kernel
theorem dL_law_1313 : decode cL_law 1313 = .ok (.iaload, 1) := by decide +kernel
theorem dL_law_1314 : decode cL_law 1314 = .ok (.aload_n 0, 1) := by decide +kernel
theorem dL_law_1315 : decode cL_law 1315 = .ok (.iload 4, 2) := by decide +kernel
theorem dL_law_1317 : decode cL_law 1317 = .ok (.iconst 3, 1) := by decide +kernel
theorem dL_law_1318 : decode cL_law 1318 = .ok (.iadd, 1) := by decide +kernel
theorem dL_law_1319 : decode cL_law 1319 = .ok (.iaload, 1) := by decide +kernel
theorem dL_law_1320 : decode cL_law 1320 = .ok (.aload_n 3, 1) := by decide +kernel
theorem dL_law_1321 : decode cL_law 1321 = .ok (.invokestatic 201, 3) := by decide +kernel
theorem dL_law_1324 : decode cL_law 1324 = .ok (.istore 5, 2) := by decide +kernel
theorem dL_law_1326 : decode cL_law 1326 = .ok (.aload_n 2, 1) := by decide +kernel
theorem dL_law_1327 : decode cL_law 1327 = .ok (.aload_n 0, 1) := by decide +kernel
theorem dL_law_1328 : decode cL_law 1328 = .ok (.iload 4, 2) := by decide +kernel
theorem dL_law_1330 : decode cL_law 1330 = .ok (.iconst 1, 1) := by decide +kernel
theorem dL_law_1331 : decode cL_law 1331 = .ok (.iadd, 1) := by decide +kernel
theorem dL_law_1332 : decode cL_law 1332 = .ok (.iaload, 1) := by decide +kernel
theorem dL_law_1333 : decode cL_law 1333 = .ok (.aload_n 0, 1) := by decide +kernel
theorem dL_law_1334 : decode cL_law 1334 = .ok (.iload 4, 2) := by decide +kernel
theorem dL_law_1336 : decode cL_law 1336 = .ok (.iconst 2, 1) := by decide +kernel
theorem dL_law_1337 : decode cL_law 1337 = .ok (.iadd, 1) := by decide +kernel
theorem dL_law_1338 : decode cL_law 1338 = .ok (.iaload, 1) := by decide +kernel
theorem dL_law_1339 : decode cL_law 1339 = .ok (.aload_n 0, 1) := by decide +kernel
theorem dL_law_1340 : decode cL_law 1340 = .ok (.iload 4, 2) := by decide +kernel
theorem dL_law_1342 : decode cL_law 1342 = .ok (.iconst 3, 1) := by decide +kernel
theorem dL_law_1343 : decode cL_law 1343 = .ok (.iadd, 1) := by decide +kernel
theorem dL_law_1344 : decode cL_law 1344 = .ok (.iaload, 1) := by decide +kernel
theorem dL_law_1345 : decode cL_law 1345 = .ok (.invokevirtual 204, 3) := by decide +kernel
theorem dL_law_1348 : decode cL_law 1348 = .ok (.istore 6, 2) := by decide +kernel
theorem dL_law_1350 : decode cL_law 1350 = .ok (.aload_n 2, 1) := by decide +kernel
theorem dL_law_1351 : decode cL_law 1351 = .ok (.invokevirtual 143, 3) := by decide +kernel
theorem dL_law_1354 : decode cL_law 1354 = .ok (.iload 5, 2) := by decide +kernel
theorem dL_law_1356 : decode cL_law 1356 = .ok (.if_icmp .eq 5, 3) := by decide +kernel
theorem dL_law_1359 : decode cL_law 1359 = .ok (.iconst 0, 1) := by decide +kernel
theorem dL_law_1360 : decode cL_law 1360 = .ok (.ireturn, 1) := by decide +kernel
theorem dL_law_1361 : decode cL_law 1361 = .ok (.iload 5, 2) := by decide +kernel
theorem dL_law_1363 : decode cL_law 1363 = .ok (.ifCond .ne 15, 3) := by decide +kernel
theorem dL_law_1366 : decode cL_law 1366 = .ok (.aload_n 3, 1) := by decide +kernel
theorem dL_law_1367 : decode cL_law 1367 = .ok (.iconst 0, 1) := by decide +kernel
theorem dL_law_1368 : decode cL_law 1368 = .ok (.laload, 1) := by decide +kernel
theorem dL_law_1369 : decode cL_law 1369 = .ok (.iload 6, 2) := by decide +kernel
theorem dL_law_1371 : decode cL_law 1371 = .ok (.i2l, 1) := by decide +kernel
theorem dL_law_1372 : decode cL_law 1372 = .ok (.lcmp, 1) := by decide +kernel
theorem dL_law_1373 : decode cL_law 1373 = .ok (.ifCond .eq 5, 3) := by decide +kernel
theorem dL_law_1376 : decode cL_law 1376 = .ok (.iconst 0, 1) := by decide +kernel
theorem dL_law_1377 : decode cL_law 1377 = .ok (.ireturn, 1) := by decide +kernel
theorem dL_law_1378 : decode cL_law 1378 = .ok (.goto 1216, 3) := by decide +kernel
theorem dL_law_1381 : decode cL_law 1381 = .ok (.aload_n 1, 1) := by decide +kernel
theorem dL_law_1382 : decode cL_law 1382 = .ok (.aload_n 0, 1) := by decide +kernel
theorem dL_law_1383 : decode cL_law 1383 = .ok (.iload 4, 2) := by decide +kernel
theorem dL_law_1385 : decode cL_law 1385 = .ok (.iconst 1, 1) := by decide +kernel
theorem dL_law_1386 : decode cL_law 1386 = .ok (.iadd, 1) := by decide +kernel
theorem dL_law_1387 : decode cL_law 1387 = .ok (.iaload, 1) := by decide +kernel
theorem dL_law_1388 : decode cL_law 1388 = .ok (.aload_n 3, 1) := by decide +kernel
theorem dL_law_1389 : decode cL_law 1389 = .ok (.invokestatic 205, 3) := by decide +kernel
theorem dL_law_1392 : decode cL_law 1392 = .ok (.istore 5, 2) := by decide +kernel
theorem dL_law_1394 : decode cL_law 1394 = .ok (.aload_n 2, 1) := by decide +kernel
theorem dL_law_1395 : decode cL_law 1395 = .ok (.aload_n 0, 1) := by decide +kernel
theorem dL_law_1396 : decode cL_law 1396 = .ok (.iload 4, 2) := by decide +kernel
theorem dL_law_1398 : decode cL_law 1398 = .ok (.iconst 1, 1) := by decide +kernel
theorem dL_law_1399 : decode cL_law 1399 = .ok (.iadd, 1) := by decide +kernel
theorem dL_law_1400 : decode cL_law 1400 = .ok (.iaload, 1) := by decide +kernel
theorem dL_law_1401 : decode cL_law 1401 = .ok (.invokevirtual 207, 3) := by decide +kernel
theorem dL_law_1404 : decode cL_law 1404 = .ok (.istore 6, 2) := by decide +kernel
theorem dL_law_1406 : decode cL_law 1406 = .ok (.aload_n 2, 1) := by decide +kernel
theorem dL_law_1407 : decode cL_law 1407 = .ok (.invokevirtual 143, 3) := by decide +kernel
theorem dL_law_1410 : decode cL_law 1410 = .ok (.iload 5, 2) := by decide +kernel
theorem dL_law_1412 : decode cL_law 1412 = .ok (.if_icmp .eq 5, 3) := by decide +kernel
theorem dL_law_1415 : decode cL_law 1415 = .ok (.iconst 0, 1) := by decide +kernel
theorem dL_law_1416 : decode cL_law 1416 = .ok (.ireturn, 1) := by decide +kernel
theorem dL_law_1417 : decode cL_law 1417 = .ok (.iload 5, 2) := by decide +kernel
theorem dL_law_1419 : decode cL_law 1419 = .ok (.ifCond .ne 15, 3) := by decide +kernel
theorem dL_law_1422 : decode cL_law 1422 = .ok (.aload_n 3, 1) := by decide +kernel
theorem dL_law_1423 : decode cL_law 1423 = .ok (.iconst 0, 1) := by decide +kernel
theorem dL_law_1424 : decode cL_law 1424 = .ok (.laload, 1) := by decide +kernel
theorem dL_law_1425 : decode cL_law 1425 = .ok (.iload 6, 2) := by decide +kernel
theorem dL_law_1427 : decode cL_law 1427 = .ok (.i2l, 1) := by decide +kernel
theorem dL_law_1428 : decode cL_law 1428 = .ok (.lcmp, 1) := by decide +kernel
theorem dL_law_1429 : decode cL_law 1429 = .ok (.ifCond .eq 5, 3) := by decide +kernel
theorem dL_law_1432 : decode cL_law 1432 = .ok (.iconst 0, 1) := by decide +kernel
theorem dL_law_1433 : decode cL_law 1433 = .ok (.ireturn, 1) := by decide +kernel
theorem dL_law_1434 : decode cL_law 1434 = .ok (.goto 1160, 3) := by decide +kernel
theorem dL_law_1437 : decode cL_law 1437 = .ok (.aload_n 1, 1) := by decide +kernel
theorem dL_law_1438 : decode cL_law 1438 = .ok (.aload_n 0, 1) := by decide +kernel
theorem dL_law_1439 : decode cL_law 1439 = .ok (.iload 4, 2) := by decide +kernel
theorem dL_law_1441 : decode cL_law 1441 = .ok (.iconst 1, 1) := by decide +kernel
theorem dL_law_1442 : decode cL_law 1442 = .ok (.iadd, 1) := by decide +kernel
theorem dL_law_1443 : decode cL_law 1443 = .ok (.iaload, 1) := by decide +kernel
theorem dL_law_1444 : decode cL_law 1444 = .ok (.aload_n 3, 1) := by decide +kernel
theorem dL_law_1445 : decode cL_law 1445 = .ok (.invokestatic 208, 3) := by decide +kernel
theorem dL_law_1448 : decode cL_law 1448 = .ok (.istore 5, 2) := by decide +kernel
theorem dL_law_1450 : decode cL_law 1450 = .ok (.aload_n 2, 1) := by decide +kernel
theorem dL_law_1451 : decode cL_law 1451 = .ok (.aload_n 0, 1) := by decide +kernel
theorem dL_law_1452 : decode cL_law 1452 = .ok (.iload 4, 2) := by decide +kernel
theorem dL_law_1454 : decode cL_law 1454 = .ok (.iconst 1, 1) := by decide +kernel
theorem dL_law_1455 : decode cL_law 1455 = .ok (.iadd, 1) := by decide +kernel
theorem dL_law_1456 : decode cL_law 1456 = .ok (.iaload, 1) := by decide +kernel
theorem dL_law_1457 : decode cL_law 1457 = .ok (.invokevirtual 210, 3) := by decide +kernel
theorem dL_law_1460 : decode cL_law 1460 = .ok (.istore 6, 2) := by decide +kernel
theorem dL_law_1462 : decode cL_law 1462 = .ok (.aload_n 2, 1) := by decide +kernel
theorem dL_law_1463 : decode cL_law 1463 = .ok (.invokevirtual 143, 3) := by decide +kernel
theorem dL_law_1466 : decode cL_law 1466 = .ok (.iload 5, 2) := by decide +kernel
theorem dL_law_1468 : decode cL_law 1468 = .ok (.if_icmp .eq 5, 3) := by decide +kernel
theorem dL_law_1471 : decode cL_law 1471 = .ok (.iconst 0, 1) := by decide +kernel
theorem dL_law_1472 : decode cL_law 1472 = .ok (.ireturn, 1) := by decide +kernel
theorem dL_law_1473 : decode cL_law 1473 = .ok (.iload 5, 2) := by decide +kernel
theorem dL_law_1475 : decode cL_law 1475 = .ok (.ifCond .ne 15, 3) := by decide +kernel
theorem dL_law_1478 : decode cL_law 1478 = .ok (.aload_n 3, 1) := by decide +kernel
theorem dL_law_1479 : decode cL_law 1479 = .ok (.iconst 0, 1) := by decide +kernel
theorem dL_law_1480 : decode cL_law 1480 = .ok (.laload, 1) := by decide +kernel
theorem dL_law_1481 : decode cL_law 1481 = .ok (.iload 6, 2) := by decide +kernel
theorem dL_law_1483 : decode cL_law 1483 = .ok (.i2l, 1) := by decide +kernel
theorem dL_law_1484 : decode cL_law 1484 = .ok (.lcmp, 1) := by decide +kernel
theorem dL_law_1485 : decode cL_law 1485 = .ok (.ifCond .eq 5, 3) := by decide +kernel
theorem dL_law_1488 : decode cL_law 1488 = .ok (.iconst 0, 1) := by decide +kernel
theorem dL_law_1489 : decode cL_law 1489 = .ok (.ireturn, 1) := by decide +kernel
theorem dL_law_1490 : decode cL_law 1490 = .ok (.goto 1104, 3) := by decide +kernel
theorem dL_law_1493 : decode cL_law 1493 = .ok (.aload_n 1, 1) := by decide +kernel
theorem dL_law_1494 : decode cL_law 1494 = .ok (.aload_n 0, 1) := by decide +kernel
theorem dL_law_1495 : decode cL_law 1495 = .ok (.iload 4, 2) := by decide +kernel
theorem dL_law_1497 : decode cL_law 1497 = .ok (.iconst 1, 1) := by decide +kernel
theorem dL_law_1498 : decode cL_law 1498 = .ok (.iadd, 1) := by decide +kernel
theorem dL_law_1499 : decode cL_law 1499 = .ok (.iaload, 1) := by decide +kernel
theorem dL_law_1500 : decode cL_law 1500 = .ok (.aload_n 0, 1) := by decide +kernel
theorem dL_law_1501 : decode cL_law 1501 = .ok (.iload 4, 2) := by decide +kernel
theorem dL_law_1503 : decode cL_law 1503 = .ok (.iconst 2, 1) := by decide +kernel
theorem dL_law_1504 : decode cL_law 1504 = .ok (.iadd, 1) := by decide +kernel
theorem dL_law_1505 : decode cL_law 1505 = .ok (.iaload, 1) := by decide +kernel
theorem dL_law_1506 : decode cL_law 1506 = .ok (.aload_n 0, 1) := by decide +kernel
theorem dL_law_1507 : decode cL_law 1507 = .ok (.iload 4, 2) := by decide +kernel
theorem dL_law_1509 : decode cL_law 1509 = .ok (.iconst 3, 1) := by decide +kernel
theorem dL_law_1510 : decode cL_law 1510 = .ok (.iadd, 1) := by decide +kernel
theorem dL_law_1511 : decode cL_law 1511 = .ok (.iaload, 1) := by decide +kernel
theorem dL_law_1512 : decode cL_law 1512 = .ok (.aload_n 3, 1) := by decide +kernel
theorem dL_law_1513 : decode cL_law 1513 = .ok (.invokestatic 211, 3) := by decide +kernel
theorem dL_law_1516 : decode cL_law 1516 = .ok (.istore 5, 2) := by decide +kernel
theorem dL_law_1518 : decode cL_law 1518 = .ok (.aload_n 2, 1) := by decide +kernel
theorem dL_law_1519 : decode cL_law 1519 = .ok (.aload_n 0, 1) := by decide +kernel
theorem dL_law_1520 : decode cL_law 1520 = .ok (.iload 4, 2) := by decide +kernel
theorem dL_law_1522 : decode cL_law 1522 = .ok (.iconst 1, 1) := by decide +kernel
theorem dL_law_1523 : decode cL_law 1523 = .ok (.iadd, 1) := by decide +kernel
theorem dL_law_1524 : decode cL_law 1524 = .ok (.iaload, 1) := by decide +kernel
theorem dL_law_1525 : decode cL_law 1525 = .ok (.aload_n 0, 1) := by decide +kernel
theorem dL_law_1526 : decode cL_law 1526 = .ok (.iload 4, 2) := by decide +kernel
theorem dL_law_1528 : decode cL_law 1528 = .ok (.iconst 2, 1) := by decide +kernel
theorem dL_law_1529 : decode cL_law 1529 = .ok (.iadd, 1) := by decide +kernel
theorem dL_law_1530 : decode cL_law 1530 = .ok (.iaload, 1) := by decide +kernel
theorem dL_law_1531 : decode cL_law 1531 = .ok (.aload_n 0, 1) := by decide +kernel
theorem dL_law_1532 : decode cL_law 1532 = .ok (.iload 4, 2) := by decide +kernel
theorem dL_law_1534 : decode cL_law 1534 = .ok (.iconst 3, 1) := by decide +kernel
theorem dL_law_1535 : decode cL_law 1535 = .ok (.iadd, 1) := by decide +kernel
theorem dL_law_1536 : decode cL_law 1536 = .ok (.iaload, 1) := by decide +kernel
theorem dL_law_1537 : decode cL_law 1537 = .ok (.invokevirtual 213, 3) := by decide +kernel
theorem dL_law_1540 : decode cL_law 1540 = .ok (.istore 6, 2) := by decide +kernel
theorem dL_law_1542 : decode cL_law 1542 = .ok (.aload_n 2, 1) := by decide +kernel
theorem dL_law_1543 : decode cL_law 1543 = .ok (.invokevirtual 143, 3) := by decide +kernel
theorem dL_law_1546 : decode cL_law 1546 = .ok (.iload 5, 2) := by decide +kernel
theorem dL_law_1548 : decode cL_law 1548 = .ok (.if_icmp .eq 5, 3) := by decide +kernel
theorem dL_law_1551 : decode cL_law 1551 = .ok (.iconst 0, 1) := by decide +kernel
theorem dL_law_1552 : decode cL_law 1552 = .ok (.ireturn, 1) := by decide +kernel
theorem dL_law_1553 : decode cL_law 1553 = .ok (.iload 5, 2) := by decide +kernel
theorem dL_law_1555 : decode cL_law 1555 = .ok (.ifCond .ne 15, 3) := by decide +kernel
theorem dL_law_1558 : decode cL_law 1558 = .ok (.aload_n 3, 1) := by decide +kernel
theorem dL_law_1559 : decode cL_law 1559 = .ok (.iconst 0, 1) := by decide +kernel
theorem dL_law_1560 : decode cL_law 1560 = .ok (.laload, 1) := by decide +kernel
theorem dL_law_1561 : decode cL_law 1561 = .ok (.iload 6, 2) := by decide +kernel
theorem dL_law_1563 : decode cL_law 1563 = .ok (.i2l, 1) := by decide +kernel
theorem dL_law_1564 : decode cL_law 1564 = .ok (.lcmp, 1) := by decide +kernel
theorem dL_law_1565 : decode cL_law 1565 = .ok (.ifCond .eq 5, 3) := by decide +kernel
theorem dL_law_1568 : decode cL_law 1568 = .ok (.iconst 0, 1) := by decide +kernel
theorem dL_law_1569 : decode cL_law 1569 = .ok (.ireturn, 1) := by decide +kernel
theorem dL_law_1570 : decode cL_law 1570 = .ok (.goto 1024, 3) := by decide +kernel
theorem dL_law_1573 : decode cL_law 1573 = .ok (.aload_n 1, 1) := by decide +kernel
theorem dL_law_1574 : decode cL_law 1574 = .ok (.aload_n 0, 1) := by decide +kernel
theorem dL_law_1575 : decode cL_law 1575 = .ok (.iload 4, 2) := by decide +kernel
theorem dL_law_1577 : decode cL_law 1577 = .ok (.iconst 1, 1) := by decide +kernel
theorem dL_law_1578 : decode cL_law 1578 = .ok (.iadd, 1) := by decide +kernel
theorem dL_law_1579 : decode cL_law 1579 = .ok (.iaload, 1) := by decide +kernel
theorem dL_law_1580 : decode cL_law 1580 = .ok (.aload_n 0, 1) := by decide +kernel
theorem dL_law_1581 : decode cL_law 1581 = .ok (.iload 4, 2) := by decide +kernel
theorem dL_law_1583 : decode cL_law 1583 = .ok (.iconst 2, 1) := by decide +kernel
theorem dL_law_1584 : decode cL_law 1584 = .ok (.iadd, 1) := by decide +kernel
theorem dL_law_1585 : decode cL_law 1585 = .ok (.iaload, 1) := by decide +kernel
theorem dL_law_1586 : decode cL_law 1586 = .ok (.aload_n 3, 1) := by decide +kernel
theorem dL_law_1587 : decode cL_law 1587 = .ok (.invokestatic 214, 3) := by decide +kernel
theorem dL_law_1590 : decode cL_law 1590 = .ok (.istore 5, 2) := by decide +kernel
theorem dL_law_1592 : decode cL_law 1592 = .ok (.aload_n 2, 1) := by decide +kernel
theorem dL_law_1593 : decode cL_law 1593 = .ok (.aload_n 0, 1) := by decide +kernel
theorem dL_law_1594 : decode cL_law 1594 = .ok (.iload 4, 2) := by decide +kernel
theorem dL_law_1596 : decode cL_law 1596 = .ok (.iconst 1, 1) := by decide +kernel
theorem dL_law_1597 : decode cL_law 1597 = .ok (.iadd, 1) := by decide +kernel
theorem dL_law_1598 : decode cL_law 1598 = .ok (.iaload, 1) := by decide +kernel
theorem dL_law_1599 : decode cL_law 1599 = .ok (.aload_n 0, 1) := by decide +kernel
theorem dL_law_1600 : decode cL_law 1600 = .ok (.iload 4, 2) := by decide +kernel
theorem dL_law_1602 : decode cL_law 1602 = .ok (.iconst 2, 1) := by decide +kernel
theorem dL_law_1603 : decode cL_law 1603 = .ok (.iadd, 1) := by decide +kernel
theorem dL_law_1604 : decode cL_law 1604 = .ok (.iaload, 1) := by decide +kernel
theorem dL_law_1605 : decode cL_law 1605 = .ok (.invokevirtual 216, 3) := by decide +kernel
theorem dL_law_1608 : decode cL_law 1608 = .ok (.istore 6, 2) := by decide +kernel
theorem dL_law_1610 : decode cL_law 1610 = .ok (.aload_n 2, 1) := by decide +kernel
theorem dL_law_1611 : decode cL_law 1611 = .ok (.invokevirtual 143, 3) := by decide +kernel
theorem dL_law_1614 : decode cL_law 1614 = .ok (.iload 5, 2) := by decide +kernel
theorem dL_law_1616 : decode cL_law 1616 = .ok (.if_icmp .eq 5, 3) := by decide +kernel
theorem dL_law_1619 : decode cL_law 1619 = .ok (.iconst 0, 1) := by decide +kernel
theorem dL_law_1620 : decode cL_law 1620 = .ok (.ireturn, 1) := by decide +kernel
theorem dL_law_1621 : decode cL_law 1621 = .ok (.iload 5, 2) := by decide +kernel
theorem dL_law_1623 : decode cL_law 1623 = .ok (.ifCond .ne 15, 3) := by decide +kernel
theorem dL_law_1626 : decode cL_law 1626 = .ok (.aload_n 3, 1) := by decide +kernel
theorem dL_law_1627 : decode cL_law 1627 = .ok (.iconst 0, 1) := by decide +kernel
theorem dL_law_1628 : decode cL_law 1628 = .ok (.laload, 1) := by decide +kernel
theorem dL_law_1629 : decode cL_law 1629 = .ok (.iload 6, 2) := by decide +kernel
theorem dL_law_1631 : decode cL_law 1631 = .ok (.i2l, 1) := by decide +kernel
theorem dL_law_1632 : decode cL_law 1632 = .ok (.lcmp, 1) := by decide +kernel
theorem dL_law_1633 : decode cL_law 1633 = .ok (.ifCond .eq 5, 3) := by decide +kernel
theorem dL_law_1636 : decode cL_law 1636 = .ok (.iconst 0, 1) := by decide +kernel
theorem dL_law_1637 : decode cL_law 1637 = .ok (.ireturn, 1) := by decide +kernel
theorem dL_law_1638 : decode cL_law 1638 = .ok (.goto 956, 3) := by decide +kernel
theorem dL_law_1641 : decode cL_law 1641 = .ok (.aload_n 1, 1) := by decide +kernel
theorem dL_law_1642 : decode cL_law 1642 = .ok (.aload_n 0, 1) := by decide +kernel
theorem dL_law_1643 : decode cL_law 1643 = .ok (.iload 4, 2) := by decide +kernel
theorem dL_law_1645 : decode cL_law 1645 = .ok (.iconst 1, 1) := by decide +kernel
theorem dL_law_1646 : decode cL_law 1646 = .ok (.iadd, 1) := by decide +kernel
theorem dL_law_1647 : decode cL_law 1647 = .ok (.iaload, 1) := by decide +kernel
theorem dL_law_1648 : decode cL_law 1648 = .ok (.aload_n 0, 1) := by decide +kernel
theorem dL_law_1649 : decode cL_law 1649 = .ok (.iload 4, 2) := by decide +kernel
theorem dL_law_1651 : decode cL_law 1651 = .ok (.iconst 2, 1) := by decide +kernel
theorem dL_law_1652 : decode cL_law 1652 = .ok (.iadd, 1) := by decide +kernel
theorem dL_law_1653 : decode cL_law 1653 = .ok (.iaload, 1) := by decide +kernel
theorem dL_law_1654 : decode cL_law 1654 = .ok (.aload_n 3, 1) := by decide +kernel
theorem dL_law_1655 : decode cL_law 1655 = .ok (.invokestatic 217, 3) := by decide +kernel
theorem dL_law_1658 : decode cL_law 1658 = .ok (.istore 5, 2) := by decide +kernel
theorem dL_law_1660 : decode cL_law 1660 = .ok (.aload_n 2, 1) := by decide +kernel
theorem dL_law_1661 : decode cL_law 1661 = .ok (.aload_n 0, 1) := by decide +kernel
theorem dL_law_1662 : decode cL_law 1662 = .ok (.iload 4, 2) := by decide +kernel
theorem dL_law_1664 : decode cL_law 1664 = .ok (.iconst 1, 1) := by decide +kernel
theorem dL_law_1665 : decode cL_law 1665 = .ok (.iadd, 1) := by decide +kernel
theorem dL_law_1666 : decode cL_law 1666 = .ok (.iaload, 1) := by decide +kernel
theorem dL_law_1667 : decode cL_law 1667 = .ok (.aload_n 0, 1) := by decide +kernel
theorem dL_law_1668 : decode cL_law 1668 = .ok (.iload 4, 2) := by decide +kernel
theorem dL_law_1670 : decode cL_law 1670 = .ok (.iconst 2, 1) := by decide +kernel
theorem dL_law_1671 : decode cL_law 1671 = .ok (.iadd, 1) := by decide +kernel
theorem dL_law_1672 : decode cL_law 1672 = .ok (.iaload, 1) := by decide +kernel
theorem dL_law_1673 : decode cL_law 1673 = .ok (.invokevirtual 219, 3) := by decide +kernel
theorem dL_law_1676 : decode cL_law 1676 = .ok (.istore 6, 2) := by decide +kernel
theorem dL_law_1678 : decode cL_law 1678 = .ok (.aload_n 2, 1) := by decide +kernel
theorem dL_law_1679 : decode cL_law 1679 = .ok (.invokevirtual 143, 3) := by decide +kernel
theorem dL_law_1682 : decode cL_law 1682 = .ok (.iload 5, 2) := by decide +kernel
theorem dL_law_1684 : decode cL_law 1684 = .ok (.if_icmp .eq 5, 3) := by decide +kernel
theorem dL_law_1687 : decode cL_law 1687 = .ok (.iconst 0, 1) := by decide +kernel
theorem dL_law_1688 : decode cL_law 1688 = .ok (.ireturn, 1) := by decide +kernel
theorem dL_law_1689 : decode cL_law 1689 = .ok (.iload 5, 2) := by decide +kernel
theorem dL_law_1691 : decode cL_law 1691 = .ok (.ifCond .ne 15, 3) := by decide +kernel
theorem dL_law_1694 : decode cL_law 1694 = .ok (.aload_n 3, 1) := by decide +kernel
theorem dL_law_1695 : decode cL_law 1695 = .ok (.iconst 0, 1) := by decide +kernel
theorem dL_law_1696 : decode cL_law 1696 = .ok (.laload, 1) := by decide +kernel
theorem dL_law_1697 : decode cL_law 1697 = .ok (.iload 6, 2) := by decide +kernel
theorem dL_law_1699 : decode cL_law 1699 = .ok (.i2l, 1) := by decide +kernel
theorem dL_law_1700 : decode cL_law 1700 = .ok (.lcmp, 1) := by decide +kernel
theorem dL_law_1701 : decode cL_law 1701 = .ok (.ifCond .eq 5, 3) := by decide +kernel
theorem dL_law_1704 : decode cL_law 1704 = .ok (.iconst 0, 1) := by decide +kernel
theorem dL_law_1705 : decode cL_law 1705 = .ok (.ireturn, 1) := by decide +kernel
theorem dL_law_1706 : decode cL_law 1706 = .ok (.goto 888, 3) := by decide +kernel
theorem dL_law_1709 : decode cL_law 1709 = .ok (.aload_n 1, 1) := by decide +kernel
theorem dL_law_1710 : decode cL_law 1710 = .ok (.aload_n 0, 1) := by decide +kernel
theorem dL_law_1711 : decode cL_law 1711 = .ok (.iload 4, 2) := by decide +kernel
theorem dL_law_1713 : decode cL_law 1713 = .ok (.iconst 1, 1) := by decide +kernel
theorem dL_law_1714 : decode cL_law 1714 = .ok (.iadd, 1) := by decide +kernel
theorem dL_law_1715 : decode cL_law 1715 = .ok (.iaload, 1) := by decide +kernel
theorem dL_law_1716 : decode cL_law 1716 = .ok (.aload_n 0, 1) := by decide +kernel
theorem dL_law_1717 : decode cL_law 1717 = .ok (.iload 4, 2) := by decide +kernel
theorem dL_law_1719 : decode cL_law 1719 = .ok (.iconst 2, 1) := by decide +kernel
theorem dL_law_1720 : decode cL_law 1720 = .ok (.iadd, 1) := by decide +kernel
theorem dL_law_1721 : decode cL_law 1721 = .ok (.iaload, 1) := by decide +kernel
theorem dL_law_1722 : decode cL_law 1722 = .ok (.aload_n 3, 1) := by decide +kernel
theorem dL_law_1723 : decode cL_law 1723 = .ok (.invokestatic 220, 3) := by decide +kernel
theorem dL_law_1726 : decode cL_law 1726 = .ok (.istore 5, 2) := by decide +kernel
theorem dL_law_1728 : decode cL_law 1728 = .ok (.aload_n 2, 1) := by decide +kernel
theorem dL_law_1729 : decode cL_law 1729 = .ok (.aload_n 0, 1) := by decide +kernel
theorem dL_law_1730 : decode cL_law 1730 = .ok (.iload 4, 2) := by decide +kernel
theorem dL_law_1732 : decode cL_law 1732 = .ok (.iconst 1, 1) := by decide +kernel
theorem dL_law_1733 : decode cL_law 1733 = .ok (.iadd, 1) := by decide +kernel
theorem dL_law_1734 : decode cL_law 1734 = .ok (.iaload, 1) := by decide +kernel
theorem dL_law_1735 : decode cL_law 1735 = .ok (.aload_n 0, 1) := by decide +kernel
theorem dL_law_1736 : decode cL_law 1736 = .ok (.iload 4, 2) := by decide +kernel
theorem dL_law_1738 : decode cL_law 1738 = .ok (.iconst 2, 1) := by decide +kernel
theorem dL_law_1739 : decode cL_law 1739 = .ok (.iadd, 1) := by decide +kernel
theorem dL_law_1740 : decode cL_law 1740 = .ok (.iaload, 1) := by decide +kernel
theorem dL_law_1741 : decode cL_law 1741 = .ok (.invokevirtual 222, 3) := by decide +kernel
theorem dL_law_1744 : decode cL_law 1744 = .ok (.istore 6, 2) := by decide +kernel
theorem dL_law_1746 : decode cL_law 1746 = .ok (.aload_n 2, 1) := by decide +kernel
theorem dL_law_1747 : decode cL_law 1747 = .ok (.invokevirtual 143, 3) := by decide +kernel
theorem dL_law_1750 : decode cL_law 1750 = .ok (.iload 5, 2) := by decide +kernel
theorem dL_law_1752 : decode cL_law 1752 = .ok (.if_icmp .eq 5, 3) := by decide +kernel
theorem dL_law_1755 : decode cL_law 1755 = .ok (.iconst 0, 1) := by decide +kernel
theorem dL_law_1756 : decode cL_law 1756 = .ok (.ireturn, 1) := by decide +kernel
theorem dL_law_1757 : decode cL_law 1757 = .ok (.iload 5, 2) := by decide +kernel
theorem dL_law_1759 : decode cL_law 1759 = .ok (.ifCond .ne 15, 3) := by decide +kernel
theorem dL_law_1762 : decode cL_law 1762 = .ok (.aload_n 3, 1) := by decide +kernel
theorem dL_law_1763 : decode cL_law 1763 = .ok (.iconst 0, 1) := by decide +kernel
theorem dL_law_1764 : decode cL_law 1764 = .ok (.laload, 1) := by decide +kernel
theorem dL_law_1765 : decode cL_law 1765 = .ok (.iload 6, 2) := by decide +kernel
theorem dL_law_1767 : decode cL_law 1767 = .ok (.i2l, 1) := by decide +kernel
theorem dL_law_1768 : decode cL_law 1768 = .ok (.lcmp, 1) := by decide +kernel
theorem dL_law_1769 : decode cL_law 1769 = .ok (.ifCond .eq 5, 3) := by decide +kernel
theorem dL_law_1772 : decode cL_law 1772 = .ok (.iconst 0, 1) := by decide +kernel
theorem dL_law_1773 : decode cL_law 1773 = .ok (.ireturn, 1) := by decide +kernel
theorem dL_law_1774 : decode cL_law 1774 = .ok (.goto 820, 3) := by decide +kernel
theorem dL_law_1777 : decode cL_law 1777 = .ok (.aload_n 1, 1) := by decide +kernel
theorem dL_law_1778 : decode cL_law 1778 = .ok (.invokevirtual 223, 3) := by decide +kernel
theorem dL_law_1781 : decode cL_law 1781 = .ok (.aload_n 2, 1) := by decide +kernel
theorem dL_law_1782 : decode cL_law 1782 = .ok (.invokevirtual 226, 3) := by decide +kernel
theorem dL_law_1785 : decode cL_law 1785 = .ok (.if_icmp .eq 809, 3) := by decide +kernel
theorem dL_law_1788 : decode cL_law 1788 = .ok (.iconst 0, 1) := by decide +kernel
theorem dL_law_1789 : decode cL_law 1789 = .ok (.ireturn, 1) := by decide +kernel
theorem dL_law_1790 : decode cL_law 1790 = .ok (.aload_n 1, 1) := by decide +kernel
theorem dL_law_1791 : decode cL_law 1791 = .ok (.aload_n 0, 1) := by decide +kernel
theorem dL_law_1792 : decode cL_law 1792 = .ok (.iload 4, 2) := by decide +kernel
theorem dL_law_1794 : decode cL_law 1794 = .ok (.iconst 1, 1) := by decide +kernel
theorem dL_law_1795 : decode cL_law 1795 = .ok (.iadd, 1) := by decide +kernel
theorem dL_law_1796 : decode cL_law 1796 = .ok (.iaload, 1) := by decide +kernel
theorem dL_law_1797 : decode cL_law 1797 = .ok (.aload_n 3, 1) := by decide +kernel
theorem dL_law_1798 : decode cL_law 1798 = .ok (.invokestatic 227, 3) := by decide +kernel
theorem dL_law_1801 : decode cL_law 1801 = .ok (.istore 5, 2) := by decide +kernel
theorem dL_law_1803 : decode cL_law 1803 = .ok (.aload_n 2, 1) := by decide +kernel
theorem dL_law_1804 : decode cL_law 1804 = .ok (.aload_n 0, 1) := by decide +kernel
theorem dL_law_1805 : decode cL_law 1805 = .ok (.iload 4, 2) := by decide +kernel
theorem dL_law_1807 : decode cL_law 1807 = .ok (.iconst 1, 1) := by decide +kernel
theorem dL_law_1808 : decode cL_law 1808 = .ok (.iadd, 1) := by decide +kernel
theorem dL_law_1809 : decode cL_law 1809 = .ok (.iaload, 1) := by decide +kernel
theorem dL_law_1810 : decode cL_law 1810 = .ok (.invokevirtual 229, 3) := by decide +kernel
theorem dL_law_1813 : decode cL_law 1813 = .ok (.istore 6, 2) := by decide +kernel
theorem dL_law_1815 : decode cL_law 1815 = .ok (.aload_n 2, 1) := by decide +kernel
theorem dL_law_1816 : decode cL_law 1816 = .ok (.invokevirtual 143, 3) := by decide +kernel
theorem dL_law_1819 : decode cL_law 1819 = .ok (.iload 5, 2) := by decide +kernel
theorem dL_law_1821 : decode cL_law 1821 = .ok (.if_icmp .eq 5, 3) := by decide +kernel
theorem dL_law_1824 : decode cL_law 1824 = .ok (.iconst 0, 1) := by decide +kernel
theorem dL_law_1825 : decode cL_law 1825 = .ok (.ireturn, 1) := by decide +kernel
theorem dL_law_1826 : decode cL_law 1826 = .ok (.iload 5, 2) := by decide +kernel
theorem dL_law_1828 : decode cL_law 1828 = .ok (.ifCond .ne 15, 3) := by decide +kernel
theorem dL_law_1831 : decode cL_law 1831 = .ok (.aload_n 3, 1) := by decide +kernel
theorem dL_law_1832 : decode cL_law 1832 = .ok (.iconst 0, 1) := by decide +kernel
theorem dL_law_1833 : decode cL_law 1833 = .ok (.laload, 1) := by decide +kernel
theorem dL_law_1834 : decode cL_law 1834 = .ok (.iload 6, 2) := by decide +kernel
theorem dL_law_1836 : decode cL_law 1836 = .ok (.i2l, 1) := by decide +kernel
theorem dL_law_1837 : decode cL_law 1837 = .ok (.lcmp, 1) := by decide +kernel
theorem dL_law_1838 : decode cL_law 1838 = .ok (.ifCond .eq 5, 3) := by decide +kernel
theorem dL_law_1841 : decode cL_law 1841 = .ok (.iconst 0, 1) := by decide +kernel
theorem dL_law_1842 : decode cL_law 1842 = .ok (.ireturn, 1) := by decide +kernel
theorem dL_law_1843 : decode cL_law 1843 = .ok (.goto 751, 3) := by decide +kernel
theorem dL_law_1846 : decode cL_law 1846 = .ok (.aload_n 1, 1) := by decide +kernel
theorem dL_law_1847 : decode cL_law 1847 = .ok (.invokevirtual 230, 3) := by decide +kernel
theorem dL_law_1850 : decode cL_law 1850 = .ok (.aload_n 2, 1) := by decide +kernel
theorem dL_law_1851 : decode cL_law 1851 = .ok (.invokevirtual 233, 3) := by decide +kernel
theorem dL_law_1854 : decode cL_law 1854 = .ok (.if_icmp .eq 740, 3) := by decide +kernel
theorem dL_law_1857 : decode cL_law 1857 = .ok (.iconst 0, 1) := by decide +kernel
theorem dL_law_1858 : decode cL_law 1858 = .ok (.ireturn, 1) := by decide +kernel
theorem dL_law_1859 : decode cL_law 1859 = .ok (.aload_n 1, 1) := by decide +kernel
theorem dL_law_1860 : decode cL_law 1860 = .ok (.aload_n 0, 1) := by decide +kernel
theorem dL_law_1861 : decode cL_law 1861 = .ok (.iload 4, 2) := by decide +kernel
theorem dL_law_1863 : decode cL_law 1863 = .ok (.iconst 1, 1) := by decide +kernel
theorem dL_law_1864 : decode cL_law 1864 = .ok (.iadd, 1) := by decide +kernel
theorem dL_law_1865 : decode cL_law 1865 = .ok (.iaload, 1) := by decide +kernel
theorem dL_law_1866 : decode cL_law 1866 = .ok (.aload_n 3, 1) := by decide +kernel
theorem dL_law_1867 : decode cL_law 1867 = .ok (.invokestatic 234, 3) := by decide +kernel
theorem dL_law_1870 : decode cL_law 1870 = .ok (.istore 5, 2) := by decide +kernel
theorem dL_law_1872 : decode cL_law 1872 = .ok (.aload_n 2, 1) := by decide +kernel
theorem dL_law_1873 : decode cL_law 1873 = .ok (.aload_n 0, 1) := by decide +kernel
theorem dL_law_1874 : decode cL_law 1874 = .ok (.iload 4, 2) := by decide +kernel
theorem dL_law_1876 : decode cL_law 1876 = .ok (.iconst 1, 1) := by decide +kernel
theorem dL_law_1877 : decode cL_law 1877 = .ok (.iadd, 1) := by decide +kernel
theorem dL_law_1878 : decode cL_law 1878 = .ok (.iaload, 1) := by decide +kernel
theorem dL_law_1879 : decode cL_law 1879 = .ok (.invokevirtual 236, 3) := by decide +kernel
theorem dL_law_1882 : decode cL_law 1882 = .ok (.istore 6, 2) := by decide +kernel
theorem dL_law_1884 : decode cL_law 1884 = .ok (.aload_n 2, 1) := by decide +kernel
theorem dL_law_1885 : decode cL_law 1885 = .ok (.invokevirtual 143, 3) := by decide +kernel
theorem dL_law_1888 : decode cL_law 1888 = .ok (.iload 5, 2) := by decide +kernel
theorem dL_law_1890 : decode cL_law 1890 = .ok (.if_icmp .eq 5, 3) := by decide +kernel
theorem dL_law_1893 : decode cL_law 1893 = .ok (.iconst 0, 1) := by decide +kernel
theorem dL_law_1894 : decode cL_law 1894 = .ok (.ireturn, 1) := by decide +kernel
theorem dL_law_1895 : decode cL_law 1895 = .ok (.iload 5, 2) := by decide +kernel
theorem dL_law_1897 : decode cL_law 1897 = .ok (.ifCond .ne 15, 3) := by decide +kernel
theorem dL_law_1900 : decode cL_law 1900 = .ok (.aload_n 3, 1) := by decide +kernel
theorem dL_law_1901 : decode cL_law 1901 = .ok (.iconst 0, 1) := by decide +kernel
theorem dL_law_1902 : decode cL_law 1902 = .ok (.laload, 1) := by decide +kernel
theorem dL_law_1903 : decode cL_law 1903 = .ok (.iload 6, 2) := by decide +kernel
theorem dL_law_1905 : decode cL_law 1905 = .ok (.i2l, 1) := by decide +kernel
theorem dL_law_1906 : decode cL_law 1906 = .ok (.lcmp, 1) := by decide +kernel
theorem dL_law_1907 : decode cL_law 1907 = .ok (.ifCond .eq 5, 3) := by decide +kernel
theorem dL_law_1910 : decode cL_law 1910 = .ok (.iconst 0, 1) := by decide +kernel
theorem dL_law_1911 : decode cL_law 1911 = .ok (.ireturn, 1) := by decide +kernel
theorem dL_law_1912 : decode cL_law 1912 = .ok (.goto 682, 3) := by decide +kernel
theorem dL_law_1915 : decode cL_law 1915 = .ok (.aload_n 1, 1) := by decide +kernel
theorem dL_law_1916 : decode cL_law 1916 = .ok (.invokevirtual 237, 3) := by decide +kernel
theorem dL_law_1919 : decode cL_law 1919 = .ok (.aload_n 2, 1) := by decide +kernel
theorem dL_law_1920 : decode cL_law 1920 = .ok (.invokevirtual 240, 3) := by decide +kernel
theorem dL_law_1923 : decode cL_law 1923 = .ok (.if_icmp .eq 671, 3) := by decide +kernel
theorem dL_law_1926 : decode cL_law 1926 = .ok (.iconst 0, 1) := by decide +kernel
theorem dL_law_1927 : decode cL_law 1927 = .ok (.ireturn, 1) := by decide +kernel
theorem dL_law_1928 : decode cL_law 1928 = .ok (.aload_n 1, 1) := by decide +kernel
theorem dL_law_1929 : decode cL_law 1929 = .ok (.aload_n 0, 1) := by decide +kernel
theorem dL_law_1930 : decode cL_law 1930 = .ok (.iload 4, 2) := by decide +kernel
theorem dL_law_1932 : decode cL_law 1932 = .ok (.iconst 1, 1) := by decide +kernel
theorem dL_law_1933 : decode cL_law 1933 = .ok (.iadd, 1) := by decide +kernel
theorem dL_law_1934 : decode cL_law 1934 = .ok (.iaload, 1) := by decide +kernel
theorem dL_law_1935 : decode cL_law 1935 = .ok (.aload_n 3, 1) := by decide +kernel
theorem dL_law_1936 : decode cL_law 1936 = .ok (.invokestatic 241, 3) := by decide +kernel
theorem dL_law_1939 : decode cL_law 1939 = .ok (.istore 5, 2) := by decide +kernel
theorem dL_law_1941 : decode cL_law 1941 = .ok (.aload_n 2, 1) := by decide +kernel
theorem dL_law_1942 : decode cL_law 1942 = .ok (.aload_n 0, 1) := by decide +kernel
theorem dL_law_1943 : decode cL_law 1943 = .ok (.iload 4, 2) := by decide +kernel
theorem dL_law_1945 : decode cL_law 1945 = .ok (.iconst 1, 1) := by decide +kernel
theorem dL_law_1946 : decode cL_law 1946 = .ok (.iadd, 1) := by decide +kernel
theorem dL_law_1947 : decode cL_law 1947 = .ok (.iaload, 1) := by decide +kernel
theorem dL_law_1948 : decode cL_law 1948 = .ok (.invokevirtual 243, 3) := by decide +kernel
theorem dL_law_1951 : decode cL_law 1951 = .ok (.istore 6, 2) := by decide +kernel
theorem dL_law_1953 : decode cL_law 1953 = .ok (.aload_n 2, 1) := by decide +kernel
theorem dL_law_1954 : decode cL_law 1954 = .ok (.invokevirtual 143, 3) := by decide +kernel
theorem dL_law_1957 : decode cL_law 1957 = .ok (.iload 5, 2) := by decide +kernel
theorem dL_law_1959 : decode cL_law 1959 = .ok (.if_icmp .eq 5, 3) := by decide +kernel
theorem dL_law_1962 : decode cL_law 1962 = .ok (.iconst 0, 1) := by decide +kernel
theorem dL_law_1963 : decode cL_law 1963 = .ok (.ireturn, 1) := by decide +kernel
theorem dL_law_1964 : decode cL_law 1964 = .ok (.iload 5, 2) := by decide +kernel
theorem dL_law_1966 : decode cL_law 1966 = .ok (.ifCond .ne 15, 3) := by decide +kernel
theorem dL_law_1969 : decode cL_law 1969 = .ok (.aload_n 3, 1) := by decide +kernel
theorem dL_law_1970 : decode cL_law 1970 = .ok (.iconst 0, 1) := by decide +kernel
theorem dL_law_1971 : decode cL_law 1971 = .ok (.laload, 1) := by decide +kernel
theorem dL_law_1972 : decode cL_law 1972 = .ok (.iload 6, 2) := by decide +kernel
theorem dL_law_1974 : decode cL_law 1974 = .ok (.i2l, 1) := by decide +kernel
theorem dL_law_1975 : decode cL_law 1975 = .ok (.lcmp, 1) := by decide +kernel
theorem dL_law_1976 : decode cL_law 1976 = .ok (.ifCond .eq 5, 3) := by decide +kernel
theorem dL_law_1979 : decode cL_law 1979 = .ok (.iconst 0, 1) := by decide +kernel
theorem dL_law_1980 : decode cL_law 1980 = .ok (.ireturn, 1) := by decide +kernel
theorem dL_law_1981 : decode cL_law 1981 = .ok (.goto 613, 3) := by decide +kernel
theorem dL_law_1984 : decode cL_law 1984 = .ok (.aload_n 1, 1) := by decide +kernel
theorem dL_law_1985 : decode cL_law 1985 = .ok (.aload_n 0, 1) := by decide +kernel
theorem dL_law_1986 : decode cL_law 1986 = .ok (.iload 4, 2) := by decide +kernel
theorem dL_law_1988 : decode cL_law 1988 = .ok (.iconst 1, 1) := by decide +kernel
theorem dL_law_1989 : decode cL_law 1989 = .ok (.iadd, 1) := by decide +kernel
theorem dL_law_1990 : decode cL_law 1990 = .ok (.iaload, 1) := by decide +kernel
theorem dL_law_1991 : decode cL_law 1991 = .ok (.aload_n 3, 1) := by decide +kernel
theorem dL_law_1992 : decode cL_law 1992 = .ok (.invokestatic 244, 3) := by decide +kernel
theorem dL_law_1995 : decode cL_law 1995 = .ok (.istore 5, 2) := by decide +kernel
theorem dL_law_1997 : decode cL_law 1997 = .ok (.aload_n 2, 1) := by decide +kernel
theorem dL_law_1998 : decode cL_law 1998 = .ok (.aload_n 0, 1) := by decide +kernel
theorem dL_law_1999 : decode cL_law 1999 = .ok (.iload 4, 2) := by decide +kernel
theorem dL_law_2001 : decode cL_law 2001 = .ok (.iconst 1, 1) := by decide +kernel
theorem dL_law_2002 : decode cL_law 2002 = .ok (.iadd, 1) := by decide +kernel
theorem dL_law_2003 : decode cL_law 2003 = .ok (.iaload, 1) := by decide +kernel
theorem dL_law_2004 : decode cL_law 2004 = .ok (.invokevirtual 246, 3) := by decide +kernel
theorem dL_law_2007 : decode cL_law 2007 = .ok (.istore 6, 2) := by decide +kernel
theorem dL_law_2009 : decode cL_law 2009 = .ok (.aload_n 2, 1) := by decide +kernel
theorem dL_law_2010 : decode cL_law 2010 = .ok (.invokevirtual 143, 3) := by decide +kernel
theorem dL_law_2013 : decode cL_law 2013 = .ok (.iload 5, 2) := by decide +kernel
theorem dL_law_2015 : decode cL_law 2015 = .ok (.if_icmp .eq 5, 3) := by decide +kernel
theorem dL_law_2018 : decode cL_law 2018 = .ok (.iconst 0, 1) := by decide +kernel
theorem dL_law_2019 : decode cL_law 2019 = .ok (.ireturn, 1) := by decide +kernel
theorem dL_law_2020 : decode cL_law 2020 = .ok (.iload 5, 2) := by decide +kernel
theorem dL_law_2022 : decode cL_law 2022 = .ok (.ifCond .ne 15, 3) := by decide +kernel
theorem dL_law_2025 : decode cL_law 2025 = .ok (.aload_n 3, 1) := by decide +kernel
theorem dL_law_2026 : decode cL_law 2026 = .ok (.iconst 0, 1) := by decide +kernel
theorem dL_law_2027 : decode cL_law 2027 = .ok (.laload, 1) := by decide +kernel
theorem dL_law_2028 : decode cL_law 2028 = .ok (.iload 6, 2) := by decide +kernel
theorem dL_law_2030 : decode cL_law 2030 = .ok (.i2l, 1) := by decide +kernel
theorem dL_law_2031 : decode cL_law 2031 = .ok (.lcmp, 1) := by decide +kernel
theorem dL_law_2032 : decode cL_law 2032 = .ok (.ifCond .eq 5, 3) := by decide +kernel
theorem dL_law_2035 : decode cL_law 2035 = .ok (.iconst 0, 1) := by decide +kernel
theorem dL_law_2036 : decode cL_law 2036 = .ok (.ireturn, 1) := by decide +kernel
theorem dL_law_2037 : decode cL_law 2037 = .ok (.goto 557, 3) := by decide +kernel
theorem dL_law_2040 : decode cL_law 2040 = .ok (.aload_n 1, 1) := by decide +kernel
theorem dL_law_2041 : decode cL_law 2041 = .ok (.aload_n 0, 1) := by decide +kernel
theorem dL_law_2042 : decode cL_law 2042 = .ok (.iload 4, 2) := by decide +kernel
theorem dL_law_2044 : decode cL_law 2044 = .ok (.iconst 1, 1) := by decide +kernel
theorem dL_law_2045 : decode cL_law 2045 = .ok (.iadd, 1) := by decide +kernel
theorem dL_law_2046 : decode cL_law 2046 = .ok (.iaload, 1) := by decide +kernel
theorem dL_law_2047 : decode cL_law 2047 = .ok (.aload_n 3, 1) := by decide +kernel
theorem dL_law_2048 : decode cL_law 2048 = .ok (.invokestatic 247, 3) := by decide +kernel
theorem dL_law_2051 : decode cL_law 2051 = .ok (.istore 5, 2) := by decide +kernel
theorem dL_law_2053 : decode cL_law 2053 = .ok (.aload_n 2, 1) := by decide +kernel
theorem dL_law_2054 : decode cL_law 2054 = .ok (.aload_n 0, 1) := by decide +kernel
theorem dL_law_2055 : decode cL_law 2055 = .ok (.iload 4, 2) := by decide +kernel
theorem dL_law_2057 : decode cL_law 2057 = .ok (.iconst 1, 1) := by decide +kernel
theorem dL_law_2058 : decode cL_law 2058 = .ok (.iadd, 1) := by decide +kernel
theorem dL_law_2059 : decode cL_law 2059 = .ok (.iaload, 1) := by decide +kernel
theorem dL_law_2060 : decode cL_law 2060 = .ok (.invokevirtual 249, 3) := by decide +kernel
theorem dL_law_2063 : decode cL_law 2063 = .ok (.istore 6, 2) := by decide +kernel
theorem dL_law_2065 : decode cL_law 2065 = .ok (.aload_n 2, 1) := by decide +kernel
theorem dL_law_2066 : decode cL_law 2066 = .ok (.invokevirtual 143, 3) := by decide +kernel
theorem dL_law_2069 : decode cL_law 2069 = .ok (.iload 5, 2) := by decide +kernel
theorem dL_law_2071 : decode cL_law 2071 = .ok (.if_icmp .eq 5, 3) := by decide +kernel
theorem dL_law_2074 : decode cL_law 2074 = .ok (.iconst 0, 1) := by decide +kernel
theorem dL_law_2075 : decode cL_law 2075 = .ok (.ireturn, 1) := by decide +kernel
theorem dL_law_2076 : decode cL_law 2076 = .ok (.iload 5, 2) := by decide +kernel
theorem dL_law_2078 : decode cL_law 2078 = .ok (.ifCond .ne 15, 3) := by decide +kernel
theorem dL_law_2081 : decode cL_law 2081 = .ok (.aload_n 3, 1) := by decide +kernel
theorem dL_law_2082 : decode cL_law 2082 = .ok (.iconst 0, 1) := by decide +kernel
theorem dL_law_2083 : decode cL_law 2083 = .ok (.laload, 1) := by decide +kernel
theorem dL_law_2084 : decode cL_law 2084 = .ok (.iload 6, 2) := by decide +kernel
theorem dL_law_2086 : decode cL_law 2086 = .ok (.i2l, 1) := by decide +kernel
theorem dL_law_2087 : decode cL_law 2087 = .ok (.lcmp, 1) := by decide +kernel
theorem dL_law_2088 : decode cL_law 2088 = .ok (.ifCond .eq 5, 3) := by decide +kernel
theorem dL_law_2091 : decode cL_law 2091 = .ok (.iconst 0, 1) := by decide +kernel
theorem dL_law_2092 : decode cL_law 2092 = .ok (.ireturn, 1) := by decide +kernel
theorem dL_law_2093 : decode cL_law 2093 = .ok (.goto 501, 3) := by decide +kernel
theorem dL_law_2096 : decode cL_law 2096 = .ok (.aload_n 1, 1) := by decide +kernel
theorem dL_law_2097 : decode cL_law 2097 = .ok (.aload_n 0, 1) := by decide +kernel
theorem dL_law_2098 : decode cL_law 2098 = .ok (.iload 4, 2) := by decide +kernel
theorem dL_law_2100 : decode cL_law 2100 = .ok (.iconst 1, 1) := by decide +kernel
theorem dL_law_2101 : decode cL_law 2101 = .ok (.iadd, 1) := by decide +kernel
theorem dL_law_2102 : decode cL_law 2102 = .ok (.iaload, 1) := by decide +kernel
theorem dL_law_2103 : decode cL_law 2103 = .ok (.aload_n 3, 1) := by decide +kernel
theorem dL_law_2104 : decode cL_law 2104 = .ok (.invokestatic 250, 3) := by decide +kernel
theorem dL_law_2107 : decode cL_law 2107 = .ok (.istore 5, 2) := by decide +kernel
theorem dL_law_2109 : decode cL_law 2109 = .ok (.aload_n 2, 1) := by decide +kernel
theorem dL_law_2110 : decode cL_law 2110 = .ok (.aload_n 0, 1) := by decide +kernel
theorem dL_law_2111 : decode cL_law 2111 = .ok (.iload 4, 2) := by decide +kernel
theorem dL_law_2113 : decode cL_law 2113 = .ok (.iconst 1, 1) := by decide +kernel
theorem dL_law_2114 : decode cL_law 2114 = .ok (.iadd, 1) := by decide +kernel
theorem dL_law_2115 : decode cL_law 2115 = .ok (.iaload, 1) := by decide +kernel
theorem dL_law_2116 : decode cL_law 2116 = .ok (.invokevirtual 252, 3) := by decide +kernel
theorem dL_law_2119 : decode cL_law 2119 = .ok (.istore 6, 2) := by decide +kernel
theorem dL_law_2121 : decode cL_law 2121 = .ok (.aload_n 2, 1) := by decide +kernel
theorem dL_law_2122 : decode cL_law 2122 = .ok (.invokevirtual 143, 3) := by decide +kernel
theorem dL_law_2125 : decode cL_law 2125 = .ok (.iload 5, 2) := by decide +kernel
theorem dL_law_2127 : decode cL_law 2127 = .ok (.if_icmp .eq 5, 3) := by decide +kernel
theorem dL_law_2130 : decode cL_law 2130 = .ok (.iconst 0, 1) := by decide +kernel
theorem dL_law_2131 : decode cL_law 2131 = .ok (.ireturn, 1) := by decide +kernel
theorem dL_law_2132 : decode cL_law 2132 = .ok (.iload 5, 2) := by decide +kernel
theorem dL_law_2134 : decode cL_law 2134 = .ok (.ifCond .ne 15, 3) := by decide +kernel
theorem dL_law_2137 : decode cL_law 2137 = .ok (.aload_n 3, 1) := by decide +kernel
theorem dL_law_2138 : decode cL_law 2138 = .ok (.iconst 0, 1) := by decide +kernel
theorem dL_law_2139 : decode cL_law 2139 = .ok (.laload, 1) := by decide +kernel
theorem dL_law_2140 : decode cL_law 2140 = .ok (.iload 6, 2) := by decide +kernel
theorem dL_law_2142 : decode cL_law 2142 = .ok (.i2l, 1) := by decide +kernel
theorem dL_law_2143 : decode cL_law 2143 = .ok (.lcmp, 1) := by decide +kernel
theorem dL_law_2144 : decode cL_law 2144 = .ok (.ifCond .eq 5, 3) := by decide +kernel
theorem dL_law_2147 : decode cL_law 2147 = .ok (.iconst 0, 1) := by decide +kernel
theorem dL_law_2148 : decode cL_law 2148 = .ok (.ireturn, 1) := by decide +kernel
theorem dL_law_2149 : decode cL_law 2149 = .ok (.goto 445, 3) := by decide +kernel
theorem dL_law_2152 : decode cL_law 2152 = .ok (.aload_n 1, 1) := by decide +kernel
theorem dL_law_2153 : decode cL_law 2153 = .ok (.aload_n 0, 1) := by decide +kernel
theorem dL_law_2154 : decode cL_law 2154 = .ok (.iload 4, 2) := by decide +kernel
theorem dL_law_2156 : decode cL_law 2156 = .ok (.iconst 1, 1) := by decide +kernel
theorem dL_law_2157 : decode cL_law 2157 = .ok (.iadd, 1) := by decide +kernel
theorem dL_law_2158 : decode cL_law 2158 = .ok (.iaload, 1) := by decide +kernel
theorem dL_law_2159 : decode cL_law 2159 = .ok (.aload_n 3, 1) := by decide +kernel
theorem dL_law_2160 : decode cL_law 2160 = .ok (.invokestatic 253, 3) := by decide +kernel
theorem dL_law_2163 : decode cL_law 2163 = .ok (.istore 5, 2) := by decide +kernel
theorem dL_law_2165 : decode cL_law 2165 = .ok (.aload_n 2, 1) := by decide +kernel
theorem dL_law_2166 : decode cL_law 2166 = .ok (.aload_n 0, 1) := by decide +kernel
theorem dL_law_2167 : decode cL_law 2167 = .ok (.iload 4, 2) := by decide +kernel
theorem dL_law_2169 : decode cL_law 2169 = .ok (.iconst 1, 1) := by decide +kernel
theorem dL_law_2170 : decode cL_law 2170 = .ok (.iadd, 1) := by decide +kernel
theorem dL_law_2171 : decode cL_law 2171 = .ok (.iaload, 1) := by decide +kernel
theorem dL_law_2172 : decode cL_law 2172 = .ok (.invokevirtual 255, 3) := by decide +kernel
theorem dL_law_2175 : decode cL_law 2175 = .ok (.istore 6, 2) := by decide +kernel
theorem dL_law_2177 : decode cL_law 2177 = .ok (.aload_n 2, 1) := by decide +kernel
theorem dL_law_2178 : decode cL_law 2178 = .ok (.invokevirtual 143, 3) := by decide +kernel
theorem dL_law_2181 : decode cL_law 2181 = .ok (.iload 5, 2) := by decide +kernel
theorem dL_law_2183 : decode cL_law 2183 = .ok (.if_icmp .eq 5, 3) := by decide +kernel
theorem dL_law_2186 : decode cL_law 2186 = .ok (.iconst 0, 1) := by decide +kernel
theorem dL_law_2187 : decode cL_law 2187 = .ok (.ireturn, 1) := by decide +kernel
theorem dL_law_2188 : decode cL_law 2188 = .ok (.iload 5, 2) := by decide +kernel
theorem dL_law_2190 : decode cL_law 2190 = .ok (.ifCond .ne 15, 3) := by decide +kernel
theorem dL_law_2193 : decode cL_law 2193 = .ok (.aload_n 3, 1) := by decide +kernel
theorem dL_law_2194 : decode cL_law 2194 = .ok (.iconst 0, 1) := by decide +kernel
theorem dL_law_2195 : decode cL_law 2195 = .ok (.laload, 1) := by decide +kernel
theorem dL_law_2196 : decode cL_law 2196 = .ok (.iload 6, 2) := by decide +kernel
theorem dL_law_2198 : decode cL_law 2198 = .ok (.i2l, 1) := by decide +kernel
theorem dL_law_2199 : decode cL_law 2199 = .ok (.lcmp, 1) := by decide +kernel
theorem dL_law_2200 : decode cL_law 2200 = .ok (.ifCond .eq 5, 3) := by decide +kernel
theorem dL_law_2203 : decode cL_law 2203 = .ok (.iconst 0, 1) := by decide +kernel
theorem dL_law_2204 : decode cL_law 2204 = .ok (.ireturn, 1) := by decide +kernel
theorem dL_law_2205 : decode cL_law 2205 = .ok (.goto 389, 3) := by decide +kernel
theorem dL_law_2208 : decode cL_law 2208 = .ok (.aload_n 1, 1) := by decide +kernel
theorem dL_law_2209 : decode cL_law 2209 = .ok (.aload_n 0, 1) := by decide +kernel
theorem dL_law_2210 : decode cL_law 2210 = .ok (.iload 4, 2) := by decide +kernel
theorem dL_law_2212 : decode cL_law 2212 = .ok (.iconst 1, 1) := by decide +kernel
theorem dL_law_2213 : decode cL_law 2213 = .ok (.iadd, 1) := by decide +kernel
theorem dL_law_2214 : decode cL_law 2214 = .ok (.iaload, 1) := by decide +kernel
theorem dL_law_2215 : decode cL_law 2215 = .ok (.aload_n 0, 1) := by decide +kernel
theorem dL_law_2216 : decode cL_law 2216 = .ok (.iload 4, 2) := by decide +kernel
theorem dL_law_2218 : decode cL_law 2218 = .ok (.iconst 2, 1) := by decide +kernel
theorem dL_law_2219 : decode cL_law 2219 = .ok (.iadd, 1) := by decide +kernel
theorem dL_law_2220 : decode cL_law 2220 = .ok (.iaload, 1) := by decide +kernel
theorem dL_law_2221 : decode cL_law 2221 = .ok (.aload_n 3, 1) := by decide +kernel
theorem dL_law_2222 : decode cL_law 2222 = .ok (.invokestatic 256, 3) := by decide +kernel
theorem dL_law_2225 : decode cL_law 2225 = .ok (.istore 5, 2) := by decide +kernel
theorem dL_law_2227 : decode cL_law 2227 = .ok (.aload_n 2, 1) := by decide +kernel
theorem dL_law_2228 : decode cL_law 2228 = .ok (.aload_n 0, 1) := by decide +kernel
theorem dL_law_2229 : decode cL_law 2229 = .ok (.iload 4, 2) := by decide +kernel
theorem dL_law_2231 : decode cL_law 2231 = .ok (.iconst 1, 1) := by decide +kernel
theorem dL_law_2232 : decode cL_law 2232 = .ok (.iadd, 1) := by decide +kernel
theorem dL_law_2233 : decode cL_law 2233 = .ok (.iaload, 1) := by decide +kernel
theorem dL_law_2234 : decode cL_law 2234 = .ok (.aload_n 0, 1) := by decide +kernel
theorem dL_law_2235 : decode cL_law 2235 = .ok (.iload 4, 2) := by decide +kernel
theorem dL_law_2237 : decode cL_law 2237 = .ok (.iconst 2, 1) := by decide +kernel
theorem dL_law_2238 : decode cL_law 2238 = .ok (.iadd, 1) := by decide +kernel
theorem dL_law_2239 : decode cL_law 2239 = .ok (.iaload, 1) := by decide +kernel
theorem dL_law_2240 : decode cL_law 2240 = .ok (.invokevirtual 258, 3) := by decide +kernel
theorem dL_law_2243 : decode cL_law 2243 = .ok (.istore 6, 2) := by decide +kernel
theorem dL_law_2245 : decode cL_law 2245 = .ok (.aload_n 2, 1) := by decide +kernel
theorem dL_law_2246 : decode cL_law 2246 = .ok (.invokevirtual 143, 3) := by decide +kernel
theorem dL_law_2249 : decode cL_law 2249 = .ok (.iload 5, 2) := by decide +kernel
theorem dL_law_2251 : decode cL_law 2251 = .ok (.if_icmp .eq 5, 3) := by decide +kernel
theorem dL_law_2254 : decode cL_law 2254 = .ok (.iconst 0, 1) := by decide +kernel
theorem dL_law_2255 : decode cL_law 2255 = .ok (.ireturn, 1) := by decide +kernel
theorem dL_law_2256 : decode cL_law 2256 = .ok (.iload 5, 2) := by decide +kernel
theorem dL_law_2258 : decode cL_law 2258 = .ok (.ifCond .ne 15, 3) := by decide +kernel
theorem dL_law_2261 : decode cL_law 2261 = .ok (.aload_n 3, 1) := by decide +kernel
theorem dL_law_2262 : decode cL_law 2262 = .ok (.iconst 0, 1) := by decide +kernel
theorem dL_law_2263 : decode cL_law 2263 = .ok (.laload, 1) := by decide +kernel
theorem dL_law_2264 : decode cL_law 2264 = .ok (.iload 6, 2) := by decide +kernel
theorem dL_law_2266 : decode cL_law 2266 = .ok (.i2l, 1) := by decide +kernel
theorem dL_law_2267 : decode cL_law 2267 = .ok (.lcmp, 1) := by decide +kernel
theorem dL_law_2268 : decode cL_law 2268 = .ok (.ifCond .eq 5, 3) := by decide +kernel
theorem dL_law_2271 : decode cL_law 2271 = .ok (.iconst 0, 1) := by decide +kernel
theorem dL_law_2272 : decode cL_law 2272 = .ok (.ireturn, 1) := by decide +kernel
theorem dL_law_2273 : decode cL_law 2273 = .ok (.goto 321, 3) := by decide +kernel
theorem dL_law_2276 : decode cL_law 2276 = .ok (.aload_n 1, 1) := by decide +kernel
theorem dL_law_2277 : decode cL_law 2277 = .ok (.invokevirtual 259, 3) := by decide +kernel
theorem dL_law_2280 : decode cL_law 2280 = .ok (.aload_n 2, 1) := by decide +kernel
theorem dL_law_2281 : decode cL_law 2281 = .ok (.invokevirtual 262, 3) := by decide +kernel
theorem dL_law_2284 : decode cL_law 2284 = .ok (.if_icmp .eq 310, 3) := by decide +kernel
theorem dL_law_2287 : decode cL_law 2287 = .ok (.iconst 0, 1) := by decide +kernel
theorem dL_law_2288 : decode cL_law 2288 = .ok (.ireturn, 1) := by decide +kernel
theorem dL_law_2289 : decode cL_law 2289 = .ok (.aload_n 1, 1) := by decide +kernel
theorem dL_law_2290 : decode cL_law 2290 = .ok (.aload_n 0, 1) := by decide +kernel
theorem dL_law_2291 : decode cL_law 2291 = .ok (.iload 4, 2) := by decide +kernel
theorem dL_law_2293 : decode cL_law 2293 = .ok (.iconst 1, 1) := by decide +kernel
theorem dL_law_2294 : decode cL_law 2294 = .ok (.iadd, 1) := by decide +kernel
theorem dL_law_2295 : decode cL_law 2295 = .ok (.iaload, 1) := by decide +kernel
theorem dL_law_2296 : decode cL_law 2296 = .ok (.aload_n 3, 1) := by decide +kernel
theorem dL_law_2297 : decode cL_law 2297 = .ok (.invokestatic 263, 3) := by decide +kernel
theorem dL_law_2300 : decode cL_law 2300 = .ok (.istore 5, 2) := by decide +kernel
theorem dL_law_2302 : decode cL_law 2302 = .ok (.aload_n 2, 1) := by decide +kernel
theorem dL_law_2303 : decode cL_law 2303 = .ok (.aload_n 0, 1) := by decide +kernel
theorem dL_law_2304 : decode cL_law 2304 = .ok (.iload 4, 2) := by decide +kernel
theorem dL_law_2306 : decode cL_law 2306 = .ok (.iconst 1, 1) := by decide +kernel
theorem dL_law_2307 : decode cL_law 2307 = .ok (.iadd, 1) := by decide +kernel
theorem dL_law_2308 : decode cL_law 2308 = .ok (.iaload, 1) := by decide +kernel
theorem dL_law_2309 : decode cL_law 2309 = .ok (.invokevirtual 265, 3) := by decide +kernel
theorem dL_law_2312 : decode cL_law 2312 = .ok (.istore 6, 2) := by decide +kernel
theorem dL_law_2314 : decode cL_law 2314 = .ok (.aload_n 2, 1) := by decide +kernel
theorem dL_law_2315 : decode cL_law 2315 = .ok (.invokevirtual 143, 3) := by decide +kernel
theorem dL_law_2318 : decode cL_law 2318 = .ok (.iload 5, 2) := by decide +kernel
theorem dL_law_2320 : decode cL_law 2320 = .ok (.if_icmp .eq 5, 3) := by decide +kernel
theorem dL_law_2323 : decode cL_law 2323 = .ok (.iconst 0, 1) := by decide +kernel
theorem dL_law_2324 : decode cL_law 2324 = .ok (.ireturn, 1) := by decide +kernel
theorem dL_law_2325 : decode cL_law 2325 = .ok (.iload 5, 2) := by decide +kernel
theorem dL_law_2327 : decode cL_law 2327 = .ok (.ifCond .ne 15, 3) := by decide +kernel
theorem dL_law_2330 : decode cL_law 2330 = .ok (.aload_n 3, 1) := by decide +kernel
theorem dL_law_2331 : decode cL_law 2331 = .ok (.iconst 0, 1) := by decide +kernel
theorem dL_law_2332 : decode cL_law 2332 = .ok (.laload, 1) := by decide +kernel
theorem dL_law_2333 : decode cL_law 2333 = .ok (.iload 6, 2) := by decide +kernel
theorem dL_law_2335 : decode cL_law 2335 = .ok (.i2l, 1) := by decide +kernel
theorem dL_law_2336 : decode cL_law 2336 = .ok (.lcmp, 1) := by decide +kernel
theorem dL_law_2337 : decode cL_law 2337 = .ok (.ifCond .eq 5, 3) := by decide +kernel
theorem dL_law_2340 : decode cL_law 2340 = .ok (.iconst 0, 1) := by decide +kernel
theorem dL_law_2341 : decode cL_law 2341 = .ok (.ireturn, 1) := by decide +kernel
theorem dL_law_2342 : decode cL_law 2342 = .ok (.goto 252, 3) := by decide +kernel
theorem dL_law_2345 : decode cL_law 2345 = .ok (.aload_n 1, 1) := by decide +kernel
theorem dL_law_2346 : decode cL_law 2346 = .ok (.aload_n 0, 1) := by decide +kernel
theorem dL_law_2347 : decode cL_law 2347 = .ok (.iload 4, 2) := by decide +kernel
theorem dL_law_2349 : decode cL_law 2349 = .ok (.iconst 1, 1) := by decide +kernel
theorem dL_law_2350 : decode cL_law 2350 = .ok (.iadd, 1) := by decide +kernel
theorem dL_law_2351 : decode cL_law 2351 = .ok (.iaload, 1) := by decide +kernel
theorem dL_law_2352 : decode cL_law 2352 = .ok (.aload_n 0, 1) := by decide +kernel
theorem dL_law_2353 : decode cL_law 2353 = .ok (.iload 4, 2) := by decide +kernel
theorem dL_law_2355 : decode cL_law 2355 = .ok (.iconst 2, 1) := by decide +kernel
theorem dL_law_2356 : decode cL_law 2356 = .ok (.iadd, 1) := by decide +kernel
theorem dL_law_2357 : decode cL_law 2357 = .ok (.iaload, 1) := by decide +kernel
theorem dL_law_2358 : decode cL_law 2358 = .ok (.aload_n 3, 1) := by decide +kernel
theorem dL_law_2359 : decode cL_law 2359 = .ok (.invokestatic 266, 3) := by decide +kernel
theorem dL_law_2362 : decode cL_law 2362 = .ok (.istore 5, 2) := by decide +kernel
theorem dL_law_2364 : decode cL_law 2364 = .ok (.aload_n 2, 1) := by decide +kernel
theorem dL_law_2365 : decode cL_law 2365 = .ok (.aload_n 0, 1) := by decide +kernel
theorem dL_law_2366 : decode cL_law 2366 = .ok (.iload 4, 2) := by decide +kernel
theorem dL_law_2368 : decode cL_law 2368 = .ok (.iconst 1, 1) := by decide +kernel
theorem dL_law_2369 : decode cL_law 2369 = .ok (.iadd, 1) := by decide +kernel
theorem dL_law_2370 : decode cL_law 2370 = .ok (.iaload, 1) := by decide +kernel
theorem dL_law_2371 : decode cL_law 2371 = .ok (.aload_n 0, 1) := by decide +kernel
theorem dL_law_2372 : decode cL_law 2372 = .ok (.iload 4, 2) := by decide +kernel
theorem dL_law_2374 : decode cL_law 2374 = .ok (.iconst 2, 1) := by decide +kernel
theorem dL_law_2375 : decode cL_law 2375 = .ok (.iadd, 1) := by decide +kernel
theorem dL_law_2376 : decode cL_law 2376 = .ok (.iaload, 1) := by decide +kernel
theorem dL_law_2377 : decode cL_law 2377 = .ok (.invokevirtual 268, 3) := by decide +kernel
theorem dL_law_2380 : decode cL_law 2380 = .ok (.istore 6, 2) := by decide +kernel
theorem dL_law_2382 : decode cL_law 2382 = .ok (.aload_n 2, 1) := by decide +kernel
theorem dL_law_2383 : decode cL_law 2383 = .ok (.invokevirtual 143, 3) := by decide +kernel
theorem dL_law_2386 : decode cL_law 2386 = .ok (.iload 5, 2) := by decide +kernel
theorem dL_law_2388 : decode cL_law 2388 = .ok (.if_icmp .eq 5, 3) := by decide +kernel
theorem dL_law_2391 : decode cL_law 2391 = .ok (.iconst 0, 1) := by decide +kernel
theorem dL_law_2392 : decode cL_law 2392 = .ok (.ireturn, 1) := by decide +kernel
theorem dL_law_2393 : decode cL_law 2393 = .ok (.iload 5, 2) := by decide +kernel
theorem dL_law_2395 : decode cL_law 2395 = .ok (.ifCond .ne 15, 3) := by decide +kernel
theorem dL_law_2398 : decode cL_law 2398 = .ok (.aload_n 3, 1) := by decide +kernel
theorem dL_law_2399 : decode cL_law 2399 = .ok (.iconst 0, 1) := by decide +kernel
theorem dL_law_2400 : decode cL_law 2400 = .ok (.laload, 1) := by decide +kernel
theorem dL_law_2401 : decode cL_law 2401 = .ok (.iload 6, 2) := by decide +kernel
theorem dL_law_2403 : decode cL_law 2403 = .ok (.i2l, 1) := by decide +kernel
theorem dL_law_2404 : decode cL_law 2404 = .ok (.lcmp, 1) := by decide +kernel
theorem dL_law_2405 : decode cL_law 2405 = .ok (.ifCond .eq 5, 3) := by decide +kernel
theorem dL_law_2408 : decode cL_law 2408 = .ok (.iconst 0, 1) := by decide +kernel
theorem dL_law_2409 : decode cL_law 2409 = .ok (.ireturn, 1) := by decide +kernel
theorem dL_law_2410 : decode cL_law 2410 = .ok (.goto 184, 3) := by decide +kernel
theorem dL_law_2413 : decode cL_law 2413 = .ok (.aload_n 1, 1) := by decide +kernel
theorem dL_law_2414 : decode cL_law 2414 = .ok (.invokevirtual 269, 3) := by decide +kernel
theorem dL_law_2417 : decode cL_law 2417 = .ok (.aload_n 2, 1) := by decide +kernel
theorem dL_law_2418 : decode cL_law 2418 = .ok (.invokevirtual 272, 3) := by decide +kernel
theorem dL_law_2421 : decode cL_law 2421 = .ok (.if_icmp .eq 173, 3) := by decide +kernel
theorem dL_law_2424 : decode cL_law 2424 = .ok (.iconst 0, 1) := by decide +kernel
theorem dL_law_2425 : decode cL_law 2425 = .ok (.ireturn, 1) := by decide +kernel
theorem dL_law_2426 : decode cL_law 2426 = .ok (.aload_n 1, 1) := by decide +kernel
theorem dL_law_2427 : decode cL_law 2427 = .ok (.aload_n 0, 1) := by decide +kernel
theorem dL_law_2428 : decode cL_law 2428 = .ok (.iload 4, 2) := by decide +kernel
theorem dL_law_2430 : decode cL_law 2430 = .ok (.iconst 1, 1) := by decide +kernel
theorem dL_law_2431 : decode cL_law 2431 = .ok (.iadd, 1) := by decide +kernel
theorem dL_law_2432 : decode cL_law 2432 = .ok (.iaload, 1) := by decide +kernel
theorem dL_law_2433 : decode cL_law 2433 = .ok (.aload_n 3, 1) := by decide +kernel
theorem dL_law_2434 : decode cL_law 2434 = .ok (.invokestatic 273, 3) := by decide +kernel
theorem dL_law_2437 : decode cL_law 2437 = .ok (.istore 5, 2) := by decide +kernel
theorem dL_law_2439 : decode cL_law 2439 = .ok (.aload_n 2, 1) := by decide +kernel
theorem dL_law_2440 : decode cL_law 2440 = .ok (.aload_n 0, 1) := by decide +kernel
theorem dL_law_2441 : decode cL_law 2441 = .ok (.iload 4, 2) := by decide +kernel
theorem dL_law_2443 : decode cL_law 2443 = .ok (.iconst 1, 1) := by decide +kernel
theorem dL_law_2444 : decode cL_law 2444 = .ok (.iadd, 1) := by decide +kernel
theorem dL_law_2445 : decode cL_law 2445 = .ok (.iaload, 1) := by decide +kernel
theorem dL_law_2446 : decode cL_law 2446 = .ok (.invokevirtual 275, 3) := by decide +kernel
theorem dL_law_2449 : decode cL_law 2449 = .ok (.istore 6, 2) := by decide +kernel
theorem dL_law_2451 : decode cL_law 2451 = .ok (.aload_n 2, 1) := by decide +kernel
theorem dL_law_2452 : decode cL_law 2452 = .ok (.invokevirtual 143, 3) := by decide +kernel
theorem dL_law_2455 : decode cL_law 2455 = .ok (.iload 5, 2) := by decide +kernel
theorem dL_law_2457 : decode cL_law 2457 = .ok (.if_icmp .eq 5, 3) := by decide +kernel
theorem dL_law_2460 : decode cL_law 2460 = .ok (.iconst 0, 1) := by decide +kernel
theorem dL_law_2461 : decode cL_law 2461 = .ok (.ireturn, 1) := by decide +kernel
theorem dL_law_2462 : decode cL_law 2462 = .ok (.iload 5, 2) := by decide +kernel
theorem dL_law_2464 : decode cL_law 2464 = .ok (.ifCond .ne 15, 3) := by decide +kernel
theorem dL_law_2467 : decode cL_law 2467 = .ok (.aload_n 3, 1) := by decide +kernel
theorem dL_law_2468 : decode cL_law 2468 = .ok (.iconst 0, 1) := by decide +kernel
theorem dL_law_2469 : decode cL_law 2469 = .ok (.laload, 1) := by decide +kernel
theorem dL_law_2470 : decode cL_law 2470 = .ok (.iload 6, 2) := by decide +kernel
theorem dL_law_2472 : decode cL_law 2472 = .ok (.i2l, 1) := by decide +kernel
theorem dL_law_2473 : decode cL_law 2473 = .ok (.lcmp, 1) := by decide +kernel
theorem dL_law_2474 : decode cL_law 2474 = .ok (.ifCond .eq 5, 3) := by decide +kernel
theorem dL_law_2477 : decode cL_law 2477 = .ok (.iconst 0, 1) := by decide +kernel
theorem dL_law_2478 : decode cL_law 2478 = .ok (.ireturn, 1) := by decide +kernel
theorem dL_law_2479 : decode cL_law 2479 = .ok (.goto 115, 3) := by decide +kernel
theorem dL_law_2482 : decode cL_law 2482 = .ok (.aload_n 1, 1) := by decide +kernel
theorem dL_law_2483 : decode cL_law 2483 = .ok (.aload_n 0, 1) := by decide +kernel
theorem dL_law_2484 : decode cL_law 2484 = .ok (.iload 4, 2) := by decide +kernel
theorem dL_law_2486 : decode cL_law 2486 = .ok (.iconst 1, 1) := by decide +kernel
theorem dL_law_2487 : decode cL_law 2487 = .ok (.iadd, 1) := by decide +kernel
theorem dL_law_2488 : decode cL_law 2488 = .ok (.iaload, 1) := by decide +kernel
theorem dL_law_2489 : decode cL_law 2489 = .ok (.aload_n 3, 1) := by decide +kernel
theorem dL_law_2490 : decode cL_law 2490 = .ok (.invokestatic 276, 3) := by decide +kernel
theorem dL_law_2493 : decode cL_law 2493 = .ok (.istore 5, 2) := by decide +kernel
theorem dL_law_2495 : decode cL_law 2495 = .ok (.aload_n 2, 1) := by decide +kernel
theorem dL_law_2496 : decode cL_law 2496 = .ok (.aload_n 0, 1) := by decide +kernel
theorem dL_law_2497 : decode cL_law 2497 = .ok (.iload 4, 2) := by decide +kernel
theorem dL_law_2499 : decode cL_law 2499 = .ok (.iconst 1, 1) := by decide +kernel
theorem dL_law_2500 : decode cL_law 2500 = .ok (.iadd, 1) := by decide +kernel
theorem dL_law_2501 : decode cL_law 2501 = .ok (.iaload, 1) := by decide +kernel
theorem dL_law_2502 : decode cL_law 2502 = .ok (.invokevirtual 278, 3) := by decide +kernel
theorem dL_law_2505 : decode cL_law 2505 = .ok (.istore 6, 2) := by decide +kernel
theorem dL_law_2507 : decode cL_law 2507 = .ok (.aload_n 2, 1) := by decide +kernel
theorem dL_law_2508 : decode cL_law 2508 = .ok (.invokevirtual 143, 3) := by decide +kernel
theorem dL_law_2511 : decode cL_law 2511 = .ok (.iload 5, 2) := by decide +kernel
theorem dL_law_2513 : decode cL_law 2513 = .ok (.if_icmp .eq 5, 3) := by decide +kernel
theorem dL_law_2516 : decode cL_law 2516 = .ok (.iconst 0, 1) := by decide +kernel
theorem dL_law_2517 : decode cL_law 2517 = .ok (.ireturn, 1) := by decide +kernel
theorem dL_law_2518 : decode cL_law 2518 = .ok (.iload 5, 2) := by decide +kernel
theorem dL_law_2520 : decode cL_law 2520 = .ok (.ifCond .ne 15, 3) := by decide +kernel
theorem dL_law_2523 : decode cL_law 2523 = .ok (.aload_n 3, 1) := by decide +kernel
theorem dL_law_2524 : decode cL_law 2524 = .ok (.iconst 0, 1) := by decide +kernel
theorem dL_law_2525 : decode cL_law 2525 = .ok (.laload, 1) := by decide +kernel
theorem dL_law_2526 : decode cL_law 2526 = .ok (.iload 6, 2) := by decide +kernel
theorem dL_law_2528 : decode cL_law 2528 = .ok (.i2l, 1) := by decide +kernel
theorem dL_law_2529 : decode cL_law 2529 = .ok (.lcmp, 1) := by decide +kernel
theorem dL_law_2530 : decode cL_law 2530 = .ok (.ifCond .eq 5, 3) := by decide +kernel
theorem dL_law_2533 : decode cL_law 2533 = .ok (.iconst 0, 1) := by decide +kernel
theorem dL_law_2534 : decode cL_law 2534 = .ok (.ireturn, 1) := by decide +kernel
theorem dL_law_2535 : decode cL_law 2535 = .ok (.goto 59, 3) := by decide +kernel
theorem dL_law_2538 : decode cL_law 2538 = .ok (.aload_n 1, 1) := by decide +kernel
theorem dL_law_2539 : decode cL_law 2539 = .ok (.aload_n 0, 1) := by decide +kernel
theorem dL_law_2540 : decode cL_law 2540 = .ok (.iload 4, 2) := by decide +kernel
theorem dL_law_2542 : decode cL_law 2542 = .ok (.iconst 1, 1) := by decide +kernel
theorem dL_law_2543 : decode cL_law 2543 = .ok (.iadd, 1) := by decide +kernel
theorem dL_law_2544 : decode cL_law 2544 = .ok (.iaload, 1) := by decide +kernel
theorem dL_law_2545 : decode cL_law 2545 = .ok (.aload_n 3, 1) := by decide +kernel
theorem dL_law_2546 : decode cL_law 2546 = .ok (.invokestatic 279, 3) := by decide +kernel
theorem dL_law_2549 : decode cL_law 2549 = .ok (.istore 5, 2) := by decide +kernel
theorem dL_law_2551 : decode cL_law 2551 = .ok (.aload_n 2, 1) := by decide +kernel
theorem dL_law_2552 : decode cL_law 2552 = .ok (.aload_n 0, 1) := by decide +kernel
theorem dL_law_2553 : decode cL_law 2553 = .ok (.iload 4, 2) := by decide +kernel
theorem dL_law_2555 : decode cL_law 2555 = .ok (.iconst 1, 1) := by decide +kernel
theorem dL_law_2556 : decode cL_law 2556 = .ok (.iadd, 1) := by decide +kernel
theorem dL_law_2557 : decode cL_law 2557 = .ok (.iaload, 1) := by decide +kernel
theorem dL_law_2558 : decode cL_law 2558 = .ok (.invokevirtual 281, 3) := by decide +kernel
theorem dL_law_2561 : decode cL_law 2561 = .ok (.istore 6, 2) := by decide +kernel
theorem dL_law_2563 : decode cL_law 2563 = .ok (.aload_n 2, 1) := by decide +kernel
theorem dL_law_2564 : decode cL_law 2564 = .ok (.invokevirtual 143, 3) := by decide +kernel
theorem dL_law_2567 : decode cL_law 2567 = .ok (.iload 5, 2) := by decide +kernel
theorem dL_law_2569 : decode cL_law 2569 = .ok (.if_icmp .eq 5, 3) := by decide +kernel
theorem dL_law_2572 : decode cL_law 2572 = .ok (.iconst 0, 1) := by decide +kernel
theorem dL_law_2573 : decode cL_law 2573 = .ok (.ireturn, 1) := by decide +kernel
theorem dL_law_2574 : decode cL_law 2574 = .ok (.iload 5, 2) := by decide +kernel
theorem dL_law_2576 : decode cL_law 2576 = .ok (.ifCond .ne 15, 3) := by decide +kernel
theorem dL_law_2579 : decode cL_law 2579 = .ok (.aload_n 3, 1) := by decide +kernel
theorem dL_law_2580 : decode cL_law 2580 = .ok (.iconst 0, 1) := by decide +kernel
theorem dL_law_2581 : decode cL_law 2581 = .ok (.laload, 1) := by decide +kernel
theorem dL_law_2582 : decode cL_law 2582 = .ok (.iload 6, 2) := by decide +kernel
theorem dL_law_2584 : decode cL_law 2584 = .ok (.i2l, 1) := by decide +kernel
theorem dL_law_2585 : decode cL_law 2585 = .ok (.lcmp, 1) := by decide +kernel
theorem dL_law_2586 : decode cL_law 2586 = .ok (.ifCond .eq 5, 3) := by decide +kernel
theorem dL_law_2589 : decode cL_law 2589 = .ok (.iconst 0, 1) := by decide +kernel
theorem dL_law_2590 : decode cL_law 2590 = .ok (.ireturn, 1) := by decide +kernel
theorem dL_law_2591 : decode cL_law 2591 = .ok (.goto 3, 3) := by decide +kernel
theorem dL_law_2594 : decode cL_law 2594 = .ok (.iinc 4 5, 3) := by decide +kernel
theorem dL_law_2597 : decode cL_law 2597 = .ok (.goto (-2574), 3) := by decide +kernel
theorem dL_law_2600 : decode cL_law 2600 = .ok (.iconst 1, 1) := by decide +kernel
theorem dL_law_2601 : decode cL_law 2601 = .ok (.ireturn, 1) := by decide +kernel
end
section
/-! THE ABSTRACT MACHINE: the heap as numbers (a cell by its index, a slot by its place), and the judgement zG over it -/
def zgd : Cond → Bool
  | .declares _ => true
  | .castable _ _ => true
  | .methodLinkNest _ _ _ _ => true
  | .stringRef _ _ _ => true
  | w => goodWord w
theorem zstr {own tx : String} {k : Nat} {s : State} {a : Array Value} (h : (Cond.stringRef own k tx).before a s = true) : ∃ q, vk_R own k tx q s := by
  have hcur : ∃ cur, s.vm.findClass own = some cur := by
    have h1 := h
    simp only [Cond.before, Cond.holds, Cond.value] at h1
    cases hc : s.vm.findClass own with
    | none => simp [hc] at h1
    | some cur => exact ⟨cur, rfl⟩
  obtain ⟨cur, hcur⟩ := hcur
  have h0 : (Cond.stringRef own k tx).before #[] s = true := h
  obtain ⟨_, _, _, q, -, -, -, -, -, hev⟩ := Cond.stringRef_spec hcur h0
  exact ⟨q, vk_R.of h0 hev⟩
theorem zstr_warm {own tx : String} {k : Nat} {s U : State} (hW : s.WarmedH U.vm) {a a' : Array Value} (h : (Cond.stringRef own k tx).before a s = true) : (Cond.stringRef own k tx).before a' U = true := by
  obtain ⟨q, hq⟩ := zstr h
  exact (vk_R.warm hW hq).1
theorem zgd_warm {w : Cond} (hg : zgd w = true) {s U : State} (hW : s.WarmedH U.vm) {a a' : Array Value} (h : w.before a s = true) : w.before a' U = true := by
  cases w <;> first
    | exact va_Nw.use rfl (va_Nw.warmD hW (va_Nw.of rfl h))
    | exact va_Nw.use rfl (va_Nw.warmC hW (va_Nw.of rfl h))
    | exact va_Nw.use rfl (va_Nw.warmM hW (va_Nw.of rfl h))
    | exact zstr_warm hW h
    | exact word_at hW (good_of_word hg) h
def zTs : List Cond := lw_tbl.filter zgd
theorem zTs_in {w : Cond} (h : w ∈ lw_tbl) (hg : zgd w = true) : w ∈ zTs := List.mem_filter.mpr ⟨h, hg⟩
theorem zTs_at (i : Nat) {w : Cond} (h : lw_tbl[i]? = some w) (hg : zgd w = true) : w ∈ zTs := zTs_in (List.mem_of_getElem? h) hg
abbrev zMem : Type := (Nat → Nat → Int32) × (Nat → Nat → Int64)
abbrev zR1 : Type := (Int32 ⊕ Nat) × zMem
abbrev zRES : Type := Option zR1
abbrev zZ : Type := va_G × ClassId × ClassId × ClassId
def zsI (M : zMem) (k j : Nat) (x : Int32) : zMem := (fun a => if a = k then upd (M.1 a) j x else M.1 a, M.2)
def zsL (M : zMem) (k j : Nat) (x : Int64) : zMem := (M.1, fun a => if a = k then vp_updL (M.2 a) j x else M.2 a)
/-- the index is in range -/
def zin (i : Int32) (n : Nat) : Bool := !(decide (i < 0)) && decide (i.toNatClampNeg < n)
theorem zin_in {i : Int32} {n : Nat} (h : zin i n = true) : vp_in i n := by
  simp only [zin, Bool.and_eq_true, Bool.not_eq_true', decide_eq_false_iff_not, decide_eq_true_eq] at h
  rintro (q | q)
  · exact h.1 q
  · omega
theorem zin_lt {i : Int32} {n : Nat} (h : zin i n = true) : i.toNatClampNeg < n := by
  simp only [zin, Bool.and_eq_true, Bool.not_eq_true', decide_eq_false_iff_not, decide_eq_true_eq] at h
  exact h.2
/-- which cell is what: (0, the class), (1, an int row of so many), (2, a long row of so many), (3, a row of so many int rows, which come behind it) -/
def zK : Nat → Nat × Nat := fun k => match k with
  | 0 => (0, 7)
  | 1 => (0, 0) | 2 => (1, 5) | 3 => (1, 5) | 4 => (1, 5) | 5 => (1, 5) | 6 => (3, 5) | 7 => (1, 20) | 8 => (1, 20) | 9 => (1, 20) | 10 => (1, 20) | 11 => (1, 20) | 12 => (1, 5) | 13 => (1, 60) | 14 => (1, 60)
  | 15 => (0, 0) | 16 => (1, 5) | 17 => (1, 5) | 18 => (1, 5) | 19 => (1, 5) | 20 => (3, 5) | 21 => (1, 20) | 22 => (1, 20) | 23 => (1, 20) | 24 => (1, 20) | 25 => (1, 20) | 26 => (1, 5) | 27 => (1, 60) | 28 => (1, 60)
  | 29 => (0, 3) | 30 => (1, 512) | 31 => (1, 512) | 32 => (1, 512)
  | 33 => (0, 6) | 34 => (1, 60) | 35 => (1, 60) | 36 => (1, 60)
  | 37 => (0, 2) | 38 => (3, 5) | 39 => (1, 200) | 40 => (1, 200) | 41 => (1, 200) | 42 => (1, 200) | 43 => (1, 200) | 44 => (1, 5)
  | 45 => (0, 4) | 46 => (3, 5) | 47 => (1, 51) | 48 => (1, 51) | 49 => (1, 51) | 50 => (1, 51) | 51 => (1, 51) | 52 => (1, 5)
  | 53 => (0, 1) | 54 => (1, 60) | 55 => (1, 60) | 56 => (1, 60) | 57 => (1, 60)
  | 58 => (0, 5) | 59 => (1, 512) | 60 => (1, 512) | 61 => (1, 512)
  | 62 => (0, 8) | 63 => (1, 5) | 64 => (1, 5) | 65 => (1, 5) | 66 => (1, 5) | 67 => (1, 100) | 68 => (1, 5) | 69 => (1, 60) | 70 => (1, 60) | 71 => (1, 60) | 72 => (1, 60) | 73 => (1, 60) | 74 => (1, 60)
  | 75 => (1, 5255) | 76 => (1, 16) | 77 => (1, 1000) | 78 => (1, 5) | 79 => (1, 5) | 80 => (1, 60) | 81 => (1, 60) | 82 => (1, 60) | 83 => (1, 60) | 84 => (1, 2400) | 85 => (1, 2400) | 86 => (1, 2400)
  | 87 => (2, 1)
  | _ => (9, 0)
def zfull : Nat → Bool := fun k => decide (k < 88)
/-- the fields of an object, by its class -/
def zF (ci : Nat) (ad : Nat → Nat) (k : Nat) (f : Nat → Int32) (g : Nat → Int64) : List Value := match ci with
  | 0 => [.int (f 0), .ref (ad (k + 1)), .ref (ad (k + 2)), .ref (ad (k + 3)), .ref (ad (k + 4)), .ref (ad (k + 5)), .ref (ad (k + 11)), .int (f 7), .ref (ad (k + 12)), .ref (ad (k + 13)), .long (g 10), .long (g 11)]
  | 1 => [.int (f 0), .ref (ad (k + 1)), .ref (ad (k + 2)), .ref (ad (k + 3)), .ref (ad (k + 4))]
  | 2 => [.int (f 0), .int (f 1), .ref (ad (k + 1)), .ref (ad (k + 7))]
  | 3 => [.int (f 0), .ref (ad (k + 1)), .ref (ad (k + 2)), .ref (ad (k + 3))]
  | 4 => [.int (f 0), .ref (ad (k + 1)), .ref (ad (k + 7))]
  | 5 => [.int (f 0), .ref (ad (k + 1)), .ref (ad (k + 2)), .ref (ad (k + 3))]
  | 6 => [.ref (ad (k + 1)), .ref (ad (k + 2)), .ref (ad (k + 3))]
  | 7 => [.ref (ad (k + 1)), .ref (ad (k + 15)), .ref (ad (k + 29)), .ref (ad (k + 33)), .ref (ad (k + 37)), .ref (ad (k + 45)), .ref (ad (k + 53)), .ref (ad (k + 58))]
  | 8 => [.int (f 0), .ref (ad (k + 1)), .ref (ad (k + 2)), .ref (ad (k + 3)), .ref (ad (k + 4)), .ref (ad (k + 5)), .ref (ad (k + 6)), .int (f 7), .ref (ad (k + 7)), .ref (ad (k + 8)), .ref (ad (k + 9)), .ref (ad (k + 10)), .ref (ad (k + 11)), .ref (ad (k + 12)), .int (f 14), .ref (ad (k + 13)), .int (f 16), .ref (ad (k + 14)), .ref (ad (k + 15)), .ref (ad (k + 16)), .ref (ad (k + 17)), .int (f 21), .ref (ad (k + 18)), .ref (ad (k + 19)), .ref (ad (k + 20)), .ref (ad (k + 21)), .int (f 26), .ref (ad (k + 22)), .ref (ad (k + 23)), .ref (ad (k + 24)), .int (f 30)]
  | _ => []
def zE (Z : zZ) (ad : Nat → Nat) (k : Nat) (f : Nat → Int32) (g : Nat → Int64) : va_E := match (zK k).1 with
  | 0 => .inr ((zK k).2, zF (zK k).2 ad k f g)
  | 1 => .inl (Z.2.1, (zK k).2, .inl f)
  | 2 => .inl (Z.2.2.1, (zK k).2, .inr (.inl g))
  | _ => .inl (Z.2.2.2, (zK k).2, .inr (.inr (.inr (.inr (fun i => if i < (zK k).2 then some (ad (k + 1 + i)) else none)))))
theorem zE_0 {Z : zZ} {ad : Nat → Nat} {k ci : Nat} {f : Nat → Int32} {g : Nat → Int64} (h : zK k = (0, ci)) : zE Z ad k f g = .inr (ci, zF ci ad k f g) := by simp only [zE, h]
theorem zE_1 {Z : zZ} {ad : Nat → Nat} {k n : Nat} {f : Nat → Int32} {g : Nat → Int64} (h : zK k = (1, n)) : zE Z ad k f g = .inl (Z.2.1, n, .inl f) := by simp only [zE, h]
theorem zE_2 {Z : zZ} {ad : Nat → Nat} {k n : Nat} {f : Nat → Int32} {g : Nat → Int64} (h : zK k = (2, n)) : zE Z ad k f g = .inl (Z.2.2.1, n, .inr (.inl g)) := by simp only [zE, h]
theorem zE_3 {Z : zZ} {ad : Nat → Nat} {k n : Nat} {f : Nat → Int32} {g : Nat → Int64} (h : zK k = (3, n)) : zE Z ad k f g = .inl (Z.2.2.2, n, .inr (.inr (.inr (.inr (fun i => if i < n then some (ad (k + 1 + i)) else none))))) := by simp only [zE, h]
/-- the world: every cell that lives holds what the numbers say, and the cells are apart -/
def zW (Z : zZ) (lv : Nat → Bool) (ad : Nat → Nat) (M : zMem) (H : Heap) : Prop := (∀ k, lv k = true → va_at Z.1 vwCl (ad k, zE Z ad k (M.1 k) (M.2 k)) H) ∧ ∀ i j, lv i = true → lv j = true → ad i = ad j → i = j
def zA (lv : Nat → Bool) (ad : Nat → Nat) (sz : Nat) : Nat → Prop := fun q => (∃ k, lv k = true ∧ q = ad k) ∨ sz ≤ q
theorem zW.kept {Z : zZ} {lv : Nat → Bool} {ad : Nat → Nat} {M : zMem} {H H1 : Heap} (h : zW Z lv ad M H) (hq : ∀ k, lv k = true → H1[ad k]? = H[ad k]?) : zW Z lv ad M H1 := ⟨fun k hk => (h.1 k hk).kept (hq k hk), h.2⟩
theorem zW.lt {Z : zZ} {lv : Nat → Bool} {ad : Nat → Nat} {M : zMem} {H : Heap} (h : zW Z lv ad M H) {k : Nat} (hk : lv k = true) : ad k < H.size := (h.1 k hk).lt
theorem zW.setI {Z : zZ} {lv : Nat → Bool} {ad : Nat → Nat} {M : zMem} {H H1 : Heap} (h : zW Z lv ad M H) {k j : Nat} {x : Int32} (hk : lv k = true) (he : va_at Z.1 vwCl (ad k, zE Z ad k (upd (M.1 k) j x) (M.2 k)) H1) (oq : ∀ q : Nat, q ≠ ad k → H1[q]? = H[q]?) : zW Z lv ad (zsI M k j x) H1 := by
  refine ⟨fun i hi => ?_, h.2⟩
  by_cases e : i = k
  · subst e
    have e1 : (zsI M i j x).1 i = upd (M.1 i) j x := if_pos rfl
    rw [e1]
    exact he
  · have e1 : (zsI M k j x).1 i = M.1 i := if_neg e
    rw [e1]
    exact (h.1 i hi).kept (oq _ (fun q => e (h.2 i k hi hk q)))
theorem zW.setL {Z : zZ} {lv : Nat → Bool} {ad : Nat → Nat} {M : zMem} {H H1 : Heap} (h : zW Z lv ad M H) {k j : Nat} {x : Int64} (hk : lv k = true) (he : va_at Z.1 vwCl (ad k, zE Z ad k (M.1 k) (vp_updL (M.2 k) j x)) H1) (oq : ∀ q : Nat, q ≠ ad k → H1[q]? = H[q]?) : zW Z lv ad (zsL M k j x) H1 := by
  refine ⟨fun i hi => ?_, h.2⟩
  by_cases e : i = k
  · subst e
    have e1 : (zsL M i j x).2 i = vp_updL (M.2 i) j x := if_pos rfl
    rw [e1]
    exact he
  · have e1 : (zsL M k j x).2 i = M.2 i := if_neg e
    rw [e1]
    exact (h.1 i hi).kept (oq _ (fun q => e (h.2 i k hi hk q)))
theorem zone {D : va_G} {cl : List vw_C} {q : Nat × va_E} {H : Heap} (h : va_at D cl q H) : va_P D cl [q] H := by
  intro i q' hq
  match i, hq with
  | 0, hq => cases hq; exact h
  | i + 1, hq => simp at hq
def zNcs : List (String × String) := [("java/lang/IndexOutOfBoundsException", "java/lang/IllegalArgumentException"), ("java/lang/IndexOutOfBoundsException", "java/lang/IllegalStateException"), ("java/lang/IllegalArgumentException", "java/lang/IndexOutOfBoundsException"), ("java/lang/IllegalArgumentException", "java/lang/IllegalStateException"), ("java/lang/IllegalStateException", "java/lang/IndexOutOfBoundsException"), ("java/lang/IllegalStateException", "java/lang/IllegalArgumentException")]
def zty (Z : zZ) : List (ClassId × FieldType) := [(Z.2.1, .int), (Z.2.2.1, .long), (Z.2.2.2, .array .int)]
/-- what holds of the machine's tables, all along -/
def zS (Z : zZ) (s : State) : Prop := (∀ w ∈ zTs, ∀ a, w.before a s = true) ∧ va_K Z.1 vwCl (zty Z) s ∧ ∀ q ∈ zNcs, va_Nc q.1 q.2 s
theorem zS.warm {Z : zZ} {s U : State} (h : zS Z s) (hW : s.WarmedH U.vm) : zS Z U :=
  ⟨fun w hw a => zgd_warm (List.mem_filter.mp hw).2 hW (h.1 w hw a), va_K.moved hW.alike h.2.1, fun q hq => va_Nc.moved hW.alike (h.2.2 q hq)⟩
/-- the two statics that a throw reads -/
def zQ (A : Nat → Prop) (U : State) (H : Heap) : Prop := vx_Zq Bundle.tN "UNASSIGNED_STACK" Bundle.steD A U H ∧ vx_Zq Bundle.tN "SUPPRESSED_SENTINEL" Bundle.listD A U H
theorem zQ.go {A B : Nat → Prop} {s U : State} {H0 H1 : Heap} (h : zQ A s H0) (hvm : s.vm.Alike U.vm) (hq : ∀ a : Nat, a < H0.size → ¬ A a → H1[a]? = H0[a]?) (hAB : ∀ q, B q → A q) : zQ B U H1 :=
  ⟨((h.1.moved hvm).kept hq).narrow hAB, ((h.2.moved hvm).kept hq).narrow hAB⟩
abbrev zX : Type := Program × Env × Room × State × MethodId × Array Value × List Frame × Method × Code × (Nat → Prop) × Nat × (zR1 → State → Prop)
/-- from the frame at pc, with these locals and this stack over the world M, the machine comes to the end that o tells (if o tells one) -/
def zG (l : Launch) (Z : zZ) (lv : Nat → Bool) (ad : Nat → Nat) (X : zX) (cs : Nat × Nat) (pc : Nat) (L : List (Nat × Value)) (S : List Value) (M : zMem) (o : zRES) : Prop := match X with
  | (p, e, R, s, m, args, below, meth, c, A, nL, Qf) => ∀ r : zR1, o = some r → (∀ x, r.1 = .inr x → cs.1 + 1 ≤ R.cells ∧ cs.2 + 6 ≤ R.slots) → ∀ (H : Heap) (locs : List Loc) (ls : Array Slot), zW Z lv ad M H → va_S A s.heap H locs → lv_has ls nL L →
      W p l e R s m args below meth c H locs cs.1 cs.2 (Qf r) (F0 m pc ls S)
def zC (l : Launch) (Z : zZ) (lv : Nat → Bool) (ad : Nat → Nat) (X : zX) (own : String) (cc : ByteArray) (nL : Nat) (ret : Option FieldType) (d : Nat) : Prop := match X with
  | (p, e, R, s, m, args, below, meth, c, A, nL', Qf) => p.tables.exec = Jvm.exec ∧ c.code = cc ∧ (nL' = nL ∧ c.maxLocals = nL) ∧ s.vm.findClass own = some m.cls ∧ zS Z s ∧ l.stackTraces = false ∧ meth.locks = false ∧ meth.sig.returnType = ret ∧ (d ≤ R.frames ∧ 34 * d + 22 ≤ R.locals) ∧ (∀ q, s.heap.size ≤ q → A q) ∧ (∀ k, lv k = true → A (ad k)) ∧ zQ A s s.heap
theorem zg_none {l : Launch} {Z : zZ} {lv : Nat → Bool} {ad : Nat → Nat} {X : zX} {cs : Nat × Nat} {pc : Nat} {L : List (Nat × Value)} {S : List Value} {M : zMem} : zG l Z lv ad X cs pc L S M none := by
  obtain ⟨p, e, R, s, m, args, below, meth, c, A, nL, Qf⟩ := X
  intro r h
  cases h
section ZG
variable {l : Launch} {Z : zZ} {lv : Nat → Bool} {ad : Nat → Nat} {X : zX} {cs : Nat × Nat} {own : String} {cc : ByteArray} {nL : Nat} {ret : Option FieldType} {d : Nat} {pc : Nat} {L L' : List (Nat × Value)} {S : List Value} {M : zMem} {o o1 o2 : zRES}
theorem zg_eq {o' : zRES} (h : o = o') (k : zG l Z lv ad X cs pc L S M o') : zG l Z lv ad X cs pc L S M o := h ▸ k
theorem zg_sub (ps : List Nat) (hl : lv_pick L ps = L') (k : zG l Z lv ad X cs pc L' S M o) : zG l Z lv ad X cs pc L S M o := by
  obtain ⟨p, e, R, s, m, args, below, meth, c, A, nL, Qf⟩ := X
  intro r hr hx H locs ls hW hS hL
  exact k r hr hx H locs ls hW hS (lv_sub hL ps hl)
theorem zg_iconst (hC : zC l Z lv ad X own cc nL ret d) {n : Int} {v : Int32} (hd : decode cc pc = .ok (.iconst n, 1)) (hv : Int32.ofInt n = v) (k : zG l Z lv ad X cs (pc + 1) L (.int v :: S) M o) : zG l Z lv ad X cs pc L S M o := by
  obtain ⟨p, e, R, s, m, args, below, meth, c, A, nL, Qf⟩ := X
  intro r hr hx H locs ls hW hS hL
  exact lv_iconst hC.1 hC.2.1 hd hv (k r hr hx H locs ls hW hS hL)
theorem zg_bipush (hC : zC l Z lv ad X own cc nL ret d) {n : Int} {v : Int32} (hd : decode cc pc = .ok (.bipush n, 2)) (hv : (Int8.ofInt n).toInt32 = v) (k : zG l Z lv ad X cs (pc + 2) L (.int v :: S) M o) : zG l Z lv ad X cs pc L S M o := by
  obtain ⟨p, e, R, s, m, args, below, meth, c, A, nL, Qf⟩ := X
  intro r hr hx H locs ls hW hS hL
  exact lv_bipush hC.1 hC.2.1 hd hv (k r hr hx H locs ls hW hS hL)
theorem zg_sipush (hC : zC l Z lv ad X own cc nL ret d) {n : Int} {v : Int32} (hd : decode cc pc = .ok (.sipush n, 3)) (hv : (Int16.ofInt n).toInt32 = v) (k : zG l Z lv ad X cs (pc + 3) L (.int v :: S) M o) : zG l Z lv ad X cs pc L S M o := by
  obtain ⟨p, e, R, s, m, args, below, meth, c, A, nL, Qf⟩ := X
  intro r hr hx H locs ls hW hS hL
  exact lv_sipush hC.1 hC.2.1 hd hv (k r hr hx H locs ls hW hS hL)
theorem zg_lconst (hC : zC l Z lv ad X own cc nL ret d) {n : Fin 2} {v : Int64} (hd : decode cc pc = .ok (.lconst n, 1)) (hv : Int64.ofNat (n : Nat) = v) (k : zG l Z lv ad X cs (pc + 1) L (.long v :: S) M o) : zG l Z lv ad X cs pc L S M o := by
  obtain ⟨p, e, R, s, m, args, below, meth, c, A, nL, Qf⟩ := X
  intro r hr hx H locs ls hW hS hL
  exact lv_lconst hC.1 hC.2.1 hd hv (k r hr hx H locs ls hW hS hL)
theorem zg_ldc (hC : zC l Z lv ad X own cc nL ret d) {i : Nat} {v : Int32} (hd : decode cc pc = .ok (.ldc i, 2)) (hw : Cond.constant own i v ∈ zTs) (k : zG l Z lv ad X cs (pc + 2) L (.int v :: S) M o) : zG l Z lv ad X cs pc L S M o := by
  obtain ⟨p, e, R, s, m, args, below, meth, c, A, nL, Qf⟩ := X
  intro r hr hx H locs ls hW hS hL
  exact lv_ldc hC.1 hC.2.1 hC.2.2.2.1 (hC.2.2.2.2.1.1 _ hw _) hd (k r hr hx H locs ls hW hS hL)
theorem zg_ldcw (hC : zC l Z lv ad X own cc nL ret d) {i : Nat} {v : Int32} (hd : decode cc pc = .ok (.ldc_w i, 3)) (hw : Cond.constant own i v ∈ zTs) (k : zG l Z lv ad X cs (pc + 3) L (.int v :: S) M o) : zG l Z lv ad X cs pc L S M o := by
  obtain ⟨p, e, R, s, m, args, below, meth, c, A, nL, Qf⟩ := X
  intro r hr hx H locs ls hW hS hL
  exact lv_ldcw hC.1 hC.2.1 hC.2.2.2.1 (hC.2.2.2.2.1.1 _ hw _) hd (k r hr hx H locs ls hW hS hL)
theorem zg_ldc2 (hC : zC l Z lv ad X own cc nL ret d) {i : Nat} {v : Int64} (hd : decode cc pc = .ok (.ldc2_w i, 3)) (hw : Cond.constantLong own i v ∈ zTs) (k : zG l Z lv ad X cs (pc + 3) L (.long v :: S) M o) : zG l Z lv ad X cs pc L S M o := by
  obtain ⟨p, e, R, s, m, args, below, meth, c, A, nL, Qf⟩ := X
  intro r hr hx H locs ls hW hS hL
  exact lv_ldc2 hC.1 hC.2.1 hC.2.2.2.1 (hC.2.2.2.2.1.1 _ hw _) hd (k r hr hx H locs ls hW hS hL)
theorem zg_iload_n (hC : zC l Z lv ad X own cc nL ret d) {j : Fin 4} {x : Int32} (n : Nat) (hd : decode cc pc = .ok (.iload_n j, 1)) (hl : L[n]? = some ((j : Nat), .int x)) (k : zG l Z lv ad X cs (pc + 1) L (.int x :: S) M o) : zG l Z lv ad X cs pc L S M o := by
  obtain ⟨p, e, R, s, m, args, below, meth, c, A, nL, Qf⟩ := X
  intro r hr hx H locs ls hW hS hL
  exact lv_iload_n hC.1 hC.2.1 hd rfl (lv_at hL n hl) (k r hr hx H locs ls hW hS hL)
theorem zg_iload (hC : zC l Z lv ad X own cc nL ret d) {j : Nat} {x : Int32} (n : Nat) (hd : decode cc pc = .ok (.iload j, 2)) (hl : L[n]? = some (j, .int x)) (k : zG l Z lv ad X cs (pc + 2) L (.int x :: S) M o) : zG l Z lv ad X cs pc L S M o := by
  obtain ⟨p, e, R, s, m, args, below, meth, c, A, nL, Qf⟩ := X
  intro r hr hx H locs ls hW hS hL
  exact lv_iload hC.1 hC.2.1 hd (lv_at hL n hl) (k r hr hx H locs ls hW hS hL)
theorem zg_lload_n (hC : zC l Z lv ad X own cc nL ret d) {j : Fin 4} {x : Int64} (n : Nat) (hd : decode cc pc = .ok (.lload_n j, 1)) (hl : L[n]? = some ((j : Nat), .long x)) (k : zG l Z lv ad X cs (pc + 1) L (.long x :: S) M o) : zG l Z lv ad X cs pc L S M o := by
  obtain ⟨p, e, R, s, m, args, below, meth, c, A, nL, Qf⟩ := X
  intro r hr hx H locs ls hW hS hL
  exact lv_lload_n hC.1 hC.2.1 hd rfl (lv_at hL n hl) (k r hr hx H locs ls hW hS hL)
theorem zg_aload_n (hC : zC l Z lv ad X own cc nL ret d) {j : Fin 4} {x : Nat} (n : Nat) (hd : decode cc pc = .ok (.aload_n j, 1)) (hl : L[n]? = some ((j : Nat), .ref x)) (k : zG l Z lv ad X cs (pc + 1) L (.ref x :: S) M o) : zG l Z lv ad X cs pc L S M o := by
  obtain ⟨p, e, R, s, m, args, below, meth, c, A, nL, Qf⟩ := X
  intro r hr hx H locs ls hW hS hL
  exact lv_aload_n hC.1 hC.2.1 hd rfl (lv_at hL n hl) (k r hr hx H locs ls hW hS hL)
theorem zg_aload (hC : zC l Z lv ad X own cc nL ret d) {j : Nat} {x : Nat} (n : Nat) (hd : decode cc pc = .ok (.aload j, 2)) (hl : L[n]? = some (j, .ref x)) (k : zG l Z lv ad X cs (pc + 2) L (.ref x :: S) M o) : zG l Z lv ad X cs pc L S M o := by
  obtain ⟨p, e, R, s, m, args, below, meth, c, A, nL, Qf⟩ := X
  intro r hr hx H locs ls hW hS hL
  exact lv_aload hC.1 hC.2.1 hd (lv_at hL n hl) (k r hr hx H locs ls hW hS hL)
theorem zg_istore_n (hC : zC l Z lv ad X own cc nL ret d) {j : Fin 4} {x : Int32} (hd : decode cc pc = .ok (.istore_n j, 1)) (hn : (j : Nat) < nL) (hl : ((j : Nat), Value.int x) :: L.filter (fun q => !(q.1 == (j : Nat)) && !(q.1 + 1 == (j : Nat) && q.2.category == 2)) = L') (k : zG l Z lv ad X cs (pc + 1) L' S M o) : zG l Z lv ad X cs pc L (.int x :: S) M o := by
  obtain ⟨p, e, R, s, m, args, below, meth, c, A, nL', Qf⟩ := X
  intro r hr hx H locs ls hW hS hL
  obtain ⟨rfl, hm⟩ := hC.2.2.1
  exact lv_istore_n hC.1 hC.2.1 hd rfl hL hn hl (fun ls hL => k r hr hx H locs ls hW hS hL)
theorem zg_istore (hC : zC l Z lv ad X own cc nL ret d) {j : Nat} {x : Int32} (hd : decode cc pc = .ok (.istore j, 2)) (hn : j < nL) (hl : (j, Value.int x) :: L.filter (fun q => !(q.1 == j) && !(q.1 + 1 == j && q.2.category == 2)) = L') (k : zG l Z lv ad X cs (pc + 2) L' S M o) : zG l Z lv ad X cs pc L (.int x :: S) M o := by
  obtain ⟨p, e, R, s, m, args, below, meth, c, A, nL', Qf⟩ := X
  intro r hr hx H locs ls hW hS hL
  obtain ⟨rfl, hm⟩ := hC.2.2.1
  exact lv_istore hC.1 hC.2.1 hd hL hn hl (fun ls hL => k r hr hx H locs ls hW hS hL)
theorem zg_ite {c : Prop} [Decidable c] (kt : c → zG l Z lv ad X cs pc L S M o1) (kf : ¬ c → zG l Z lv ad X cs pc L S M o2) : zG l Z lv ad X cs pc L S M (if c then o1 else o2) := by
  by_cases h : c
  · rw [if_pos h]; exact kt h
  · rw [if_neg h]; exact kf h
theorem zg_tswI (hC : zC l Z lv ad X own cc nL ret d) {dflt lo hi : Int} {offs : Array Int} {len : Nat} {x k : Int32} {off : Int} {tgt : Nat} (hx : x = k) (hd : decode cc pc = .ok (.tableswitch dflt lo hi offs, len)) (h1 : ¬ k.toInt < lo) (h2 : ¬ hi < k.toInt) (ho : offs[(k.toInt - lo).toNat]? = some off) (ht : (pc : Int) + off = (tgt : Int)) (kk : zG l Z lv ad X cs tgt L S M o) : zG l Z lv ad X cs pc L (.int x :: S) M o := by
  obtain ⟨p, e, R, s, m, args, below, meth, c, A, nL, Qf⟩ := X
  subst hx
  intro r hr hx H locs ls hW hS hL
  exact lv_tableIn hC.1 hC.2.1 hd h1 h2 ho ht (kk r hr hx H locs ls hW hS hL)
theorem zg_tswO (hC : zC l Z lv ad X own cc nL ret d) {dflt lo hi : Int} {offs : Array Int} {len : Nat} {x : Int32} {tgt : Nat} (hd : decode cc pc = .ok (.tableswitch dflt lo hi offs, len)) (h1 : x.toInt < lo ∨ hi < x.toInt) (ht : (pc : Int) + dflt = (tgt : Int)) (kk : zG l Z lv ad X cs tgt L S M o) : zG l Z lv ad X cs pc L (.int x :: S) M o := by
  obtain ⟨p, e, R, s, m, args, below, meth, c, A, nL, Qf⟩ := X
  intro r hr hx H locs ls hW hS hL
  exact lv_tableOut hC.1 hC.2.1 hd h1 ht (kk r hr hx H locs ls hW hS hL)
theorem zg_lstore_n (hC : zC l Z lv ad X own cc nL ret d) {j : Fin 4} {x : Int64} (hd : decode cc pc = .ok (.lstore_n j, 1)) (hn : (j : Nat) + 1 < nL) (hl : ((j : Nat), Value.long x) :: L.filter (fun q => !(q.1 == (j : Nat)) && (!(q.1 == (j : Nat) + 1) && !(q.1 + 1 == (j : Nat) && q.2.category == 2))) = L') (k : zG l Z lv ad X cs (pc + 1) L' S M o) : zG l Z lv ad X cs pc L (.long x :: S) M o := by
  obtain ⟨p, e, R, s, m, args, below, meth, c, A, nL', Qf⟩ := X
  intro r hr hx H locs ls hW hS hL
  obtain ⟨rfl, hm⟩ := hC.2.2.1
  exact lv_lstore_n hC.1 hC.2.1 hd rfl hL hn hl (fun ls hL => k r hr hx H locs ls hW hS hL)
theorem zg_astore_n (hC : zC l Z lv ad X own cc nL ret d) {j : Fin 4} {x : Nat} (hd : decode cc pc = .ok (.astore_n j, 1)) (hn : (j : Nat) < nL) (hl : ((j : Nat), Value.ref x) :: L.filter (fun q => !(q.1 == (j : Nat)) && !(q.1 + 1 == (j : Nat) && q.2.category == 2)) = L') (k : zG l Z lv ad X cs (pc + 1) L' S M o) : zG l Z lv ad X cs pc L (.ref x :: S) M o := by
  obtain ⟨p, e, R, s, m, args, below, meth, c, A, nL', Qf⟩ := X
  intro r hr hx H locs ls hW hS hL
  obtain ⟨rfl, hm⟩ := hC.2.2.1
  exact lv_astore_n hC.1 hC.2.1 hd rfl hL hn hl (fun ls hL => k r hr hx H locs ls hW hS hL)
theorem zg_astore (hC : zC l Z lv ad X own cc nL ret d) {j : Nat} {x : Nat} (hd : decode cc pc = .ok (.astore j, 2)) (hn : j < nL) (hl : (j, Value.ref x) :: L.filter (fun q => !(q.1 == j) && !(q.1 + 1 == j && q.2.category == 2)) = L') (k : zG l Z lv ad X cs (pc + 2) L' S M o) : zG l Z lv ad X cs pc L (.ref x :: S) M o := by
  obtain ⟨p, e, R, s, m, args, below, meth, c, A, nL', Qf⟩ := X
  intro r hr hx H locs ls hW hS hL
  obtain ⟨rfl, hm⟩ := hC.2.2.1
  exact lv_astore hC.1 hC.2.1 hd hL hn hl (fun ls hL => k r hr hx H locs ls hW hS hL)
theorem zg_iinc (hC : zC l Z lv ad X own cc nL ret d) {j : Nat} {n : Int} {x v : Int32} (q0 : Nat) (hd : decode cc pc = .ok (.iinc j n, 3)) (hk : L[q0]? = some (j, .int x)) (hv : x + Int32.ofInt n = v) (hn : j < nL) (hl : (j, Value.int v) :: L.filter (fun q => !(q.1 == j) && !(q.1 + 1 == j && q.2.category == 2)) = L') (k : zG l Z lv ad X cs (pc + 3) L' S M o) : zG l Z lv ad X cs pc L S M o := by
  obtain ⟨p, e, R, s, m, args, below, meth, c, A, nL', Qf⟩ := X
  intro r hr hx H locs ls hW hS hL
  obtain ⟨rfl, hm⟩ := hC.2.2.1
  exact lv_iinc hC.1 hC.2.1 hd hL hk hv hn hl (fun ls hL => k r hr hx H locs ls hW hS hL)
theorem zg_iadd (hC : zC l Z lv ad X own cc nL ret d) {x y : Int32} (hd : decode cc pc = .ok (.iadd, 1)) (k : zG l Z lv ad X cs (pc + 1) L (.int (x + y) :: S) M o) : zG l Z lv ad X cs pc L (.int y :: .int x :: S) M o := by
  obtain ⟨p, e, R, s, m, args, below, meth, c, A, nL, Qf⟩ := X
  intro r hr hx H locs ls hW hS hL
  exact lv_iadd hC.1 hC.2.1 hd (k r hr hx H locs ls hW hS hL)
theorem zg_isub (hC : zC l Z lv ad X own cc nL ret d) {x y : Int32} (hd : decode cc pc = .ok (.isub, 1)) (k : zG l Z lv ad X cs (pc + 1) L (.int (x - y) :: S) M o) : zG l Z lv ad X cs pc L (.int y :: .int x :: S) M o := by
  obtain ⟨p, e, R, s, m, args, below, meth, c, A, nL, Qf⟩ := X
  intro r hr hx H locs ls hW hS hL
  exact lv_isub hC.1 hC.2.1 hd (k r hr hx H locs ls hW hS hL)
theorem zg_imul (hC : zC l Z lv ad X own cc nL ret d) {x y : Int32} (hd : decode cc pc = .ok (.imul, 1)) (k : zG l Z lv ad X cs (pc + 1) L (.int (x * y) :: S) M o) : zG l Z lv ad X cs pc L (.int y :: .int x :: S) M o := by
  obtain ⟨p, e, R, s, m, args, below, meth, c, A, nL, Qf⟩ := X
  intro r hr hx H locs ls hW hS hL
  exact lv_imul hC.1 hC.2.1 hd (k r hr hx H locs ls hW hS hL)
theorem zg_iand (hC : zC l Z lv ad X own cc nL ret d) {x y : Int32} (hd : decode cc pc = .ok (.iand, 1)) (k : zG l Z lv ad X cs (pc + 1) L (.int (x &&& y) :: S) M o) : zG l Z lv ad X cs pc L (.int y :: .int x :: S) M o := by
  obtain ⟨p, e, R, s, m, args, below, meth, c, A, nL, Qf⟩ := X
  intro r hr hx H locs ls hW hS hL
  exact lv_iand hC.1 hC.2.1 hd (k r hr hx H locs ls hW hS hL)
theorem zg_ior (hC : zC l Z lv ad X own cc nL ret d) {x y : Int32} (hd : decode cc pc = .ok (.ior, 1)) (k : zG l Z lv ad X cs (pc + 1) L (.int (x ||| y) :: S) M o) : zG l Z lv ad X cs pc L (.int y :: .int x :: S) M o := by
  obtain ⟨p, e, R, s, m, args, below, meth, c, A, nL, Qf⟩ := X
  intro r hr hx H locs ls hW hS hL
  exact lv_ior hC.1 hC.2.1 hd (k r hr hx H locs ls hW hS hL)
theorem zg_ixor (hC : zC l Z lv ad X own cc nL ret d) {x y : Int32} (hd : decode cc pc = .ok (.ixor, 1)) (k : zG l Z lv ad X cs (pc + 1) L (.int (x ^^^ y) :: S) M o) : zG l Z lv ad X cs pc L (.int y :: .int x :: S) M o := by
  obtain ⟨p, e, R, s, m, args, below, meth, c, A, nL, Qf⟩ := X
  intro r hr hx H locs ls hW hS hL
  exact lv_ixor hC.1 hC.2.1 hd (k r hr hx H locs ls hW hS hL)
theorem zg_ishl (hC : zC l Z lv ad X own cc nL ret d) {x y : Int32} (hd : decode cc pc = .ok (.ishl, 1)) (k : zG l Z lv ad X cs (pc + 1) L (.int (x <<< (y &&& 31)) :: S) M o) : zG l Z lv ad X cs pc L (.int y :: .int x :: S) M o := by
  obtain ⟨p, e, R, s, m, args, below, meth, c, A, nL, Qf⟩ := X
  intro r hr hx H locs ls hW hS hL
  exact lv_ishl hC.1 hC.2.1 hd (k r hr hx H locs ls hW hS hL)
theorem zg_ishr (hC : zC l Z lv ad X own cc nL ret d) {x y : Int32} (hd : decode cc pc = .ok (.ishr, 1)) (k : zG l Z lv ad X cs (pc + 1) L (.int (x >>> (y &&& 31)) :: S) M o) : zG l Z lv ad X cs pc L (.int y :: .int x :: S) M o := by
  obtain ⟨p, e, R, s, m, args, below, meth, c, A, nL, Qf⟩ := X
  intro r hr hx H locs ls hW hS hL
  exact lv_ishr hC.1 hC.2.1 hd (k r hr hx H locs ls hW hS hL)
theorem zg_iushr (hC : zC l Z lv ad X own cc nL ret d) {x y : Int32} (hd : decode cc pc = .ok (.iushr, 1)) (k : zG l Z lv ad X cs (pc + 1) L (.int ((x.toUInt32 >>> (y.toUInt32 &&& Int32.toUInt32 31)).toInt32) :: S) M o) : zG l Z lv ad X cs pc L (.int y :: .int x :: S) M o := by
  obtain ⟨p, e, R, s, m, args, below, meth, c, A, nL, Qf⟩ := X
  intro r hr hx H locs ls hW hS hL
  exact lv_iushr hC.1 hC.2.1 hd rfl (k r hr hx H locs ls hW hS hL)
theorem zg_idiv (hC : zC l Z lv ad X own cc nL ret d) {x y : Int32} (hd : decode cc pc = .ok (.idiv, 1)) (hne : ¬ y = 0) (k : zG l Z lv ad X cs (pc + 1) L (.int (x / y) :: S) M o) : zG l Z lv ad X cs pc L (.int y :: .int x :: S) M o := by
  obtain ⟨p, e, R, s, m, args, below, meth, c, A, nL, Qf⟩ := X
  intro r hr hx H locs ls hW hS hL
  exact lv_idiv hC.1 hC.2.1 hd hne (k r hr hx H locs ls hW hS hL)
theorem zg_irem (hC : zC l Z lv ad X own cc nL ret d) {x y : Int32} (hd : decode cc pc = .ok (.irem, 1)) (hne : ¬ y = 0) (k : zG l Z lv ad X cs (pc + 1) L (.int (x - x / y * y) :: S) M o) : zG l Z lv ad X cs pc L (.int y :: .int x :: S) M o := by
  obtain ⟨p, e, R, s, m, args, below, meth, c, A, nL, Qf⟩ := X
  intro r hr hx H locs ls hW hS hL
  exact lv_irem hC.1 hC.2.1 hd hne (k r hr hx H locs ls hW hS hL)
theorem zg_land (hC : zC l Z lv ad X own cc nL ret d) {x y : Int64} (hd : decode cc pc = .ok (.land, 1)) (k : zG l Z lv ad X cs (pc + 1) L (.long (x &&& y) :: S) M o) : zG l Z lv ad X cs pc L (.long y :: .long x :: S) M o := by
  obtain ⟨p, e, R, s, m, args, below, meth, c, A, nL, Qf⟩ := X
  intro r hr hx H locs ls hW hS hL
  exact lv_land hC.1 hC.2.1 hd (k r hr hx H locs ls hW hS hL)
theorem zg_lor (hC : zC l Z lv ad X own cc nL ret d) {x y : Int64} (hd : decode cc pc = .ok (.lor, 1)) (k : zG l Z lv ad X cs (pc + 1) L (.long (x ||| y) :: S) M o) : zG l Z lv ad X cs pc L (.long y :: .long x :: S) M o := by
  obtain ⟨p, e, R, s, m, args, below, meth, c, A, nL, Qf⟩ := X
  intro r hr hx H locs ls hW hS hL
  exact lv_lor hC.1 hC.2.1 hd (k r hr hx H locs ls hW hS hL)
theorem zg_lxor (hC : zC l Z lv ad X own cc nL ret d) {x y : Int64} (hd : decode cc pc = .ok (.lxor, 1)) (k : zG l Z lv ad X cs (pc + 1) L (.long (x ^^^ y) :: S) M o) : zG l Z lv ad X cs pc L (.long y :: .long x :: S) M o := by
  obtain ⟨p, e, R, s, m, args, below, meth, c, A, nL, Qf⟩ := X
  intro r hr hx H locs ls hW hS hL
  exact lv_lxor hC.1 hC.2.1 hd (k r hr hx H locs ls hW hS hL)
theorem zg_i2l (hC : zC l Z lv ad X own cc nL ret d) {x : Int32} (hd : decode cc pc = .ok (.i2l, 1)) (k : zG l Z lv ad X cs (pc + 1) L (.long x.toInt64 :: S) M o) : zG l Z lv ad X cs pc L (.int x :: S) M o := by
  obtain ⟨p, e, R, s, m, args, below, meth, c, A, nL, Qf⟩ := X
  intro r hr hx H locs ls hW hS hL
  exact lv_i2l hC.1 hC.2.1 hd rfl (k r hr hx H locs ls hW hS hL)
theorem zg_lushr (hC : zC l Z lv ad X own cc nL ret d) {x : Int64} {y : Int32} (hd : decode cc pc = .ok (.lushr, 1)) (k : zG l Z lv ad X cs (pc + 1) L (.long ((x.toUInt64 >>> (y.toInt64.toUInt64 &&& Int64.toUInt64 63)).toInt64) :: S) M o) : zG l Z lv ad X cs pc L (.int y :: .long x :: S) M o := by
  obtain ⟨p, e, R, s, m, args, below, meth, c, A, nL, Qf⟩ := X
  intro r hr hx H locs ls hW hS hL
  exact lv_lushr hC.1 hC.2.1 hd rfl (k r hr hx H locs ls hW hS hL)
theorem zg_lshl (hC : zC l Z lv ad X own cc nL ret d) {x : Int64} {y : Int32} (hd : decode cc pc = .ok (.lshl, 1)) (k : zG l Z lv ad X cs (pc + 1) L (.long (x <<< (y.toInt64 &&& 63)) :: S) M o) : zG l Z lv ad X cs pc L (.int y :: .long x :: S) M o := by
  obtain ⟨p, e, R, s, m, args, below, meth, c, A, nL, Qf⟩ := X
  intro r hr hx H locs ls hW hS hL
  exact lv_lshl hC.1 hC.2.1 hd rfl (k r hr hx H locs ls hW hS hL)
theorem zg_dup (hC : zC l Z lv ad X own cc nL ret d) {va : Value} (hd : decode cc pc = .ok (.dup, 1)) (hc : va.category = 1) (k : zG l Z lv ad X cs (pc + 1) L (va :: va :: S) M o) : zG l Z lv ad X cs pc L (va :: S) M o := by
  obtain ⟨p, e, R, s, m, args, below, meth, c, A, nL, Qf⟩ := X
  intro r hr hx H locs ls hW hS hL
  exact lv_dup hC.1 hC.2.1 hd hc (k r hr hx H locs ls hW hS hL)
theorem zg_pop (hC : zC l Z lv ad X own cc nL ret d) {va : Value} (hd : decode cc pc = .ok (.pop, 1)) (hc : va.category = 1) (k : zG l Z lv ad X cs (pc + 1) L (S) M o) : zG l Z lv ad X cs pc L (va :: S) M o := by
  obtain ⟨p, e, R, s, m, args, below, meth, c, A, nL, Qf⟩ := X
  intro r hr hx H locs ls hW hS hL
  exact lv_pop hC.1 hC.2.1 hd hc (k r hr hx H locs ls hW hS hL)
theorem zg_dup_x1 (hC : zC l Z lv ad X own cc nL ret d) {va vb : Value} (hd : decode cc pc = .ok (.dup_x1, 1)) (h1 : va.category = 1) (h2 : vb.category = 1) (k : zG l Z lv ad X cs (pc + 1) L (va :: vb :: va :: S) M o) : zG l Z lv ad X cs pc L (va :: vb :: S) M o := by
  obtain ⟨p, e, R, s, m, args, below, meth, c, A, nL, Qf⟩ := X
  intro r hr hx H locs ls hW hS hL
  exact lv_dup_x1 hC.1 hC.2.1 hd h1 h2 (k r hr hx H locs ls hW hS hL)
theorem zg_dup_x2 (hC : zC l Z lv ad X own cc nL ret d) {va vb vd : Value} (hd : decode cc pc = .ok (.dup_x2, 1)) (h1 : va.category = 1) (h2 : vb.category = 1) (h3 : vd.category = 1) (k : zG l Z lv ad X cs (pc + 1) L (va :: vb :: vd :: va :: S) M o) : zG l Z lv ad X cs pc L (va :: vb :: vd :: S) M o := by
  obtain ⟨p, e, R, s, m, args, below, meth, c, A, nL, Qf⟩ := X
  intro r hr hx H locs ls hW hS hL
  exact lv_dup_x2 hC.1 hC.2.1 hd h1 h2 h3 (k r hr hx H locs ls hW hS hL)
theorem zg_dup2_11 (hC : zC l Z lv ad X own cc nL ret d) {va vb : Value} (hd : decode cc pc = .ok (.dup2, 1)) (h1 : va.category = 1) (h2 : vb.category = 1) (k : zG l Z lv ad X cs (pc + 1) L (va :: vb :: va :: vb :: S) M o) : zG l Z lv ad X cs pc L (va :: vb :: S) M o := by
  obtain ⟨p, e, R, s, m, args, below, meth, c, A, nL, Qf⟩ := X
  intro r hr hx H locs ls hW hS hL
  exact lv_dup2_11 hC.1 hC.2.1 hd h1 h2 (k r hr hx H locs ls hW hS hL)
theorem zg_lcmp (hC : zC l Z lv ad X own cc nL ret d) {x y : Int64} (hd : decode cc pc = .ok (.lcmp, 1)) (k : zG l Z lv ad X cs (pc + 1) L (.int (lg_cmp x y) :: S) M o) : zG l Z lv ad X cs pc L (.long y :: .long x :: S) M o := by
  obtain ⟨p, e, R, s, m, args, below, meth, c, A, nL, Qf⟩ := X
  intro r hr hx H locs ls hW hS hL
  exact W.lcmp hC.1 hC.2.1 hd (k r hr hx H locs ls hW hS hL)
theorem zg_if_eq (hC : zC l Z lv ad X own cc nL ret d) {x : Int32} {off : Int} {tgt : Nat} (hd : decode cc pc = .ok (.ifCond .eq off, 3)) (ht : (pc : Int) + off = (tgt : Int)) (kt : x = 0 → zG l Z lv ad X cs tgt L S M o1) (kf : ¬ x = 0 → zG l Z lv ad X cs (pc + 3) L S M o2) : zG l Z lv ad X cs pc L (.int x :: S) M (if x = 0 then o1 else o2) := by
  obtain ⟨p, e, R, s, m, args, below, meth, c, A, nL, Qf⟩ := X
  intro r hr hx H locs ls hW hS hL
  refine lv_if_eq hC.1 hC.2.1 hd ht (fun h => ?_) (fun h => ?_)
  · rw [if_pos h] at hr
    exact kt h r hr hx H locs ls hW hS hL
  · rw [if_neg h] at hr
    exact kf h r hr hx H locs ls hW hS hL
theorem zg_icmp_eq (hC : zC l Z lv ad X own cc nL ret d) {x y : Int32} {off : Int} {tgt : Nat} (hd : decode cc pc = .ok (.if_icmp .eq off, 3)) (ht : (pc : Int) + off = (tgt : Int)) (kt : x = y → zG l Z lv ad X cs tgt L S M o1) (kf : ¬ x = y → zG l Z lv ad X cs (pc + 3) L S M o2) : zG l Z lv ad X cs pc L (.int y :: .int x :: S) M (if x = y then o1 else o2) := by
  obtain ⟨p, e, R, s, m, args, below, meth, c, A, nL, Qf⟩ := X
  intro r hr hx H locs ls hW hS hL
  refine lv_icmp_eq hC.1 hC.2.1 hd ht (fun h => ?_) (fun h => ?_)
  · rw [if_pos h] at hr
    exact kt h r hr hx H locs ls hW hS hL
  · rw [if_neg h] at hr
    exact kf h r hr hx H locs ls hW hS hL
theorem zg_if_ne (hC : zC l Z lv ad X own cc nL ret d) {x : Int32} {off : Int} {tgt : Nat} (hd : decode cc pc = .ok (.ifCond .ne off, 3)) (ht : (pc : Int) + off = (tgt : Int)) (kf : x = 0 → zG l Z lv ad X cs (pc + 3) L S M o2) (kt : ¬ x = 0 → zG l Z lv ad X cs tgt L S M o1) : zG l Z lv ad X cs pc L (.int x :: S) M (if x = 0 then o2 else o1) := by
  obtain ⟨p, e, R, s, m, args, below, meth, c, A, nL, Qf⟩ := X
  intro r hr hx H locs ls hW hS hL
  refine lv_if_ne hC.1 hC.2.1 hd ht (fun h => ?_) (fun h => ?_)
  · rw [if_neg h] at hr
    exact kt h r hr hx H locs ls hW hS hL
  · rw [if_pos h] at hr
    exact kf h r hr hx H locs ls hW hS hL
theorem zg_icmp_ne (hC : zC l Z lv ad X own cc nL ret d) {x y : Int32} {off : Int} {tgt : Nat} (hd : decode cc pc = .ok (.if_icmp .ne off, 3)) (ht : (pc : Int) + off = (tgt : Int)) (kf : x = y → zG l Z lv ad X cs (pc + 3) L S M o2) (kt : ¬ x = y → zG l Z lv ad X cs tgt L S M o1) : zG l Z lv ad X cs pc L (.int y :: .int x :: S) M (if x = y then o2 else o1) := by
  obtain ⟨p, e, R, s, m, args, below, meth, c, A, nL, Qf⟩ := X
  intro r hr hx H locs ls hW hS hL
  refine lv_icmp_ne hC.1 hC.2.1 hd ht (fun h => ?_) (fun h => ?_)
  · rw [if_neg h] at hr
    exact kt h r hr hx H locs ls hW hS hL
  · rw [if_pos h] at hr
    exact kf h r hr hx H locs ls hW hS hL
theorem zg_if_lt (hC : zC l Z lv ad X own cc nL ret d) {x : Int32} {off : Int} {tgt : Nat} (hd : decode cc pc = .ok (.ifCond .lt off, 3)) (ht : (pc : Int) + off = (tgt : Int)) (kt : x < 0 → zG l Z lv ad X cs tgt L S M o1) (kf : ¬ x < 0 → zG l Z lv ad X cs (pc + 3) L S M o2) : zG l Z lv ad X cs pc L (.int x :: S) M (if x < 0 then o1 else o2) := by
  obtain ⟨p, e, R, s, m, args, below, meth, c, A, nL, Qf⟩ := X
  intro r hr hx H locs ls hW hS hL
  refine lv_if_lt hC.1 hC.2.1 hd ht (fun h => ?_) (fun h => ?_)
  · rw [if_pos h] at hr
    exact kt h r hr hx H locs ls hW hS hL
  · rw [if_neg h] at hr
    exact kf h r hr hx H locs ls hW hS hL
theorem zg_icmp_lt (hC : zC l Z lv ad X own cc nL ret d) {x y : Int32} {off : Int} {tgt : Nat} (hd : decode cc pc = .ok (.if_icmp .lt off, 3)) (ht : (pc : Int) + off = (tgt : Int)) (kt : x < y → zG l Z lv ad X cs tgt L S M o1) (kf : ¬ x < y → zG l Z lv ad X cs (pc + 3) L S M o2) : zG l Z lv ad X cs pc L (.int y :: .int x :: S) M (if x < y then o1 else o2) := by
  obtain ⟨p, e, R, s, m, args, below, meth, c, A, nL, Qf⟩ := X
  intro r hr hx H locs ls hW hS hL
  refine lv_icmp_lt hC.1 hC.2.1 hd ht (fun h => ?_) (fun h => ?_)
  · rw [if_pos h] at hr
    exact kt h r hr hx H locs ls hW hS hL
  · rw [if_neg h] at hr
    exact kf h r hr hx H locs ls hW hS hL
theorem zg_if_ge (hC : zC l Z lv ad X own cc nL ret d) {x : Int32} {off : Int} {tgt : Nat} (hd : decode cc pc = .ok (.ifCond .ge off, 3)) (ht : (pc : Int) + off = (tgt : Int)) (kt : 0 ≤ x → zG l Z lv ad X cs tgt L S M o1) (kf : ¬ 0 ≤ x → zG l Z lv ad X cs (pc + 3) L S M o2) : zG l Z lv ad X cs pc L (.int x :: S) M (if 0 ≤ x then o1 else o2) := by
  obtain ⟨p, e, R, s, m, args, below, meth, c, A, nL, Qf⟩ := X
  intro r hr hx H locs ls hW hS hL
  refine lv_if_ge hC.1 hC.2.1 hd ht (fun h => ?_) (fun h => ?_)
  · rw [if_pos h] at hr
    exact kt h r hr hx H locs ls hW hS hL
  · rw [if_neg h] at hr
    exact kf h r hr hx H locs ls hW hS hL
theorem zg_icmp_ge (hC : zC l Z lv ad X own cc nL ret d) {x y : Int32} {off : Int} {tgt : Nat} (hd : decode cc pc = .ok (.if_icmp .ge off, 3)) (ht : (pc : Int) + off = (tgt : Int)) (kt : y ≤ x → zG l Z lv ad X cs tgt L S M o1) (kf : ¬ y ≤ x → zG l Z lv ad X cs (pc + 3) L S M o2) : zG l Z lv ad X cs pc L (.int y :: .int x :: S) M (if y ≤ x then o1 else o2) := by
  obtain ⟨p, e, R, s, m, args, below, meth, c, A, nL, Qf⟩ := X
  intro r hr hx H locs ls hW hS hL
  refine lv_icmp_ge hC.1 hC.2.1 hd ht (fun h => ?_) (fun h => ?_)
  · rw [if_pos h] at hr
    exact kt h r hr hx H locs ls hW hS hL
  · rw [if_neg h] at hr
    exact kf h r hr hx H locs ls hW hS hL
theorem zg_if_gt (hC : zC l Z lv ad X own cc nL ret d) {x : Int32} {off : Int} {tgt : Nat} (hd : decode cc pc = .ok (.ifCond .gt off, 3)) (ht : (pc : Int) + off = (tgt : Int)) (kt : 0 < x → zG l Z lv ad X cs tgt L S M o1) (kf : ¬ 0 < x → zG l Z lv ad X cs (pc + 3) L S M o2) : zG l Z lv ad X cs pc L (.int x :: S) M (if 0 < x then o1 else o2) := by
  obtain ⟨p, e, R, s, m, args, below, meth, c, A, nL, Qf⟩ := X
  intro r hr hx H locs ls hW hS hL
  refine lv_if_gt hC.1 hC.2.1 hd ht (fun h => ?_) (fun h => ?_)
  · rw [if_pos h] at hr
    exact kt h r hr hx H locs ls hW hS hL
  · rw [if_neg h] at hr
    exact kf h r hr hx H locs ls hW hS hL
theorem zg_icmp_gt (hC : zC l Z lv ad X own cc nL ret d) {x y : Int32} {off : Int} {tgt : Nat} (hd : decode cc pc = .ok (.if_icmp .gt off, 3)) (ht : (pc : Int) + off = (tgt : Int)) (kt : y < x → zG l Z lv ad X cs tgt L S M o1) (kf : ¬ y < x → zG l Z lv ad X cs (pc + 3) L S M o2) : zG l Z lv ad X cs pc L (.int y :: .int x :: S) M (if y < x then o1 else o2) := by
  obtain ⟨p, e, R, s, m, args, below, meth, c, A, nL, Qf⟩ := X
  intro r hr hx H locs ls hW hS hL
  refine lv_icmp_gt hC.1 hC.2.1 hd ht (fun h => ?_) (fun h => ?_)
  · rw [if_pos h] at hr
    exact kt h r hr hx H locs ls hW hS hL
  · rw [if_neg h] at hr
    exact kf h r hr hx H locs ls hW hS hL
theorem zg_if_le (hC : zC l Z lv ad X own cc nL ret d) {x : Int32} {off : Int} {tgt : Nat} (hd : decode cc pc = .ok (.ifCond .le off, 3)) (ht : (pc : Int) + off = (tgt : Int)) (kt : x ≤ 0 → zG l Z lv ad X cs tgt L S M o1) (kf : ¬ x ≤ 0 → zG l Z lv ad X cs (pc + 3) L S M o2) : zG l Z lv ad X cs pc L (.int x :: S) M (if x ≤ 0 then o1 else o2) := by
  obtain ⟨p, e, R, s, m, args, below, meth, c, A, nL, Qf⟩ := X
  intro r hr hx H locs ls hW hS hL
  refine lv_if_le hC.1 hC.2.1 hd ht (fun h => ?_) (fun h => ?_)
  · rw [if_pos h] at hr
    exact kt h r hr hx H locs ls hW hS hL
  · rw [if_neg h] at hr
    exact kf h r hr hx H locs ls hW hS hL
theorem zg_icmp_le (hC : zC l Z lv ad X own cc nL ret d) {x y : Int32} {off : Int} {tgt : Nat} (hd : decode cc pc = .ok (.if_icmp .le off, 3)) (ht : (pc : Int) + off = (tgt : Int)) (kt : x ≤ y → zG l Z lv ad X cs tgt L S M o1) (kf : ¬ x ≤ y → zG l Z lv ad X cs (pc + 3) L S M o2) : zG l Z lv ad X cs pc L (.int y :: .int x :: S) M (if x ≤ y then o1 else o2) := by
  obtain ⟨p, e, R, s, m, args, below, meth, c, A, nL, Qf⟩ := X
  intro r hr hx H locs ls hW hS hL
  refine lv_icmp_le hC.1 hC.2.1 hd ht (fun h => ?_) (fun h => ?_)
  · rw [if_pos h] at hr
    exact kt h r hr hx H locs ls hW hS hL
  · rw [if_neg h] at hr
    exact kf h r hr hx H locs ls hW hS hL
theorem zg_goto (hC : zC l Z lv ad X own cc nL ret d) {off : Int} {tgt : Nat} (hd : decode cc pc = .ok (.goto off, 3)) (ht : (pc : Int) + off = (tgt : Int)) (k : zG l Z lv ad X cs tgt L S M o) : zG l Z lv ad X cs pc L S M o := by
  obtain ⟨p, e, R, s, m, args, below, meth, c, A, nL, Qf⟩ := X
  intro r hr hx H locs ls hW hS hL
  exact lv_goto hC.1 hC.2.1 hd ht (k r hr hx H locs ls hW hS hL)
/-- a field by a pool entry of a class's own -/
def zFL (own : String) (idx : Nat) (C : String) (T : u_T) (N ci j : Nat) : Prop := vwCl[ci]? = some (C, T, N) ∧ (∀ w ∈ u_ws C T N, w ∈ zTs) ∧ j < N ∧ Cond.fieldLink own idx (T j).1 (T j).2.1 (T j).2.2.1 ∈ zTs
def zFP (own : String) (idx : Nat) (C : String) (T : u_T) (N ci j : Nat) (ty : FieldType) : Prop := zFL own idx C T N ci j ∧ (∃ ty0 : Nat → FieldType, ∀ k, k < N → parseFieldDescriptor (T k).2.2.1 = some (ty0 k)) ∧ (∀ a, a < N → ∀ b, b < N → a ≠ b → (T a).2.1 ≠ (T b).2.1) ∧ (T j).2.2.2 = false ∧ parseFieldDescriptor (T j).2.2.1 = some ty
theorem zF_len {ci : Nat} {ad : Nat → Nat} {k : Nat} {f : Nat → Int32} {g : Nat → Int64} {C : String} {T : u_T} {N : Nat} (h : vwCl[ci]? = some (C, T, N)) : (zF ci ad k f g).length = N := by
  match ci, h with
  | 0, h => cases h; rfl
  | 1, h => cases h; rfl
  | 2, h => cases h; rfl
  | 3, h => cases h; rfl
  | 4, h => cases h; rfl
  | 5, h => cases h; rfl
  | 6, h => cases h; rfl
  | 7, h => cases h; rfl
  | 8, h => cases h; rfl
  | n + 9, h => simp [vwCl] at h
theorem zg_get (hC : zC l Z lv ad X own cc nL ret d) {idx : Nat} {C : String} {T : u_T} {N ci j k : Nat} {v : Value} (hF : zFL own idx C T N ci j) (hd : decode cc pc = .ok (.getfield idx, 3)) (hl : lv k = true) (hz : zK k = (0, ci)) (hv : (zF ci ad k (M.1 k) (M.2 k))[j]? = some v)
    (kk : zG l Z lv ad X cs (pc + 3) L (v :: S) M o) : zG l Z lv ad X cs pc L (.ref (ad k) :: S) M o := by
  obtain ⟨p, e, R, s, m, args, below, meth, c, A, nL', Qf⟩ := X
  obtain ⟨hx0, hb, -, hown, hSS, -⟩ := hC
  obtain ⟨hc, hin, hj, hw⟩ := hF
  intro r hr hx H locs ls hW hS hL
  have h1 := hW.1 k hl
  rw [zE_0 hz] at h1
  exact va_get (D := Z.1) (cl := vwCl) (tys := zty Z) (Ts := zTs) hx0 hb (fun w hw => hSS.1 w hw _) hin hown hSS.2.1 (zone h1) 0 rfl hc j hj (hSS.1 _ hw _) (fun _ h9 => h9) hv hd (kk r hr hx H locs ls hW hS hL)
theorem zput {p : Program} {e : Env} {R : Room} {s : State} {m : MethodId} {args : Array Value} {below : List Frame} {meth : Method} {c : Code} {H : Heap} {locs : List Loc} {cells slots : Nat} {Q : State → Prop} {ls : Array Slot} {rest : List Value}
    (hexec : p.tables.exec = Jvm.exec) (hb : c.code = cc) (hown : s.vm.findClass own = some m.cls) (hSS : zS Z s) {idx : Nat} {C : String} {T : u_T} {N ci j k : Nat} {ty : FieldType} {v : Value} (hF : zFP own idx C T N ci j ty) (hW : zW Z lv ad M H) (hl : lv k = true) (hz : zK k = (0, ci)) (hn : narrow ty v = v) (hfit : fits ty v = true) (hdg : decode cc pc = .ok (.putfield idx, 3))
    (kk : ∀ (H1 : Heap) (n : Nat), (∃ r : vw_C, vwCl[ci]? = some r ∧ t_OB (ad k) (Z.1.1 ci) r.2.2 (Z.1.2 ci) H1 (vp_V ((zF ci ad k (M.1 k) (M.2 k)).set j v))) → H1.size = H.size → (∀ q : Nat, q ≠ ad k → H1[q]? = H[q]?) → W p l e R s m args below meth c H1 (locs ++ [⟨ad k, n⟩]) cells slots Q (F0 m (pc + 3) ls rest)) : W p l e R s m args below meth c H locs cells slots Q (F0 m pc ls (v :: .ref (ad k) :: rest)) := by
  obtain ⟨⟨hc, hin, hj, hw⟩, ⟨ty0, hty⟩, hnm, hfin, hd⟩ := hF
  have hts : ∀ w ∈ zTs, w.before args s = true := fun w hw => hSS.1 w hw _
  have hK : va_K Z.1 vwCl (zty Z) s := hSS.2.1
  have hap := va_apart (own := own) hts hin ty0 hty hnm hK hc
  have h0 := hW.1 k hl
  rw [zE_0 hz] at h0
  obtain ⟨r, h1, cell, q1, q2, q3, q4⟩ := h0
  have hr : r = (C, T, N) := Option.some.inj (h1.symm.trans hc)
  subst hr
  obtain ⟨hS, hfc, kC, hkC, hkind⟩ := hK.1 ci _ hc
  obtain ⟨cf, kf, fi, f, hi, hsl⟩ := hS j hj
  have hlay := hts _ (hin _ (u_in_lay hj))
  unfold u_lay at hlay
  rw [if_neg (by rw [hfin]; decide)] at hlay
  have hst := (u_facts hfc hkC (u_lays hts hin hj) hi).1
  have h6 := u_store hfc hkC hkind hlay hi hd hn hfit
  refine W.putK hexec hb (f := f) ⟨hown, hts _ hw, ⟨_, _, _, hi⟩, hst⟩ (by rw [q2]; exact h6) q1 q3 (by rw [hsl]; exact k2_hasslot (q4 j hj)) rfl rfl hdg fun H' e1 e2 e3 => ?_
  rw [hsl] at e1 ⊢
  exact kk H' _ ⟨_, hc, t_OB.to (V := updV (vp_V (zF ci ad k (M.1 k) (M.2 k))) j v) ⟨_, e1, q2, q3, t_set q4 hap hj v⟩ (fun i _ => vp_updV_set (by rw [zF_len hc]; exact hj) v i)⟩ e2 e3
/-- a world, an int named -/
def zl (a : zMem) (k : zMem → zRES) : zRES := k a
def zv (x : Int32) (k : Int32 → zRES) : zRES := k x
theorem zg_nm {x : Int32} {kf : Int32 → zRES} (kk : ∀ v, v = x → zG l Z lv ad X cs pc L (.int v :: S) M (kf v)) : zG l Z lv ad X cs pc L (.int x :: S) M (zv x kf) := kk x rfl
theorem zg_putI (hC : zC l Z lv ad X own cc nL ret d) {idx : Nat} {C : String} {T : u_T} {N ci j k : Nat} {x : Int32} (hF : zFP own idx C T N ci j .int) (hd : decode cc pc = .ok (.putfield idx, 3)) (hl : lv k = true) (hz : zK k = (0, ci)) (hs : zF ci ad k (upd (M.1 k) j x) (M.2 k) = (zF ci ad k (M.1 k) (M.2 k)).set j (.int x))
    {kf : zMem → zRES} (kk : ∀ M', M' = zsI M k j x → zG l Z lv ad X cs (pc + 3) L S M' (kf M')) : zG l Z lv ad X cs pc L (.int x :: .ref (ad k) :: S) M (zl (zsI M k j x) kf) := by
  obtain ⟨p, e, R, s, m, args, below, meth, c, A, nL', Qf⟩ := X
  obtain ⟨hx0, hb, -, hown, hSS, -, -, -, -, -, hAd, -⟩ := hC
  intro r hr hx H locs ls hW hS hL
  refine zput hx0 hb hown hSS hF hW hl hz rfl rfl hd (fun H1 n h1 z oq => ?_)
  refine kk _ rfl r hr hx H1 _ ls (hW.setI hl ?_ oq) (hS.put z oq (hAd k hl)) hL
  rw [zE_0 hz, hs]
  exact h1
theorem zg_putL (hC : zC l Z lv ad X own cc nL ret d) {idx : Nat} {C : String} {T : u_T} {N ci j k : Nat} {x : Int64} (hF : zFP own idx C T N ci j .long) (hd : decode cc pc = .ok (.putfield idx, 3)) (hl : lv k = true) (hz : zK k = (0, ci)) (hs : zF ci ad k (M.1 k) (vp_updL (M.2 k) j x) = (zF ci ad k (M.1 k) (M.2 k)).set j (.long x))
    {kf : zMem → zRES} (kk : ∀ M', M' = zsL M k j x → zG l Z lv ad X cs (pc + 3) L S M' (kf M')) : zG l Z lv ad X cs pc L (.long x :: .ref (ad k) :: S) M (zl (zsL M k j x) kf) := by
  obtain ⟨p, e, R, s, m, args, below, meth, c, A, nL', Qf⟩ := X
  obtain ⟨hx0, hb, -, hown, hSS, -, -, -, -, -, hAd, -⟩ := hC
  intro r hr hx H locs ls hW hS hL
  refine zput hx0 hb hown hSS hF hW hl hz rfl rfl hd (fun H1 n h1 z oq => ?_)
  refine kk _ rfl r hr hx H1 _ ls (hW.setL hl ?_ oq) (hS.put z oq (hAd k hl)) hL
  rw [zE_0 hz, hs]
  exact h1
theorem zif {c : Bool} {o : zRES} {r : zR1} (h : (if c = true then o else none) = some r) : c = true ∧ o = some r := by
  cases c with
  | true => exact ⟨rfl, by simpa using h⟩
  | false => simp at h
theorem zg_iald (hC : zC l Z lv ad X own cc nL ret d) {k n : Nat} {i : Int32} (hd : decode cc pc = .ok (.iaload, 1)) (hl : lv k = true) (hz : zK k = (1, n))
    (kk : zin i n = true → zG l Z lv ad X cs (pc + 1) L (.int (M.1 k i.toNatClampNeg) :: S) M o) : zG l Z lv ad X cs pc L (.int i :: .ref (ad k) :: S) M (if zin i n = true then o else none) := by
  obtain ⟨p, e, R, s, m, args, below, meth, c, A, nL', Qf⟩ := X
  obtain ⟨hx0, hb, -, hown, hSS, -⟩ := hC
  intro r hr hx H locs ls hW hS hL
  obtain ⟨hi, hr⟩ := zif hr
  have h1 := hW.1 k hl
  rw [zE_1 hz] at h1
  exact va_iald (D := Z.1) (cl := vwCl) (tys := zty Z) hx0 hb hSS.2.1 (zone h1) 0 0 rfl rfl (zin_in hi) hd (kk hi r hr hx H locs ls hW hS hL)
theorem zg_lald (hC : zC l Z lv ad X own cc nL ret d) {k n : Nat} {i : Int32} (hd : decode cc pc = .ok (.laload, 1)) (hl : lv k = true) (hz : zK k = (2, n))
    (kk : zin i n = true → zG l Z lv ad X cs (pc + 1) L (.long (M.2 k i.toNatClampNeg) :: S) M o) : zG l Z lv ad X cs pc L (.int i :: .ref (ad k) :: S) M (if zin i n = true then o else none) := by
  obtain ⟨p, e, R, s, m, args, below, meth, c, A, nL', Qf⟩ := X
  obtain ⟨hx0, hb, -, hown, hSS, -⟩ := hC
  intro r hr hx H locs ls hW hS hL
  obtain ⟨hi, hr⟩ := zif hr
  have h1 := hW.1 k hl
  rw [zE_2 hz] at h1
  exact va_lald (D := Z.1) (cl := vwCl) (tys := zty Z) hx0 hb hSS.2.1 (zone h1) 0 1 rfl rfl (zin_in hi) hd (kk hi r hr hx H locs ls hW hS hL)
theorem zg_aald (hC : zC l Z lv ad X own cc nL ret d) {k n : Nat} {i : Int32} (hd : decode cc pc = .ok (.aaload, 1)) (hl : lv k = true) (hz : zK k = (3, n))
    (kk : zin i n = true → zG l Z lv ad X cs (pc + 1) L (.ref (ad (k + 1 + i.toNatClampNeg)) :: S) M o) : zG l Z lv ad X cs pc L (.int i :: .ref (ad k) :: S) M (if zin i n = true then o else none) := by
  obtain ⟨p, e, R, s, m, args, below, meth, c, A, nL', Qf⟩ := X
  obtain ⟨hx0, hb, -, hown, hSS, -⟩ := hC
  intro r hr hx H locs ls hW hS hL
  obtain ⟨hi, hr⟩ := zif hr
  have h1 := hW.1 k hl
  rw [zE_3 hz] at h1
  have hlt := zin_lt hi
  have hin := zin_in hi
  have hK := hSS.2.1
  have hv : va_rf (if i.toNatClampNeg < n then some (ad (k + 1 + i.toNatClampNeg)) else none) = .ref (ad (k + 1 + i.toNatClampNeg)) := by rw [if_pos hlt]; rfl
  exact W.aald (v := .ref (ad (k + 1 + i.toNatClampNeg))) (ty := .array .int) hx0 hb h1 ((hK.2 2 _ rfl).1 n (fun j => va_rf (if j < n then some (ad (k + 1 + j)) else none))) rfl (fun q => by cases q) (by show ¬ (i < 0 ∨ (arrV _ _ _).slots.size ≤ _); rw [arrV_size]; exact hin) (by show (arrV _ _ _).slots[_]? = _; rw [arrV_read _ _ hlt, hv]) rfl rfl hd (kk hi r hr hx H locs ls hW hS hL)
theorem zg_iast (hC : zC l Z lv ad X own cc nL ret d) {k n : Nat} {i x : Int32} (hd : decode cc pc = .ok (.iastore, 1)) (hl : lv k = true) (hz : zK k = (1, n))
    {kf : zMem → zRES} (kk : zin i n = true → ∀ M', M' = zsI M k i.toNatClampNeg x → zG l Z lv ad X cs (pc + 1) L S M' (kf M')) : zG l Z lv ad X cs pc L (.int x :: .int i :: .ref (ad k) :: S) M (if zin i n = true then zl (zsI M k i.toNatClampNeg x) kf else none) := by
  obtain ⟨p, e, R, s, m, args, below, meth, c, A, nL', Qf⟩ := X
  obtain ⟨hx0, hb, -, hown, hSS, -, -, -, -, -, hAd, -⟩ := hC
  intro r hr hx H locs ls hW hS hL
  obtain ⟨hi, hr⟩ := zif hr
  have h1 := hW.1 k hl
  rw [zE_1 hz] at h1
  have hin := zin_in hi
  have hK := hSS.2.1
  refine W.iast hx0 hb h1 ((hK.2 0 _ rfl).1 n (fun j => .int (M.1 k j))) (fun q => by cases q) (by show ¬ (i < 0 ∨ (arrV _ _ _).slots.size ≤ _); rw [arrV_size]; exact hin) rfl rfl hd fun H1 e1 z oq => ?_
  refine kk hi _ rfl r hr hx H1 _ ls (hW.setI hl ?_ oq) (hS.put z oq (hAd k hl)) hL
  rw [zE_1 hz]
  show H1[ad k]? = some (vp_cell _ _)
  rw [e1]
  show some ((vp_cell _ _).setSlot _ _) = _
  rw [vp_cell_i, vp_cell_i, arrV_store]
  congr 2
  funext q
  by_cases hq : q = i.toNatClampNeg
  · subst hq
    simp [updV, upd]
  · simp [updV, upd, hq]
theorem zg_last (hC : zC l Z lv ad X own cc nL ret d) {k n : Nat} {i : Int32} {x : Int64} (hd : decode cc pc = .ok (.lastore, 1)) (hl : lv k = true) (hz : zK k = (2, n))
    {kf : zMem → zRES} (kk : zin i n = true → ∀ M', M' = zsL M k i.toNatClampNeg x → zG l Z lv ad X cs (pc + 1) L S M' (kf M')) : zG l Z lv ad X cs pc L (.long x :: .int i :: .ref (ad k) :: S) M (if zin i n = true then zl (zsL M k i.toNatClampNeg x) kf else none) := by
  obtain ⟨p, e, R, s, m, args, below, meth, c, A, nL', Qf⟩ := X
  obtain ⟨hx0, hb, -, hown, hSS, -, -, -, -, -, hAd, -⟩ := hC
  intro r hr hx H locs ls hW hS hL
  obtain ⟨hi, hr⟩ := zif hr
  have h1 := hW.1 k hl
  rw [zE_2 hz] at h1
  have hin := zin_in hi
  have hK := hSS.2.1
  refine W.last hx0 hb h1 ((hK.2 1 _ rfl).1 n (fun j => .long (M.2 k j))) (fun q => by cases q) (by show ¬ (i < 0 ∨ (arrV _ _ _).slots.size ≤ _); rw [arrV_size]; exact hin) rfl rfl hd fun H1 e1 z oq => ?_
  refine kk hi _ rfl r hr hx H1 _ ls (hW.setL hl ?_ oq) (hS.put z oq (hAd k hl)) hL
  rw [zE_2 hz]
  show H1[ad k]? = some (vp_cell _ _)
  rw [e1]
  show some ((vp_cell _ _).setSlot _ _) = _
  rw [vp_cell_l, vp_cell_l, arrV_store]
  congr 2
  funext q
  by_cases hq : q = i.toNatClampNeg
  · subst hq
    simp [updV, vp_updL]
  · simp [updV, vp_updL, hq]
theorem zg_alen (hC : zC l Z lv ad X own cc nL ret d) {k n : Nat} (hd : decode cc pc = .ok (.arraylength, 1)) (hl : lv k = true) (hz : zK k = (1, n))
    (kk : zG l Z lv ad X cs (pc + 1) L (.int (nI n) :: S) M o) : zG l Z lv ad X cs pc L (.ref (ad k) :: S) M o := by
  obtain ⟨p, e, R, s, m, args, below, meth, c, A, nL', Qf⟩ := X
  obtain ⟨hx0, hb, -, hown, hSS, -⟩ := hC
  intro r hr hx H locs ls hW hS hL
  have h1 := hW.1 k hl
  rw [zE_1 hz] at h1
  exact va_alen (D := Z.1) (cl := vwCl) (tys := zty Z) hx0 hb hSS.2.1 (zone h1) 0 0 rfl (ty := .int) rfl rfl hd (kk r hr hx H locs ls hW hS hL)
/-! contracts, ends, calls -/
def zRm (d mc ms : Nat) : Room := { frames := d, cells := mc, slots := ms, locals := 34 * d + 22 }
def zbn (r : zR1) : Nat × Nat := match r.1 with | .inl _ => (0, 0) | .inr _ => (1, 6)
def zbw (_ : zR1) : Nat × Nat := (1, 6)
def zex : Nat → String := fun e => match e with | 1 => "java/lang/IndexOutOfBoundsException" | 2 => "java/lang/IllegalArgumentException" | _ => "java/lang/IllegalStateException"
def zrv (vd : Bool) (v : Int32) : List Value := if vd = true then [] else [.int v]
def zPc (Z : zZ) (lv : Nat → Bool) (ad : Nat → Nat) (sz : Nat) (av : List Value) (M : zMem) : Array Value → State → Prop := fun a U => a = av.toArray ∧ U.heap.size = sz ∧ zS Z U ∧ zW Z lv ad M U.heap ∧ zQ (zA lv ad sz) U U.heap
def zQc (Z : zZ) (lv : Nat → Bool) (ad : Nat → Nat) (sz : Nat) (vd : Bool) (r : zR1) : Array Value → State → Outcome → State → Prop := fun _ st oc t => (∃ (v : Int32) (w : Option Value), r.1 = .inl v ∧ oc = .returned w ∧ w.toList = zrv vd v) ∧ zW Z lv ad r.2 t.heap ∧ va_F (zA lv ad sz) st t
def zXc (Z : zZ) (lv : Nat → Bool) (ad : Nat → Nat) (sz : Nat) (r : zR1) : String → State → State → Prop := fun E st t => (∃ e, r.1 = .inr e ∧ E = zex e) ∧ zW Z lv ad r.2 t.heap ∧ va_F (zA lv ad sz) st t
/-- a method's contract: called with av over the world M, it comes to what o tells -/
def zT (l : Launch) (Z : zZ) (lv : Nat → Bool) (ad : Nat → Nat) (w : Cond) (y : MethodName) (d : Nat) (vd : Bool) (bd : zR1 → Nat × Nat) (av : List Value) (M : zMem) (o : zRES) : Prop := ∀ (sz : Nat) (r : zR1), o = some r →
  vx_Met l y [w] (zRm d (bd r).1 (bd r).2) (zPc Z lv ad sz av M) (zQc Z lv ad sz vd r) (zXc Z lv ad sz r) (bd r).1 (bd r).2 (zA lv ad sz)
theorem zS.calling {U : State} {g : JFrame} {mk : MethodId} {a : Array Value} (h : zS Z U) : zS Z (U.calling g mk a) := h.warm (State.WarmedH.refl U)
theorem zPc_blind {sz : Nat} {av : List Value} : FrameBlind (zPc Z lv ad sz av M) := fun a U g mk h => ⟨h.1, h.2.1, h.2.2.1.calling, h.2.2.2.1, h.2.2.2.2.go (Vm.Alike.refl U.vm) (fun _ _ _ => rfl) (fun _ h => h)⟩
/-- what the end of a method's walk is -/
def zEnd (Z : zZ) (lv : Nat → Bool) (ad : Nat → Nat) (X : zX) (vd : Bool) : Prop := match X with
  | (_, _, R, s, _, args, below, _, _, A, _, Qf) => A = zA lv ad s.heap.size ∧ Qf = fun r => vx_MQ below (zQc Z lv ad s.heap.size vd r) (zXc Z lv ad s.heap.size r) args s R.cells R.slots (zA lv ad s.heap.size)
def zNoX (X : zX) : Prop := match X with
  | (_, _, _, _, _, _, _, _, c, _, _, _) => ∀ x ∈ c.exceptionTable.toList, False
theorem zT_of {y : MethodName} {vd : Bool} {av : List Value} (hl : l.stackTraces = false) (hy : plainName y.cls = true) (hn : (lg_sl av).length ≤ nL)
    (body : ∀ X : zX, zC l Z lv ad X y.cls cc nL ret d → zEnd Z lv ad X vd → zNoX X → zG l Z lv ad X (0, 0) 0 (lv_args 0 av) [] M o) : zT l Z lv ad (.code y cc nL ret) y d vd zbn av M o := by
  intro sz r hr
  refine vx_ofW (cc := cc) (maxL := nL) (ret := ret) (ws' := []) hy rfl ?_
  intro p e s m args below meth c s₁ B hml hnx hv
  obtain ⟨rfl, hsz, hSS, hW, hQ⟩ := hv
  subst hsz
  have hb := body (p, e, zRm d (zbn r).1 (zbn r).2, s, m, av.toArray, below, meth, c, zA lv ad s.heap.size, nL, fun r => vx_MQ below (zQc Z lv ad s.heap.size vd r) (zXc Z lv ad s.heap.size r) av.toArray s _ _ (zA lv ad s.heap.size))
    ⟨B.exec, B.bytes, ⟨rfl, hml⟩, findClass_of_methodNamed B.named, hSS, hl, B.notSynchronized, B.returns, ⟨Nat.le_refl d, Nat.le_refl (34 * d + 22)⟩, fun q h => Or.inr h, fun k h => Or.inl ⟨k, h, rfl⟩, hQ⟩ ⟨rfl, rfl⟩ hnx r hr
    (fun x h => by
      show 0 + 1 ≤ (zbn r).1 ∧ 0 + 6 ≤ (zbn r).2
      simp [zbn, h]) s.heap []
  have hle := lv_entry av (n := nL) hn
  rw [lg_entry_eq]
  exact hb _ hW va_S.rf hle
theorem zg_ret (hC : zC l Z lv ad X own cc nL (some .int) d) (hE : zEnd Z lv ad X false) {v : Int32} (hd : decode cc pc = .ok (.ireturn, 1)) : zG l Z lv ad X (0, 0) pc L [.int v] M (some (.inl v, M)) := by
  obtain ⟨p, e, R, s, m, args, below, meth, c, A, nL', Qf⟩ := X
  obtain ⟨hx0, hb, -, hown, hSS, -, hlk, hret, -⟩ := hC
  obtain ⟨rfl, rfl⟩ := hE
  intro r hr hx H locs ls hW hS hL
  cases hr
  refine W.widen (k := R.cells) (n := R.slots) (Nat.zero_le _) (Nat.zero_le _) (vx_ret ?_)
  exact W.zret hx0 hb hret rfl (fun t ht hWm => ⟨⟨v, some (.int v), rfl, rfl, rfl⟩, by rw [ht]; exact hW, hS.F ht⟩) hS.2.2 hd hlk
theorem zg_retz (hC : zC l Z lv ad X own cc nL (some .boolean) d) (hE : zEnd Z lv ad X false) {v : Int32} (hv : v = 0 ∨ v = 1) (hd : decode cc pc = .ok (.ireturn, 1)) : zG l Z lv ad X (0, 0) pc L [.int v] M (some (.inl v, M)) := by
  obtain ⟨p, e, R, s, m, args, below, meth, c, A, nL', Qf⟩ := X
  obtain ⟨hx0, hb, -, hown, hSS, -, hlk, hret, -⟩ := hC
  obtain ⟨rfl, rfl⟩ := hE
  intro r hr hx H locs ls hW hS hL
  cases hr
  refine W.widen (k := R.cells) (n := R.slots) (Nat.zero_le _) (Nat.zero_le _) (vx_ret ?_)
  exact W.zret hx0 hb hret (by rcases hv with rfl | rfl <;> rfl) (fun t ht hWm => ⟨⟨v, some (.int v), rfl, rfl, rfl⟩, by rw [ht]; exact hW, hS.F ht⟩) hS.2.2 hd hlk
def zbool (v : Int32) : Bool := decide (v = 0 ∨ v = 1)
theorem zg_retb (hC : zC l Z lv ad X own cc nL (some .boolean) d) (hE : zEnd Z lv ad X false) {v : Int32} (hd : decode cc pc = .ok (.ireturn, 1)) : zG l Z lv ad X (0, 0) pc L [.int v] M (if zbool v = true then some (.inl v, M) else none) := by
  by_cases h : zbool v = true
  · rw [if_pos h]
    exact zg_retz hC hE (of_decide_eq_true h) hd
  · rw [if_neg h]
    exact zg_none
theorem zg_retv (hC : zC l Z lv ad X own cc nL none d) (hE : zEnd Z lv ad X true) (hd : decode cc pc = .ok (.return_, 1)) : zG l Z lv ad X (0, 0) pc L [] M (some (.inl 0, M)) := by
  obtain ⟨p, e, R, s, m, args, below, meth, c, A, nL', Qf⟩ := X
  obtain ⟨hx0, hb, -, hown, hSS, -, hlk, hret, -⟩ := hC
  obtain ⟨rfl, rfl⟩ := hE
  intro r hr hx H locs ls hW hS hL
  cases hr
  refine W.widen (k := R.cells) (n := R.slots) (Nat.zero_le _) (Nat.zero_le _) (vx_ret ?_)
  exact W.vret hx0 hb hret (fun t ht hWm => ⟨⟨0, none, rfl, rfl, rfl⟩, by rw [ht]; exact hW, hS.F ht⟩) hS.2.2 hd hlk
/-- one call after another: what was thrown goes on -/
def zb (o : zRES) (k : Int32 → zMem → zRES) : zRES := match o with
  | none => none
  | some (.inl v, M) => k v M
  | some (.inr e, M) => some (.inr e, M)
theorem zrun {p : Program} {e : Env} {R : Room} {s : State} {m : MethodId} {args : Array Value} {below : List Frame} {meth : Method} {c : Code} {A : Nat → Prop} {H : Heap} {locs : List Loc} {cells slots mc ms : Nat} {Q : State → Prop} {ls : Array Slot} {st0 rest : List Value} {r : zR1} {vd : Bool} {a : Array Value}
    (run : vx_Run p l e R s m args below meth c H locs cells slots mc ms (F0 m pc ls st0) rest (zQc Z lv ad H.size vd r a) (zXc Z lv ad H.size r) (zA lv ad H.size)) (hS : va_S A s.heap H locs) (hA : ∀ q, zA lv ad H.size q → A q)
    (kx : ∀ (x : Nat), r.1 = .inr x → ∀ (ce : Cell) (q : Addr) (H1 : Heap) (locs1 : List Loc), zW Z lv ad r.2 H1 → va_S A s.heap H1 locs1 → H1[q]? = some ce → ce.vm = .none → s.vm.findClass (zex x) = some ce.cls → vx_W p l e R s m args below meth c H1 locs1 (cells + mc) (slots + ms) Q (F0 m pc ls rest) q)
    (kk : ∀ (v : Int32), r.1 = .inl v → ∀ (H1 : Heap) (locs1 : List Loc), zW Z lv ad r.2 H1 → va_S A s.heap H1 locs1 → W p l e R s m args below meth c H1 locs1 (cells + mc) (slots + ms) Q (F0 m (pc + 3) ls (zrv vd v ++ rest))) : W p l e R s m args below meth c H locs cells slots Q (F0 m pc ls st0) := by
  intro T hT X
  rcases run T hT X with ⟨v, st₀, t, T', L, h0, X', hL, e1, e2, ⟨⟨w, u, hv, hu, hz⟩, hw, hF⟩, st⟩ | ⟨q, st₀, t, T', L, E, ce, h0, X', hL, e1, e2, ⟨⟨x, hx, rfl⟩, hw, hF⟩, hce, hcv, hcl, st⟩
  · cases hu
    obtain ⟨k1, k2, k3⟩ := vx_keep h0 e1 hS (fun q _ h => hA q h) hA hL hF
    obtain ⟨t2, a1, b1⟩ := kk w hv T'.heap (locs ++ L) (by rw [e1]; exact hw) k3 T' rfl X'
    refine ⟨t2, st t2 ?_, b1⟩
    show Steps p.tables e below (T'.setTop { (F0 m pc ls st0) with pc := pc + 3, stack := v.toList ++ rest }) t2
    rw [hz]
    exact a1
  · obtain ⟨k1, k2, k3⟩ := vx_keep h0 e1 hS (fun q _ h => hA q h) hA hL hF
    obtain ⟨t2, a1, b1⟩ := kx x hx ce q T'.heap (locs ++ L) (by rw [e1]; exact hw) k3 (by rw [e1]; exact hce) hcv hcl T' rfl X'
    exact ⟨t2, st.trans a1, b1⟩
def zLV (own : String) (idx : Nat) (y : MethodName) (bytes : ByteArray) (maxL : Nat) (ret : Option FieldType) (n : Nat) : Prop := Cond.methodLink own idx y ∈ zTs ∧ Cond.instanceMethod y ∈ zTs ∧ Cond.selects y.cls y y ∈ zTs ∧ Cond.initialized y.cls ∈ zTs ∧ Cond.code y bytes maxL ret ∈ zTs ∧ (y.cls ≠ "java/lang/invoke/MethodHandle" ∧ y.cls ≠ "java/lang/invoke/VarHandle" ∧ (parseMethodDescriptor y.desc).map (fun d => d.parameters.length) = some n) ∧ maxL ≤ 15
def zLS (own : String) (idx : Nat) (y : MethodName) (bytes : ByteArray) (maxL : Nat) (ret : Option FieldType) (n : Nat) : Prop := Cond.methodLink own idx y ∈ zTs ∧ Cond.static y ∈ zTs ∧ Cond.initialized y.cls ∈ zTs ∧ Cond.code y bytes maxL ret ∈ zTs ∧ (y.cls ≠ "java/lang/invoke/MethodHandle" ∧ y.cls ≠ "java/lang/invoke/VarHandle" ∧ (parseMethodDescriptor y.desc).map (fun d => d.parameters.length) = some n) ∧ maxL ≤ 15
def zLN (own host : String) (idx : Nat) (y : MethodName) (bytes : ByteArray) (maxL : Nat) (ret : Option FieldType) (n : Nat) : Prop := Cond.methodLinkNest own idx y host ∈ zTs ∧ Cond.static y ∈ zTs ∧ Cond.initialized y.cls ∈ zTs ∧ Cond.code y bytes maxL ret ∈ zTs ∧ (y.cls ≠ "java/lang/invoke/MethodHandle" ∧ y.cls ≠ "java/lang/invoke/VarHandle" ∧ (parseMethodDescriptor y.desc).map (fun d => d.parameters.length) = some n) ∧ maxL ≤ 15
theorem zlen {y : MethodName} {n : Nat} (h : (parseMethodDescriptor y.desc).map (fun d => d.parameters.length) = some n) : ∀ sig, parseMethodDescriptor y.desc = some sig → n = sig.parameters.length := by
  intro sig hs
  rw [hs] at h
  exact (Option.some.inj h).symm
theorem zcode {y : MethodName} {bytes : ByteArray} {maxL : Nat} {ret : Option FieldType} {s : State} {args : Array Value} (h : (Cond.code y bytes maxL ret).before args s = true) : ∀ w ∈ [Cond.code y bytes maxL ret], ∀ (a' : Array Value) (U : State), s.WarmedH U.vm → w.before a' U = true := by
  intro w hw a' U hW
  rw [List.mem_singleton.mp hw]
  exact word_at hW (Or.inl rfl) h
theorem zroom {R : Room} {d maxL : Nat} {b : Nat × Nat} (h : d + 1 ≤ R.frames ∧ 34 * (d + 1) + 22 ≤ R.locals) (hm : maxL ≤ 15) : (zRm d b.1 b.2).frames + 1 ≤ R.frames ∧ 8 + (maxL + 11) + (zRm d b.1 b.2).locals ≤ R.locals := by
  refine ⟨h.1, ?_⟩
  show 8 + (maxL + 11) + (34 * d + 22) ≤ R.locals
  omega
/-- what a call needs of the world, for the callee's start -/
theorem zpre {s : State} {A : Nat → Prop} {H : Heap} {locs : List Loc} (hSS : zS Z s) (hA : ∀ q, s.heap.size ≤ q → A q) (hAd : ∀ k, lv k = true → A (ad k)) (hQ : zQ A s s.heap) (hW : zW Z lv ad M H) (hS : va_S A s.heap H locs) (av : List Value) : (∀ q, zA lv ad H.size q → A q) ∧ ∀ U : State, U.heap = H → s.WarmedH U.vm → zPc Z lv ad H.size av M av.toArray U := by
  have hAB : ∀ q, zA lv ad H.size q → A q := by
    rintro q (⟨k, hk, rfl⟩ | h)
    · exact hAd k hk
    · exact hA q (Nat.le_trans hS.1 h)
  exact ⟨hAB, fun U hU hWm => ⟨rfl, by rw [hU], hSS.warm hWm, by rw [hU]; exact hW, hQ.go hWm.alike (fun a h1 h2 => by rw [hU]; exact hS.2.1 a h1 h2) hAB⟩⟩
/-- behind a call, in a method without handlers -/
theorem zback {p : Program} {e : Env} {R : Room} {s : State} {m : MethodId} {args : Array Value} {below : List Frame} {meth : Method} {c : Code} {A : Nat → Prop} {nL' : Nat} {Qf : zR1 → State → Prop} {H : Heap} {locs : List Loc} {ls : Array Slot} {st0 : List Value} {r r' : zR1} {vd : Bool} {vd' : Bool} {a : Array Value} {o' : zRES} {k : Int32 → zMem → zRES}
    (hE : zEnd Z lv ad (p, e, R, s, m, args, below, meth, c, A, nL', Qf) vd') (hNX : ∀ x ∈ c.exceptionTable.toList, False) (hlk : meth.locks = false) (ho : o' = some r') (hr : zb o' k = some r) (hx : ∀ x, r.1 = .inr x → 0 + 1 ≤ R.cells ∧ 0 + 6 ≤ R.slots)
    (run : vx_Run p l e R s m args below meth c H locs 0 0 (zbn r').1 (zbn r').2 (F0 m pc ls st0) S (zQc Z lv ad H.size vd r' a) (zXc Z lv ad H.size r') (zA lv ad H.size)) (hS : va_S A s.heap H locs) (hA : ∀ q, zA lv ad H.size q → A q) (hL : lv_has ls nL' L)
    (kk : ∀ (v : Int32) (M' : zMem), o' = some (.inl v, M') → zG l Z lv ad (p, e, R, s, m, args, below, meth, c, A, nL', Qf) (0, 0) (pc + 3) L (zrv vd v ++ S) M' (k v M')) : W p l e R s m args below meth c H locs 0 0 (Qf r) (F0 m pc ls st0) := by
  obtain ⟨r1, M'⟩ := r'
  subst ho
  refine zrun run hS hA (fun x hx1 ce q H1 locs1 hw1 hS1 hce hcv hcl => ?_) (fun v hv H1 locs1 hw1 hS1 => ?_)
  · dsimp only at hx1
    subst hx1
    cases hr
    obtain ⟨rfl, rfl⟩ := hE
    obtain ⟨h1, h2⟩ := hx x rfl
    exact vx_out (fun z hz => (hNX z hz).elim) hlk hce hcv hcl (fun t ht hal => ⟨⟨x, rfl, rfl⟩, by rw [ht]; exact hw1, hS1.F ht⟩) hS1.2.2 h1 h2
  · dsimp only at hv
    subst hv
    exact kk v M' rfl r hr hx H1 locs1 ls hw1 hS1 hL
theorem zbn_le {R : Room} {r r' : zR1} {o' : zRES} {k : Int32 → zMem → zRES} (ho : o' = some r') (hr : zb o' k = some r) (hx : ∀ x, r.1 = .inr x → 0 + 1 ≤ R.cells ∧ 0 + 6 ≤ R.slots) : 0 + (zbn r').1 ≤ R.cells ∧ 0 + (zbn r').2 ≤ R.slots := by
  obtain ⟨r1, M'⟩ := r'
  subst ho
  cases r1 with
  | inl v => exact ⟨Nat.zero_le _, Nat.zero_le _⟩
  | inr x =>
    cases hr
    exact hx x rfl
theorem zsome {o' : zRES} {k : Int32 → zMem → zRES} {r : zR1} (hr : zb o' k = some r) : ∃ r', o' = some r' := by
  cases o' with
  | none => cases hr
  | some r' => exact ⟨r', rfl⟩
theorem zg_callV (hC : zC l Z lv ad X own cc nL ret (d + 1)) {vd' : Bool} (hE : zEnd Z lv ad X vd') (hN : zNoX X) {idx n k ci maxL : Nat} {y : MethodName} {bytes : ByteArray} {rt : Option FieldType} {vd : Bool} {As : List Value} {o' : zRES} {kf : Int32 → zMem → zRES} {C : String} {T : u_T} {N : Nat}
    {St : List Value} (hst : St = As.reverse ++ .ref (ad k) :: S) (hT : zT l Z lv ad (.code y bytes maxL rt) y d vd zbn (.ref (ad k) :: As) M o') (hL0 : zLV own idx y bytes maxL rt n) (hn : As.length = n) (hd : decode cc pc = .ok (.invokevirtual idx, 3)) (hl : lv k = true) (hz : zK k = (0, ci)) (hc : vwCl[ci]? = some (C, T, N)) (hcl : y.cls = C) (hcat : (S.map fun v => v.category).sum ≤ 8)
    (kk : ∀ (v : Int32) (M' : zMem), o' = some (.inl v, M') → zG l Z lv ad X (0, 0) (pc + 3) L (zrv vd v ++ S) M' (kf v M')) : zG l Z lv ad X (0, 0) pc L St M (zb o' kf) := by
  subst hst
  obtain ⟨p, e, R, s, m, args, below, meth, c, A, nL', Qf⟩ := X
  obtain ⟨hx0, hb, ⟨rfl, hml⟩, hown, hSS, hst, hlk, hret, hroom, hA, hAd, hQ⟩ := id hC
  intro r hr hx H locs ls hW hS hL
  obtain ⟨r', ho⟩ := zsome hr
  obtain ⟨hAB, hpre⟩ := zpre hSS hA hAd hQ hW hS (.ref (ad k) :: As)
  obtain ⟨w1, w2, w3, w4, w5, w6, w7⟩ := hL0
  have hcb : ∀ w ∈ zTs, w.before args s = true := fun w hw => hSS.1 w hw _
  have h1 := hW.1 k hl
  rw [zE_0 hz] at h1
  refine zback hE hN hlk ho hr hx (vx_runV (nL := nL') (Ts := zTs) (own := own) (C := C) (index := idx) (n := n) ⟨hx0, hb, hml, hown, hcb⟩ (hT H.size r' ho) ⟨⟨rfl, rfl, (zroom hroom w7).1, (zroom hroom w7).2, zcode (hcb _ w5), List.mem_singleton.mpr rfl, hcb _ w5, hcb _ w4, ⟨w6.1, w6.2.1⟩, zlen w6.2.2, hcb _ w1⟩, hcb _ w2, by rw [← hcl]; exact hcb _ w3⟩
    ⟨zPc_blind, va_recv hSS.2.1 (zone h1) (q0 := 0) hc rfl, hpre⟩ rfl hn hL.1 rfl (lv_room hcat) hd (zbn_le ho hr hx)) hS hAB hL kk
theorem zg_callS (hC : zC l Z lv ad X own cc nL ret (d + 1)) {vd' : Bool} (hE : zEnd Z lv ad X vd') (hN : zNoX X) {idx n maxL : Nat} {y : MethodName} {bytes : ByteArray} {rt : Option FieldType} {vd : Bool} {As : List Value} {o' : zRES} {kf : Int32 → zMem → zRES}
    {St : List Value} (hst : St = As.reverse ++ S) (hT : zT l Z lv ad (.code y bytes maxL rt) y d vd zbn As M o') (hL0 : zLS own idx y bytes maxL rt n) (hn : As.length = n) (hd : decode cc pc = .ok (.invokestatic idx, 3)) (hcat : (S.map fun v => v.category).sum ≤ 8)
    (kk : ∀ (v : Int32) (M' : zMem), o' = some (.inl v, M') → zG l Z lv ad X (0, 0) (pc + 3) L (zrv vd v ++ S) M' (kf v M')) : zG l Z lv ad X (0, 0) pc L St M (zb o' kf) := by
  subst hst
  obtain ⟨p, e, R, s, m, args, below, meth, c, A, nL', Qf⟩ := X
  obtain ⟨hx0, hb, ⟨rfl, hml⟩, hown, hSS, hst, hlk, hret, hroom, hA, hAd, hQ⟩ := id hC
  intro r hr hx H locs ls hW hS hL
  obtain ⟨r', ho⟩ := zsome hr
  obtain ⟨hAB, hpre⟩ := zpre hSS hA hAd hQ hW hS As
  obtain ⟨w1, w2, w4, w5, w6, w7⟩ := hL0
  have hcb : ∀ w ∈ zTs, w.before args s = true := fun w hw => hSS.1 w hw _
  refine zback hE hN hlk ho hr hx (vx_runS (nL := nL') (Ts := zTs) (own := own) (index := idx) (n := n) ⟨hx0, hb, hml, hown, hcb⟩ (hT H.size r' ho) ⟨⟨rfl, rfl, (zroom hroom w7).1, (zroom hroom w7).2, zcode (hcb _ w5), List.mem_singleton.mpr rfl, hcb _ w5, hcb _ w4, ⟨w6.1, w6.2.1⟩, zlen w6.2.2, hcb _ w1⟩, hcb _ w2⟩
    ⟨zPc_blind, hpre⟩ rfl hn hL.1 rfl (lv_room hcat) hd (zbn_le ho hr hx)) hS hAB hL kk
theorem zg_callVi (hC : zC l Z lv ad X own cc nL ret (d + 1)) {vd' : Bool} (hE : zEnd Z lv ad X vd') (hN : zNoX X) {idx n k ci maxL : Nat} {y : MethodName} {bytes : ByteArray} {rt : Option FieldType} {As : List Value} {o' : zRES} {kf : Int32 → zMem → zRES} {C : String} {T : u_T} {N : Nat}
    {St : List Value} (hst : St = As.reverse ++ .ref (ad k) :: S) (hT : zT l Z lv ad (.code y bytes maxL rt) y d false zbn (.ref (ad k) :: As) M o') (hL0 : zLV own idx y bytes maxL rt n) (hn : As.length = n) (hd : decode cc pc = .ok (.invokevirtual idx, 3)) (hl : lv k = true) (hz : zK k = (0, ci)) (hc : vwCl[ci]? = some (C, T, N)) (hcl : y.cls = C) (hcat : (S.map fun v => v.category).sum ≤ 8)
    (kk : ∀ (v : Int32) (M' : zMem), o' = some (.inl v, M') → zG l Z lv ad X (0, 0) (pc + 3) L (.int v :: S) M' (kf v M')) : zG l Z lv ad X (0, 0) pc L St M (zb o' kf) := zg_callV hC hE hN hst hT hL0 hn hd hl hz hc hcl hcat kk
theorem zg_callSi (hC : zC l Z lv ad X own cc nL ret (d + 1)) {vd' : Bool} (hE : zEnd Z lv ad X vd') (hN : zNoX X) {idx n maxL : Nat} {y : MethodName} {bytes : ByteArray} {rt : Option FieldType} {As : List Value} {o' : zRES} {kf : Int32 → zMem → zRES}
    {St : List Value} (hst : St = As.reverse ++ S) (hT : zT l Z lv ad (.code y bytes maxL rt) y d false zbn As M o') (hL0 : zLS own idx y bytes maxL rt n) (hn : As.length = n) (hd : decode cc pc = .ok (.invokestatic idx, 3)) (hcat : (S.map fun v => v.category).sum ≤ 8)
    (kk : ∀ (v : Int32) (M' : zMem), o' = some (.inl v, M') → zG l Z lv ad X (0, 0) (pc + 3) L (.int v :: S) M' (kf v M')) : zG l Z lv ad X (0, 0) pc L St M (zb o' kf) := zg_callS hC hE hN hst hT hL0 hn hd hcat kk
theorem zg_callVv (hC : zC l Z lv ad X own cc nL ret (d + 1)) {vd' : Bool} (hE : zEnd Z lv ad X vd') (hN : zNoX X) {idx n k ci maxL : Nat} {y : MethodName} {bytes : ByteArray} {rt : Option FieldType} {As : List Value} {o' : zRES} {kf : Int32 → zMem → zRES} {C : String} {T : u_T} {N : Nat}
    {St : List Value} (hst : St = As.reverse ++ .ref (ad k) :: S) (hT : zT l Z lv ad (.code y bytes maxL rt) y d true zbn (.ref (ad k) :: As) M o') (hL0 : zLV own idx y bytes maxL rt n) (hn : As.length = n) (hd : decode cc pc = .ok (.invokevirtual idx, 3)) (hl : lv k = true) (hz : zK k = (0, ci)) (hc : vwCl[ci]? = some (C, T, N)) (hcl : y.cls = C) (hcat : (S.map fun v => v.category).sum ≤ 8)
    (kk : ∀ (v : Int32) (M' : zMem), o' = some (.inl v, M') → zG l Z lv ad X (0, 0) (pc + 3) L (S) M' (kf v M')) : zG l Z lv ad X (0, 0) pc L St M (zb o' kf) := zg_callV hC hE hN hst hT hL0 hn hd hl hz hc hcl hcat kk
theorem zg_callSv (hC : zC l Z lv ad X own cc nL ret (d + 1)) {vd' : Bool} (hE : zEnd Z lv ad X vd') (hN : zNoX X) {idx n maxL : Nat} {y : MethodName} {bytes : ByteArray} {rt : Option FieldType} {As : List Value} {o' : zRES} {kf : Int32 → zMem → zRES}
    {St : List Value} (hst : St = As.reverse ++ S) (hT : zT l Z lv ad (.code y bytes maxL rt) y d true zbn As M o') (hL0 : zLS own idx y bytes maxL rt n) (hn : As.length = n) (hd : decode cc pc = .ok (.invokestatic idx, 3)) (hcat : (S.map fun v => v.category).sum ≤ 8)
    (kk : ∀ (v : Int32) (M' : zMem), o' = some (.inl v, M') → zG l Z lv ad X (0, 0) (pc + 3) L (S) M' (kf v M')) : zG l Z lv ad X (0, 0) pc L St M (zb o' kf) := zg_callS hC hE hN hst hT hL0 hn hd hcat kk
theorem zflag (hC : zC l Z lv ad X own cc nL ret d) : l.stackTraces = false := by
  obtain ⟨p, e, R, s, m, args, below, meth, c, A, nL', Qf⟩ := X
  exact hC.2.2.2.2.2.1
end ZG
end
section
section ZG5
variable {l : Launch} {Z : zZ} {lv : Nat → Bool} {ad : Nat → Nat} {X : zX} {cs : Nat × Nat} {own : String} {cc : ByteArray} {nL : Nat} {ret : Option FieldType} {d : Nat} {pc : Nat} {L L' : List (Nat × Value)} {S : List Value} {M : zMem} {o o1 o2 : zRES}
/-- a contract of a run that doesn't throw, as the kit's Met -/
theorem zmet {y : MethodName} {w : Cond} {sz : Nat} {v : Int32} {M' : zMem} {vd : Bool} {rm : Room} {Pc : Array Value → State → Prop} {mc ms : Nat} {free : Addr → Prop} (h : vx_Met l y [w] rm Pc (zQc Z lv ad sz vd (.inl v, M')) (zXc Z lv ad sz (.inl v, M')) mc ms free) : Met l y [w] rm Pc (zQc Z lv ad sz vd (.inl v, M')) mc ms free := by
  refine MetFree.mono h (fun _ _ h => h) (fun _ _ _ _ _ h => h) (fun a st oc t _ hq => ?_)
  rcases hq with hq | ⟨q, -, E, ce, L, ⟨⟨e, h1, -⟩, -⟩, -⟩
  · exact hq
  · cases h1
theorem zxrun {p : Program} {e : Env} {R : Room} {s : State} {m : MethodId} {args : Array Value} {below : List Frame} {meth : Method} {c : Code} {H : Heap} {locs : List Loc} {cells slots mc ms : Nat} {g : JFrame} {rest : List Value} {Qa : State → Outcome → State → Prop} {XC : String → State → State → Prop} {free : Addr → Prop} (h : va_Run p l e R s m args below meth c H locs cells slots mc ms g rest Qa free) : vx_Run p l e R s m args below meth c H locs cells slots mc ms g rest Qa XC free := fun T hT X => Or.inl (h T hT X)
theorem zg_callN (hC : zC l Z lv ad X own cc nL ret (d + 1)) {vd' : Bool} (hE : zEnd Z lv ad X vd') (hN : zNoX X) {idx n maxL : Nat} {host : String} {y : MethodName} {bytes : ByteArray} {rt : Option FieldType} {vd : Bool} {As : List Value} {o' : zRES} {kf : Int32 → zMem → zRES} (hnx : ∀ r, o' = some r → ∃ v, r.1 = .inl v)
    {St : List Value} (hst : St = As.reverse ++ S) (hT : zT l Z lv ad (.code y bytes maxL rt) y d vd zbn As M o') (hL0 : zLN own host idx y bytes maxL rt n) (hn : As.length = n) (hd : decode cc pc = .ok (.invokestatic idx, 3)) (hcat : (S.map fun v => v.category).sum ≤ 8)
    (kk : ∀ (v : Int32) (M' : zMem), o' = some (.inl v, M') → zG l Z lv ad X (0, 0) (pc + 3) L (zrv vd v ++ S) M' (kf v M')) : zG l Z lv ad X (0, 0) pc L St M (zb o' kf) := by
  subst hst
  obtain ⟨p, e, R, s, m, args, below, meth, c, A, nL', Qf⟩ := X
  obtain ⟨hx0, hb, ⟨rfl, hml⟩, hown, hSS, hst, hlk, hret, hroom, hA, hAd, hQ⟩ := id hC
  intro r hr hx H locs ls hW hS hL
  obtain ⟨r', ho⟩ := zsome hr
  obtain ⟨hAB, hpre⟩ := zpre hSS hA hAd hQ hW hS As
  obtain ⟨w1, w2, w4, w5, w6, w7⟩ := hL0
  have hcb : ∀ w ∈ zTs, w.before args s = true := fun w hw => hSS.1 w hw _
  obtain ⟨v, hv⟩ := hnx r' ho
  obtain ⟨r1, M'⟩ := r'
  dsimp only at hv
  subst hv
  exact zback hE hN hlk ho hr hx (zxrun (va_runSN (nL := nL') (Ts := zTs) (own := own) (index := idx) (n := n) (host := host) ⟨hx0, hb, hml, hown, hcb⟩ (zmet (hT H.size _ ho)) ⟨⟨⟨rfl, rfl, (zroom hroom w7).1, (zroom hroom w7).2, zcode (hcb _ w5), List.mem_singleton.mpr rfl⟩, hcb _ w5, hcb _ w4, ⟨w6.1, w6.2.1⟩, zlen w6.2.2, hcb _ w1⟩, hcb _ w2, trivial⟩
    ⟨zPc_blind, hpre⟩ rfl hn hL.1 rfl (lv_room hcat) hd (zbn_le ho hr hx))) hS hAB hL kk
/-- a throw: new X; dup; ldc text; X.<init>; athrow -/
def znm : List String := ["java/lang/RuntimeException", "java/lang/Exception"]
def zTX (own : String) (ic x : Nat) : Prop := (∀ w ∈ vx_atS own ic (zex x) znm, w ∈ zTs) ∧ (∀ w ∈ vx_atS own ic (zex x) znm, vx_ot w = true) ∧ Bundle.fit (zex x) = true ∧ Cond.initialized (zex x) ∈ zTs
theorem zg_throw (hC : zC l Z lv ad X own cc nL ret d) {vd' : Bool} (hE : zEnd Z lv ad X vd') (hN : zNoX X) (h6 : 6 ≤ d) {x ik is ic : Nat} {text : String} (hX : zTX own ic x) (hk : Cond.classLink own ik (zex x) ∈ zTs) (hs : Cond.stringRef own is text ∈ zTs)
    (d0 : decode cc pc = .ok (.new ik, 3)) (d3 : decode cc (pc + 3) = .ok (.dup, 1)) (d4 : decode cc (pc + 4) = .ok (.ldc is, 2)) (d6 : decode cc (pc + 6) = .ok (.invokespecial ic, 3)) (d9 : decode cc (pc + 9) = .ok (.athrow, 1)) (hcat : (S.map fun v => v.category).sum ≤ 8) : zG l Z lv ad X (0, 0) pc L S M (some (.inr x, M)) := by
  obtain ⟨p, e, R, s, m, args, below, meth, c, A, nL', Qf⟩ := X
  obtain ⟨hx0, hb, ⟨rfl, hml⟩, hown, hSS, hst, hlk, hret, hroom, hA, hAd, hQ⟩ := id hC
  intro r hr hx H locs ls hW hS hL
  cases hr
  obtain ⟨rfl, rfl⟩ := hE
  obtain ⟨h1, h2⟩ := hx x rfl
  have hcb : ∀ w ∈ zTs, w.before args s = true := fun w hw => hSS.1 w hw _
  obtain ⟨sa, hsa⟩ := zstr (hcb _ hs)
  obtain ⟨x1, x2, x3, x4⟩ := hX
  refine vx_throwS (names := znm) (ik := ik) (is := is) (ic := ic) (cls := zex x) hx0 hb hst hown x3 (by decide +kernel) (hcb _ hk) (hcb _ x4) hsa (fun w hw => hcb w (x1 w hw)) (fun w hw => ?_) hQ.1 hQ.2 hS (hL.1.trans hml.symm) d0 d3 d4 d6 d9 (fun z hz => (hN z hz).elim) ?_ ?_ h1 h2 hlk (fun t hal hz hk => ?_) hS.2.2 h1 h2
  · rcases List.mem_cons.mp hw with rfl | hw
    · rfl
    · rcases List.mem_cons.mp hw with rfl | hw
      · rfl
      · exact x2 w hw
  · show 2 + 3 < R.frames
    have := hroom.1
    omega
  · show _ + (13 * (2 + 1) + 43) ≤ R.locals
    have := hroom.2
    omega
  · refine ⟨⟨x, rfl, rfl⟩, hW.kept (fun k hk1 => hk _ (hW.lt hk1)), Nat.le_trans hS.1 hz, fun q h1 h2 => ?_⟩
    rw [hk q (Nat.lt_of_lt_of_le h1 hS.1)]
    exact hS.2.1 q h1 h2
theorem zg_throwW (hC : zC l Z lv ad X own cc nL ret d) {vd' : Bool} (hE : zEnd Z lv ad X vd') (hN : zNoX X) (h6 : 6 ≤ d) {x ik is ic : Nat} {text : String} (hX : zTX own ic x) (hk : Cond.classLink own ik (zex x) ∈ zTs) (hs : Cond.stringRef own is text ∈ zTs)
    (d0 : decode cc pc = .ok (.new ik, 3)) (d3 : decode cc (pc + 3) = .ok (.dup, 1)) (d4 : decode cc (pc + 4) = .ok (.ldc_w is, 3)) (d6 : decode cc (pc + 7) = .ok (.invokespecial ic, 3)) (d9 : decode cc (pc + 10) = .ok (.athrow, 1)) (hcat : (S.map fun v => v.category).sum ≤ 8) : zG l Z lv ad X (0, 0) pc L S M (some (.inr x, M)) := by
  obtain ⟨p, e, R, s, m, args, below, meth, c, A, nL', Qf⟩ := X
  obtain ⟨hx0, hb, ⟨rfl, hml⟩, hown, hSS, hst, hlk, hret, hroom, hA, hAd, hQ⟩ := id hC
  intro r hr hx H locs ls hW hS hL
  cases hr
  obtain ⟨rfl, rfl⟩ := hE
  obtain ⟨h1, h2⟩ := hx x rfl
  have hcb : ∀ w ∈ zTs, w.before args s = true := fun w hw => hSS.1 w hw _
  obtain ⟨sa, hsa⟩ := zstr (hcb _ hs)
  obtain ⟨x1, x2, x3, x4⟩ := hX
  refine vx_throwSW (names := znm) (ik := ik) (is := is) (ic := ic) (cls := zex x) hx0 hb hst hown x3 (by decide +kernel) (hcb _ hk) (hcb _ x4) hsa (fun w hw => hcb w (x1 w hw)) (fun w hw => ?_) hQ.1 hQ.2 hS (hL.1.trans hml.symm) d0 d3 d4 d6 d9 (fun z hz => (hN z hz).elim) ?_ ?_ h1 h2 hlk (fun t hal hz hk => ?_) hS.2.2 h1 h2
  · rcases List.mem_cons.mp hw with rfl | hw
    · rfl
    · rcases List.mem_cons.mp hw with rfl | hw
      · rfl
      · exact x2 w hw
  · show 2 + 3 < R.frames
    have := hroom.1
    omega
  · show _ + (13 * (2 + 1) + 43) ≤ R.locals
    have := hroom.2
    omega
  · refine ⟨⟨x, rfl, rfl⟩, hW.kept (fun k hk1 => hk _ (hW.lt hk1)), Nat.le_trans hS.1 hz, fun q h1 h2 => ?_⟩
    rw [hk q (Nat.lt_of_lt_of_le h1 hS.1)]
    exact hS.2.1 q h1 h2
/-! handlers -/
def znx (x : Nat) : Nat := if x = 1 then 1 else if x = 2 then 2 else 3
theorem zex_nx (x : Nat) : zex (znx x) = zex x := by
  unfold znx
  by_cases h1 : x = 1
  · subst h1; rfl
  · by_cases h2 : x = 2
    · subst h2; rfl
    · rw [if_neg h1, if_neg h2]
      match x, h1, h2 with
      | 0, _, _ => rfl
      | 1, h, _ => exact absurd rfl h
      | 2, _, h => exact absurd rfl h
      | n + 3, _, _ => rfl
theorem znx_in (x : Nat) : znx x = 1 ∨ znx x = 2 ∨ znx x = 3 := by
  unfold znx
  by_cases h1 : x = 1
  · exact Or.inl (if_pos h1)
  · by_cases h2 : x = 2
    · rw [if_neg h1, if_pos h2]; exact Or.inr (Or.inl rfl)
    · rw [if_neg h1, if_neg h2]; exact Or.inr (Or.inr rfl)
theorem znc {x y : Nat} {s : State} (hSS : zS Z s) (hx : x = 1 ∨ x = 2 ∨ x = 3) (hy : y = 1 ∨ y = 2 ∨ y = 3) (h : x ≠ y) : va_Nc (zex x) (zex y) s := by
  refine hSS.2.2 (zex x, zex y) ?_
  rcases hx with rfl | rfl | rfl <;> rcases hy with rfl | rfl | rfl <;> first | exact absurd rfl h | decide
def zhd : List (Nat × Nat × Nat) → Nat → Option Nat
  | [], _ => none
  | (y, h, _) :: r, x => if znx x = y then some h else zhd r x
def zent (st en : Nat) (q : Nat × Nat × Nat) : ExceptionTableEntry := ⟨st, en, q.2.1, q.2.2⟩
theorem zcatch {p : Program} {e : Env} {R : Room} {s : State} {m : MethodId} {args : Array Value} {below : List Frame} {meth : Method} {c : Code} {H : Heap} {locs : List Loc} {cells slots : Nat} {Q : State → Prop} {ls : Array Slot} {rest : List Value} {st en x : Nat} {ce : Cell} {q : Addr} {hp : Nat}
    (hown : s.vm.findClass own = some m.cls) (hSS : zS Z s) (hcv : st ≤ pc ∧ pc < en) (hcell : H[q]? = some ce) (hv : ce.vm = .none) (hcl : s.vm.findClass (zex x) = some ce.cls) (hself : Cond.castable (zex x) (zex x) ∈ zTs)
    (kk : W p l e R s m args below meth c H locs cells slots Q (F0 m hp ls [.ref q])) :
    ∀ (es : List (Nat × Nat × Nat)) (pre : List ExceptionTableEntry), c.exceptionTable.toList = pre ++ es.map (zent st en) → (∀ z ∈ pre, covers z pc = false ∨ (z.catchType ≠ 0 ∧ ∃ nm : String, (Cond.classLink own z.catchType nm).before args s = true ∧ va_Nc (zex x) nm s)) →
      (∀ z ∈ es, (z.1 = 1 ∨ z.1 = 2 ∨ z.1 = 3) ∧ z.2.2 ≠ 0 ∧ Cond.classLink own z.2.2 (zex z.1) ∈ zTs) → zhd es x = some hp → vx_W p l e R s m args below meth c H locs cells slots Q (F0 m pc ls rest) q := by
  have hcb : ∀ w ∈ zTs, w.before args s = true := fun w hw => hSS.1 w hw _
  intro es
  induction es with
  | nil => intro pre _ _ _ h; cases h
  | cons z r ih =>
    obtain ⟨y, h, ct⟩ := z
    intro pre htab hpass hes hf
    obtain ⟨g1, g2, g3⟩ := hes (y, h, ct) List.mem_cons_self
    dsimp only at g1 g2 g3
    have hcov : covers (zent st en (y, h, ct)) pc = true := by simp [covers, zent, hcv.1, hcv.2]
    by_cases hxy : znx x = y
    · have hh : h = hp := by
        have : zhd ((y, h, ct) :: r) x = some h := if_pos hxy
        rw [this] at hf
        exact Option.some.inj hf
      subst hh
      refine vx_catch (name := zex y) hown pre (zent st en (y, h, ct)) (r.map (zent st en)) (by rw [htab]; rfl) hpass hcov g2 (hcb _ g3) ?_ hcell hv hcl kk
      rw [← hxy, zex_nx]
      exact hcb _ hself
    · refine ih (pre ++ [zent st en (y, h, ct)]) (by rw [htab]; simp) (fun z hz => ?_) (fun z hz => hes z (List.mem_cons_of_mem _ hz)) (by rw [← hf]; exact (if_neg hxy).symm)
      rcases List.mem_append.mp hz with hz | hz
      · exact hpass z hz
      · rw [List.mem_singleton.mp hz]
        refine Or.inr ⟨g2, zex y, hcb _ g3, ?_⟩
        rw [← zex_nx x]
        exact znc hSS (znx_in x) g1 hxy
def zbx (o : zRES) (k : Int32 → zMem → zRES) (h : Nat → zMem → zRES) : zRES := match o with
  | none => none
  | some (.inl v, M) => k v M
  | some (.inr e, M) => h e M
def zTab (X : zX) (st en : Nat) (es : List (Nat × Nat × Nat)) : Prop := match X with
  | (_, _, R, _, _, _, _, _, c, _, _, _) => c.exceptionTable.toList = es.map (zent st en) ∧ R.cells = 1 ∧ R.slots = 6
theorem zTh_of {y : MethodName} {vd : Bool} {av : List Value} {st en : Nat} {es : List (Nat × Nat × Nat)} (hl : l.stackTraces = false) (hy : plainName y.cls = true) (hn : (lg_sl av).length ≤ nL)
    (body : ∀ X : zX, zC l Z lv ad X y.cls cc nL ret d → zEnd Z lv ad X vd → zTab X st en es → zG l Z lv ad X (0, 0) 0 (lv_args 0 av) [] M o) : zT l Z lv ad (.codeWith y cc nL ret (es.map fun q => (st, en, q.2.1, q.2.2))) y d vd zbw av M o := by
  intro sz r hr
  refine vx_ofWH (cc := cc) (maxL := nL) (ret := ret) (ws' := []) hy rfl ?_
  intro p e s m args below meth c s₁ B hml hv
  obtain ⟨rfl, hsz, hSS, hW, hQ⟩ := hv
  subst hsz
  have hts := atoms_spec B.pre
  have htab := vx_table (x := y) B (hts _ (List.mem_singleton.mpr rfl))
  have hb := body (p, e, zRm d (zbw r).1 (zbw r).2, s, m, av.toArray, below, meth, c, zA lv ad s.heap.size, nL, fun r => vx_MQ below (zQc Z lv ad s.heap.size vd r) (zXc Z lv ad s.heap.size r) av.toArray s _ _ (zA lv ad s.heap.size))
    ⟨B.exec, B.bytes, ⟨rfl, hml⟩, findClass_of_methodNamed B.named, hSS, hl, B.notSynchronized, B.returns, ⟨Nat.le_refl d, Nat.le_refl (34 * d + 22)⟩, fun q h => Or.inr h, fun k h => Or.inl ⟨k, h, rfl⟩, hQ⟩ ⟨rfl, rfl⟩ ⟨by rw [htab]; simp [tableOf, zent], rfl, rfl⟩ r hr
    (fun x h => ⟨Nat.le_refl 1, Nat.le_refl 6⟩) s.heap []
  have hle := lv_entry av (n := nL) hn
  rw [lg_entry_eq]
  exact hb _ hW va_S.rf hle
theorem zg_callX (hC : zC l Z lv ad X own cc nL ret (d + 1)) {vd' : Bool} (hE : zEnd Z lv ad X vd') {st en : Nat} {es : List (Nat × Nat × Nat)} (hN : zTab X st en es) {idx n k ci maxL : Nat} {y : MethodName} {bytes : ByteArray} {rt : Option FieldType} {vd : Bool} {As : List Value} {o' : zRES} {kf : Int32 → zMem → zRES} {kh : Nat → zMem → zRES} {C : String} {T : u_T} {N : Nat}
    {St : List Value} (hst : St = As.reverse ++ .ref (ad k) :: S) (hT : zT l Z lv ad (.code y bytes maxL rt) y d vd zbn (.ref (ad k) :: As) M o') (hL0 : zLV own idx y bytes maxL rt n) (hn : As.length = n) (hd : decode cc pc = .ok (.invokevirtual idx, 3)) (hl : lv k = true) (hz : zK k = (0, ci)) (hc : vwCl[ci]? = some (C, T, N)) (hcl : y.cls = C) (hcat : (S.map fun v => v.category).sum ≤ 8)
    (hcv : st ≤ pc ∧ pc < en) (hes : ∀ z ∈ es, (z.1 = 1 ∨ z.1 = 2 ∨ z.1 = 3) ∧ z.2.2 ≠ 0 ∧ Cond.classLink own z.2.2 (zex z.1) ∈ zTs) (hself : ∀ x, Cond.castable (zex x) (zex x) ∈ zTs)
    (kk : ∀ (v : Int32) (M' : zMem), o' = some (.inl v, M') → zG l Z lv ad X (0, 0) (pc + 3) L (zrv vd v ++ S) M' (kf v M'))
    (kx : ∀ (x : Nat) (M' : zMem), (zhd es x = none → kh x M' = none) ∧ (∀ r, kh x M' = some r → ∃ v, r.1 = .inl v) ∧ ∀ h, zhd es x = some h → ∀ q, zG l Z lv ad X (1, 6) h L [.ref q] M' (kh x M')) : zG l Z lv ad X (0, 0) pc L St M (zbx o' kf kh) := by
  subst hst
  obtain ⟨p, e, R, s, m, args, below, meth, c, A, nL', Qf⟩ := X
  obtain ⟨hx0, hb, ⟨rfl, hml⟩, hown, hSS, hst, hlk, hret, hroom, hA, hAd, hQ⟩ := id hC
  obtain ⟨htab, hr1, hr2⟩ := hN
  intro r hr hx H locs ls hW hS hL
  obtain ⟨r', ho⟩ : ∃ r', o' = some r' := by
    cases o' with
    | none => cases hr
    | some r' => exact ⟨r', rfl⟩
  obtain ⟨hAB, hpre⟩ := zpre hSS hA hAd hQ hW hS (.ref (ad k) :: As)
  obtain ⟨w1, w2, w3, w4, w5, w6, w7⟩ := hL0
  have hcb : ∀ w ∈ zTs, w.before args s = true := fun w hw => hSS.1 w hw _
  have h1 := hW.1 k hl
  rw [zE_0 hz] at h1
  obtain ⟨r1, M'⟩ := r'
  have hbl : 0 + (zbn (r1, M')).1 ≤ R.cells ∧ 0 + (zbn (r1, M')).2 ≤ R.slots := by
    rw [hr1, hr2]
    cases r1 <;> exact ⟨by simp [zbn], by simp [zbn]⟩
  refine zrun (vx_runV (nL := nL') (Ts := zTs) (own := own) (C := C) (index := idx) (n := n) ⟨hx0, hb, hml, hown, hcb⟩ (hT H.size _ ho) ⟨⟨rfl, rfl, (zroom hroom w7).1, (zroom hroom w7).2, zcode (hcb _ w5), List.mem_singleton.mpr rfl, hcb _ w5, hcb _ w4, ⟨w6.1, w6.2.1⟩, zlen w6.2.2, hcb _ w1⟩, hcb _ w2, by rw [← hcl]; exact hcb _ w3⟩
    ⟨zPc_blind, va_recv hSS.2.1 (zone h1) (q0 := 0) hc rfl, hpre⟩ rfl hn hL.1 rfl (lv_room hcat) hd hbl) hS hAB (fun x hx1 ce q H1 locs1 hw1 hS1 hce hcv1 hcl1 => ?_) (fun v hv H1 locs1 hw1 hS1 => ?_)
  · dsimp only at hx1
    subst hx1
    subst ho
    have hr9 : kh x M' = some r := hr
    cases hz9 : zhd es x with
    | none => rw [(kx x M').1 hz9] at hr9; cases hr9
    | some h =>
      refine zcatch hown hSS hcv hce hcv1 hcl1 (hself x) ?_ es [] htab (fun z hz => absurd hz List.not_mem_nil) hes hz9
      have hk := (kx x M').2.2 h hz9 q r hr9
      refine hk (fun y hy => ?_) H1 locs1 ls hw1 hS1 hL
      obtain ⟨v, hv⟩ := (kx x M').2.1 r hr9
      rw [hv] at hy
      cases hy
  · dsimp only at hv
    subst hv
    subst ho
    exact kk v M' rfl r hr hx H1 locs1 ls hw1 hS1 hL
theorem zg_retw (hC : zC l Z lv ad X own cc nL (some .int) d) (hE : zEnd Z lv ad X false) {st en : Nat} {es : List (Nat × Nat × Nat)} (hN : zTab X st en es) {v : Int32} (hd : decode cc pc = .ok (.ireturn, 1)) : zG l Z lv ad X (1, 6) pc L [.int v] M (some (.inl v, M)) := by
  obtain ⟨p, e, R, s, m, args, below, meth, c, A, nL', Qf⟩ := X
  obtain ⟨hx0, hb, -, hown, hSS, -, hlk, hret, -⟩ := hC
  obtain ⟨rfl, rfl⟩ := hE
  obtain ⟨-, hr1, hr2⟩ := hN
  intro r hr hx H locs ls hW hS hL
  cases hr
  refine W.widen (k := R.cells) (n := R.slots) (by rw [hr1]; exact Nat.le_refl 1) (by rw [hr2]; exact Nat.le_refl 6) (vx_ret ?_)
  exact W.zret hx0 hb hret rfl (fun t ht hWm => ⟨⟨v, some (.int v), rfl, rfl, rfl⟩, by rw [ht]; exact hW, hS.F ht⟩) hS.2.2 hd hlk
theorem zg_callNi (hC : zC l Z lv ad X own cc nL ret (d + 1)) {vd' : Bool} (hE : zEnd Z lv ad X vd') (hN : zNoX X) {idx n maxL : Nat} {host : String} {y : MethodName} {bytes : ByteArray} {rt : Option FieldType} {As : List Value} {o' : zRES} {kf : Int32 → zMem → zRES} (hnx : ∀ r, o' = some r → ∃ v, r.1 = .inl v)
    {St : List Value} (hst : St = As.reverse ++ S) (hT : zT l Z lv ad (.code y bytes maxL rt) y d false zbn As M o') (hL0 : zLN own host idx y bytes maxL rt n) (hn : As.length = n) (hd : decode cc pc = .ok (.invokestatic idx, 3)) (hcat : (S.map fun v => v.category).sum ≤ 8)
    (kk : ∀ (v : Int32) (M' : zMem), o' = some (.inl v, M') → zG l Z lv ad X (0, 0) (pc + 3) L (.int v :: S) M' (kf v M')) : zG l Z lv ad X (0, 0) pc L St M (zb o' kf) := zg_callN hC hE hN hnx hst hT hL0 hn hd hcat kk
theorem zg_callXi (hC : zC l Z lv ad X own cc nL ret (d + 1)) {vd' : Bool} (hE : zEnd Z lv ad X vd') {st en : Nat} {es : List (Nat × Nat × Nat)} (hN : zTab X st en es) {idx n k ci maxL : Nat} {y : MethodName} {bytes : ByteArray} {rt : Option FieldType} {As : List Value} {o' : zRES} {kf : Int32 → zMem → zRES} {kh : Nat → zMem → zRES} {C : String} {T : u_T} {N : Nat}
    {St : List Value} (hst : St = As.reverse ++ .ref (ad k) :: S) (hT : zT l Z lv ad (.code y bytes maxL rt) y d false zbn (.ref (ad k) :: As) M o') (hL0 : zLV own idx y bytes maxL rt n) (hn : As.length = n) (hd : decode cc pc = .ok (.invokevirtual idx, 3)) (hl : lv k = true) (hz : zK k = (0, ci)) (hc : vwCl[ci]? = some (C, T, N)) (hcl : y.cls = C) (hcat : (S.map fun v => v.category).sum ≤ 8)
    (hcv : st ≤ pc ∧ pc < en) (hes : ∀ z ∈ es, (z.1 = 1 ∨ z.1 = 2 ∨ z.1 = 3) ∧ z.2.2 ≠ 0 ∧ Cond.classLink own z.2.2 (zex z.1) ∈ zTs) (hself : ∀ x, Cond.castable (zex x) (zex x) ∈ zTs)
    (kk : ∀ (v : Int32) (M' : zMem), o' = some (.inl v, M') → zG l Z lv ad X (0, 0) (pc + 3) L (.int v :: S) M' (kf v M'))
    (kx : ∀ (x : Nat) (M' : zMem), (zhd es x = none → kh x M' = none) ∧ (∀ r, kh x M' = some r → ∃ v, r.1 = .inl v) ∧ ∀ h, zhd es x = some h → ∀ q, zG l Z lv ad X (1, 6) h L [.ref q] M' (kh x M')) : zG l Z lv ad X (0, 0) pc L St M (zbx o' kf kh) := zg_callX hC hE hN hst hT hL0 hn hd hl hz hc hcl hcat hcv hes hself kk kx
theorem zg_callNv (hC : zC l Z lv ad X own cc nL ret (d + 1)) {vd' : Bool} (hE : zEnd Z lv ad X vd') (hN : zNoX X) {idx n maxL : Nat} {host : String} {y : MethodName} {bytes : ByteArray} {rt : Option FieldType} {As : List Value} {o' : zRES} {kf : Int32 → zMem → zRES} (hnx : ∀ r, o' = some r → ∃ v, r.1 = .inl v)
    {St : List Value} (hst : St = As.reverse ++ S) (hT : zT l Z lv ad (.code y bytes maxL rt) y d true zbn As M o') (hL0 : zLN own host idx y bytes maxL rt n) (hn : As.length = n) (hd : decode cc pc = .ok (.invokestatic idx, 3)) (hcat : (S.map fun v => v.category).sum ≤ 8)
    (kk : ∀ (v : Int32) (M' : zMem), o' = some (.inl v, M') → zG l Z lv ad X (0, 0) (pc + 3) L (S) M' (kf v M')) : zG l Z lv ad X (0, 0) pc L St M (zb o' kf) := zg_callN hC hE hN hnx hst hT hL0 hn hd hcat kk
theorem zg_callXv (hC : zC l Z lv ad X own cc nL ret (d + 1)) {vd' : Bool} (hE : zEnd Z lv ad X vd') {st en : Nat} {es : List (Nat × Nat × Nat)} (hN : zTab X st en es) {idx n k ci maxL : Nat} {y : MethodName} {bytes : ByteArray} {rt : Option FieldType} {As : List Value} {o' : zRES} {kf : Int32 → zMem → zRES} {kh : Nat → zMem → zRES} {C : String} {T : u_T} {N : Nat}
    {St : List Value} (hst : St = As.reverse ++ .ref (ad k) :: S) (hT : zT l Z lv ad (.code y bytes maxL rt) y d true zbn (.ref (ad k) :: As) M o') (hL0 : zLV own idx y bytes maxL rt n) (hn : As.length = n) (hd : decode cc pc = .ok (.invokevirtual idx, 3)) (hl : lv k = true) (hz : zK k = (0, ci)) (hc : vwCl[ci]? = some (C, T, N)) (hcl : y.cls = C) (hcat : (S.map fun v => v.category).sum ≤ 8)
    (hcv : st ≤ pc ∧ pc < en) (hes : ∀ z ∈ es, (z.1 = 1 ∨ z.1 = 2 ∨ z.1 = 3) ∧ z.2.2 ≠ 0 ∧ Cond.classLink own z.2.2 (zex z.1) ∈ zTs) (hself : ∀ x, Cond.castable (zex x) (zex x) ∈ zTs)
    (kk : ∀ (v : Int32) (M' : zMem), o' = some (.inl v, M') → zG l Z lv ad X (0, 0) (pc + 3) L (S) M' (kf v M'))
    (kx : ∀ (x : Nat) (M' : zMem), (zhd es x = none → kh x M' = none) ∧ (∀ r, kh x M' = some r → ∃ v, r.1 = .inl v) ∧ ∀ h, zhd es x = some h → ∀ q, zG l Z lv ad X (1, 6) h L [.ref q] M' (kh x M')) : zG l Z lv ad X (0, 0) pc L St M (zbx o' kf kh) := zg_callX hC hE hN hst hT hL0 hn hd hl hz hc hcl hcat hcv hes hself kk kx
end ZG5
end
section
/-! facts that a program writes: cells, pool entries, calls -/
theorem zk0 : zK 0 = (0, 7) := rfl
theorem zq0 : zfull 0 = true := rfl
theorem zk1 : zK 1 = (0, 0) := rfl
theorem zq1 : zfull 1 = true := rfl
theorem zk2 : zK 2 = (1, 5) := rfl
theorem zq2 : zfull 2 = true := rfl
theorem zk3 : zK 3 = (1, 5) := rfl
theorem zq3 : zfull 3 = true := rfl
theorem zk4 : zK 4 = (1, 5) := rfl
theorem zq4 : zfull 4 = true := rfl
theorem zk5 : zK 5 = (1, 5) := rfl
theorem zq5 : zfull 5 = true := rfl
theorem zk6 : zK 6 = (3, 5) := rfl
theorem zq6 : zfull 6 = true := rfl
theorem zk7 : zK 7 = (1, 20) := rfl
theorem zq7 : zfull 7 = true := rfl
theorem zk8 : zK 8 = (1, 20) := rfl
theorem zq8 : zfull 8 = true := rfl
theorem zk9 : zK 9 = (1, 20) := rfl
theorem zq9 : zfull 9 = true := rfl
theorem zk10 : zK 10 = (1, 20) := rfl
theorem zq10 : zfull 10 = true := rfl
theorem zk11 : zK 11 = (1, 20) := rfl
theorem zq11 : zfull 11 = true := rfl
theorem zk12 : zK 12 = (1, 5) := rfl
theorem zq12 : zfull 12 = true := rfl
theorem zk13 : zK 13 = (1, 60) := rfl
theorem zq13 : zfull 13 = true := rfl
theorem zk14 : zK 14 = (1, 60) := rfl
theorem zq14 : zfull 14 = true := rfl
theorem zk15 : zK 15 = (0, 0) := rfl
theorem zq15 : zfull 15 = true := rfl
theorem zk16 : zK 16 = (1, 5) := rfl
theorem zq16 : zfull 16 = true := rfl
theorem zk17 : zK 17 = (1, 5) := rfl
theorem zq17 : zfull 17 = true := rfl
theorem zk18 : zK 18 = (1, 5) := rfl
theorem zq18 : zfull 18 = true := rfl
theorem zk19 : zK 19 = (1, 5) := rfl
theorem zq19 : zfull 19 = true := rfl
theorem zk20 : zK 20 = (3, 5) := rfl
theorem zq20 : zfull 20 = true := rfl
theorem zk21 : zK 21 = (1, 20) := rfl
theorem zq21 : zfull 21 = true := rfl
theorem zk22 : zK 22 = (1, 20) := rfl
theorem zq22 : zfull 22 = true := rfl
theorem zk23 : zK 23 = (1, 20) := rfl
theorem zq23 : zfull 23 = true := rfl
theorem zk24 : zK 24 = (1, 20) := rfl
theorem zq24 : zfull 24 = true := rfl
theorem zk25 : zK 25 = (1, 20) := rfl
theorem zq25 : zfull 25 = true := rfl
theorem zk26 : zK 26 = (1, 5) := rfl
theorem zq26 : zfull 26 = true := rfl
theorem zk27 : zK 27 = (1, 60) := rfl
theorem zq27 : zfull 27 = true := rfl
theorem zk28 : zK 28 = (1, 60) := rfl
theorem zq28 : zfull 28 = true := rfl
theorem zk29 : zK 29 = (0, 3) := rfl
theorem zq29 : zfull 29 = true := rfl
theorem zk30 : zK 30 = (1, 512) := rfl
theorem zq30 : zfull 30 = true := rfl
theorem zk31 : zK 31 = (1, 512) := rfl
theorem zq31 : zfull 31 = true := rfl
theorem zk32 : zK 32 = (1, 512) := rfl
theorem zq32 : zfull 32 = true := rfl
theorem zk33 : zK 33 = (0, 6) := rfl
theorem zq33 : zfull 33 = true := rfl
theorem zk34 : zK 34 = (1, 60) := rfl
theorem zq34 : zfull 34 = true := rfl
theorem zk35 : zK 35 = (1, 60) := rfl
theorem zq35 : zfull 35 = true := rfl
theorem zk36 : zK 36 = (1, 60) := rfl
theorem zq36 : zfull 36 = true := rfl
theorem zk37 : zK 37 = (0, 2) := rfl
theorem zq37 : zfull 37 = true := rfl
theorem zk38 : zK 38 = (3, 5) := rfl
theorem zq38 : zfull 38 = true := rfl
theorem zk39 : zK 39 = (1, 200) := rfl
theorem zq39 : zfull 39 = true := rfl
theorem zk40 : zK 40 = (1, 200) := rfl
theorem zq40 : zfull 40 = true := rfl
theorem zk41 : zK 41 = (1, 200) := rfl
theorem zq41 : zfull 41 = true := rfl
theorem zk42 : zK 42 = (1, 200) := rfl
theorem zq42 : zfull 42 = true := rfl
theorem zk43 : zK 43 = (1, 200) := rfl
theorem zq43 : zfull 43 = true := rfl
theorem zk44 : zK 44 = (1, 5) := rfl
theorem zq44 : zfull 44 = true := rfl
theorem zk45 : zK 45 = (0, 4) := rfl
theorem zq45 : zfull 45 = true := rfl
theorem zk46 : zK 46 = (3, 5) := rfl
theorem zq46 : zfull 46 = true := rfl
theorem zk47 : zK 47 = (1, 51) := rfl
theorem zq47 : zfull 47 = true := rfl
theorem zk48 : zK 48 = (1, 51) := rfl
theorem zq48 : zfull 48 = true := rfl
theorem zk49 : zK 49 = (1, 51) := rfl
theorem zq49 : zfull 49 = true := rfl
theorem zk50 : zK 50 = (1, 51) := rfl
theorem zq50 : zfull 50 = true := rfl
theorem zk51 : zK 51 = (1, 51) := rfl
theorem zq51 : zfull 51 = true := rfl
theorem zk52 : zK 52 = (1, 5) := rfl
theorem zq52 : zfull 52 = true := rfl
theorem zk53 : zK 53 = (0, 1) := rfl
theorem zq53 : zfull 53 = true := rfl
theorem zk54 : zK 54 = (1, 60) := rfl
theorem zq54 : zfull 54 = true := rfl
theorem zk55 : zK 55 = (1, 60) := rfl
theorem zq55 : zfull 55 = true := rfl
theorem zk56 : zK 56 = (1, 60) := rfl
theorem zq56 : zfull 56 = true := rfl
theorem zk57 : zK 57 = (1, 60) := rfl
theorem zq57 : zfull 57 = true := rfl
theorem zk58 : zK 58 = (0, 5) := rfl
theorem zq58 : zfull 58 = true := rfl
theorem zk59 : zK 59 = (1, 512) := rfl
theorem zq59 : zfull 59 = true := rfl
theorem zk60 : zK 60 = (1, 512) := rfl
theorem zq60 : zfull 60 = true := rfl
theorem zk61 : zK 61 = (1, 512) := rfl
theorem zq61 : zfull 61 = true := rfl
theorem zk62 : zK 62 = (0, 8) := rfl
theorem zq62 : zfull 62 = true := rfl
theorem zk63 : zK 63 = (1, 5) := rfl
theorem zq63 : zfull 63 = true := rfl
theorem zk64 : zK 64 = (1, 5) := rfl
theorem zq64 : zfull 64 = true := rfl
theorem zk65 : zK 65 = (1, 5) := rfl
theorem zq65 : zfull 65 = true := rfl
theorem zk66 : zK 66 = (1, 5) := rfl
theorem zq66 : zfull 66 = true := rfl
theorem zk67 : zK 67 = (1, 100) := rfl
theorem zq67 : zfull 67 = true := rfl
theorem zk68 : zK 68 = (1, 5) := rfl
theorem zq68 : zfull 68 = true := rfl
theorem zk69 : zK 69 = (1, 60) := rfl
theorem zq69 : zfull 69 = true := rfl
theorem zk70 : zK 70 = (1, 60) := rfl
theorem zq70 : zfull 70 = true := rfl
theorem zk71 : zK 71 = (1, 60) := rfl
theorem zq71 : zfull 71 = true := rfl
theorem zk72 : zK 72 = (1, 60) := rfl
theorem zq72 : zfull 72 = true := rfl
theorem zk73 : zK 73 = (1, 60) := rfl
theorem zq73 : zfull 73 = true := rfl
theorem zk74 : zK 74 = (1, 60) := rfl
theorem zq74 : zfull 74 = true := rfl
theorem zk75 : zK 75 = (1, 5255) := rfl
theorem zq75 : zfull 75 = true := rfl
theorem zk76 : zK 76 = (1, 16) := rfl
theorem zq76 : zfull 76 = true := rfl
theorem zk77 : zK 77 = (1, 1000) := rfl
theorem zq77 : zfull 77 = true := rfl
theorem zk78 : zK 78 = (1, 5) := rfl
theorem zq78 : zfull 78 = true := rfl
theorem zk79 : zK 79 = (1, 5) := rfl
theorem zq79 : zfull 79 = true := rfl
theorem zk80 : zK 80 = (1, 60) := rfl
theorem zq80 : zfull 80 = true := rfl
theorem zk81 : zK 81 = (1, 60) := rfl
theorem zq81 : zfull 81 = true := rfl
theorem zk82 : zK 82 = (1, 60) := rfl
theorem zq82 : zfull 82 = true := rfl
theorem zk83 : zK 83 = (1, 60) := rfl
theorem zq83 : zfull 83 = true := rfl
theorem zk84 : zK 84 = (1, 2400) := rfl
theorem zq84 : zfull 84 = true := rfl
theorem zk85 : zK 85 = (1, 2400) := rfl
theorem zq85 : zfull 85 = true := rfl
theorem zk86 : zK 86 = (1, 2400) := rfl
theorem zq86 : zfull 86 = true := rfl
theorem zk87 : zK 87 = (2, 1) := rfl
theorem zq87 : zfull 87 = true := rfl
theorem zka0 {o : Nat} (ho : o = 1 ∨ o = 15) : zK o = (0, 0) := by rcases ho with rfl | rfl <;> rfl
theorem zka1 {o : Nat} (ho : o = 1 ∨ o = 15) : zK (o + 1) = (1, 5) := by rcases ho with rfl | rfl <;> rfl
theorem zka2 {o : Nat} (ho : o = 1 ∨ o = 15) : zK (o + 2) = (1, 5) := by rcases ho with rfl | rfl <;> rfl
theorem zka3 {o : Nat} (ho : o = 1 ∨ o = 15) : zK (o + 3) = (1, 5) := by rcases ho with rfl | rfl <;> rfl
theorem zka4 {o : Nat} (ho : o = 1 ∨ o = 15) : zK (o + 4) = (1, 5) := by rcases ho with rfl | rfl <;> rfl
theorem zka5 {o : Nat} (ho : o = 1 ∨ o = 15) : zK (o + 5) = (3, 5) := by rcases ho with rfl | rfl <;> rfl
theorem zka6 {o : Nat} (ho : o = 1 ∨ o = 15) : zK (o + 6) = (1, 20) := by rcases ho with rfl | rfl <;> rfl
theorem zka7 {o : Nat} (ho : o = 1 ∨ o = 15) : zK (o + 7) = (1, 20) := by rcases ho with rfl | rfl <;> rfl
theorem zka8 {o : Nat} (ho : o = 1 ∨ o = 15) : zK (o + 8) = (1, 20) := by rcases ho with rfl | rfl <;> rfl
theorem zka9 {o : Nat} (ho : o = 1 ∨ o = 15) : zK (o + 9) = (1, 20) := by rcases ho with rfl | rfl <;> rfl
theorem zka10 {o : Nat} (ho : o = 1 ∨ o = 15) : zK (o + 10) = (1, 20) := by rcases ho with rfl | rfl <;> rfl
theorem zka11 {o : Nat} (ho : o = 1 ∨ o = 15) : zK (o + 11) = (1, 5) := by rcases ho with rfl | rfl <;> rfl
theorem zka12 {o : Nat} (ho : o = 1 ∨ o = 15) : zK (o + 12) = (1, 60) := by rcases ho with rfl | rfl <;> rfl
theorem zka13 {o : Nat} (ho : o = 1 ∨ o = 15) : zK (o + 13) = (1, 60) := by rcases ho with rfl | rfl <;> rfl
theorem zqAo {o : Nat} (ho : o = 1 ∨ o = 15) : ∀ j, j < 14 → zfull (o + j) = true := fun j hj => decide_eq_true (by rcases ho with rfl | rfl <;> omega)
theorem zqA1 : ∀ j, j < 14 → zfull (1 + j) = true := zqAo (Or.inl rfl)
theorem zqA15 : ∀ j, j < 14 → zfull (15 + j) = true := zqAo (Or.inr rfl)
theorem zrqA {lv : Nat → Bool} {o i : Nat} (h : ∀ j, j < 14 → lv (o + j) = true) (hi : i < 5) : lv (o + 5 + 1 + i) = true := by
  have := h (6 + i) (by omega)
  rwa [show o + (6 + i) = o + 5 + 1 + i by omega] at this
theorem zrkA {o i : Nat} (ho : o = 1 ∨ o = 15) (hi : i < 5) : zK (o + 5 + 1 + i) = (1, 20) := by
  rcases (show i = 0 ∨ i = 1 ∨ i = 2 ∨ i = 3 ∨ i = 4 by omega) with rfl | rfl | rfl | rfl | rfl <;> rcases ho with rfl | rfl <;> rfl
theorem zrq38 {i : Nat} (hi : i < 5) : zfull (38 + 1 + i) = true := decide_eq_true (by omega)
theorem zrk38 {i : Nat} (hi : i < 5) : zK (38 + 1 + i) = (1, 200) := by
  rcases (show i = 0 ∨ i = 1 ∨ i = 2 ∨ i = 3 ∨ i = 4 by omega) with rfl | rfl | rfl | rfl | rfl <;> rfl
theorem zrq46 {i : Nat} (hi : i < 5) : zfull (46 + 1 + i) = true := decide_eq_true (by omega)
theorem zrk46 {i : Nat} (hi : i < 5) : zK (46 + 1 + i) = (1, 51) := by
  rcases (show i = 0 ∨ i = 1 ∨ i = 2 ∨ i = 3 ∨ i = 4 by omega) with rfl | rfl | rfl | rfl | rfl <;> rfl
theorem zrq6 {i : Nat} (hi : i < 5) : zfull (6 + 1 + i) = true := decide_eq_true (by omega)
theorem zrk6 {i : Nat} (hi : i < 5) : zK (6 + 1 + i) = (1, 20) := by
  rcases (show i = 0 ∨ i = 1 ∨ i = 2 ∨ i = 3 ∨ i = 4 by omega) with rfl | rfl | rfl | rfl | rfl <;> rfl
theorem zrq20 {i : Nat} (hi : i < 5) : zfull (20 + 1 + i) = true := decide_eq_true (by omega)
theorem zrk20 {i : Nat} (hi : i < 5) : zK (20 + 1 + i) = (1, 20) := by
  rcases (show i = 0 ∨ i = 1 ∨ i = 2 ∨ i = 3 ∨ i = 4 by omega) with rfl | rfl | rfl | rfl | rfl <;> rfl
theorem zneT {x k : Int32} (h : ¬ x = k) {a : Int} (hk : k.toInt = a) : ¬ x.toInt = a := lv_neT h hk
theorem ztsw5 {x : Int32} (h0 : ¬ x = 0) (h1 : ¬ x = 1) (h2 : ¬ x = 2) (h3 : ¬ x = 3) (h4 : ¬ x = 4) : x.toInt < 0 ∨ 4 < x.toInt := by
  have g0 := zneT h0 (a := 0) (by decide)
  have g1 := zneT h1 (a := 1) (by decide)
  have g2 := zneT h2 (a := 2) (by decide)
  have g3 := zneT h3 (a := 3) (by decide)
  have g4 := zneT h4 (a := 4) (by decide)
  omega
theorem zinX0 : ∀ w ∈ u_ws RX0 TX0 12, w ∈ zTs := fun w hw => zTs_in ((by decide +kernel : ∀ w ∈ u_ws RX0 TX0 12, w ∈ lw_tbl) w hw) ((by decide +kernel : ∀ w ∈ u_ws RX0 TX0 12, zgd w = true) w hw)
theorem zinX1 : ∀ w ∈ u_ws RX1 TX1 5, w ∈ zTs := fun w hw => zTs_in ((by decide +kernel : ∀ w ∈ u_ws RX1 TX1 5, w ∈ lw_tbl) w hw) ((by decide +kernel : ∀ w ∈ u_ws RX1 TX1 5, zgd w = true) w hw)
theorem zinX2 : ∀ w ∈ u_ws RX2 TX2 4, w ∈ zTs := fun w hw => zTs_in ((by decide +kernel : ∀ w ∈ u_ws RX2 TX2 4, w ∈ lw_tbl) w hw) ((by decide +kernel : ∀ w ∈ u_ws RX2 TX2 4, zgd w = true) w hw)
theorem zinX3 : ∀ w ∈ u_ws RX3 TX3 4, w ∈ zTs := fun w hw => zTs_in ((by decide +kernel : ∀ w ∈ u_ws RX3 TX3 4, w ∈ lw_tbl) w hw) ((by decide +kernel : ∀ w ∈ u_ws RX3 TX3 4, zgd w = true) w hw)
theorem zinX4 : ∀ w ∈ u_ws RX4 TX4 3, w ∈ zTs := fun w hw => zTs_in ((by decide +kernel : ∀ w ∈ u_ws RX4 TX4 3, w ∈ lw_tbl) w hw) ((by decide +kernel : ∀ w ∈ u_ws RX4 TX4 3, zgd w = true) w hw)
theorem zinX5 : ∀ w ∈ u_ws RX5 TX5 4, w ∈ zTs := fun w hw => zTs_in ((by decide +kernel : ∀ w ∈ u_ws RX5 TX5 4, w ∈ lw_tbl) w hw) ((by decide +kernel : ∀ w ∈ u_ws RX5 TX5 4, zgd w = true) w hw)
theorem zinX6 : ∀ w ∈ u_ws RX6 TX6 3, w ∈ zTs := fun w hw => zTs_in ((by decide +kernel : ∀ w ∈ u_ws RX6 TX6 3, w ∈ lw_tbl) w hw) ((by decide +kernel : ∀ w ∈ u_ws RX6 TX6 3, zgd w = true) w hw)
theorem zinX7 : ∀ w ∈ u_ws RX7 TX7 8, w ∈ zTs := fun w hw => zTs_in ((by decide +kernel : ∀ w ∈ u_ws RX7 TX7 8, w ∈ lw_tbl) w hw) ((by decide +kernel : ∀ w ∈ u_ws RX7 TX7 8, zgd w = true) w hw)
theorem zinX8 : ∀ w ∈ u_ws RX8 TX8 31, w ∈ zTs := fun w hw => zTs_in ((by decide +kernel : ∀ w ∈ u_ws RX8 TX8 31, w ∈ lw_tbl) w hw) ((by decide +kernel : ∀ w ∈ u_ws RX8 TX8 31, zgd w = true) w hw)
theorem ffX7_10 : zFL RX7 10 RX7 TX7 8 7 0 := ⟨rfl, zinX7, by decide, zTs_at 275 (by decide +kernel) rfl⟩
theorem ffX7_16 : zFL RX7 16 RX7 TX7 8 7 1 := ⟨rfl, zinX7, by decide, zTs_at 276 (by decide +kernel) rfl⟩
theorem ffX7_22 : zFL RX7 22 RX7 TX7 8 7 2 := ⟨rfl, zinX7, by decide, zTs_at 277 (by decide +kernel) rfl⟩
theorem ffX7_29 : zFL RX7 29 RX7 TX7 8 7 3 := ⟨rfl, zinX7, by decide, zTs_at 278 (by decide +kernel) rfl⟩
theorem ffX7_36 : zFL RX7 36 RX7 TX7 8 7 4 := ⟨rfl, zinX7, by decide, zTs_at 279 (by decide +kernel) rfl⟩
theorem ffX7_43 : zFL RX7 43 RX7 TX7 8 7 5 := ⟨rfl, zinX7, by decide, zTs_at 280 (by decide +kernel) rfl⟩
theorem ffX7_50 : zFL RX7 50 RX7 TX7 8 7 6 := ⟨rfl, zinX7, by decide, zTs_at 281 (by decide +kernel) rfl⟩
theorem ffX7_57 : zFL RX7 57 RX7 TX7 8 7 7 := ⟨rfl, zinX7, by decide, zTs_at 282 (by decide +kernel) rfl⟩
theorem ffX7_68 : zFL RX7 68 RX0 TX0 12 0 0 := ⟨rfl, zinX0, by decide, zTs_at 94 (by decide +kernel) rfl⟩
theorem ffX7_86 : zFL RX7 86 RX0 TX0 12 0 1 := ⟨rfl, zinX0, by decide, zTs_at 96 (by decide +kernel) rfl⟩
theorem ffX7_102 : zFL RX7 102 RX0 TX0 12 0 2 := ⟨rfl, zinX0, by decide, zTs_at 98 (by decide +kernel) rfl⟩
theorem ffX7_122 : zFL RX7 122 RX0 TX0 12 0 6 := ⟨rfl, zinX0, by decide, zTs_at 105 (by decide +kernel) rfl⟩
theorem ffX7_125 : zFL RX7 125 RX0 TX0 12 0 7 := ⟨rfl, zinX0, by decide, zTs_at 107 (by decide +kernel) rfl⟩
theorem ffX7_137 : zFL RX7 137 RX0 TX0 12 0 10 := ⟨rfl, zinX0, by decide, zTs_at 113 (by decide +kernel) rfl⟩
theorem ffX7_151 : zFL RX7 151 RX0 TX0 12 0 3 := ⟨rfl, zinX0, by decide, zTs_at 100 (by decide +kernel) rfl⟩
theorem ffX7_162 : zFL RX7 162 RX0 TX0 12 0 5 := ⟨rfl, zinX0, by decide, zTs_at 103 (by decide +kernel) rfl⟩
theorem ffX7_169 : zFL RX7 169 RX0 TX0 12 0 8 := ⟨rfl, zinX0, by decide, zTs_at 109 (by decide +kernel) rfl⟩
theorem ffX7_172 : zFL RX7 172 RX0 TX0 12 0 9 := ⟨rfl, zinX0, by decide, zTs_at 111 (by decide +kernel) rfl⟩
theorem ffX7_179 : zFL RX7 179 RX0 TX0 12 0 11 := ⟨rfl, zinX0, by decide, zTs_at 115 (by decide +kernel) rfl⟩
theorem ffX7_185 : zFL RX7 185 RX2 TX2 4 2 0 := ⟨rfl, zinX2, by decide, zTs_at 191 (by decide +kernel) rfl⟩
theorem ffX7_198 : zFL RX7 198 RX2 TX2 4 2 3 := ⟨rfl, zinX2, by decide, zTs_at 196 (by decide +kernel) rfl⟩
theorem ffX7_227 : zFL RX7 227 RX6 TX6 3 6 0 := ⟨rfl, zinX6, by decide, zTs_at 172 (by decide +kernel) rfl⟩
theorem ffX7_233 : zFL RX7 233 RX4 TX4 3 4 0 := ⟨rfl, zinX4, by decide, zTs_at 214 (by decide +kernel) rfl⟩
theorem ffX7_244 : zFL RX7 244 RX4 TX4 3 4 2 := ⟨rfl, zinX4, by decide, zTs_at 217 (by decide +kernel) rfl⟩
theorem ffX7_247 : zFL RX7 247 RX1 TX1 5 1 0 := ⟨rfl, zinX1, by decide, zTs_at 232 (by decide +kernel) rfl⟩
theorem ffX7_253 : zFL RX7 253 RX1 TX1 5 1 1 := ⟨rfl, zinX1, by decide, zTs_at 234 (by decide +kernel) rfl⟩
theorem ffX7_256 : zFL RX7 256 RX1 TX1 5 1 2 := ⟨rfl, zinX1, by decide, zTs_at 236 (by decide +kernel) rfl⟩
theorem ffX7_259 : zFL RX7 259 RX1 TX1 5 1 3 := ⟨rfl, zinX1, by decide, zTs_at 238 (by decide +kernel) rfl⟩
theorem ffX7_273 : zFL RX7 273 RX1 TX1 5 1 4 := ⟨rfl, zinX1, by decide, zTs_at 240 (by decide +kernel) rfl⟩
theorem ffX7_276 : zFL RX7 276 RX5 TX5 4 5 0 := ⟨rfl, zinX5, by decide, zTs_at 259 (by decide +kernel) rfl⟩
theorem ffX7_280 : zFL RX7 280 RX5 TX5 4 5 1 := ⟨rfl, zinX5, by decide, zTs_at 261 (by decide +kernel) rfl⟩
theorem ffX7_283 : zFL RX7 283 RX5 TX5 4 5 2 := ⟨rfl, zinX5, by decide, zTs_at 263 (by decide +kernel) rfl⟩
theorem ffX7_286 : zFL RX7 286 RX5 TX5 4 5 3 := ⟨rfl, zinX5, by decide, zTs_at 265 (by decide +kernel) rfl⟩
theorem ffX7_303 : zFL RX7 303 RX2 TX2 4 2 1 := ⟨rfl, zinX2, by decide, zTs_at 193 (by decide +kernel) rfl⟩
theorem ffX7_324 : zFL RX7 324 RX6 TX6 3 6 1 := ⟨rfl, zinX6, by decide, zTs_at 174 (by decide +kernel) rfl⟩
theorem ffX7_330 : zFL RX7 330 RX6 TX6 3 6 2 := ⟨rfl, zinX6, by decide, zTs_at 176 (by decide +kernel) rfl⟩
theorem ffX7_346 : zFL RX7 346 RX3 TX3 4 3 0 := ⟨rfl, zinX3, by decide, zTs_at 149 (by decide +kernel) rfl⟩
theorem ffX7_347 : zFL RX7 347 RX3 TX3 4 3 1 := ⟨rfl, zinX3, by decide, zTs_at 151 (by decide +kernel) rfl⟩
theorem ffX7_350 : zFL RX7 350 RX3 TX3 4 3 2 := ⟨rfl, zinX3, by decide, zTs_at 153 (by decide +kernel) rfl⟩
theorem ffX7_353 : zFL RX7 353 RX3 TX3 4 3 3 := ⟨rfl, zinX3, by decide, zTs_at 155 (by decide +kernel) rfl⟩
theorem ffX0_9 : zFL RX0 9 RX0 TX0 12 0 1 := ⟨rfl, zinX0, by decide, zTs_at 95 (by decide +kernel) rfl⟩
theorem ffX0_15 : zFL RX0 15 RX0 TX0 12 0 2 := ⟨rfl, zinX0, by decide, zTs_at 97 (by decide +kernel) rfl⟩
theorem ffX0_18 : zFL RX0 18 RX0 TX0 12 0 3 := ⟨rfl, zinX0, by decide, zTs_at 99 (by decide +kernel) rfl⟩
theorem ffX0_21 : zFL RX0 21 RX0 TX0 12 0 4 := ⟨rfl, zinX0, by decide, zTs_at 101 (by decide +kernel) rfl⟩
theorem ffX0_26 : zFL RX0 26 RX0 TX0 12 0 5 := ⟨rfl, zinX0, by decide, zTs_at 102 (by decide +kernel) rfl⟩
theorem ffX0_29 : zFL RX0 29 RX0 TX0 12 0 6 := ⟨rfl, zinX0, by decide, zTs_at 104 (by decide +kernel) rfl⟩
theorem ffX0_32 : zFL RX0 32 RX0 TX0 12 0 8 := ⟨rfl, zinX0, by decide, zTs_at 108 (by decide +kernel) rfl⟩
theorem ffX0_35 : zFL RX0 35 RX0 TX0 12 0 9 := ⟨rfl, zinX0, by decide, zTs_at 110 (by decide +kernel) rfl⟩
theorem ffX0_41 : zFL RX0 41 RX0 TX0 12 0 0 := ⟨rfl, zinX0, by decide, zTs_at 93 (by decide +kernel) rfl⟩
theorem ffX0_51 : zFL RX0 51 RX0 TX0 12 0 7 := ⟨rfl, zinX0, by decide, zTs_at 106 (by decide +kernel) rfl⟩
theorem ffX0_54 : zFL RX0 54 RX0 TX0 12 0 10 := ⟨rfl, zinX0, by decide, zTs_at 112 (by decide +kernel) rfl⟩
theorem ffX0_58 : zFL RX0 58 RX0 TX0 12 0 11 := ⟨rfl, zinX0, by decide, zTs_at 114 (by decide +kernel) rfl⟩
theorem ffX1_9 : zFL RX1 9 RX1 TX1 5 1 1 := ⟨rfl, zinX1, by decide, zTs_at 233 (by decide +kernel) rfl⟩
theorem ffX1_15 : zFL RX1 15 RX1 TX1 5 1 2 := ⟨rfl, zinX1, by decide, zTs_at 235 (by decide +kernel) rfl⟩
theorem ffX1_18 : zFL RX1 18 RX1 TX1 5 1 3 := ⟨rfl, zinX1, by decide, zTs_at 237 (by decide +kernel) rfl⟩
theorem ffX1_21 : zFL RX1 21 RX1 TX1 5 1 4 := ⟨rfl, zinX1, by decide, zTs_at 239 (by decide +kernel) rfl⟩
theorem ffX1_24 : zFL RX1 24 RX1 TX1 5 1 0 := ⟨rfl, zinX1, by decide, zTs_at 231 (by decide +kernel) rfl⟩
theorem ffX2_11 : zFL RX2 11 RX2 TX2 4 2 2 := ⟨rfl, zinX2, by decide, zTs_at 194 (by decide +kernel) rfl⟩
theorem ffX2_16 : zFL RX2 16 RX2 TX2 4 2 3 := ⟨rfl, zinX2, by decide, zTs_at 195 (by decide +kernel) rfl⟩
theorem ffX2_20 : zFL RX2 20 RX2 TX2 4 2 1 := ⟨rfl, zinX2, by decide, zTs_at 192 (by decide +kernel) rfl⟩
theorem ffX3_9 : zFL RX3 9 RX3 TX3 4 3 1 := ⟨rfl, zinX3, by decide, zTs_at 150 (by decide +kernel) rfl⟩
theorem ffX3_15 : zFL RX3 15 RX3 TX3 4 3 2 := ⟨rfl, zinX3, by decide, zTs_at 152 (by decide +kernel) rfl⟩
theorem ffX3_18 : zFL RX3 18 RX3 TX3 4 3 3 := ⟨rfl, zinX3, by decide, zTs_at 154 (by decide +kernel) rfl⟩
theorem ffX3_21 : zFL RX3 21 RX3 TX3 4 3 0 := ⟨rfl, zinX3, by decide, zTs_at 148 (by decide +kernel) rfl⟩
theorem ffX4_11 : zFL RX4 11 RX4 TX4 3 4 1 := ⟨rfl, zinX4, by decide, zTs_at 215 (by decide +kernel) rfl⟩
theorem ffX5_9 : zFL RX5 9 RX5 TX5 4 5 1 := ⟨rfl, zinX5, by decide, zTs_at 260 (by decide +kernel) rfl⟩
theorem ffX5_15 : zFL RX5 15 RX5 TX5 4 5 2 := ⟨rfl, zinX5, by decide, zTs_at 262 (by decide +kernel) rfl⟩
theorem ffX5_18 : zFL RX5 18 RX5 TX5 4 5 3 := ⟨rfl, zinX5, by decide, zTs_at 264 (by decide +kernel) rfl⟩
theorem ffX5_21 : zFL RX5 21 RX5 TX5 4 5 0 := ⟨rfl, zinX5, by decide, zTs_at 258 (by decide +kernel) rfl⟩
theorem ffX6_9 : zFL RX6 9 RX6 TX6 3 6 0 := ⟨rfl, zinX6, by decide, zTs_at 171 (by decide +kernel) rfl⟩
theorem ffX6_15 : zFL RX6 15 RX6 TX6 3 6 1 := ⟨rfl, zinX6, by decide, zTs_at 173 (by decide +kernel) rfl⟩
theorem ffX6_18 : zFL RX6 18 RX6 TX6 3 6 2 := ⟨rfl, zinX6, by decide, zTs_at 175 (by decide +kernel) rfl⟩
theorem ffX8_7 : zFL RX8 7 RX8 TX8 31 8 1 := ⟨rfl, zinX8, by decide, zTs_at 922 (by decide +kernel) rfl⟩
theorem ffX8_13 : zFL RX8 13 RX8 TX8 31 8 2 := ⟨rfl, zinX8, by decide, zTs_at 923 (by decide +kernel) rfl⟩
theorem ffX8_16 : zFL RX8 16 RX8 TX8 31 8 3 := ⟨rfl, zinX8, by decide, zTs_at 924 (by decide +kernel) rfl⟩
theorem ffX8_19 : zFL RX8 19 RX8 TX8 31 8 4 := ⟨rfl, zinX8, by decide, zTs_at 925 (by decide +kernel) rfl⟩
theorem ffX8_22 : zFL RX8 22 RX8 TX8 31 8 5 := ⟨rfl, zinX8, by decide, zTs_at 926 (by decide +kernel) rfl⟩
theorem ffX8_25 : zFL RX8 25 RX8 TX8 31 8 6 := ⟨rfl, zinX8, by decide, zTs_at 927 (by decide +kernel) rfl⟩
theorem ffX8_28 : zFL RX8 28 RX8 TX8 31 8 8 := ⟨rfl, zinX8, by decide, zTs_at 929 (by decide +kernel) rfl⟩
theorem ffX8_31 : zFL RX8 31 RX8 TX8 31 8 9 := ⟨rfl, zinX8, by decide, zTs_at 930 (by decide +kernel) rfl⟩
theorem ffX8_34 : zFL RX8 34 RX8 TX8 31 8 10 := ⟨rfl, zinX8, by decide, zTs_at 931 (by decide +kernel) rfl⟩
theorem ffX8_37 : zFL RX8 37 RX8 TX8 31 8 11 := ⟨rfl, zinX8, by decide, zTs_at 932 (by decide +kernel) rfl⟩
theorem ffX8_40 : zFL RX8 40 RX8 TX8 31 8 12 := ⟨rfl, zinX8, by decide, zTs_at 933 (by decide +kernel) rfl⟩
theorem ffX8_43 : zFL RX8 43 RX8 TX8 31 8 13 := ⟨rfl, zinX8, by decide, zTs_at 934 (by decide +kernel) rfl⟩
theorem ffX8_46 : zFL RX8 46 RX8 TX8 31 8 15 := ⟨rfl, zinX8, by decide, zTs_at 936 (by decide +kernel) rfl⟩
theorem ffX8_49 : zFL RX8 49 RX8 TX8 31 8 17 := ⟨rfl, zinX8, by decide, zTs_at 938 (by decide +kernel) rfl⟩
theorem ffX8_52 : zFL RX8 52 RX8 TX8 31 8 18 := ⟨rfl, zinX8, by decide, zTs_at 939 (by decide +kernel) rfl⟩
theorem ffX8_55 : zFL RX8 55 RX8 TX8 31 8 19 := ⟨rfl, zinX8, by decide, zTs_at 940 (by decide +kernel) rfl⟩
theorem ffX8_58 : zFL RX8 58 RX8 TX8 31 8 20 := ⟨rfl, zinX8, by decide, zTs_at 941 (by decide +kernel) rfl⟩
theorem ffX8_61 : zFL RX8 61 RX8 TX8 31 8 22 := ⟨rfl, zinX8, by decide, zTs_at 943 (by decide +kernel) rfl⟩
theorem ffX8_64 : zFL RX8 64 RX8 TX8 31 8 23 := ⟨rfl, zinX8, by decide, zTs_at 944 (by decide +kernel) rfl⟩
theorem ffX8_67 : zFL RX8 67 RX8 TX8 31 8 24 := ⟨rfl, zinX8, by decide, zTs_at 945 (by decide +kernel) rfl⟩
theorem ffX8_70 : zFL RX8 70 RX8 TX8 31 8 25 := ⟨rfl, zinX8, by decide, zTs_at 946 (by decide +kernel) rfl⟩
theorem ffX8_73 : zFL RX8 73 RX8 TX8 31 8 27 := ⟨rfl, zinX8, by decide, zTs_at 948 (by decide +kernel) rfl⟩
theorem ffX8_76 : zFL RX8 76 RX8 TX8 31 8 28 := ⟨rfl, zinX8, by decide, zTs_at 949 (by decide +kernel) rfl⟩
theorem ffX8_79 : zFL RX8 79 RX8 TX8 31 8 29 := ⟨rfl, zinX8, by decide, zTs_at 950 (by decide +kernel) rfl⟩
theorem ffX8_82 : zFL RX8 82 RX8 TX8 31 8 30 := ⟨rfl, zinX8, by decide, zTs_at 951 (by decide +kernel) rfl⟩
theorem ffX8_90 : zFL RX8 90 RX8 TX8 31 8 0 := ⟨rfl, zinX8, by decide, zTs_at 921 (by decide +kernel) rfl⟩
theorem ffX8_116 : zFL RX8 116 RX8 TX8 31 8 7 := ⟨rfl, zinX8, by decide, zTs_at 928 (by decide +kernel) rfl⟩
theorem ffX8_122 : zFL RX8 122 RX8 TX8 31 8 26 := ⟨rfl, zinX8, by decide, zTs_at 947 (by decide +kernel) rfl⟩
theorem ffX8_128 : zFL RX8 128 RX8 TX8 31 8 21 := ⟨rfl, zinX8, by decide, zTs_at 942 (by decide +kernel) rfl⟩
theorem ffX8_147 : zFL RX8 147 RX8 TX8 31 8 16 := ⟨rfl, zinX8, by decide, zTs_at 937 (by decide +kernel) rfl⟩
theorem ffX8_156 : zFL RX8 156 RX8 TX8 31 8 14 := ⟨rfl, zinX8, by decide, zTs_at 935 (by decide +kernel) rfl⟩
theorem fpX7_68 : zFP RX7 68 RX0 TX0 12 0 0 .int := ⟨ffX7_68, ⟨tyX0, tyX0_ok⟩, nmX0, rfl, by decide +kernel⟩
theorem fpX7_185 : zFP RX7 185 RX2 TX2 4 2 0 .int := ⟨ffX7_185, ⟨tyX2, tyX2_ok⟩, nmX2, rfl, by decide +kernel⟩
theorem fpX7_233 : zFP RX7 233 RX4 TX4 3 4 0 .int := ⟨ffX7_233, ⟨tyX4, tyX4_ok⟩, nmX4, rfl, by decide +kernel⟩
theorem fpX0_41 : zFP RX0 41 RX0 TX0 12 0 0 .int := ⟨ffX0_41, ⟨tyX0, tyX0_ok⟩, nmX0, rfl, by decide +kernel⟩
theorem fpX0_51 : zFP RX0 51 RX0 TX0 12 0 7 .int := ⟨ffX0_51, ⟨tyX0, tyX0_ok⟩, nmX0, rfl, by decide +kernel⟩
theorem fpX0_54 : zFP RX0 54 RX0 TX0 12 0 10 .long := ⟨ffX0_54, ⟨tyX0, tyX0_ok⟩, nmX0, rfl, by decide +kernel⟩
theorem fpX0_58 : zFP RX0 58 RX0 TX0 12 0 11 .long := ⟨ffX0_58, ⟨tyX0, tyX0_ok⟩, nmX0, rfl, by decide +kernel⟩
theorem fpX1_24 : zFP RX1 24 RX1 TX1 5 1 0 .int := ⟨ffX1_24, ⟨tyX1, tyX1_ok⟩, nmX1, rfl, by decide +kernel⟩
theorem fpX2_20 : zFP RX2 20 RX2 TX2 4 2 1 .int := ⟨ffX2_20, ⟨tyX2, tyX2_ok⟩, nmX2, rfl, by decide +kernel⟩
theorem fpX3_21 : zFP RX3 21 RX3 TX3 4 3 0 .int := ⟨ffX3_21, ⟨tyX3, tyX3_ok⟩, nmX3, rfl, by decide +kernel⟩
theorem fpX5_21 : zFP RX5 21 RX5 TX5 4 5 0 .int := ⟨ffX5_21, ⟨tyX5, tyX5_ok⟩, nmX5, rfl, by decide +kernel⟩
theorem fpX8_82 : zFP RX8 82 RX8 TX8 31 8 30 .int := ⟨ffX8_82, ⟨tyX8, tyX8_ok⟩, nmX8, rfl, by decide +kernel⟩
theorem fpX8_90 : zFP RX8 90 RX8 TX8 31 8 0 .int := ⟨ffX8_90, ⟨tyX8, tyX8_ok⟩, nmX8, rfl, by decide +kernel⟩
theorem fpX8_116 : zFP RX8 116 RX8 TX8 31 8 7 .int := ⟨ffX8_116, ⟨tyX8, tyX8_ok⟩, nmX8, rfl, by decide +kernel⟩
theorem fpX8_122 : zFP RX8 122 RX8 TX8 31 8 26 .int := ⟨ffX8_122, ⟨tyX8, tyX8_ok⟩, nmX8, rfl, by decide +kernel⟩
theorem fpX8_128 : zFP RX8 128 RX8 TX8 31 8 21 .int := ⟨ffX8_128, ⟨tyX8, tyX8_ok⟩, nmX8, rfl, by decide +kernel⟩
theorem fpX8_147 : zFP RX8 147 RX8 TX8 31 8 16 .int := ⟨ffX8_147, ⟨tyX8, tyX8_ok⟩, nmX8, rfl, by decide +kernel⟩
theorem fpX8_156 : zFP RX8 156 RX8 TX8 31 8 14 .int := ⟨ffX8_156, ⟨tyX8, tyX8_ok⟩, nmX8, rfl, by decide +kernel⟩
theorem lkX7_72 : zLV RX7 72 yX3_add cX3_add 4 none 3 := ⟨zTs_at 411 (by decide +kernel) rfl, zTs_at 412 (by decide +kernel) rfl, zTs_at 413 (by decide +kernel) rfl, zTs_at 55 (by decide +kernel) rfl, zTs_at 414 (by decide +kernel) rfl, ⟨by decide +kernel, by decide +kernel, by decide +kernel⟩, by decide⟩
theorem lkX7_76 : zLS RX7 76 yJ6_bitCount_0f7a4 cJ6_bitCount_0f7a4 1 (some .int) 1 := ⟨zTs_at 415 (by decide +kernel) rfl, zTs_at 416 (by decide +kernel) rfl, zTs_at 66 (by decide +kernel) rfl, zTs_at 417 (by decide +kernel) rfl, ⟨by decide +kernel, by decide +kernel, by decide +kernel⟩, by decide⟩
theorem lkX7_82 : zLS RX7 82 yX7_checkBakery cX7_checkBakery 1 none 1 := ⟨zTs_at 430 (by decide +kernel) rfl, zTs_at 431 (by decide +kernel) rfl, zTs_at 52 (by decide +kernel) rfl, zTs_at 432 (by decide +kernel) rfl, ⟨by decide +kernel, by decide +kernel, by decide +kernel⟩, by decide⟩
theorem lkX7_95 : zLV RX7 95 yX0_becomeCandidate cX0_becomeCandidate 2 none 1 := ⟨zTs_at 465 (by decide +kernel) rfl, zTs_at 466 (by decide +kernel) rfl, zTs_at 467 (by decide +kernel) rfl, zTs_at 53 (by decide +kernel) rfl, zTs_at 468 (by decide +kernel) rfl, ⟨by decide +kernel, by decide +kernel, by decide +kernel⟩, by decide⟩
theorem lkX7_98 : zLS RX7 98 yX7_checkPair cX7_checkPair 2 none 2 := ⟨zTs_at 476 (by decide +kernel) rfl, zTs_at 477 (by decide +kernel) rfl, zTs_at 52 (by decide +kernel) rfl, zTs_at 478 (by decide +kernel) rfl, ⟨by decide +kernel, by decide +kernel, by decide +kernel⟩, by decide⟩
theorem lkX7_107 : zLV RX7 107 yX7_checkReach cX7_checkReach 3 none 2 := ⟨zTs_at 481 (by decide +kernel) rfl, zTs_at 483 (by decide +kernel) rfl, zTs_at 2 (by decide +kernel) rfl, zTs_at 52 (by decide +kernel) rfl, zTs_at 484 (by decide +kernel) rfl, ⟨by decide +kernel, by decide +kernel, by decide +kernel⟩, by decide⟩
theorem lkX7_110 : zLV RX7 110 yX0_askForVote cX0_askForVote 3 (some .boolean) 2 := ⟨zTs_at 491 (by decide +kernel) rfl, zTs_at 492 (by decide +kernel) rfl, zTs_at 493 (by decide +kernel) rfl, zTs_at 53 (by decide +kernel) rfl, zTs_at 494 (by decide +kernel) rfl, ⟨by decide +kernel, by decide +kernel, by decide +kernel⟩, by decide⟩
theorem lkX7_114 : zLS RX7 114 yX7_checkRecipe cX7_checkRecipe 1 none 1 := ⟨zTs_at 519 (by decide +kernel) rfl, zTs_at 520 (by decide +kernel) rfl, zTs_at 52 (by decide +kernel) rfl, zTs_at 521 (by decide +kernel) rfl, ⟨by decide +kernel, by decide +kernel, by decide +kernel⟩, by decide⟩
theorem lkX7_119 : zLV RX7 119 yX7_checkLeader cX7_checkLeader 2 none 1 := ⟨zTs_at 524 (by decide +kernel) rfl, zTs_at 526 (by decide +kernel) rfl, zTs_at 7 (by decide +kernel) rfl, zTs_at 52 (by decide +kernel) rfl, zTs_at 527 (by decide +kernel) rfl, ⟨by decide +kernel, by decide +kernel, by decide +kernel⟩, by decide⟩
theorem lkX7_130 : zLV RX7 130 yX0_addVersion cX0_addVersion 3 (some .int) 1 := ⟨zTs_at 530 (by decide +kernel) rfl, zTs_at 531 (by decide +kernel) rfl, zTs_at 532 (by decide +kernel) rfl, zTs_at 53 (by decide +kernel) rfl, zTs_at 533 (by decide +kernel) rfl, ⟨by decide +kernel, by decide +kernel, by decide +kernel⟩, by decide⟩
theorem lkX7_133 : zLV RX7 133 yX6_note cX6_note 5 none 4 := ⟨zTs_at 543 (by decide +kernel) rfl, zTs_at 544 (by decide +kernel) rfl, zTs_at 545 (by decide +kernel) rfl, zTs_at 56 (by decide +kernel) rfl, zTs_at 546 (by decide +kernel) rfl, ⟨by decide +kernel, by decide +kernel, by decide +kernel⟩, by decide⟩
theorem lkX7_141 : zLV RX7 141 yX0_sendLog cX0_sendLog 3 (some .int) 2 := ⟨zTs_at 554 (by decide +kernel) rfl, zTs_at 555 (by decide +kernel) rfl, zTs_at 556 (by decide +kernel) rfl, zTs_at 53 (by decide +kernel) rfl, zTs_at 557 (by decide +kernel) rfl, ⟨by decide +kernel, by decide +kernel, by decide +kernel⟩, by decide⟩
theorem lkX7_147 : zLV RX7 147 yX7_callBackUnheld cX7_callBackUnheld 4 none 1 := ⟨zTs_at 574 (by decide +kernel) rfl, zTs_at 576 (by decide +kernel) rfl, zTs_at 13 (by decide +kernel) rfl, zTs_at 52 (by decide +kernel) rfl, zTs_at 577 (by decide +kernel) rfl, ⟨by decide +kernel, by decide +kernel, by decide +kernel⟩, by decide⟩
theorem lkX7_154 : zLV RX7 154 yX0_areTogether cX0_areTogether 3 (some .boolean) 2 := ⟨zTs_at 485 (by decide +kernel) rfl, zTs_at 486 (by decide +kernel) rfl, zTs_at 487 (by decide +kernel) rfl, zTs_at 53 (by decide +kernel) rfl, zTs_at 488 (by decide +kernel) rfl, ⟨by decide +kernel, by decide +kernel, by decide +kernel⟩, by decide⟩
theorem lkX7_166 : zLV RX7 166 yX7_checkVersion cX7_checkVersion 2 none 1 := ⟨zTs_at 640 (by decide +kernel) rfl, zTs_at 642 (by decide +kernel) rfl, zTs_at 16 (by decide +kernel) rfl, zTs_at 52 (by decide +kernel) rfl, zTs_at 643 (by decide +kernel) rfl, ⟨by decide +kernel, by decide +kernel, by decide +kernel⟩, by decide⟩
theorem lkX7_175 : zLS RX7 175 yX7_contains cX7_contains 3 (some .boolean) 2 := ⟨zTs_at 312 (by decide +kernel) rfl, zTs_at 313 (by decide +kernel) rfl, zTs_at 52 (by decide +kernel) rfl, zTs_at 314 (by decide +kernel) rfl, ⟨by decide +kernel, by decide +kernel, by decide +kernel⟩, by decide⟩
theorem lkX7_182 : zLV RX7 182 yX7_findCurrent cX7_findCurrent 5 (some .int) 2 := ⟨zTs_at 673 (by decide +kernel) rfl, zTs_at 675 (by decide +kernel) rfl, zTs_at 17 (by decide +kernel) rfl, zTs_at 52 (by decide +kernel) rfl, zTs_at 676 (by decide +kernel) rfl, ⟨by decide +kernel, by decide +kernel, by decide +kernel⟩, by decide⟩
theorem lkX7_190 : zLV RX7 190 yX7_checkLot cX7_checkLot 2 none 1 := ⟨zTs_at 692 (by decide +kernel) rfl, zTs_at 694 (by decide +kernel) rfl, zTs_at 18 (by decide +kernel) rfl, zTs_at 52 (by decide +kernel) rfl, zTs_at 695 (by decide +kernel) rfl, ⟨by decide +kernel, by decide +kernel, by decide +kernel⟩, by decide⟩
theorem lkX7_195 : zLV RX7 195 yX7_checkGood cX7_checkGood 2 none 1 := ⟨zTs_at 698 (by decide +kernel) rfl, zTs_at 700 (by decide +kernel) rfl, zTs_at 19 (by decide +kernel) rfl, zTs_at 52 (by decide +kernel) rfl, zTs_at 701 (by decide +kernel) rfl, ⟨by decide +kernel, by decide +kernel, by decide +kernel⟩, by decide⟩
theorem lkX7_203 : zLV RX7 203 yX2_bring cX2_bring 6 none 3 := ⟨zTs_at 704 (by decide +kernel) rfl, zTs_at 705 (by decide +kernel) rfl, zTs_at 706 (by decide +kernel) rfl, zTs_at 57 (by decide +kernel) rfl, zTs_at 707 (by decide +kernel) rfl, ⟨by decide +kernel, by decide +kernel, by decide +kernel⟩, by decide⟩
theorem lkX7_206 : zLV RX7 206 yX2_throwOut cX2_throwOut 3 none 1 := ⟨zTs_at 715 (by decide +kernel) rfl, zTs_at 716 (by decide +kernel) rfl, zTs_at 717 (by decide +kernel) rfl, zTs_at 57 (by decide +kernel) rfl, zTs_at 718 (by decide +kernel) rfl, ⟨by decide +kernel, by decide +kernel, by decide +kernel⟩, by decide⟩
theorem lkX7_209 : zLV RX7 209 yX7_callBackLot cX7_callBackLot 4 (some .int) 1 := ⟨zTs_at 723 (by decide +kernel) rfl, zTs_at 725 (by decide +kernel) rfl, zTs_at 21 (by decide +kernel) rfl, zTs_at 52 (by decide +kernel) rfl, zTs_at 726 (by decide +kernel) rfl, ⟨by decide +kernel, by decide +kernel, by decide +kernel⟩, by decide⟩
theorem lkX7_212 : zLV RX7 212 yX7_checkHour cX7_checkHour 2 none 1 := ⟨zTs_at 741 (by decide +kernel) rfl, zTs_at 743 (by decide +kernel) rfl, zTs_at 22 (by decide +kernel) rfl, zTs_at 52 (by decide +kernel) rfl, zTs_at 744 (by decide +kernel) rfl, ⟨by decide +kernel, by decide +kernel, by decide +kernel⟩, by decide⟩
theorem lkX7_215 : zLV RX7 215 yX4_slotAt cX4_slotAt 3 (some .int) 2 := ⟨zTs_at 308 (by decide +kernel) rfl, zTs_at 309 (by decide +kernel) rfl, zTs_at 310 (by decide +kernel) rfl, zTs_at 58 (by decide +kernel) rfl, zTs_at 311 (by decide +kernel) rfl, ⟨by decide +kernel, by decide +kernel, by decide +kernel⟩, by decide⟩
theorem lkX7_220 : zLV RX7 220 yX7_putCurrent cX7_putCurrent 5 (some .int) 3 := ⟨zTs_at 747 (by decide +kernel) rfl, zTs_at 749 (by decide +kernel) rfl, zTs_at 23 (by decide +kernel) rfl, zTs_at 52 (by decide +kernel) rfl, zTs_at 750 (by decide +kernel) rfl, ⟨by decide +kernel, by decide +kernel, by decide +kernel⟩, by decide⟩
theorem lkX7_224 : zLS RX7 224 yX7_checkBooked cX7_checkBooked 1 none 1 := ⟨zTs_at 763 (by decide +kernel) rfl, zTs_at 764 (by decide +kernel) rfl, zTs_at 52 (by decide +kernel) rfl, zTs_at 765 (by decide +kernel) rfl, ⟨by decide +kernel, by decide +kernel, by decide +kernel⟩, by decide⟩
theorem lkX7_230 : zLV RX7 230 yX4_setSlot cX4_setSlot 4 none 3 := ⟨zTs_at 752 (by decide +kernel) rfl, zTs_at 753 (by decide +kernel) rfl, zTs_at 754 (by decide +kernel) rfl, zTs_at 58 (by decide +kernel) rfl, zTs_at 755 (by decide +kernel) rfl, ⟨by decide +kernel, by decide +kernel, by decide +kernel⟩, by decide⟩
theorem lkX7_240 : zLV RX7 240 yX7_passHour cX7_passHour 4 (some .int) 0 := ⟨zTs_at 790 (by decide +kernel) rfl, zTs_at 792 (by decide +kernel) rfl, zTs_at 24 (by decide +kernel) rfl, zTs_at 52 (by decide +kernel) rfl, zTs_at 793 (by decide +kernel) rfl, ⟨by decide +kernel, by decide +kernel, by decide +kernel⟩, by decide⟩
theorem lkX7_250 : zLV RX7 250 yX7_checkBatch cX7_checkBatch 2 none 1 := ⟨zTs_at 824 (by decide +kernel) rfl, zTs_at 826 (by decide +kernel) rfl, zTs_at 27 (by decide +kernel) rfl, zTs_at 52 (by decide +kernel) rfl, zTs_at 827 (by decide +kernel) rfl, ⟨by decide +kernel, by decide +kernel, by decide +kernel⟩, by decide⟩
theorem lkX7_262 : zLV RX7 262 yX7_barredUnder cX7_barredUnder 5 (some .int) 2 := ⟨zTs_at 327 (by decide +kernel) rfl, zTs_at 329 (by decide +kernel) rfl, zTs_at 0 (by decide +kernel) rfl, zTs_at 52 (by decide +kernel) rfl, zTs_at 330 (by decide +kernel) rfl, ⟨by decide +kernel, by decide +kernel, by decide +kernel⟩, by decide⟩
theorem lkX7_266 : zLV RX7 266 yX7_repeatHistory cX7_repeatHistory 2 none 0 := ⟨zTs_at 857 (by decide +kernel) rfl, zTs_at 859 (by decide +kernel) rfl, zTs_at 28 (by decide +kernel) rfl, zTs_at 52 (by decide +kernel) rfl, zTs_at 860 (by decide +kernel) rfl, ⟨by decide +kernel, by decide +kernel, by decide +kernel⟩, by decide⟩
theorem lkX7_277 : zLV RX7 277 yX7_checkRecall cX7_checkRecall 2 none 1 := ⟨zTs_at 896 (by decide +kernel) rfl, zTs_at 898 (by decide +kernel) rfl, zTs_at 30 (by decide +kernel) rfl, zTs_at 52 (by decide +kernel) rfl, zTs_at 899 (by decide +kernel) rfl, ⟨by decide +kernel, by decide +kernel, by decide +kernel⟩, by decide⟩
theorem lkX7_318 : zLV RX7 318 yX7_canBake cX7_canBake 3 (some .boolean) 2 := ⟨zTs_at 794 (by decide +kernel) rfl, zTs_at 796 (by decide +kernel) rfl, zTs_at 25 (by decide +kernel) rfl, zTs_at 52 (by decide +kernel) rfl, zTs_at 797 (by decide +kernel) rfl, ⟨by decide +kernel, by decide +kernel, by decide +kernel⟩, by decide⟩
theorem lkX7_321 : zLV RX7 321 yX7_bake cX7_bake 4 none 2 := ⟨zTs_at 798 (by decide +kernel) rfl, zTs_at 800 (by decide +kernel) rfl, zTs_at 26 (by decide +kernel) rfl, zTs_at 52 (by decide +kernel) rfl, zTs_at 801 (by decide +kernel) rfl, ⟨by decide +kernel, by decide +kernel, by decide +kernel⟩, by decide⟩
theorem lkX7_327 : zLV RX7 327 yX2_takeFirst cX2_takeFirst 5 (some .int) 2 := ⟨zTs_at 802 (by decide +kernel) rfl, zTs_at 803 (by decide +kernel) rfl, zTs_at 804 (by decide +kernel) rfl, zTs_at 57 (by decide +kernel) rfl, zTs_at 805 (by decide +kernel) rfl, ⟨by decide +kernel, by decide +kernel, by decide +kernel⟩, by decide⟩
theorem lkX7_333 : zLV RX7 333 yX1_add cX1_add 4 none 3 := ⟨zTs_at 806 (by decide +kernel) rfl, zTs_at 807 (by decide +kernel) rfl, zTs_at 808 (by decide +kernel) rfl, zTs_at 59 (by decide +kernel) rfl, zTs_at 809 (by decide +kernel) rfl, ⟨by decide +kernel, by decide +kernel, by decide +kernel⟩, by decide⟩
theorem lkX7_334 : zLV RX7 334 yX7_callBackVersion cX7_callBackVersion 3 none 1 := ⟨zTs_at 578 (by decide +kernel) rfl, zTs_at 580 (by decide +kernel) rfl, zTs_at 14 (by decide +kernel) rfl, zTs_at 52 (by decide +kernel) rfl, zTs_at 581 (by decide +kernel) rfl, ⟨by decide +kernel, by decide +kernel, by decide +kernel⟩, by decide⟩
theorem lkX7_337 : zLV RX7 337 yX7_callBackBatch cX7_callBackBatch 4 (some .int) 2 := ⟨zTs_at 582 (by decide +kernel) rfl, zTs_at 584 (by decide +kernel) rfl, zTs_at 15 (by decide +kernel) rfl, zTs_at 52 (by decide +kernel) rfl, zTs_at 585 (by decide +kernel) rfl, ⟨by decide +kernel, by decide +kernel, by decide +kernel⟩, by decide⟩
theorem lkX7_340 : zLV RX7 340 yX5_write cX5_write 4 none 3 := ⟨zTs_at 586 (by decide +kernel) rfl, zTs_at 587 (by decide +kernel) rfl, zTs_at 588 (by decide +kernel) rfl, zTs_at 60 (by decide +kernel) rfl, zTs_at 589 (by decide +kernel) rfl, ⟨by decide +kernel, by decide +kernel, by decide +kernel⟩, by decide⟩
theorem lkX7_343 : zLV RX7 343 yX0_begin cX0_begin 1 none 0 := ⟨zTs_at 861 (by decide +kernel) rfl, zTs_at 87 (by decide +kernel) rfl, zTs_at 88 (by decide +kernel) rfl, zTs_at 53 (by decide +kernel) rfl, zTs_at 89 (by decide +kernel) rfl, ⟨by decide +kernel, by decide +kernel, by decide +kernel⟩, by decide⟩
theorem lkX7_356 : zLV RX7 356 yX7_repeatCall cX7_repeatCall 4 none 3 := ⟨zTs_at 862 (by decide +kernel) rfl, zTs_at 864 (by decide +kernel) rfl, zTs_at 29 (by decide +kernel) rfl, zTs_at 52 (by decide +kernel) rfl, zTs_at 865 (by decide +kernel) rfl, ⟨by decide +kernel, by decide +kernel, by decide +kernel⟩, by decide⟩
theorem lkX0_45 : zLS RX0 45 yJ7_fill_53178 cJ7_fill_53178 4 none 2 := ⟨zTs_at 90 (by decide +kernel) rfl, zTs_at 91 (by decide +kernel) rfl, zTs_at 54 (by decide +kernel) rfl, zTs_at 92 (by decide +kernel) rfl, ⟨by decide +kernel, by decide +kernel, by decide +kernel⟩, by decide⟩
theorem lkX0_61 : zLN RX0 "QuorumBakery" 61 yX7_contains cX7_contains 3 (some .boolean) 2 := ⟨zTs_at 489 (by decide +kernel) rfl, zTs_at 313 (by decide +kernel) rfl, zTs_at 52 (by decide +kernel) rfl, zTs_at 314 (by decide +kernel) rfl, ⟨by decide +kernel, by decide +kernel, by decide +kernel⟩, by decide⟩
theorem lkX0_65 : zLV RX0 65 yX0_takeTerm cX0_takeTerm 3 none 2 := ⟨zTs_at 495 (by decide +kernel) rfl, zTs_at 497 (by decide +kernel) rfl, zTs_at 3 (by decide +kernel) rfl, zTs_at 53 (by decide +kernel) rfl, zTs_at 498 (by decide +kernel) rfl, ⟨by decide +kernel, by decide +kernel, by decide +kernel⟩, by decide⟩
theorem lkX0_69 : zLV RX0 69 yX0_hasBetterLog cX0_hasBetterLog 5 (some .boolean) 2 := ⟨zTs_at 499 (by decide +kernel) rfl, zTs_at 501 (by decide +kernel) rfl, zTs_at 4 (by decide +kernel) rfl, zTs_at 53 (by decide +kernel) rfl, zTs_at 502 (by decide +kernel) rfl, ⟨by decide +kernel, by decide +kernel, by decide +kernel⟩, by decide⟩
theorem lkX0_73 : zLV RX0 73 yX0_giveVote cX0_giveVote 3 none 2 := ⟨zTs_at 507 (by decide +kernel) rfl, zTs_at 509 (by decide +kernel) rfl, zTs_at 6 (by decide +kernel) rfl, zTs_at 53 (by decide +kernel) rfl, zTs_at 510 (by decide +kernel) rfl, ⟨by decide +kernel, by decide +kernel, by decide +kernel⟩, by decide⟩
theorem lkX0_76 : zLS RX0 76 yJ6_bitCount_0f7a4 cJ6_bitCount_0f7a4 1 (some .int) 1 := ⟨zTs_at 511 (by decide +kernel) rfl, zTs_at 416 (by decide +kernel) rfl, zTs_at 66 (by decide +kernel) rfl, zTs_at 417 (by decide +kernel) rfl, ⟨by decide +kernel, by decide +kernel, by decide +kernel⟩, by decide⟩
theorem lkX0_82 : zLV RX0 82 yX0_lastTerm cX0_lastTerm 2 (some .int) 1 := ⟨zTs_at 503 (by decide +kernel) rfl, zTs_at 505 (by decide +kernel) rfl, zTs_at 5 (by decide +kernel) rfl, zTs_at 53 (by decide +kernel) rfl, zTs_at 506 (by decide +kernel) rfl, ⟨by decide +kernel, by decide +kernel, by decide +kernel⟩, by decide⟩
theorem lkX0_85 : zLV RX0 85 yX0_append cX0_append 3 none 2 := ⟨zTs_at 534 (by decide +kernel) rfl, zTs_at 536 (by decide +kernel) rfl, zTs_at 8 (by decide +kernel) rfl, zTs_at 53 (by decide +kernel) rfl, zTs_at 537 (by decide +kernel) rfl, ⟨by decide +kernel, by decide +kernel, by decide +kernel⟩, by decide⟩
theorem lkX0_88 : zLV RX0 88 yX0_commonLength cX0_commonLength 5 (some .int) 2 := ⟨zTs_at 558 (by decide +kernel) rfl, zTs_at 560 (by decide +kernel) rfl, zTs_at 10 (by decide +kernel) rfl, zTs_at 53 (by decide +kernel) rfl, zTs_at 561 (by decide +kernel) rfl, ⟨by decide +kernel, by decide +kernel, by decide +kernel⟩, by decide⟩
theorem lkX0_92 : zLV RX0 92 yX0_cutAt cX0_cutAt 5 none 2 := ⟨zTs_at 565 (by decide +kernel) rfl, zTs_at 567 (by decide +kernel) rfl, zTs_at 11 (by decide +kernel) rfl, zTs_at 53 (by decide +kernel) rfl, zTs_at 568 (by decide +kernel) rfl, ⟨by decide +kernel, by decide +kernel, by decide +kernel⟩, by decide⟩
theorem lkX0_95 : zLV RX0 95 yX0_copyRest cX0_copyRest 5 (some .int) 2 := ⟨zTs_at 569 (by decide +kernel) rfl, zTs_at 571 (by decide +kernel) rfl, zTs_at 12 (by decide +kernel) rfl, zTs_at 53 (by decide +kernel) rfl, zTs_at 572 (by decide +kernel) rfl, ⟨by decide +kernel, by decide +kernel, by decide +kernel⟩, by decide⟩
theorem lkX0_98 : zLS RX0 98 yJ9_min_7cf53 cJ9_min_7cf53 2 (some .int) 2 := ⟨zTs_at 562 (by decide +kernel) rfl, zTs_at 563 (by decide +kernel) rfl, zTs_at 69 (by decide +kernel) rfl, zTs_at 564 (by decide +kernel) rfl, ⟨by decide +kernel, by decide +kernel, by decide +kernel⟩, by decide⟩
theorem lkX0_103 : zLV RX0 103 yX0_judgeHeld cX0_judgeHeld 4 none 1 := ⟨zTs_at 538 (by decide +kernel) rfl, zTs_at 540 (by decide +kernel) rfl, zTs_at 9 (by decide +kernel) rfl, zTs_at 53 (by decide +kernel) rfl, zTs_at 541 (by decide +kernel) rfl, ⟨by decide +kernel, by decide +kernel, by decide +kernel⟩, by decide⟩
theorem lkX2_24 : zLV RX2 24 yX2_throwOutOf cX2_throwOutOf 5 none 2 := ⟨zTs_at 719 (by decide +kernel) rfl, zTs_at 721 (by decide +kernel) rfl, zTs_at 20 (by decide +kernel) rfl, zTs_at 57 (by decide +kernel) rfl, zTs_at 722 (by decide +kernel) rfl, ⟨by decide +kernel, by decide +kernel, by decide +kernel⟩, by decide⟩
theorem lkL_7 : zLV RL 7 yX7_part cX7_part 3 (some .int) 1 := ⟨zTs_at 339 (by decide +kernel) rfl, zTs_at 340 (by decide +kernel) rfl, zTs_at 341 (by decide +kernel) rfl, zTs_at 52 (by decide +kernel) rfl, zTs_at 342 (by decide +kernel) rfl, ⟨by decide +kernel, by decide +kernel, by decide +kernel⟩, by decide⟩
theorem lkL_15 : zLV RL 15 yX7_stand cX7_stand 2 (some .int) 1 := ⟨zTs_at 426 (by decide +kernel) rfl, zTs_at 427 (by decide +kernel) rfl, zTs_at 428 (by decide +kernel) rfl, zTs_at 52 (by decide +kernel) rfl, zTs_at 429 (by decide +kernel) rfl, ⟨by decide +kernel, by decide +kernel, by decide +kernel⟩, by decide⟩
theorem lkL_22 : zLV RL 22 yX7_vote cX7_vote 3 (some .boolean) 2 := ⟨zTs_at 472 (by decide +kernel) rfl, zTs_at 473 (by decide +kernel) rfl, zTs_at 474 (by decide +kernel) rfl, zTs_at 52 (by decide +kernel) rfl, zTs_at 475 (by decide +kernel) rfl, ⟨by decide +kernel, by decide +kernel, by decide +kernel⟩, by decide⟩
theorem lkL_26 : zLV RL 26 yX7_propose cX7_propose 6 (some .int) 4 := ⟨zTs_at 515 (by decide +kernel) rfl, zTs_at 516 (by decide +kernel) rfl, zTs_at 517 (by decide +kernel) rfl, zTs_at 52 (by decide +kernel) rfl, zTs_at 518 (by decide +kernel) rfl, ⟨by decide +kernel, by decide +kernel, by decide +kernel⟩, by decide⟩
theorem lkL_30 : zLV RL 30 yX7_tell cX7_tell 6 (some .int) 2 := ⟨zTs_at 550 (by decide +kernel) rfl, zTs_at 551 (by decide +kernel) rfl, zTs_at 552 (by decide +kernel) rfl, zTs_at 52 (by decide +kernel) rfl, zTs_at 553 (by decide +kernel) rfl, ⟨by decide +kernel, by decide +kernel, by decide +kernel⟩, by decide⟩
theorem lkL_34 : zLV RL 34 yX7_role cX7_role 2 (some .int) 1 := ⟨zTs_at 593 (by decide +kernel) rfl, zTs_at 594 (by decide +kernel) rfl, zTs_at 595 (by decide +kernel) rfl, zTs_at 52 (by decide +kernel) rfl, zTs_at 596 (by decide +kernel) rfl, ⟨by decide +kernel, by decide +kernel, by decide +kernel⟩, by decide⟩
theorem lkL_37 : zLV RL 37 yX7_term cX7_term 2 (some .int) 1 := ⟨zTs_at 600 (by decide +kernel) rfl, zTs_at 601 (by decide +kernel) rfl, zTs_at 602 (by decide +kernel) rfl, zTs_at 52 (by decide +kernel) rfl, zTs_at 603 (by decide +kernel) rfl, ⟨by decide +kernel, by decide +kernel, by decide +kernel⟩, by decide⟩
theorem lkL_40 : zLV RL 40 yX7_votedFor cX7_votedFor 2 (some .int) 1 := ⟨zTs_at 607 (by decide +kernel) rfl, zTs_at 608 (by decide +kernel) rfl, zTs_at 609 (by decide +kernel) rfl, zTs_at 52 (by decide +kernel) rfl, zTs_at 610 (by decide +kernel) rfl, ⟨by decide +kernel, by decide +kernel, by decide +kernel⟩, by decide⟩
theorem lkL_43 : zLV RL 43 yX7_reach cX7_reach 3 (some .boolean) 2 := ⟨zTs_at 614 (by decide +kernel) rfl, zTs_at 615 (by decide +kernel) rfl, zTs_at 616 (by decide +kernel) rfl, zTs_at 52 (by decide +kernel) rfl, zTs_at 617 (by decide +kernel) rfl, ⟨by decide +kernel, by decide +kernel, by decide +kernel⟩, by decide⟩
theorem lkL_46 : zLV RL 46 yX7_entries cX7_entries 2 (some .int) 1 := ⟨zTs_at 621 (by decide +kernel) rfl, zTs_at 622 (by decide +kernel) rfl, zTs_at 623 (by decide +kernel) rfl, zTs_at 52 (by decide +kernel) rfl, zTs_at 624 (by decide +kernel) rfl, ⟨by decide +kernel, by decide +kernel, by decide +kernel⟩, by decide⟩
theorem lkL_49 : zLV RL 49 yX7_versionAt cX7_versionAt 3 (some .int) 2 := ⟨zTs_at 628 (by decide +kernel) rfl, zTs_at 629 (by decide +kernel) rfl, zTs_at 630 (by decide +kernel) rfl, zTs_at 52 (by decide +kernel) rfl, zTs_at 631 (by decide +kernel) rfl, ⟨by decide +kernel, by decide +kernel, by decide +kernel⟩, by decide⟩
theorem lkL_52 : zLV RL 52 yX7_termOf cX7_termOf 2 (some .int) 1 := ⟨zTs_at 636 (by decide +kernel) rfl, zTs_at 637 (by decide +kernel) rfl, zTs_at 638 (by decide +kernel) rfl, zTs_at 52 (by decide +kernel) rfl, zTs_at 639 (by decide +kernel) rfl, ⟨by decide +kernel, by decide +kernel, by decide +kernel⟩, by decide⟩
theorem lkL_55 : zLV RL 55 yX7_holders cX7_holders 2 (some .int) 1 := ⟨zTs_at 648 (by decide +kernel) rfl, zTs_at 649 (by decide +kernel) rfl, zTs_at 650 (by decide +kernel) rfl, zTs_at 52 (by decide +kernel) rfl, zTs_at 651 (by decide +kernel) rfl, ⟨by decide +kernel, by decide +kernel, by decide +kernel⟩, by decide⟩
theorem lkL_58 : zLV RL 58 yX7_isHeld cX7_isHeld 2 (some .boolean) 1 := ⟨zTs_at 655 (by decide +kernel) rfl, zTs_at 656 (by decide +kernel) rfl, zTs_at 657 (by decide +kernel) rfl, zTs_at 52 (by decide +kernel) rfl, zTs_at 658 (by decide +kernel) rfl, ⟨by decide +kernel, by decide +kernel, by decide +kernel⟩, by decide⟩
theorem lkL_62 : zLV RL 62 yX7_wasHeld cX7_wasHeld 2 (some .boolean) 1 := ⟨zTs_at 662 (by decide +kernel) rfl, zTs_at 663 (by decide +kernel) rfl, zTs_at 664 (by decide +kernel) rfl, zTs_at 52 (by decide +kernel) rfl, zTs_at 665 (by decide +kernel) rfl, ⟨by decide +kernel, by decide +kernel, by decide +kernel⟩, by decide⟩
theorem lkL_65 : zLV RL 65 yX7_current cX7_current 3 (some .int) 2 := ⟨zTs_at 669 (by decide +kernel) rfl, zTs_at 670 (by decide +kernel) rfl, zTs_at 671 (by decide +kernel) rfl, zTs_at 52 (by decide +kernel) rfl, zTs_at 672 (by decide +kernel) rfl, ⟨by decide +kernel, by decide +kernel, by decide +kernel⟩, by decide⟩
theorem lkL_68 : zLV RL 68 yX7_addLot cX7_addLot 1 (some .int) 0 := ⟨zTs_at 680 (by decide +kernel) rfl, zTs_at 681 (by decide +kernel) rfl, zTs_at 682 (by decide +kernel) rfl, zTs_at 52 (by decide +kernel) rfl, zTs_at 683 (by decide +kernel) rfl, ⟨by decide +kernel, by decide +kernel, by decide +kernel⟩, by decide⟩
theorem lkL_72 : zLV RL 72 yX7_deliver cX7_deliver 4 (some .int) 3 := ⟨zTs_at 688 (by decide +kernel) rfl, zTs_at 689 (by decide +kernel) rfl, zTs_at 690 (by decide +kernel) rfl, zTs_at 52 (by decide +kernel) rfl, zTs_at 691 (by decide +kernel) rfl, ⟨by decide +kernel, by decide +kernel, by decide +kernel⟩, by decide⟩
theorem lkL_76 : zLV RL 76 yX7_condemn cX7_condemn 2 (some .int) 1 := ⟨zTs_at 711 (by decide +kernel) rfl, zTs_at 712 (by decide +kernel) rfl, zTs_at 713 (by decide +kernel) rfl, zTs_at 52 (by decide +kernel) rfl, zTs_at 714 (by decide +kernel) rfl, ⟨by decide +kernel, by decide +kernel, by decide +kernel⟩, by decide⟩
theorem lkL_79 : zLV RL 79 yX7_store cX7_store 2 (some .int) 1 := ⟨zTs_at 730 (by decide +kernel) rfl, zTs_at 731 (by decide +kernel) rfl, zTs_at 732 (by decide +kernel) rfl, zTs_at 52 (by decide +kernel) rfl, zTs_at 733 (by decide +kernel) rfl, ⟨by decide +kernel, by decide +kernel, by decide +kernel⟩, by decide⟩
theorem lkL_82 : zLV RL 82 yX7_book cX7_book 4 (some .int) 3 := ⟨zTs_at 737 (by decide +kernel) rfl, zTs_at 738 (by decide +kernel) rfl, zTs_at 739 (by decide +kernel) rfl, zTs_at 52 (by decide +kernel) rfl, zTs_at 740 (by decide +kernel) rfl, ⟨by decide +kernel, by decide +kernel, by decide +kernel⟩, by decide⟩
theorem lkL_85 : zLV RL 85 yX7_renew cX7_renew 4 (some .int) 2 := ⟨zTs_at 759 (by decide +kernel) rfl, zTs_at 760 (by decide +kernel) rfl, zTs_at 761 (by decide +kernel) rfl, zTs_at 52 (by decide +kernel) rfl, zTs_at 762 (by decide +kernel) rfl, ⟨by decide +kernel, by decide +kernel, by decide +kernel⟩, by decide⟩
theorem lkL_88 : zLV RL 88 yX7_free cX7_free 4 (some .int) 2 := ⟨zTs_at 770 (by decide +kernel) rfl, zTs_at 771 (by decide +kernel) rfl, zTs_at 772 (by decide +kernel) rfl, zTs_at 52 (by decide +kernel) rfl, zTs_at 773 (by decide +kernel) rfl, ⟨by decide +kernel, by decide +kernel, by decide +kernel⟩, by decide⟩
theorem lkL_91 : zLV RL 91 yX7_booked cX7_booked 3 (some .int) 2 := ⟨zTs_at 777 (by decide +kernel) rfl, zTs_at 778 (by decide +kernel) rfl, zTs_at 779 (by decide +kernel) rfl, zTs_at 52 (by decide +kernel) rfl, zTs_at 780 (by decide +kernel) rfl, ⟨by decide +kernel, by decide +kernel, by decide +kernel⟩, by decide⟩
theorem lkL_94 : zLV RL 94 yX7_pass cX7_pass 4 (some .int) 1 := ⟨zTs_at 784 (by decide +kernel) rfl, zTs_at 785 (by decide +kernel) rfl, zTs_at 786 (by decide +kernel) rfl, zTs_at 52 (by decide +kernel) rfl, zTs_at 787 (by decide +kernel) rfl, ⟨by decide +kernel, by decide +kernel, by decide +kernel⟩, by decide⟩
theorem lkL_97 : zLV RL 97 yX7_missed cX7_missed 2 (some .int) 1 := ⟨zTs_at 813 (by decide +kernel) rfl, zTs_at 814 (by decide +kernel) rfl, zTs_at 815 (by decide +kernel) rfl, zTs_at 52 (by decide +kernel) rfl, zTs_at 816 (by decide +kernel) rfl, ⟨by decide +kernel, by decide +kernel, by decide +kernel⟩, by decide⟩
theorem lkL_100 : zLV RL 100 yX7_versionOf cX7_versionOf 2 (some .int) 1 := ⟨zTs_at 820 (by decide +kernel) rfl, zTs_at 821 (by decide +kernel) rfl, zTs_at 822 (by decide +kernel) rfl, zTs_at 52 (by decide +kernel) rfl, zTs_at 823 (by decide +kernel) rfl, ⟨by decide +kernel, by decide +kernel, by decide +kernel⟩, by decide⟩
theorem lkL_103 : zLV RL 103 yX7_lotsOf cX7_lotsOf 2 (some .int) 1 := ⟨zTs_at 832 (by decide +kernel) rfl, zTs_at 833 (by decide +kernel) rfl, zTs_at 834 (by decide +kernel) rfl, zTs_at 52 (by decide +kernel) rfl, zTs_at 835 (by decide +kernel) rfl, ⟨by decide +kernel, by decide +kernel, by decide +kernel⟩, by decide⟩
theorem lkL_106 : zLV RL 106 yX7_left cX7_left 2 (some .int) 1 := ⟨zTs_at 839 (by decide +kernel) rfl, zTs_at 840 (by decide +kernel) rfl, zTs_at 841 (by decide +kernel) rfl, zTs_at 52 (by decide +kernel) rfl, zTs_at 842 (by decide +kernel) rfl, ⟨by decide +kernel, by decide +kernel, by decide +kernel⟩, by decide⟩
theorem lkL_109 : zLV RL 109 yX7_barred cX7_barred 2 (some .int) 1 := ⟨zTs_at 846 (by decide +kernel) rfl, zTs_at 847 (by decide +kernel) rfl, zTs_at 848 (by decide +kernel) rfl, zTs_at 52 (by decide +kernel) rfl, zTs_at 849 (by decide +kernel) rfl, ⟨by decide +kernel, by decide +kernel, by decide +kernel⟩, by decide⟩
theorem lkL_112 : zLV RL 112 yX7_barredAnew cX7_barredAnew 2 (some .int) 1 := ⟨zTs_at 853 (by decide +kernel) rfl, zTs_at 854 (by decide +kernel) rfl, zTs_at 855 (by decide +kernel) rfl, zTs_at 52 (by decide +kernel) rfl, zTs_at 856 (by decide +kernel) rfl, ⟨by decide +kernel, by decide +kernel, by decide +kernel⟩, by decide⟩
theorem lkL_115 : zLV RL 115 yX7_sell cX7_sell 3 (some .int) 2 := ⟨zTs_at 869 (by decide +kernel) rfl, zTs_at 870 (by decide +kernel) rfl, zTs_at 871 (by decide +kernel) rfl, zTs_at 52 (by decide +kernel) rfl, zTs_at 872 (by decide +kernel) rfl, ⟨by decide +kernel, by decide +kernel, by decide +kernel⟩, by decide⟩
theorem lkL_118 : zLV RL 118 yX7_traced cX7_traced 4 (some .int) 1 := ⟨zTs_at 878 (by decide +kernel) rfl, zTs_at 879 (by decide +kernel) rfl, zTs_at 880 (by decide +kernel) rfl, zTs_at 52 (by decide +kernel) rfl, zTs_at 881 (by decide +kernel) rfl, ⟨by decide +kernel, by decide +kernel, by decide +kernel⟩, by decide⟩
theorem lkL_121 : zLV RL 121 yX7_tracedAt cX7_tracedAt 5 (some .int) 2 := ⟨zTs_at 885 (by decide +kernel) rfl, zTs_at 886 (by decide +kernel) rfl, zTs_at 887 (by decide +kernel) rfl, zTs_at 52 (by decide +kernel) rfl, zTs_at 888 (by decide +kernel) rfl, ⟨by decide +kernel, by decide +kernel, by decide +kernel⟩, by decide⟩
theorem lkL_124 : zLV RL 124 yX7_recallOf cX7_recallOf 2 (some .int) 1 := ⟨zTs_at 892 (by decide +kernel) rfl, zTs_at 893 (by decide +kernel) rfl, zTs_at 894 (by decide +kernel) rfl, zTs_at 52 (by decide +kernel) rfl, zTs_at 895 (by decide +kernel) rfl, ⟨by decide +kernel, by decide +kernel, by decide +kernel⟩, by decide⟩
theorem lkL_127 : zLV RL 127 yX7_calledBack cX7_calledBack 2 (some .int) 1 := ⟨zTs_at 904 (by decide +kernel) rfl, zTs_at 905 (by decide +kernel) rfl, zTs_at 906 (by decide +kernel) rfl, zTs_at 52 (by decide +kernel) rfl, zTs_at 907 (by decide +kernel) rfl, ⟨by decide +kernel, by decide +kernel, by decide +kernel⟩, by decide⟩
theorem lkL_130 : zLV RL 130 yX7_why cX7_why 2 (some .int) 1 := ⟨zTs_at 911 (by decide +kernel) rfl, zTs_at 912 (by decide +kernel) rfl, zTs_at 913 (by decide +kernel) rfl, zTs_at 52 (by decide +kernel) rfl, zTs_at 914 (by decide +kernel) rfl, ⟨by decide +kernel, by decide +kernel, by decide +kernel⟩, by decide⟩
theorem lkX8_86 : zLS RX8 86 yX8_in cX8_in 3 (some .boolean) 3 := ⟨zTs_at 1023 (by decide +kernel) rfl, zTs_at 1024 (by decide +kernel) rfl, zTs_at 61 (by decide +kernel) rfl, zTs_at 1025 (by decide +kernel) rfl, ⟨by decide +kernel, by decide +kernel, by decide +kernel⟩, by decide⟩
theorem lkX8_93 : zLS RX8 93 yX8_isBakery cX8_isBakery 1 (some .boolean) 1 := ⟨zTs_at 1030 (by decide +kernel) rfl, zTs_at 1031 (by decide +kernel) rfl, zTs_at 61 (by decide +kernel) rfl, zTs_at 1032 (by decide +kernel) rfl, ⟨by decide +kernel, by decide +kernel, by decide +kernel⟩, by decide⟩
theorem lkX8_97 : zLV RX8 97 yX8_takes cX8_takes 3 none 2 := ⟨zTs_at 1033 (by decide +kernel) rfl, zTs_at 1035 (by decide +kernel) rfl, zTs_at 31 (by decide +kernel) rfl, zTs_at 61 (by decide +kernel) rfl, zTs_at 1036 (by decide +kernel) rfl, ⟨by decide +kernel, by decide +kernel, by decide +kernel⟩, by decide⟩
theorem lkX8_101 : zLV RX8 101 yX8_lastTerm cX8_lastTerm 2 (some .int) 1 := ⟨zTs_at 1053 (by decide +kernel) rfl, zTs_at 1055 (by decide +kernel) rfl, zTs_at 35 (by decide +kernel) rfl, zTs_at 61 (by decide +kernel) rfl, zTs_at 1056 (by decide +kernel) rfl, ⟨by decide +kernel, by decide +kernel, by decide +kernel⟩, by decide⟩
theorem lkX8_105 : zLV RX8 105 yX8_areTogether cX8_areTogether 3 (some .boolean) 2 := ⟨zTs_at 1045 (by decide +kernel) rfl, zTs_at 1047 (by decide +kernel) rfl, zTs_at 33 (by decide +kernel) rfl, zTs_at 61 (by decide +kernel) rfl, zTs_at 1048 (by decide +kernel) rfl, ⟨by decide +kernel, by decide +kernel, by decide +kernel⟩, by decide⟩
theorem lkX8_109 : zLV RX8 109 yX8_reachCheck cX8_reachCheck 4 (some .int) 3 := ⟨zTs_at 1041 (by decide +kernel) rfl, zTs_at 1043 (by decide +kernel) rfl, zTs_at 32 (by decide +kernel) rfl, zTs_at 61 (by decide +kernel) rfl, zTs_at 1044 (by decide +kernel) rfl, ⟨by decide +kernel, by decide +kernel, by decide +kernel⟩, by decide⟩
theorem lkX8_113 : zLV RX8 113 yX8_isBetter cX8_isBetter 4 (some .boolean) 2 := ⟨zTs_at 1049 (by decide +kernel) rfl, zTs_at 1051 (by decide +kernel) rfl, zTs_at 34 (by decide +kernel) rfl, zTs_at 61 (by decide +kernel) rfl, zTs_at 1052 (by decide +kernel) rfl, ⟨by decide +kernel, by decide +kernel, by decide +kernel⟩, by decide⟩
theorem lkX8_119 : zLV RX8 119 yX8_holdersOf cX8_holdersOf 4 (some .int) 1 := ⟨zTs_at 1069 (by decide +kernel) rfl, zTs_at 1071 (by decide +kernel) rfl, zTs_at 37 (by decide +kernel) rfl, zTs_at 61 (by decide +kernel) rfl, zTs_at 1072 (by decide +kernel) rfl, ⟨by decide +kernel, by decide +kernel, by decide +kernel⟩, by decide⟩
theorem lkX8_125 : zLV RX8 125 yX8_isHeldNow cX8_isHeldNow 5 (some .boolean) 1 := ⟨zTs_at 1065 (by decide +kernel) rfl, zTs_at 1067 (by decide +kernel) rfl, zTs_at 36 (by decide +kernel) rfl, zTs_at 61 (by decide +kernel) rfl, zTs_at 1068 (by decide +kernel) rfl, ⟨by decide +kernel, by decide +kernel, by decide +kernel⟩, by decide⟩
theorem lkX8_131 : zLV RX8 131 yX8_callsBack cX8_callsBack 4 (some .int) 2 := ⟨zTs_at 1077 (by decide +kernel) rfl, zTs_at 1079 (by decide +kernel) rfl, zTs_at 39 (by decide +kernel) rfl, zTs_at 61 (by decide +kernel) rfl, zTs_at 1080 (by decide +kernel) rfl, ⟨by decide +kernel, by decide +kernel, by decide +kernel⟩, by decide⟩
theorem lkX8_135 : zLV RX8 135 yX8_callsBackVersions cX8_callsBackVersions 4 none 0 := ⟨zTs_at 1073 (by decide +kernel) rfl, zTs_at 1075 (by decide +kernel) rfl, zTs_at 38 (by decide +kernel) rfl, zTs_at 61 (by decide +kernel) rfl, zTs_at 1076 (by decide +kernel) rfl, ⟨by decide +kernel, by decide +kernel, by decide +kernel⟩, by decide⟩
theorem lkX8_138 : zLV RX8 138 yX8_isTold cX8_isTold 2 (some .boolean) 1 := ⟨zTs_at 1085 (by decide +kernel) rfl, zTs_at 1087 (by decide +kernel) rfl, zTs_at 40 (by decide +kernel) rfl, zTs_at 61 (by decide +kernel) rfl, zTs_at 1088 (by decide +kernel) rfl, ⟨by decide +kernel, by decide +kernel, by decide +kernel⟩, by decide⟩
theorem lkX8_141 : zLV RX8 141 yX8_isVersion cX8_isVersion 2 (some .boolean) 1 := ⟨zTs_at 1117 (by decide +kernel) rfl, zTs_at 1119 (by decide +kernel) rfl, zTs_at 41 (by decide +kernel) rfl, zTs_at 61 (by decide +kernel) rfl, zTs_at 1120 (by decide +kernel) rfl, ⟨by decide +kernel, by decide +kernel, by decide +kernel⟩, by decide⟩
theorem lkX8_144 : zLV RX8 144 yX8_currentOf cX8_currentOf 6 (some .int) 2 := ⟨zTs_at 1137 (by decide +kernel) rfl, zTs_at 1139 (by decide +kernel) rfl, zTs_at 42 (by decide +kernel) rfl, zTs_at 61 (by decide +kernel) rfl, zTs_at 1140 (by decide +kernel) rfl, ⟨by decide +kernel, by decide +kernel, by decide +kernel⟩, by decide⟩
theorem lkX8_150 : zLV RX8 150 yX8_isLot cX8_isLot 2 (some .boolean) 1 := ⟨zTs_at 1149 (by decide +kernel) rfl, zTs_at 1151 (by decide +kernel) rfl, zTs_at 43 (by decide +kernel) rfl, zTs_at 61 (by decide +kernel) rfl, zTs_at 1152 (by decide +kernel) rfl, ⟨by decide +kernel, by decide +kernel, by decide +kernel⟩, by decide⟩
theorem lkX8_153 : zLV RX8 153 yX8_throwsOut cX8_throwsOut 5 none 2 := ⟨zTs_at 1157 (by decide +kernel) rfl, zTs_at 1159 (by decide +kernel) rfl, zTs_at 44 (by decide +kernel) rfl, zTs_at 61 (by decide +kernel) rfl, zTs_at 1160 (by decide +kernel) rfl, ⟨by decide +kernel, by decide +kernel, by decide +kernel⟩, by decide⟩
theorem lkX8_159 : zLV RX8 159 yX8_isHour cX8_isHour 2 (some .boolean) 1 := ⟨zTs_at 1169 (by decide +kernel) rfl, zTs_at 1171 (by decide +kernel) rfl, zTs_at 45 (by decide +kernel) rfl, zTs_at 61 (by decide +kernel) rfl, zTs_at 1172 (by decide +kernel) rfl, ⟨by decide +kernel, by decide +kernel, by decide +kernel⟩, by decide⟩
theorem lkX8_162 : zLV RX8 162 yX8_fails cX8_fails 2 (some .int) 1 := ⟨zTs_at 1173 (by decide +kernel) rfl, zTs_at 1175 (by decide +kernel) rfl, zTs_at 46 (by decide +kernel) rfl, zTs_at 61 (by decide +kernel) rfl, zTs_at 1176 (by decide +kernel) rfl, ⟨by decide +kernel, by decide +kernel, by decide +kernel⟩, by decide⟩
theorem lkX8_165 : zLV RX8 165 yX8_bakes cX8_bakes 5 (some .boolean) 2 := ⟨zTs_at 1197 (by decide +kernel) rfl, zTs_at 1199 (by decide +kernel) rfl, zTs_at 47 (by decide +kernel) rfl, zTs_at 61 (by decide +kernel) rfl, zTs_at 1200 (by decide +kernel) rfl, ⟨by decide +kernel, by decide +kernel, by decide +kernel⟩, by decide⟩
theorem lkX8_168 : zLV RX8 168 yX8_isBatch cX8_isBatch 2 (some .boolean) 1 := ⟨zTs_at 1217 (by decide +kernel) rfl, zTs_at 1219 (by decide +kernel) rfl, zTs_at 48 (by decide +kernel) rfl, zTs_at 61 (by decide +kernel) rfl, zTs_at 1220 (by decide +kernel) rfl, ⟨by decide +kernel, by decide +kernel, by decide +kernel⟩, by decide⟩
theorem lkX8_171 : zLV RX8 171 yX8_barredBy cX8_barredBy 4 (some .int) 1 := ⟨zTs_at 1233 (by decide +kernel) rfl, zTs_at 1235 (by decide +kernel) rfl, zTs_at 49 (by decide +kernel) rfl, zTs_at 61 (by decide +kernel) rfl, zTs_at 1236 (by decide +kernel) rfl, ⟨by decide +kernel, by decide +kernel, by decide +kernel⟩, by decide⟩
theorem lkX8_174 : zLV RX8 174 yX8_barred cX8_barred 2 (some .int) 1 := ⟨zTs_at 1241 (by decide +kernel) rfl, zTs_at 1230 (by decide +kernel) rfl, zTs_at 1231 (by decide +kernel) rfl, zTs_at 61 (by decide +kernel) rfl, zTs_at 1232 (by decide +kernel) rfl, ⟨by decide +kernel, by decide +kernel, by decide +kernel⟩, by decide⟩
theorem lkX8_177 : zLV RX8 177 yX8_isRecall cX8_isRecall 2 (some .boolean) 1 := ⟨zTs_at 1266 (by decide +kernel) rfl, zTs_at 1268 (by decide +kernel) rfl, zTs_at 50 (by decide +kernel) rfl, zTs_at 61 (by decide +kernel) rfl, zTs_at 1269 (by decide +kernel) rfl, ⟨by decide +kernel, by decide +kernel, by decide +kernel⟩, by decide⟩
theorem txX7_65 : zTX RX7 65 2 := ⟨fun w hw => zTs_in ((by decide +kernel : ∀ w ∈ (vx_atS RX7 65 (zex 2) znm), w ∈ lw_tbl) w hw) ((by decide +kernel : ∀ w ∈ (vx_atS RX7 65 (zex 2) znm), zgd w = true) w hw), by decide +kernel, by decide +kernel, zTs_at 65 (by decide +kernel) rfl⟩
theorem txX7_94 : zTX RX7 94 3 := ⟨fun w hw => zTs_in ((by decide +kernel : ∀ w ∈ (vx_atS RX7 94 (zex 3) znm), w ∈ lw_tbl) w hw) ((by decide +kernel : ∀ w ∈ (vx_atS RX7 94 (zex 3) znm), zgd w = true) w hw), by decide +kernel, by decide +kernel, zTs_at 68 (by decide +kernel) rfl⟩
theorem txX7_161 : zTX RX7 161 1 := ⟨fun w hw => zTs_in ((by decide +kernel : ∀ w ∈ (vx_atS RX7 161 (zex 1) znm), w ∈ lw_tbl) w hw) ((by decide +kernel : ∀ w ∈ (vx_atS RX7 161 (zex 1) znm), zgd w = true) w hw), by decide +kernel, by decide +kernel, zTs_at 67 (by decide +kernel) rfl⟩
theorem ckX7_61 : Cond.classLink RX7 61 (zex 2) ∈ zTs := zTs_at 343 (by decide +kernel) rfl
theorem ckX7_90 : Cond.classLink RX7 90 (zex 3) ∈ zTs := zTs_at 449 (by decide +kernel) rfl
theorem ckX7_157 : Cond.classLink RX7 157 (zex 1) ∈ zTs := zTs_at 433 (by decide +kernel) rfl
theorem ckL_13 : Cond.classLink RL 13 (zex 2) ∈ zTs := zTs_at 338 (by decide +kernel) rfl
theorem ckL_18 : Cond.classLink RL 18 (zex 1) ∈ zTs := zTs_at 424 (by decide +kernel) rfl
theorem ckL_20 : Cond.classLink RL 20 (zex 3) ∈ zTs := zTs_at 425 (by decide +kernel) rfl
theorem skX7_63 : Cond.stringRef RX7 63 "group is out of range" ∈ zTs := zTs_at 384 (by decide +kernel) rfl
theorem skX7_92 : Cond.stringRef RX7 92 "the term is the last one" ∈ zTs := zTs_at 458 (by decide +kernel) rfl
theorem skX7_105 : Cond.stringRef RX7 105 "it is no candidate" ∈ zTs := zTs_at 480 (by decide +kernel) rfl
theorem skX7_117 : Cond.stringRef RX7 117 "bags or loaves is out of range" ∈ zTs := zTs_at 523 (by decide +kernel) rfl
theorem skX7_128 : Cond.stringRef RX7 128 "there is no room for a version" ∈ zTs := zTs_at 529 (by decide +kernel) rfl
theorem skX7_159 : Cond.stringRef RX7 159 "no such place" ∈ zTs := zTs_at 632 (by decide +kernel) rfl
theorem skX7_188 : Cond.stringRef RX7 188 "there is no room for a lot" ∈ zTs := zTs_at 684 (by decide +kernel) rfl
theorem skX7_193 : Cond.stringRef RX7 193 "bags is out of range" ∈ zTs := zTs_at 697 (by decide +kernel) rfl
theorem skX7_201 : Cond.stringRef RX7 201 "the store has no room" ∈ zTs := zTs_at 703 (by decide +kernel) rfl
theorem skX7_218 : Cond.stringRef RX7 218 "the slot is booked" ∈ zTs := zTs_at 746 (by decide +kernel) rfl
theorem skX7_236 : Cond.stringRef RX7 236 "hours is out of range" ∈ zTs := zTs_at 788 (by decide +kernel) rfl
theorem skX7_238 : Cond.stringRef RX7 238 "the time would be too late" ∈ zTs := zTs_at 789 (by decide +kernel) rfl
theorem skX7_269 : Cond.stringRef RX7 269 "count is out of range" ∈ zTs := zTs_at 873 (by decide +kernel) rfl
theorem skX7_271 : Cond.stringRef RX7 271 "it is barred, or has not so many loaves" ∈ zTs := zTs_at 874 (by decide +kernel) rfl
theorem skX7_289 : Cond.stringRef RX7 289 "no such bakery" ∈ zTs := zTs_at 442 (by decide +kernel) rfl
theorem skX7_291 : Cond.stringRef RX7 291 "both are the same" ∈ zTs := zTs_at 479 (by decide +kernel) rfl
theorem skX7_293 : Cond.stringRef RX7 293 "they do not reach one another" ∈ zTs := zTs_at 490 (by decide +kernel) rfl
theorem skX7_295 : Cond.stringRef RX7 295 "it is no leader" ∈ zTs := zTs_at 528 (by decide +kernel) rfl
theorem skX7_297 : Cond.stringRef RX7 297 "no such recipe" ∈ zTs := zTs_at 522 (by decide +kernel) rfl
theorem skX7_299 : Cond.stringRef RX7 299 "no such version" ∈ zTs := zTs_at 644 (by decide +kernel) rfl
theorem skX7_301 : Cond.stringRef RX7 301 "no such lot" ∈ zTs := zTs_at 696 (by decide +kernel) rfl
theorem skX7_306 : Cond.stringRef RX7 306 "the lot is condemned" ∈ zTs := zTs_at 702 (by decide +kernel) rfl
theorem skX7_308 : Cond.stringRef RX7 308 "hour is out of range" ∈ zTs := zTs_at 745 (by decide +kernel) rfl
theorem skX7_310 : Cond.stringRef RX7 310 "the slot is not booked" ∈ zTs := zTs_at 766 (by decide +kernel) rfl
theorem skX7_312 : Cond.stringRef RX7 312 "no such batch" ∈ zTs := zTs_at 828 (by decide +kernel) rfl
theorem skX7_314 : Cond.stringRef RX7 314 "no such recall" ∈ zTs := zTs_at 900 (by decide +kernel) rfl
theorem skX7_316 : Cond.stringRef RX7 316 "the recipe has no current version" ∈ zTs := zTs_at 751 (by decide +kernel) rfl
theorem kcX7_145 : Cond.constantLong RX7 145 (-1) ∈ zTs := zTs_at 573 (by decide +kernel) rfl
theorem kcX0_107 : Cond.constantLong RX0 107 (-1) ∈ zTs := zTs_at 542 (by decide +kernel) rfl
theorem kcJ6_265 : Cond.constant RJ6 265 (1431655765) ∈ zTs := zTs_at 418 (by decide +kernel) rfl
theorem kcJ6_266 : Cond.constant RJ6 266 (858993459) ∈ zTs := zTs_at 419 (by decide +kernel) rfl
theorem kcJ6_267 : Cond.constant RJ6 267 (252645135) ∈ zTs := zTs_at 420 (by decide +kernel) rfl
theorem zself : ∀ x, Cond.castable (zex x) (zex x) ∈ zTs
  | 0 => zTs_at 451 (by decide +kernel) rfl
  | 1 => zTs_at 435 (by decide +kernel) rfl
  | 2 => zTs_at 345 (by decide +kernel) rfl
  | _ + 3 => zTs_at 451 (by decide +kernel) rfl
end
